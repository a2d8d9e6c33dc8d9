/-! the reference's next step -/
def bg (A B : Nat → Nat) (c : Nat) : Nat := if c % 2 = 0 then A (c / 2) else B (c / 2)
def ed (A B : Nat → Nat) (c : Nat) : Nat := if c % 2 = 0 then B (c / 2) else A (c / 2)
def xr (c : Nat) : Nat := if c % 2 = 0 then c + 1 else c - 1
theorem st_and : ∀ c, c < 1600 → nI c &&& 1 = nI (c % 2) := by
  have h : ∀ c : Fin 1600, nI c.val &&& 1 = nI (c.val % 2) := by decide +kernel
  exact fun c hc => h ⟨c, hc⟩
theorem st_div : ∀ c, c < 1600 → nI c / 2 = nI (c / 2) := fun c hc => pk_div (a := c) (d := 2) (by omega) (by omega) (by omega)
theorem st_xor : ∀ c, c < 1600 → nI c ^^^ 1 = nI (xr c) := by
  have h : ∀ c : Fin 1600, nI c.val ^^^ 1 = nI (xr c.val) := by decide +kernel
  exact fun c hc => h ⟨c, hc⟩
theorem xr_lt {c n : Nat} (h : c < 2 * n) : xr c < 2 * n := by unfold xr; split <;> omega
theorem bg_xr (A B : Nat → Nat) (c : Nat) : bg A B (xr c) = ed A B c := by
  unfold bg ed xr
  by_cases h : c % 2 = 0
  · rw [if_pos h, if_pos h, if_neg (by omega)]; congr 1; omega
  · rw [if_neg h, if_neg h, if_pos (by omega)]; congr 1; omega
theorem ed_xr (A B : Nat → Nat) (c : Nat) : ed A B (xr c) = bg A B c := by
  unfold bg ed xr
  by_cases h : c % 2 = 0
  · rw [if_pos h, if_pos h, if_neg (by omega)]; congr 1; omega
  · rw [if_neg h, if_neg h, if_pos (by omega)]; congr 1; omega
theorem bg_ok {n : Nat} (hn : n ≤ 342) {A B : Nat → Nat} {f t : Nat → Int32} (hf : hN n f A) (ht : hN n t B) {c : Nat} (hc : c < 2 * n) : sX12_beginOf (nI c) f t = some (nI (bg A B c)) := by
  have z2 : ¬ ((2 : Int32) = 0) := by decide
  simp (disch := omega) only [sX12_beginOf, st_and, st_div, nI_lt0, nI_clampS, false_or, gd_s, z2, not_false_eq_true, hf (c / 2) (by omega), ht (c / 2) (by omega), nl_0, nI_eqS, nI_lt0']
  unfold bg
  by_cases h : c % 2 = 0
  · rw [if_neg (fun z => z h), if_pos h]
    rw [gd_s (by rw [nl_2]; simp (disch := omega) only [nI_eqS]; omega)]
  · rw [if_pos h, if_neg h]
    rw [gd_s (by rw [nl_2]; simp (disch := omega) only [nI_eqS]; omega)]
theorem ed_ok {n : Nat} (hn : n ≤ 342) {A B : Nat → Nat} {f t : Nat → Int32} (hf : hN n f A) (ht : hN n t B) {c : Nat} (hc : c < 2 * n) : sX12_endOf (nI c) f t = some (nI (ed A B c)) := by
  unfold sX12_endOf
  rw [st_xor c (by omega), bg_ok hn hf ht (xr_lt hc), bg_xr]
  rfl
def vX (p q : Pt3) : Int := (q.1 : Int) * p.2.2 - p.1 * q.2.2
def wY (p q : Pt3) : Int := (q.2.1 : Int) * p.2.2 - p.2.1 * q.2.2
theorem wX_bd {p q : Pt3} (hp : pB p) (hq : pB q) : -995328 ≤ vX p q ∧ vX p q ≤ 995328 := by
  obtain ⟨p0, p1, p2, p3⟩ := hp
  obtain ⟨q0, q1, q2, q3⟩ := hq
  have h1 : p.1 * q.2.2 ≤ 3456 * 288 := Nat.mul_le_mul (by omega) (by omega)
  have h2 : q.1 * p.2.2 ≤ 3456 * 288 := Nat.mul_le_mul (by omega) (by omega)
  unfold vX
  rw [← Int.natCast_mul, ← Int.natCast_mul]
  omega
theorem wY_bd {p q : Pt3} (hp : pB p) (hq : pB q) : -995328 ≤ wY p q ∧ wY p q ≤ 995328 := by
  obtain ⟨p0, p1, p2, p3⟩ := hp
  obtain ⟨q0, q1, q2, q3⟩ := hq
  have h1 : p.2.1 * q.2.2 ≤ 3456 * 288 := Nat.mul_le_mul (by omega) (by omega)
  have h2 : q.2.1 * p.2.2 ≤ 3456 * 288 := Nat.mul_le_mul (by omega) (by omega)
  unfold wY
  rw [← Int.natCast_mul, ← Int.natCast_mul]
  omega
theorem wX_ok {p q : Pt3} {i j : Nat} (hi : i < 240) (hj : j < 240) {d x y : Nat → Int64} (a : At3L d x y i p) (b : At3L d x y j q) : sX12_wayX (nI i) (nI j) d x = some (lz (vX p q)) := by
  obtain ⟨a1, a2, a3⟩ := a
  obtain ⟨b1, b2, b3⟩ := b
  simp (disch := omega) only [sX12_wayX, nI_lt0, nI_clampS, false_or, gd_s, a1, a3, b1, b3, ← lz_n, lz_mul, lz_sub]
  rfl
theorem wY_ok {p q : Pt3} {i j : Nat} (hi : i < 240) (hj : j < 240) {d x y : Nat → Int64} (a : At3L d x y i p) (b : At3L d x y j q) : sX12_wayY (nI i) (nI j) d y = some (lz (wY p q)) := by
  obtain ⟨a1, a2, a3⟩ := a
  obtain ⟨b1, b2, b3⟩ := b
  simp (disch := omega) only [sX12_wayY, nI_lt0, nI_clampS, false_or, gd_s, a2, a3, b2, b3, ← lz_n, lz_mul, lz_sub]
  rfl
theorem lz_ge0' {z : Int} (h1 : -1000000000000000 < z) (h2 : z < 1000000000000000) : (0 ≤ lg_cmp (lz z) (0 : Int64)) ↔ 0 ≤ z := by
  have h := lg_cmp_lt (lz z) 0
  rw [show (0 : Int64) = lz 0 from rfl] at *
  rw [lz_lt (by omega) (by omega) (by omega) (by omega)] at h
  constructor
  · intro q
    rcases Int.lt_or_le z 0 with w | w
    · have := h.mpr w
      exact absurd this (Int32.not_lt.mpr q)
    · exact w
  · intro q
    exact Int32.not_lt.mp (fun w => by have := h.mp w; omega)
theorem lz_eq0' {z : Int} (h1 : -1000000000000000 < z) (h2 : z < 1000000000000000) : (lg_cmp (lz z) (0 : Int64) = 0) ↔ z = 0 := (lg_cmp_eq _ _).trans (lz_eq (b := 0) (by omega) (by omega) (by omega) (by omega))
theorem cross_w (y s t : Pt3) : vX y s * wY y t - wY y s * vX y t = y.2.2 * dtp y s t := by unfold vX wY dtp; grind
theorem cross_bd {y s t : Pt3} (hy : pB y) (hs : pB s) (ht : pB t) : -3000000000000 < vX y s * wY y t - wY y s * vX y t ∧ vX y s * wY y t - wY y s * vX y t < 3000000000000 := by
  have h1 := wX_bd hy hs
  have h2 := wY_bd hy ht
  have h3 := wY_bd hy hs
  have h4 := wX_bd hy ht
  have m1 := mul_bd (A := 995328) (B := 995328) h1.1 h1.2 h2.1 h2.2 (by omega) (by omega)
  have m2 := mul_bd (A := 995328) (B := 995328) h3.1 h3.2 h4.1 h4.2 (by omega) (by omega)
  omega
theorem sg_cross {y s t : Pt3} (hy : pB y) : sg (vX y s * wY y t - wY y s * vX y t) = sg (dtp y s t) := by
  rw [cross_w]
  have hd : (0 : Int) < y.2.2 := by have := hy.1; omega
  rcases sg_cases (dtp y s t) with ⟨a, b⟩ | ⟨a, b⟩ | ⟨a, b⟩
  · rw [b]; have := Int.mul_neg_of_pos_of_neg hd a; unfold sg; rw [if_pos this]
  · rw [b, a, Int.mul_zero]; rfl
  · rw [b]; have := Int.mul_pos hd a; unfold sg; rw [if_neg (by omega), if_neg (by omega)]
theorem turn_ok {y s t : Pt3} (hy : pB y) (hs : pB s) (ht : pB t) : sX12_turnOf (lz (vX y s)) (lz (wY y s)) (lz (vX y t)) (lz (wY y t)) = some (iz (sg (dtp y s t) + 1)) := by
  have hb := cross_bd hy hs ht
  unfold sX12_turnOf lt
  rw [lz_mul, lz_mul, lz_sub]
  have q1 := lz_ge0' (z := vX y s * wY y t - wY y s * vX y t) (by omega) (by omega)
  have q2 := lz_eq0' (z := vX y s * wY y t - wY y s * vX y t) (by omega) (by omega)
  simp only [q1, q2]
  rw [← sg_cross hy]
  rcases sg_cases (vX y s * wY y t - wY y s * vX y t) with ⟨a, b⟩ | ⟨a, b⟩ | ⟨a, b⟩
  · rw [b, if_neg (by omega)]; rfl
  · rw [b, if_pos (by omega), if_neg (by omega)]; rfl
  · rw [b, if_pos (by omega), if_pos (by omega)]; rfl
theorem soonM_ok {y x s t : Pt3} (hy : pB y) (hx : pB x) (hs : pB s) (ht : pB t) {i j k : Nat} (hi : i < 240) (hj : j < 240) (hk : k < 240) {dd xx yy : Nat → Int64} (a : At3L dd xx yy i y) (b : At3L dd xx yy j s) (c : At3L dd xx yy k t) : sX12_isSooner (lz (vX y x)) (lz (wY y x)) (nI i) (nI j) (nI k) dd xx yy = some (bI (soonB y x s t)) := by
  have e1 := wX_ok hi hj a b
  have e2 := wY_ok hi hj a b
  have e3 := wX_ok hi hk a c
  have e4 := wY_ok hi hk a c
  have t1 := turn_ok hy hx hs
  have t2 := turn_ok hy hx ht
  have hb := cross_bd hy hs ht
  have q3 := lz_ge0' (z := vX y s * wY y t - wY y s * vX y t) (by omega) (by omega)
  have v1 := sg_bd (dtp y x s)
  have v2 := sg_bd (dtp y x t)
  have q1 := iz_eq (a := sg (dtp y x s) + 1) (b := sg (dtp y x t) + 1) (by omega) (by omega) (by omega) (by omega)
  have q2 := iz_le (a := sg (dtp y x t) + 1) (b := sg (dtp y x s) + 1) (by omega) (by omega) (by omega) (by omega)
  simp only [sX12_isSooner, e1, e2, e3, e4, ob, dm1, t1, t2, lz_mul, lz_sub, q1, q2, q3]
  have sc := sg_cross (s := s) (t := t) hy
  unfold soonB
  have z1 := sg_cases (dtp y s t)
  have z2 := sg_cases (vX y s * wY y t - wY y s * vX y t)
  by_cases h1 : sg (dtp y x s) + 1 = sg (dtp y x t) + 1
  · rw [if_pos h1]
    by_cases h2 : 0 ≤ vX y s * wY y t - wY y s * vX y t
    · rw [if_pos h2, decide_eq_false (by omega)]; rfl
    · rw [if_neg h2, decide_eq_true (by omega)]; rfl
  · rw [if_neg h1]
    by_cases h2 : sg (dtp y x t) + 1 ≤ sg (dtp y x s) + 1
    · rw [if_pos h2, decide_eq_false (by omega)]; rfl
    · rw [if_neg h2, decide_eq_true (by omega)]; rfl
theorem bg_lt {P : Nat → Nat → Prop} {m n : Nat} {A B : Nat → Nat} (h : PcM P m n A B) {c : Nat} (hc : c < 2 * n) : bg A B c < m ∧ ed A B c < m := by
  obtain ⟨h1, h2, -⟩ := h.1 (c / 2) (by omega)
  unfold bg ed
  split <;> omega
theorem bg_uniq {P : Nat → Nat → Prop} {m n : Nat} {A B : Nat → Nat} (h : PcM P m n A B) {c c' : Nat} (hc : c < 2 * n) (hc' : c' < 2 * n) (e1 : bg A B c = bg A B c') (e2 : ed A B c = ed A B c') : c = c' := by
  obtain ⟨h1, h2, -⟩ := h.1 (c / 2) (by omega)
  obtain ⟨h3, h4, -⟩ := h.1 (c' / 2) (by omega)
  have key : A (c / 2) = A (c' / 2) ∧ B (c / 2) = B (c' / 2) ∧ c % 2 = c' % 2 := by
    unfold bg at e1
    unfold ed at e2
    by_cases q : c % 2 = 0 <;> by_cases q' : c' % 2 = 0
    · simp only [if_pos q, if_pos q'] at e1 e2; omega
    · simp only [if_pos q, if_neg q'] at e1 e2; omega
    · simp only [if_neg q, if_pos q'] at e1 e2; omega
    · simp only [if_neg q, if_neg q'] at e1 e2; omega
  have : c / 2 = c' / 2 := by
    rcases Nat.lt_trichotomy (c / 2) (c' / 2) with z | z | z
    · exact absurd ⟨key.1, key.2.1⟩ (h.2.1 _ _ z (by omega))
    · exact z
    · exact absurd ⟨key.1.symm, key.2.1.symm⟩ (h.2.1 _ _ z (by omega))
  omega
theorem bg_all {P : Nat → Nat → Prop} {ad : Nat → Nat → Bool} {m n : Nat} {A B : Nat → Nat} (h : PcM P m n A B) (hP : PcR P ad m) {i j : Nat} (hi : i < m) (hj : j < m) (e : ad i j = true) : ∃ c, c < 2 * n ∧ bg A B c = i ∧ ed A B c = j := by
  rcases (hP i j hi hj).mp e with p | p
  · obtain ⟨k, k1, k2, k3⟩ := h.2.2 i j p
    refine ⟨2 * k, by omega, ?_, ?_⟩
    · unfold bg; rw [if_pos (by omega), show 2 * k / 2 = k by omega]; exact k2
    · unfold ed; rw [if_pos (by omega), show 2 * k / 2 = k by omega]; exact k3
  · obtain ⟨k, k1, k2, k3⟩ := h.2.2 j i p
    refine ⟨2 * k + 1, by omega, ?_, ?_⟩
    · unfold bg; rw [if_neg (by omega), show (2 * k + 1) / 2 = k by omega]; exact k3
    · unfold ed; rw [if_neg (by omega), show (2 * k + 1) / 2 = k by omega]; exact k2
theorem fm_bg {fm : Nat → Nat → Bool} (hs : ∀ i j, fm i j = fm j i) (A B : Nat → Nat) (c : Nat) : fm (A (c / 2)) (B (c / 2)) = fm (bg A B c) (ed A B c) := by
  unfold bg ed
  by_cases q : c % 2 = 0
  · rw [if_pos q, if_pos q]
  · rw [if_neg q, if_neg q]; exact hs _ _
theorem mnext_ok {w h nl : Nat} {ld : Nat → Ln} {m : Nat} {Q : Nat → Pt3} {fm : Nat → Nat → Bool} (hM : Mesh w h nl ld m Q fm) {n : Nat} {A B : Nat → Nat} {gw gr gt : Nat → Int32} (hX : MsM (Pc (onK (KX w h ld) Q) (nl + 4) m) fm m n A B gw gr gt) {d x y : Nat → Int64} (hJ : JL m Q d x y) {c : Nat} (hc : c < 2 * n) (hf : fm (bg A B c) (ed A B c) = true) : ∃ c', sX12_next (nI c) (nI n) d gw gr gt x y = some (nI c') ∧ c' < 2 * n ∧ bg A B c' = ed A B c ∧ fm (bg A B c') (ed A B c') = true ∧ NX Q fm (ed A B c) (bg A B c) (ed A B c') := by
  obtain ⟨x1, x2, x3, x4, x5⟩ := hX
  have hm : m ≤ 123 := hM.2.2.1
  have hQ := hM.2.1.1
  obtain ⟨o1, o2⟩ := bg_lt x1 hc
  have nb := nb_fm hM (ed A B c)
  have hsy := hM.2.2.2.1.2.1
  have hb : fm (ed A B c) (bg A B c) = true := (fm_ad hM hf).2.2.2.1
  have eX := wX_ok (show ed A B c < 240 by omega) (show bg A B c < 240 by omega) (hJ _ o2) (hJ _ o1)
  have eY := wY_ok (show ed A B c < 240 by omega) (show bg A B c < 240 by omega) (hJ _ o2) (hJ _ o1)
  have e1 := bg_ok x5 x2 x3 hc
  have e2 := ed_ok x5 x2 x3 hc
  have z2 : ¬ ((2 : Int32) = 0) := by decide
  have tm : (2 : Int32) * nI n = nI (2 * n) := by rw [nl_2, pk_mul]
  obtain ⟨s, h1, h2⟩ := iter_for (S := Int32) (B := bX12_next_34 (nI n) d gw gr gt x y (nI (bg A B c)) (nI (ed A B c)) (lz (vX (Q (ed A B c)) (Q (bg A B c)))) (lz (wY (Q (ed A B c)) (Q (bg A B c))))) (fun j b => (b, nI j)) (2 * n) (fun j s => (s = (-1 : Int32) ∧ ∀ k, k < j → fm (bg A B k) (ed A B k) = true → bg A B k = ed A B c → ed A B k = bg A B c) ∨ (∃ b, s = nI b ∧ b < 2 * n ∧ bg A B b = ed A B c ∧ fm (bg A B b) (ed A B b) = true ∧ ed A B b ≠ bg A B c ∧ ∀ k, k < j → fm (bg A B k) (ed A B k) = true → bg A B k = ed A B c → ed A B k ≠ bg A B c → ed A B k ≠ ed A B b → soonB (Q (ed A B c)) (Q (bg A B c)) (Q (ed A B b)) (Q (ed A B k)) = true)) 0 (-1) (Or.inl ⟨rfl, fun k hk => by omega⟩) (by omega) (by omega) (fun j s _ hj hI => by
    obtain ⟨q1, q2⟩ := bg_lt x1 hj
    have f1 := bg_ok x5 x2 x3 hj
    have f2 := ed_ok x5 x2 x3 hj
    have f3 := x4 (j / 2) (by omega)
    dsimp only at f3
    rw [fm_bg hsy] at f3
    have e0 : bX12_next_34 (nI n) d gw gr gt x y (nI (bg A B c)) (nI (ed A B c)) (lz (vX (Q (ed A B c)) (Q (bg A B c)))) (lz (wY (Q (ed A B c)) (Q (bg A B c)))) (s, nI j) = ob (if fm (bg A B j) (ed A B j) = false then some s else if ¬ bg A B j = ed A B c then some s else if ¬ ed A B j = bg A B c then (if s < 0 then some (nI j) else ob (sX12_endOf s gr gt) (fun r12 => ob (sX12_isSooner (lz (vX (Q (ed A B c)) (Q (bg A B c)))) (lz (wY (Q (ed A B c)) (Q (bg A B c)))) (nI (ed A B c)) (nI (ed A B j)) r12 d x y) (fun r13 => if r13 = 0 then some s else some (nI j)))) else some s) (fun t => dm1 t (fun v7 => some (0, (v7, nI (j + 1))))) := by
      simp (disch := omega) only [bX12_next_34, dm2, tm, nI_leS, st_div, nI_lt0, nI_clampS, false_or, f1, f2, f3, bI_0', nI_eqS, ob, dm1, lt, nI_1]
      rw [if_neg (by omega), gd_s z2, gd_s (by omega)]
    cases hF : fm (bg A B j) (ed A B j) with
    | false =>
      rw [hF, if_pos rfl] at e0
      refine ⟨s, e0, ?_⟩
      rcases hI with ⟨a1, a2⟩ | ⟨b, a1, a2, a3, a4, a5, a6⟩
      · refine Or.inl ⟨a1, fun k c1 c2 => ?_⟩
        by_cases z : k = j
        · subst z; rw [hF] at c2; cases c2
        · exact a2 k (by omega) c2
      · refine Or.inr ⟨b, a1, a2, a3, a4, a5, fun k c1 c2 => ?_⟩
        by_cases z : k = j
        · subst z; rw [hF] at c2; cases c2
        · exact a6 k (by omega) c2
    | true =>
      rw [hF, if_neg (by simp)] at e0
      by_cases hy : bg A B j = ed A B c
      · rw [if_neg (fun z => z hy)] at e0
        by_cases hx : ed A B j = bg A B c
        · rw [if_neg (fun z => z hx)] at e0
          refine ⟨s, e0, ?_⟩
          rcases hI with ⟨a1, a2⟩ | ⟨b, a1, a2, a3, a4, a5, a6⟩
          · refine Or.inl ⟨a1, fun k c1 c2 c3 => ?_⟩
            by_cases z : k = j
            · rw [z]; exact hx
            · exact a2 k (by omega) c2 c3
          · refine Or.inr ⟨b, a1, a2, a3, a4, a5, fun k c1 c2 c3 c4 => ?_⟩
            by_cases z : k = j
            · rw [z] at c4; exact absurd hx c4
            · exact a6 k (by omega) c2 c3 c4
        · rw [if_pos hx] at e0
          rcases hI with ⟨a1, a2⟩ | ⟨b, a1, a2, a3, a4, a5, a6⟩
          · subst a1
            rw [if_pos (by decide)] at e0
            refine ⟨nI j, e0, Or.inr ⟨j, rfl, hj, hy, hF, hx, fun k c1 c2 c3 c4 c5 => ?_⟩⟩
            by_cases z : k = j
            · rw [z] at c5; exact absurd rfl c5
            · exact absurd (a2 k (by omega) c2 c3) c4
          · subst a1
            obtain ⟨p1, p2⟩ := bg_lt x1 a2
            have sn := soonM_ok (pB_of (hQ _ o2)) (pB_of (hQ _ o1)) (pB_of (hQ _ q2)) (pB_of (hQ _ p2)) (show ed A B c < 240 by omega) (show ed A B j < 240 by omega) (show ed A B b < 240 by omega) (hJ _ o2) (hJ _ q2) (hJ _ p2)
            rw [if_neg (nI_pos (by omega)), ed_ok x5 x2 x3 a2] at e0
            simp only [ob, sn, bI_0'] at e0
            rw [hy] at hF
            rw [a3] at a4
            cases hS : soonB (Q (ed A B c)) (Q (bg A B c)) (Q (ed A B j)) (Q (ed A B b)) with
            | true =>
              rw [hS, if_neg (by simp)] at e0
              refine ⟨nI j, e0, Or.inr ⟨j, rfl, hj, hy, by rw [hy]; exact hF, hx, fun k c1 c2 c3 c4 c5 => ?_⟩⟩
              by_cases z : k = j
              · rw [z] at c5; exact absurd rfl c5
              · by_cases kb : ed A B k = ed A B b
                · rw [kb]; exact hS
                · have c2' := c2
                  rw [c3] at c2'
                  exact soon_tr nb hb hF a4 c2' hx a5 c4 hS (a6 k (by omega) c2 c3 c4 kb)
            | false =>
              rw [hS, if_pos rfl] at e0
              refine ⟨nI b, e0, Or.inr ⟨b, rfl, a2, a3, by rw [a3]; exact a4, a5, fun k c1 c2 c3 c4 c5 => ?_⟩⟩
              by_cases z : k = j
              · subst z
                rcases soon_tot nb hb a4 hF a5 hx (Ne.symm c5) with y | y
                · exact y
                · rw [hS] at y; cases y
              · exact a6 k (by omega) c2 c3 c4 c5
      · rw [if_pos hy] at e0
        refine ⟨s, e0, ?_⟩
        rcases hI with ⟨a1, a2⟩ | ⟨b, a1, a2, a3, a4, a5, a6⟩
        · refine Or.inl ⟨a1, fun k c1 c2 c3 => ?_⟩
          by_cases z : k = j
          · rw [z] at c3; exact absurd c3 hy
          · exact a2 k (by omega) c2 c3
        · refine Or.inr ⟨b, a1, a2, a3, a4, a5, fun k c1 c2 c3 => ?_⟩
          by_cases z : k = j
          · rw [z] at c3; exact absurd c3 hy
          · exact a6 k (by omega) c2 c3) (fun s hI => by
    simp (disch := omega) only [bX12_next_34, dm2, tm, nI_leS]
    rw [if_pos (by omega)])
  have hall : ∀ v, fm (ed A B c) v = true → ∃ k, k < 2 * n ∧ bg A B k = ed A B c ∧ ed A B k = v := by
    intro v hv
    obtain ⟨v1, v2, v3, -⟩ := hM.2.2.2.1.1 _ _ hv
    exact bg_all x1 (adB_R _ _ _ _) v1 v2 v3
  have e9 : sX12_next (nI c) (nI n) d gw gr gt x y = if 0 ≤ s then some s else some (nI c ^^^ (1 : Int32)) := by
    unfold sX12_next
    rw [e1]
    show ob (sX12_endOf (nI c) gr gt) _ = _
    rw [e2]
    show ob (sX12_wayX (nI (ed A B c)) (nI (bg A B c)) d x) _ = _
    rw [eX]
    show ob (sX12_wayY (nI (ed A B c)) (nI (bg A B c)) d y) _ = _
    rw [eY]
    show ob (iter (bX12_next_34 (nI n) d gw gr gt x y (nI (bg A B c)) (nI (ed A B c)) (lz (vX (Q (ed A B c)) (Q (bg A B c)))) (lz (wY (Q (ed A B c)) (Q (bg A B c))))) FU ((-1 : Int32), nI 0)) _ = _
    rw [ob_s h1]
    rfl
  rcases h2 with ⟨a1, a2⟩ | ⟨b, a1, a2, a3, a4, a5, a6⟩
  · subst a1
    refine ⟨xr c, ?_, xr_lt hc, bg_xr A B c, ?_, Or.inr ⟨ed_xr A B c, fun v hv => ?_⟩⟩
    · rw [e9, if_neg (by decide), st_xor c (by omega)]
    · rw [bg_xr, ed_xr]; exact hb
    · obtain ⟨k, k1, k2, k3⟩ := hall v hv
      rw [← k3]
      exact a2 k k1 (by rw [k2, k3]; exact hv) k2
  · subst a1
    refine ⟨b, ?_, a2, a3, a4, Or.inl ⟨by rw [← a3]; exact a4, a5, fun v hv c1 c2 => ?_⟩⟩
    · rw [e9, if_pos (nI_pos' (by omega))]
    · obtain ⟨k, k1, k2, k3⟩ := hall v hv
      rw [← k3] at c1 c2 hv ⊢
      exact a6 k k1 (by rw [k2]; exact hv) k2 c1 c2
