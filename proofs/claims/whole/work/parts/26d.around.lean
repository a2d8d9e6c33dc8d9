/-! the class: the pane round a point -/
theorem ordB_ok {p q : Pt3} (hp : pB p) (hq : pB q) {i j : Nat} (hi : i < 129) (hj : j < 129) {u x y : Nat → Int32} (a : At3 u x y i p) (b : At3 u x y j q) : sX4_order (nI i) (nI j) u x y = some (iz (pcmp p q)) := by
  obtain ⟨a1, a2, a3⟩ := a
  obtain ⟨b1, b2, b3⟩ := b
  obtain ⟨p0, p1, p2, p3⟩ := hp
  obtain ⟨q0, q1, q2, q3⟩ := hq
  have m1 := mbd (show p.2.1 ≤ 3456 by omega) (show q.2.2 ≤ 288 by omega)
  have m2 := mbd (show q.2.1 ≤ 3456 by omega) (show p.2.2 ≤ 288 by omega)
  simp (disch := omega) only [sX4_order, lt, nI_lt0, nI_clampS, false_or, gd_s, a1, a2, a3, b1, b2, b3, pk_mul, nsub]
  show (if iz (pY p q) = 0 then some (iz (pX p q)) else some (iz (pY p q))) = _
  have hb : -995328 ≤ pY p q ∧ pY p q ≤ 995328 := by unfold pY; omega
  unfold pcmp
  by_cases h : pY p q = 0
  · rw [if_pos ((iz0 (by omega) (by omega)).mpr h), if_pos h]
  · rw [if_neg (fun z => h ((iz0 (by omega) (by omega)).mp z)), if_neg h]
theorem pcmpB_bd {p q : Pt3} (hp : pB p) (hq : pB q) : -995328 ≤ pcmp p q ∧ pcmp p q ≤ 995328 := by
  obtain ⟨p0, p1, p2, p3⟩ := hp
  obtain ⟨q0, q1, q2, q3⟩ := hq
  have m1 := mbd (show p.2.1 ≤ 3456 by omega) (show q.2.2 ≤ 288 by omega)
  have m2 := mbd (show q.2.1 ≤ 3456 by omega) (show p.2.2 ≤ 288 by omega)
  have m3 := mbd (show p.1 ≤ 3456 by omega) (show q.2.2 ≤ 288 by omega)
  have m4 := mbd (show q.1 ≤ 3456 by omega) (show p.2.2 ≤ 288 by omega)
  unfold pcmp pY pX
  split <;> omega
theorem hgt_ok {p q : Pt3} (hp : pB p) (hq : pB q) {i j : Nat} (hi : i < 129) (hj : j < 129) {u x y : Nat → Int32} (a : At3 u x y i p) (b : At3 u x y j q) : sX4_heightOrder (nI i) (nI j) u y = some (iz (pY p q)) ∧ -995328 ≤ pY p q ∧ pY p q ≤ 995328 := by
  obtain ⟨a1, a2, a3⟩ := a
  obtain ⟨b1, b2, b3⟩ := b
  obtain ⟨p0, p1, p2, p3⟩ := hp
  obtain ⟨q0, q1, q2, q3⟩ := hq
  have m1 := mbd (show p.2.1 ≤ 3456 by omega) (show q.2.2 ≤ 288 by omega)
  have m2 := mbd (show q.2.1 ≤ 3456 by omega) (show p.2.2 ≤ 288 by omega)
  refine ⟨?_, by unfold pY; omega, by unfold pY; omega⟩
  simp (disch := omega) only [sX4_heightOrder, lt, nI_lt0, nI_clampS, false_or, gd_s, a1, a2, a3, b1, b2, b3, pk_mul, nsub]
  rfl
def onPb (p r q : Pt3) : Bool := decide (dtp p r q = 0 ∧ pcmp p q ≤ 0 ∧ pcmp q r ≤ 0)
theorem iz_gt0 {z : Int} (h1 : -2147483648 ≤ z) (h2 : z < 2147483648) : 0 < iz z ↔ 0 < z := iz_lt (a := 0) (by omega) (by omega) h1 h2
theorem lz_le0' {z : Int} (h1 : -1000000000000000 < z) (h2 : z < 1000000000000000) : (lg_cmp (lz z) (0 : Int64) ≤ 0) ↔ z ≤ 0 := by
  have h := lg_cmp_gt (lz z) 0
  rw [show (0 : Int64) = lz 0 from rfl] at *
  rw [lz_lt (by omega) (by omega) (by omega) (by omega)] at h
  constructor
  · intro q
    rcases Int.lt_or_le 0 z with w | w
    · have := h.mpr w
      exact absurd this (Int32.not_lt.mpr q)
    · exact w
  · intro q
    exact Int32.not_lt.mp (fun w => by have := h.mp w; omega)
theorem mnI {a b : Nat} (ha : a < 1000) (hb : b < 1000) : (if nI b < nI a then nI b else nI a) = nI (min a b) := by
  simp (disch := omega) only [nI_ltS]
  split <;> congr 1 <;> omega
theorem mxI {a b : Nat} (ha : a < 1000) (hb : b < 1000) : (if nI a < nI b then nI b else nI a) = nI (max a b) := by
  simp (disch := omega) only [nI_ltS]
  split <;> congr 1 <;> omega
theorem isOnX_ok {n m : Nat} (hn : n ≤ 768) (hm : m ≤ 128) {F T : Nat → Nat} {fr to : Nat → Int32} (hf : hN n fr F) (ht : hN n to T) (hF : ∀ k, k < n → F k < m ∧ T k < m) {Q : Nat → Pt3} (hQ : ∀ i, i < m → pB (Q i)) {u x y : Nat → Int32} (hJ : JR m Q u x y) {q : Pt3} (hq : pB q) (aq : At3 u x y 128 q) {s : Nat} (hs : s < n) : sX7_isOn (nI s) u x y fr to = some (bI (onPb (Q (min (F s) (T s))) (Q (max (F s) (T s))) q)) := by
  obtain ⟨l1, l2⟩ := hF s hs
  have lo : min (F s) (T s) < m := by omega
  have hi : max (F s) (T s) < m := by omega
  have d1 := side_ok (hQ _ lo) (hQ _ hi) hq (show min (F s) (T s) < 129 by omega) (show max (F s) (T s) < 129 by omega) (show 128 < 129 by omega) (hJ _ lo) (hJ _ hi) aq
  have d2 := ordB_ok (hQ _ lo) hq (show min (F s) (T s) < 129 by omega) (show 128 < 129 by omega) (hJ _ lo) aq
  have d3 := ordB_ok hq (hQ _ hi) (show 128 < 129 by omega) (show max (F s) (T s) < 129 by omega) aq (hJ _ hi)
  have b1 := dtp_bd (hQ _ lo) (hQ _ hi) hq
  have b2 := pcmpB_bd (hQ _ lo) hq
  have b3 := pcmpB_bd hq (hQ _ hi)
  have n128 : (128 : Int32) = nI 128 := rfl
  have q1 := lz_eq0' (z := dtp (Q (min (F s) (T s))) (Q (max (F s) (T s))) q) (by omega) (by omega)
  have q2 := iz_gt0 (z := pcmp (Q (min (F s) (T s))) q) (by omega) (by omega)
  have q3 := iz_gt0 (z := pcmp q (Q (max (F s) (T s)))) (by omega) (by omega)
  simp (disch := omega) only [sX7_isOn, lt, nI_lt0, nI_clampS, false_or, gd_s, hf s hs, ht s hs, mnI, mxI, n128, d1, d2, d3, ob, dm1, q1, q2, q3]
  unfold onPb
  by_cases h1 : dtp (Q (min (F s) (T s))) (Q (max (F s) (T s))) q = 0
  · rw [if_neg (fun z => z h1)]
    by_cases h2 : 0 < pcmp (Q (min (F s) (T s))) q
    · rw [if_pos h2, decide_eq_false (by omega)]; rfl
    · rw [if_neg h2]
      by_cases h3 : 0 < pcmp q (Q (max (F s) (T s)))
      · rw [if_pos h3, decide_eq_false (by omega)]; rfl
      · rw [if_neg h3, decide_eq_true (by omega)]; rfl
  · rw [if_pos h1, decide_eq_false (fun z => h1 z.1)]; rfl
theorem isCr_ok {n m : Nat} (hn : n ≤ 768) (hm : m ≤ 128) {F T : Nat → Nat} {fr to : Nat → Int32} (hf : hN n fr F) (ht : hN n to T) (hF : ∀ k, k < n → F k < m ∧ T k < m) {Q : Nat → Pt3} (hQ : ∀ i, i < m → pB (Q i)) {u x y : Nat → Int32} (hJ : JR m Q u x y) {q : Pt3} (hq : pB q) (aq : At3 u x y 128 q) {s : Nat} (hs : s < n) : sX7_isCrossed (nI s) u x y fr to = some (bI (crA (Q (min (F s) (T s))) (Q (max (F s) (T s))) q)) := by
  obtain ⟨l1, l2⟩ := hF s hs
  have lo : min (F s) (T s) < m := by omega
  have hi : max (F s) (T s) < m := by omega
  have d1 := side_ok (hQ _ lo) (hQ _ hi) hq (show min (F s) (T s) < 129 by omega) (show max (F s) (T s) < 129 by omega) (show 128 < 129 by omega) (hJ _ lo) (hJ _ hi) aq
  obtain ⟨d2, b2⟩ := hgt_ok (hQ _ lo) hq (show min (F s) (T s) < 129 by omega) (show 128 < 129 by omega) (hJ _ lo) aq
  obtain ⟨d3, b3⟩ := hgt_ok hq (hQ _ hi) (show 128 < 129 by omega) (show max (F s) (T s) < 129 by omega) aq (hJ _ hi)
  have b1 := dtp_bd (hQ _ lo) (hQ _ hi) hq
  have n128 : (128 : Int32) = nI 128 := rfl
  have q1 := lz_le0' (z := dtp (Q (min (F s) (T s))) (Q (max (F s) (T s))) q) (by omega) (by omega)
  have q2 := iz_gt0 (z := pY (Q (min (F s) (T s))) q) (by omega) (by omega)
  have q3 := iz_ge0 (z := pY q (Q (max (F s) (T s)))) (by omega) (by omega)
  simp (disch := omega) only [sX7_isCrossed, lt, nI_lt0, nI_clampS, false_or, gd_s, hf s hs, ht s hs, mnI, mxI, n128, d1, d2, d3, ob, dm1, q1, q2, q3]
  have w1 : lwB (Q (min (F s) (T s))) q = decide (¬ 0 < pY (Q (min (F s) (T s))) q) := by unfold lwB pY; rw [decide_eq_decide]; omega
  have w2 : (!lwB (Q (max (F s) (T s))) q) = decide (¬ 0 ≤ pY q (Q (max (F s) (T s)))) := by
    unfold lwB pY
    rw [← decide_not, decide_eq_decide]
    omega
  unfold crA
  rw [w1, w2]
  by_cases h1 : 0 < pY (Q (min (F s) (T s))) q
  · rw [if_pos h1, decide_eq_false (fun z => z h1)]; rfl
  · rw [if_neg h1, decide_eq_true h1]
    by_cases h2 : 0 ≤ pY q (Q (max (F s) (T s)))
    · rw [if_pos h2, decide_eq_false (fun z => z h2)]; rfl
    · rw [if_neg h2, decide_eq_true h2]
      by_cases h3 : dtp (Q (min (F s) (T s))) (Q (max (F s) (T s))) q ≤ 0
      · rw [if_pos h3, decide_eq_false (by omega)]; rfl
      · rw [if_neg h3, decide_eq_true (by omega)]; rfl
def crC (Q : Nat → Pt3) (q : Pt3) (s : St) : Bool := crA (Q (min s.1 s.2)) (Q (max s.1 s.2)) q
/-- a pane's steps as the class holds them -/
theorem wk_at {nv : Nat → Nat → Nat} {n : Nat} {F T : Nat → Nat} {np : Nat} {gs : Nat → St} {st wk : Nat → Nat} {sa wa : Nat → Int32} (h : WaX nv n F T np gs st wk sa wa) {p : Nat} (hp : p < np) : ∃ K, Per nv (gs p) K ∧ st (p + 1) = st p + K ∧ st (p + 1) ≤ n ∧ ∀ k, k < K → wa (st p + k) = nI (wk (st p + k)) ∧ wk (st p + k) < n ∧ ((F (wk (st p + k)), T (wk (st p + k))) : St) = itr nv k (gs p) := by
  obtain ⟨v1, v2, v3, v4, v5, v6, v7⟩ := h
  obtain ⟨K, z1, z2, z3⟩ := v2 p hp
  have le : st (p + 1) ≤ st np := by
    have mono : ∀ d, p + 1 + d ≤ np → st (p + 1) ≤ st (p + 1 + d) := by
      intro d
      induction d with
      | zero => intro _; exact Nat.le_refl _
      | succ d ih =>
        intro hd
        obtain ⟨K'', -, y2, -⟩ := v2 (p + 1 + d) (by omega)
        have := ih (by omega)
        rw [show p + 1 + (d + 1) = p + 1 + d + 1 by omega, y2]; omega
    have := mono (np - (p + 1)) (by omega)
    rw [show p + 1 + (np - (p + 1)) = np by omega] at this
    exact this
  exact ⟨K, z1, z2, by omega, fun k hk => ⟨v4 (st p + k) (by omega), (z3 k hk).1, (z3 k hk).2⟩⟩
theorem inside_ok {nv : Nat → Nat → Nat} {n m : Nat} (hn : n ≤ 684) (hm : m ≤ 128) {F T : Nat → Nat} {fr to : Nat → Int32} (hf : hN n fr F) (ht : hN n to T) (hF : ∀ k, k < n → F k < m ∧ T k < m) {Q : Nat → Pt3} (hQ : ∀ i, i < m → pB (Q i)) {u x y : Nat → Int32} (hJ : JR m Q u x y) {q : Pt3} (hq : pB q) (aq : At3 u x y 128 q) {np : Nat} (hnp : np ≤ 125) {gs : Nat → St} {st wk : Nat → Nat} {sa wa : Nat → Int32} (h : WaX nv n F T np gs st wk sa wa) {p : Nat} (hp : p < np) : ∃ K, Per nv (gs p) K ∧ sX7_isInside (nI p) u x y fr to sa wa = some (bI (decide (cnt K (fun k => crC Q q (itr nv k (gs p))) % 2 = 1))) := by
  obtain ⟨K, hK, e1, e2, hw⟩ := wk_at h hp
  have sa0 := h.2.2.1 p (by omega)
  have sa1 := h.2.2.1 (p + 1) (by omega)
  refine ⟨K, hK, ?_⟩
  obtain ⟨s, h1, h2⟩ := iter_for (S := Unit) (B := bX7_isInside_9 (nI p) u x y fr to sa wa) (fun k _ => (bI (decide (cnt k (fun k => crC Q q (itr nv k (gs p))) % 2 = 1)), nI (st p + k))) K (fun _ _ => True) 0 () trivial (by omega) (by omega) (fun k s _ hk _ => by
    obtain ⟨w1, w2, w3⟩ := hw k hk
    have ic := isCr_ok (n := n) (by omega) hm hf ht hF hQ hJ hq aq w2
    have f1 : F (wk (st p + k)) = (itr nv k (gs p)).1 := by rw [← w3]
    have f2 : T (wk (st p + k)) = (itr nv k (gs p)).2 := by rw [← w3]
    rw [f1, f2] at ic
    refine ⟨(), ?_, trivial⟩
    have e9 : (if bI (crC Q q (itr nv k (gs p))) = 0 then some (bI (decide (cnt k (fun k => crC Q q (itr nv k (gs p))) % 2 = 1))) else if ¬ bI (decide (cnt k (fun k => crC Q q (itr nv k (gs p))) % 2 = 1)) = 0 then some (0 : Int32) else some (1 : Int32)) = some (bI (decide (cnt (k + 1) (fun k => crC Q q (itr nv k (gs p))) % 2 = 1))) := by
      rw [cnt_s]
      simp only [bI_0']
      cases hc : crC Q q (itr nv k (gs p)) with
      | false => simp
      | true =>
        rw [if_neg (by simp), if_pos rfl]
        by_cases z : cnt k (fun k => crC Q q (itr nv k (gs p))) % 2 = 1
        · rw [decide_eq_true z, if_pos (by simp), decide_eq_false (by omega)]; rfl
        · rw [decide_eq_false z, if_neg (by simp), decide_eq_true (by omega)]; rfl
    have ic' : sX7_isCrossed (nI (wk (st p + k))) u x y fr to = some (bI (crC Q q (itr nv k (gs p)))) := ic
    simp (disch := omega) only [bX7_isInside_9, dm2, nl_1, nI_add, nI_lt0, nI_clampS, false_or, gd_s, sa1, nI_leS, w1, ic']
    rw [if_neg (by omega)]
    rw [nl_1] at e9
    simp only [ob, dm1, lt]
    rw [e9]
    simp only [nI_add]
    rfl) (fun s _ => by
    simp (disch := omega) only [bX7_isInside_9, dm2, nl_1, nI_add, nI_lt0, nI_clampS, false_or, gd_s, sa1, nI_leS]
    rw [if_pos (by omega)])
  simp (disch := omega) only [sX7_isInside, nI_lt0, nI_clampS, false_or, gd_s, lt, sa0]
  have h1' : iter (bX7_isInside_9 (nI p) u x y fr to sa wa) FU (nI 0, nI (st p)) = some (0, (bI (decide (cnt K (fun k => crC Q q (itr nv k (gs p))) % 2 = 1)), nI (st p + K))) := h1
  rw [nl_0, ob_s h1']
  simp only [ex1, dm2, if_true]
  rw [gd_s]
  cases decide (cnt K (fun k => crC Q q (itr nv k (gs p))) % 2 = 1)
  · exact Or.inl nI_0
  · exact Or.inr rfl
theorem par_math {w h nl : Nat} {ld : Nat → Ln} {m : Nat} {Q : Nat → Pt3} {fm : Nat → Nat → Bool} (hM : Mesh w h nl ld m Q fm) {nv : Nat → Nat → Nat} (hn : NV Q fm nv) {p : St} (hp : isS fm p) (q : Pt3) (K : Nat) : ∃ M : Int, (cnt K (fun k => crC Q q (itr nv k p)) : Int) = sm K (fun k => rho Q q (itr nv k p)) + 2 * M := by
  have hQ := hM.2.1.1
  have hS := hM.2.1.2.1
  have one : ∀ s : St, isS fm s → ∃ M : Int, ib (crC Q q s) = rho Q q s + 2 * M := by
    intro s hs
    obtain ⟨a1, a2, a3, -⟩ := fm_ad hM hs
    have zero : ∀ i j, i < j → j < m → crA (Q j) (Q i) q = false := by
      intro i j hij hj
      have p := hS i j hij hj
      rw [plt_iff] at p
      have oi := (hQ i (by omega)).1
      have oj := (hQ j hj).1
      cases e1 : lwB (Q j) q with
      | false => unfold crA; rw [e1]; rfl
      | true =>
        have e2 : lwB (Q i) q = true := by
          unfold lwB at e1 ⊢
          have e1 := of_decide_eq_true e1
          refine decide_eq_true ?_
          rcases Nat.lt_or_ge (q.2.1 * (Q i).2.2) ((Q i).2.1 * q.2.2) with y | y
          · exfalso
            rcases Nat.eq_zero_or_pos q.2.2 with z | z
            · rw [z] at y; omega
            · have k := cq_lt (a := q.2.1) (b := q.2.2) (c := (Q i).2.1) (d := (Q i).2.2) (e := (Q j).2.1) (f := (Q j).2.2) oj y (by omega)
              omega
          · exact y
        unfold crA; rw [e1, e2]; rfl
    rcases Nat.lt_or_gt_of_ne a3 with y | y
    · refine ⟨0, ?_⟩
      have z := zero s.1 s.2 y a2
      unfold rho crC
      rw [z, Nat.min_eq_left (by omega), Nat.max_eq_right (by omega), ib_f]; omega
    · refine ⟨ib (crC Q q s), ?_⟩
      have z := zero s.2 s.1 y a1
      unfold rho crC
      rw [z, Nat.min_eq_right (by omega), Nat.max_eq_left (by omega), ib_f]; omega
  induction K with
  | zero => exact ⟨0, rfl⟩
  | succ K ih =>
    obtain ⟨M, e⟩ := ih
    obtain ⟨M', e'⟩ := one (itr nv K p) (itr_S hM hn hp K)
    refine ⟨M + M', ?_⟩
    rw [← sm_cnt] at e ⊢
    rw [sm_s, sm_s, e, e']
    omega
