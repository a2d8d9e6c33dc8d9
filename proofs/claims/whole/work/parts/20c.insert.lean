/-! the class's joints: a point put in -/
theorem nsub (a b : Nat) : nI a - nI b = iz ((a : Int) - (b : Int)) := by rw [← iz_n, ← iz_n, iz_sub]
theorem iz0 {z : Int} (h1 : -2147483648 ≤ z) (h2 : z < 2147483648) : iz z = 0 ↔ z = 0 := iz_eq (b := 0) h1 h2 (by omega) (by omega)
theorem iz_ge0 {z : Int} (h1 : -2147483648 ≤ z) (h2 : z < 2147483648) : 0 ≤ iz z ↔ 0 ≤ z := iz_le (a := 0) (by omega) (by omega) h1 h2
theorem iz_lt0 {z : Int} (h1 : -2147483648 ≤ z) (h2 : z < 2147483648) : iz z < 0 ↔ z < 0 := iz_lt (b := 0) h1 h2 (by omega) (by omega)
theorem pY_bd {p q : Pt3} (hp : pOK p) (hq : pOK q) : -995328 ≤ pY p q ∧ pY p q ≤ 995328 := by
  obtain ⟨p0, p1, p2, p3, -⟩ := hp
  obtain ⟨q0, q1, q2, q3, -⟩ := hq
  have h1 : p.2.1 * q.2.2 ≤ 3456 * 288 := Nat.mul_le_mul (by omega) (by omega)
  have h2 : q.2.1 * p.2.2 ≤ 3456 * 288 := Nat.mul_le_mul (by omega) (by omega)
  unfold pY
  omega
theorem pX_bd {p q : Pt3} (hp : pOK p) (hq : pOK q) : -995328 ≤ pX p q ∧ pX p q ≤ 995328 := by
  obtain ⟨p0, p1, p2, p3, -⟩ := hp
  obtain ⟨q0, q1, q2, q3, -⟩ := hq
  have h1 : p.1 * q.2.2 ≤ 3456 * 288 := Nat.mul_le_mul (by omega) (by omega)
  have h2 : q.1 * p.2.2 ≤ 3456 * 288 := Nat.mul_le_mul (by omega) (by omega)
  unfold pX
  omega
theorem pcmp_bd {p q : Pt3} (hp : pOK p) (hq : pOK q) : -995328 ≤ pcmp p q ∧ pcmp p q ≤ 995328 := by
  unfold pcmp
  by_cases h : pY p q = 0
  · rw [if_pos h]; exact pX_bd hp hq
  · rw [if_neg h]; exact pY_bd hp hq
/-- point p is held at place i -/
def At3 (u x y : Nat → Int32) (i : Nat) (p : Pt3) : Prop := x i = nI p.1 ∧ y i = nI p.2.1 ∧ u i = nI p.2.2
def JR (n : Nat) (P : Nat → Pt3) (u x y : Nat → Int32) : Prop := ∀ i, i < n → At3 u x y i (P i)
theorem ord_ok {p q : Pt3} (hp : pOK p) (hq : pOK q) {i j : Nat} (hi : i < 129) (hj : j < 129) {u x y : Nat → Int32} (a : At3 u x y i p) (b : At3 u x y j q) : sX4_order (nI i) (nI j) u x y = some (iz (pcmp p q)) := by
  obtain ⟨a1, a2, a3⟩ := a
  obtain ⟨b1, b2, b3⟩ := b
  have ci : (nI i).toNatClampNeg = i := nI_clamp (by omega)
  have cj : (nI j).toNatClampNeg = j := nI_clamp (by omega)
  simp only [sX4_order, lt, gd_t (ix_ok hi (by omega)), gd_t (ix_ok hj (by omega))]
  rw [ci, cj, a1, a2, a3, b1, b2, b3, pk_mul, pk_mul, pk_mul, pk_mul, nsub, nsub]
  show (if iz (pY p q) = 0 then some (iz (pX p q)) else some (iz (pY p q))) = _
  obtain ⟨y1, y2⟩ := pY_bd hp hq
  unfold pcmp
  by_cases h : pY p q = 0
  · rw [if_pos ((iz0 (by omega) (by omega)).mpr h), if_pos h]
  · rw [if_neg (fun z => h ((iz0 (by omega) (by omega)).mp z)), if_neg h]
theorem ask_ok (a b c : Int32) (u x y : Nat → Int32) : sX4_ask a b c u x y = some (upd u 128 c, upd x 128 a, upd y 128 b) := by
  have h : ¬ ((128 : Int32) < 0 ∨ 129 ≤ (128 : Int32).toNatClampNeg) := by decide
  have e : (128 : Int32).toNatClampNeg = 128 := by decide
  simp only [sX4_ask, lt, gd_t h]
  rw [e]
theorem take_ok {i j : Nat} (hi : i < 129) (hj : j < 129) (u x y : Nat → Int32) : sX4_take (nI i) (nI j) u x y = some (upd u i (u j), upd x i (x j), upd y i (y j)) := by
  have ci : (nI i).toNatClampNeg = i := nI_clamp (by omega)
  have cj : (nI j).toNatClampNeg = j := nI_clamp (by omega)
  simp only [sX4_take, lt, gd_t (ix_ok hi (by omega)), gd_t (ix_ok hj (by omega))]
  rw [ci, cj]
theorem find_ok {n : Nat} (hn : n ≤ 128) {P : Nat → Pt3} {p : Pt3} (hP : ∀ i, i < n → pOK (P i)) (hp : pOK p) {u x y : Nat → Int32} (hJ : JR n P u x y) (hq : At3 u x y 128 p) : ∃ k, k ≤ n ∧ (∀ i, i < k → plt (P i) p) ∧ (k < n → ¬ plt (P k) p) ∧ iter (bX4_insert_37 (nI n) u x y) FU 0 = some (0, nI k) := by
  have main := iter_ex0 (B := bX4_insert_37 (nI n) u x y) (fun t => ∃ k, t = nI k ∧ k ≤ n ∧ ∀ i, i < k → plt (P i) p) (fun t => n - t.toNatClampNeg) (fun t => ∃ k, t = nI k ∧ k ≤ n ∧ (∀ i, i < k → plt (P i) p) ∧ (k < n → ¬ plt (P k) p)) (fun t ht => by
    obtain ⟨k, rfl, hk, hlt⟩ := ht
    have ck : (nI k).toNatClampNeg = k := nI_clamp (by omega)
    rcases Nat.lt_or_ge k n with h | h
    · obtain ⟨z1, z2⟩ := pcmp_bd (hP k h) hp
      have ho : sX4_order (nI k) (128 : Int32) u x y = some (iz (pcmp (P k) p)) := ord_ok (i := k) (j := 128) (hP k h) hp (by omega) (by omega) (hJ k h) hq
      have hb : bX4_insert_37 (nI n) u x y (nI k) = if 0 ≤ iz (pcmp (P k) p) then some (1, nI k) else some (0, nI k + 1) := by
        show (if nI n ≤ nI k then _ else ob (sX4_order (nI k) (128 : Int32) u x y) _) = _
        rw [if_neg (nI_ge h (by omega)), ob_s ho]
        rfl
      by_cases hc : plt (P k) p
      · refine Or.inl ⟨nI (k + 1), ?_, ⟨k + 1, rfl, by omega, fun i hi => ?_⟩, ?_⟩
        · rw [hb, if_neg (fun z => absurd ((iz_ge0 (by omega) (by omega)).mp z) (by unfold plt at hc; omega)), nI_1]
        · rcases Nat.lt_or_ge i k with h9 | h9
          · exact hlt i h9
          · obtain rfl : i = k := by omega
            exact hc
        · rw [ck, nI_clamp (by omega)]; omega
      · refine Or.inr ⟨nI k, ?_, k, rfl, hk, hlt, fun _ => hc⟩
        rw [hb, if_pos ((iz_ge0 (by omega) (by omega)).mpr (by unfold plt at hc; omega))]
    · refine Or.inr ⟨nI k, ?_, k, rfl, hk, hlt, fun h2 => by omega⟩
      show (if nI n ≤ nI k then some (1, nI k) else _) = _
      rw [if_pos (nI_le h (by omega))]) (nI 0) ⟨0, rfl, by omega, fun i hi => by omega⟩ FU (FU_lt (by omega))
  obtain ⟨t, h1, k, rfl, h2, h3, h4⟩ := main
  exact ⟨k, h2, h3, h4, h1⟩
def shf (k n : Nat) (f : Nat → Int32) : Nat → Int32 := fun j => if k < j ∧ j ≤ n then f (j - 1) else f j
theorem shf_0 (n : Nat) (f : Nat → Int32) : shf n n f = f := by
  funext j
  unfold shf
  rw [if_neg (by omega)]
theorem shf_1 {k n : Nat} (h : k + 1 ≤ n) (f : Nat → Int32) : upd (shf (k + 1) n f) (k + 1) (shf (k + 1) n f k) = shf k n f := by
  funext j
  unfold upd shf
  by_cases hj : j = k + 1
  · rw [if_pos hj, if_neg (by omega), if_pos (by omega), hj]; rfl
  · rw [if_neg hj]
    by_cases h2 : k + 1 < j ∧ j ≤ n
    · rw [if_pos h2, if_pos (by omega)]
    · rw [if_neg h2, if_neg (by omega)]
theorem shift_ok {n k : Nat} (hn : n < 128) (hk : k ≤ n) (u x y : Nat → Int32) : iter (bX4_insert_114 (nI k)) FU (nI n, u, x, y) = some (0, (nI k, shf k n u, shf k n x, shf k n y)) := by
  have main := iter_ex0 (B := bX4_insert_114 (nI k)) (fun t => ∃ i, k ≤ i ∧ i ≤ n ∧ t = (nI i, shf i n u, shf i n x, shf i n y)) (fun t => t.1.toNatClampNeg) (fun t => t = (nI k, shf k n u, shf k n x, shf k n y)) (fun t ht => by
    obtain ⟨i, h1, h2, rfl⟩ := ht
    rcases Nat.lt_or_ge k i with h | h
    · obtain ⟨i, rfl⟩ : ∃ m, i = m + 1 := ⟨i - 1, by omega⟩
      refine Or.inl ⟨(nI i, shf i n u, shf i n x, shf i n y), ?_, ⟨i, by omega, by omega, rfl⟩, ?_⟩
      · have e1 : nI (i + 1) - (1 : Int32) = nI i := nI_pred i
        have e2 : nI (i + 1) + (-1 : Int32) = nI i := pk_m1 i
        show (if nI (i + 1) ≤ nI k then _ else ob (sX4_take (nI (i + 1)) (nI (i + 1) - (1 : Int32)) (shf (i + 1) n u) (shf (i + 1) n x) (shf (i + 1) n y)) _) = _
        rw [if_neg (nI_ge (by omega) (by omega)), e1, ob_s (take_ok (by omega) (by omega) _ _ _)]
        show some (0, (nI (i + 1) + (-1 : Int32), _, _, _)) = _
        rw [e2, shf_1 h2, shf_1 h2, shf_1 h2]
      · show (nI i).toNatClampNeg < (nI (i + 1)).toNatClampNeg
        rw [nI_clamp (by omega), nI_clamp (by omega)]; omega
    · obtain rfl : i = k := by omega
      refine Or.inr ⟨_, ?_, rfl⟩
      show (if nI i ≤ nI i then some (1, _) else _) = _
      rw [if_pos (nI_le (Nat.le_refl _) (by omega))]) (nI n, u, x, y) ⟨n, hk, Nat.le_refl _, by rw [shf_0, shf_0, shf_0]⟩ FU (FU_lt (by show (nI n).toNatClampNeg < _; rw [nI_clamp (by omega)]; omega))
  obtain ⟨t, h1, rfl⟩ := main
  exact h1
/-- the class's insert: the row of joints with one point more, if it is new -/
theorem ins_ok {n : Nat} (hn : n < 128) {P : Nat → Pt3} (hP : ∀ i, i < n → pOK (P i)) (sP : Srt n P) {u x y : Nat → Int32} (hJ : JR n P u x y) {a b c : Nat} (h0 : 0 < c) (hc : c ≤ 288) (ha : a ≤ 12 * c) (hb : b ≤ 12 * c) : ∃ (m : Nat) (Q : Nat → Pt3) (u' x' y' : Nat → Int32), sX4_insert (nI a) (nI b) (nI c) (nI n) u x y = some (nI m, u', x', y') ∧ m ≤ n + 1 ∧ (∀ i, i < m → pOK (Q i)) ∧ Srt m Q ∧ JR m Q u' x' y' ∧ ∀ q, (∃ i, i < m ∧ Q i = q) ↔ ((∃ i, i < n ∧ P i = q) ∨ q = redu a b c) := by
  have hp := redu_ok h0 hc ha hb
  obtain ⟨p, ep⟩ : ∃ p, p = redu a b c := ⟨_, rfl⟩
  obtain ⟨g, eg⟩ : ∃ g, g = Nat.gcd (Nat.gcd a b) c := ⟨_, rfl⟩
  have hg0 : 0 < g := by rw [eg]; exact Nat.gcd_pos_of_pos_right _ h0
  have hg1 : g ≤ c := by rw [eg]; exact Nat.le_of_dvd h0 (Nat.gcd_dvd_right _ _)
  have g1 : sX9_greatestCommon (nI a) (nI b) = some (nI (Nat.gcd a b)) := gc_ok (by omega) (by omega)
  have hgab : Nat.gcd a b < 2 ^ 31 := by
    rcases Nat.eq_zero_or_pos a with h | h
    · rw [h, Nat.gcd_zero_left]; omega
    · have := Nat.le_of_dvd h (Nat.gcd_dvd_left a b); omega
  have g2 : sX9_greatestCommon (nI (Nat.gcd a b)) (nI c) = some (nI g) := by rw [eg]; exact gc_ok hgab (by omega)
  have ne : ¬ nI g = 0 := nI_ne0 hg0 (by omega)
  have d1 : nI a / nI g = nI p.1 := by rw [pk_div (by omega) hg0 (by omega), ep, eg]; rfl
  have d2 : nI b / nI g = nI p.2.1 := by rw [pk_div (by omega) hg0 (by omega), ep, eg]; rfl
  have d3 : nI c / nI g = nI p.2.2 := by rw [pk_div (by omega) hg0 (by omega), ep, eg]; rfl
  rw [← ep] at hp ⊢
  obtain ⟨u1, eu⟩ : ∃ f, f = upd u 128 (nI p.2.2) := ⟨_, rfl⟩
  obtain ⟨x1, ex⟩ : ∃ f, f = upd x 128 (nI p.1) := ⟨_, rfl⟩
  obtain ⟨y1, ey⟩ : ∃ f, f = upd y 128 (nI p.2.1) := ⟨_, rfl⟩
  have hask : sX4_ask (nI a / nI g) (nI b / nI g) (nI c / nI g) u x y = some (u1, x1, y1) := by rw [d1, d2, d3, ask_ok, eu, ex, ey]
  have hq : At3 u1 x1 y1 128 p := ⟨by rw [ex, pk_us], by rw [ey, pk_us], by rw [eu, pk_us]⟩
  have hJ1 : JR n P u1 x1 y1 := fun i hi => by
    obtain ⟨a1, a2, a3⟩ := hJ i hi
    exact ⟨by rw [ex, pk_un (by omega)]; exact a1, by rw [ey, pk_un (by omega)]; exact a2, by rw [eu, pk_un (by omega)]; exact a3⟩
  obtain ⟨k, hk, k1, k2, hf⟩ := find_ok (by omega) hP hp hJ1 hq
  have hone : nI 1 ≤ nI g := nI_le hg0 (by omega)
  have start : sX4_insert (nI a) (nI b) (nI c) (nI n) u x y = ob (if nI n ≤ nI k then some (0 : Int32) else ob (sX4_order (nI k) (128 : Int32) u1 x1 y1) (fun o => if ¬ o = 0 then some (0 : Int32) else some (1 : Int32))) (fun v10 => if ¬ v10 = 0 then some (nI n, u1, x1, y1) else if nI n < (128 : Int32) then ob (iter (bX4_insert_114 (nI k)) FU (nI n, u1, x1, y1)) (fun kt => ex1 kt (fun t => ob (sX4_take (nI k) (128 : Int32) t.2.1 t.2.2.1 t.2.2.2) (fun o => some (nI n + (1 : Int32), o.1, o.2.1, o.2.2)))) else some (nI n, u1, x1, y1)) := by
    show ob (sX9_greatestCommon (nI a) (nI b)) _ = _
    rw [ob_s g1]
    show ob (sX9_greatestCommon (nI (Nat.gcd a b)) (nI c)) _ = _
    rw [ob_s g2]
    show (if nI 1 ≤ nI g then gd (¬ nI g = 0) (gd (¬ nI g = 0) (gd (¬ nI g = 0) (ob (sX4_ask (nI a / nI g) (nI b / nI g) (nI c / nI g) u x y) _))) else _) = _
    rw [if_pos hone, gd_t ne, gd_t ne, gd_t ne, ob_s hask]
    show ob (iter (bX4_insert_37 (nI n) u1 x1 y1) FU 0) _ = _
    rw [ob_s hf]
    rfl
  have lt128 : nI n < (128 : Int32) := nI_lt (b := 128) hn (by omega)
  have put : k < n ∨ k = n → (k < n → plt p (P k)) → ob (some (0 : Int32)) (fun v10 => if ¬ v10 = 0 then some (nI n, u1, x1, y1) else if nI n < (128 : Int32) then ob (iter (bX4_insert_114 (nI k)) FU (nI n, u1, x1, y1)) (fun kt => ex1 kt (fun t => ob (sX4_take (nI k) (128 : Int32) t.2.1 t.2.2.1 t.2.2.2) (fun o => some (nI n + (1 : Int32), o.1, o.2.1, o.2.2)))) else some (nI n, u1, x1, y1)) = some (nI (n + 1), upd (shf k n u1) k (shf k n u1 128), upd (shf k n x1) k (shf k n x1 128), upd (shf k n y1) k (shf k n y1 128)) := by
    intro _ _
    rw [ob_s (a := (0 : Int32)) rfl]
    rw [if_neg (fun z => z rfl), if_pos lt128, ob_s (shift_ok hn hk u1 x1 y1)]
    show ob (sX4_take (nI k) (nI 128) (shf k n u1) (shf k n x1) (shf k n y1)) _ = _
    rw [ob_s (take_ok (by omega) (by omega) _ _ _)]
    show some (nI n + (1 : Int32), _, _, _) = _
    rw [nI_1]
  have fin : (k < n → plt p (P k)) → JR (n + 1) (insAt P k p) (upd (shf k n u1) k (shf k n u1 128)) (upd (shf k n x1) k (shf k n x1 128)) (upd (shf k n y1) k (shf k n y1 128)) := by
    intro _ i hi
    have sh : ∀ f : Nat → Int32, upd (shf k n f) k (shf k n f 128) i = if i < k then f i else if i = k then f 128 else f (i - 1) := by
      intro f
      unfold upd shf
      by_cases h1 : i < k
      · rw [if_neg (by omega), if_neg (by omega), if_pos h1]
      · rw [if_neg h1]
        by_cases h2 : i = k
        · rw [if_pos h2, if_pos h2, if_neg (by omega)]
        · rw [if_neg h2, if_neg h2, if_pos (by omega)]
    unfold At3
    rw [sh, sh, sh]
    unfold insAt
    by_cases h1 : i < k
    · rw [if_pos h1, if_pos h1, if_pos h1, if_pos h1]; exact hJ1 i (by omega)
    · rw [if_neg h1, if_neg h1, if_neg h1, if_neg h1]
      by_cases h2 : i = k
      · rw [if_pos h2, if_pos h2, if_pos h2, if_pos h2]; exact hq
      · rw [if_neg h2, if_neg h2, if_neg h2, if_neg h2]; exact hJ1 (i - 1) (by omega)
  rcases Nat.lt_or_ge k n with h | h
  · have ho : sX4_order (nI k) (128 : Int32) u1 x1 y1 = some (iz (pcmp (P k) p)) := ord_ok (i := k) (j := 128) (hP k h) hp (by omega) (by omega) (hJ1 k h) hq
    obtain ⟨z1, z2⟩ := pcmp_bd (hP k h) hp
    rw [if_neg (nI_ge h (by omega)), ob_s ho] at start
    by_cases he : pcmp (P k) p = 0
    · rw [if_neg (fun z => z ((iz0 (by omega) (by omega)).mpr he))] at start
      refine ⟨n, P, u1, x1, y1, start, by omega, hP, sP, hJ1, fun q => ⟨fun hh => Or.inl hh, fun hh => ?_⟩⟩
      rcases hh with hh | hh
      · exact hh
      · exact ⟨k, h, by rw [hh]; exact pcmp_eq (hP k h) hp he⟩
    · rw [if_pos (fun z => he ((iz0 (by omega) (by omega)).mp z))] at start
      have hlt : plt p (P k) := by
        rw [← pcmp_gt]
        have := k2 h
        unfold plt at this
        omega
      exact ⟨n + 1, insAt P k p, _, _, _, start.trans (put (Or.inl h) (fun _ => hlt)), Nat.le_refl _, insAt_ok hk hP hp, insAt_srt hk hP hp sP k1 (fun _ => hlt), fin (fun _ => hlt), insAt_set hk⟩
  · rw [if_pos (nI_le h (by omega))] at start
    exact ⟨n + 1, insAt P k p, _, _, _, start.trans (put (Or.inr (by omega)) (fun h2 => by omega)), Nat.le_refl _, insAt_ok hk hP hp, insAt_srt hk hP hp sP k1 (fun h2 => by omega), fin (fun h2 => by omega), insAt_set hk⟩
