/-! sides of pieces -/
theorem dtp_rel (L : Ln) (a b v : Pt3) : dtp a b v = rx L a * (ry L b * v.2.2 - ry L v * b.2.2) - ry L a * (rx L b * v.2.2 - rx L v * b.2.2) + a.2.2 * (rx L b * ry L v - rx L v * ry L b) := by unfold dtp rx ry; grind
theorem det_al {L : Ln} {a b v : Pt3} (ha : lnU L * ry L a = lnV L * rx L a) (hb : lnU L * ry L b = lnV L * rx L b) : lS L * dtp a b v = (a.2.2 * al L b - b.2.2 * al L a) * (lnU L * ry L v - lnV L * rx L v) := by
  rw [dtp_rel L]
  unfold lS al
  generalize rx L a = xa at *
  generalize ry L a = ya at *
  generalize rx L b = xb at *
  generalize ry L b = yb at *
  generalize rx L v = xv at *
  generalize ry L v = yv at *
  generalize lnU L = U at *
  generalize lnV L = V at *
  grind
theorem det_col {L : Ln} {a b v : Pt3} (hn : lnN L) (oa : pOK a) (ob : pOK b) (hab : plt a b) (ha : lnU L * ry L a = lnV L * rx L a) (hb : lnU L * ry L b = lnV L * rx L b) (h0 : dtp a b v = 0) : lnU L * ry L v = lnV L * rx L v := by
  have key := det_al (v := v) ha hb
  rw [h0, Int.mul_zero] at key
  rcases Int.mul_eq_zero.mp key.symm with z | z
  · exfalso
    have hS := lS_pos hn
    have ex : lS L * ((b.1 : Int) * a.2.2 - a.1 * b.2.2) = 0 := by
      have : lS L * ((b.1 : Int) * a.2.2 - a.1 * b.2.2) = lnU L * (a.2.2 * al L b - b.2.2 * al L a) := by
        unfold lS al; unfold rx ry at *; grind
      rw [this, z, Int.mul_zero]
    have ey : lS L * ((b.2.1 : Int) * a.2.2 - a.2.1 * b.2.2) = 0 := by
      have : lS L * ((b.2.1 : Int) * a.2.2 - a.2.1 * b.2.2) = lnV L * (a.2.2 * al L b - b.2.2 * al L a) := by
        unfold lS al; unfold rx ry at *; grind
      rw [this, z, Int.mul_zero]
    have ex' : (b.1 : Int) * a.2.2 - a.1 * b.2.2 = 0 := by
      rcases Int.mul_eq_zero.mp ex with q | q
      · omega
      · exact q
    have ey' : (b.2.1 : Int) * a.2.2 - a.2.1 * b.2.2 = 0 := by
      rcases Int.mul_eq_zero.mp ey with q | q
      · omega
      · exact q
    rw [plt_iff] at hab
    have f1 : (b.1 : Int) * a.2.2 = ((b.1 * a.2.2 : Nat) : Int) := by grind
    have f2 : (a.1 : Int) * b.2.2 = ((a.1 * b.2.2 : Nat) : Int) := by grind
    have f3 : (b.2.1 : Int) * a.2.2 = ((b.2.1 * a.2.2 : Nat) : Int) := by grind
    have f4 : (a.2.1 : Int) * b.2.2 = ((a.2.1 * b.2.2 : Nat) : Int) := by grind
    omega
  · omega
theorem pl_in {K : Nat → Ln} {N m : Nat} {Q : Nat → Pt3} (h : Mx K N m Q) {a b v : Nat} (hp : Pc (onK K Q) N m a b) (h1 : a < v) (h2 : v < b) : dtp (Q a) (Q b) (Q v) ≠ 0 := by
  intro h0
  obtain ⟨hN, hK, hQ, hS, hall⟩ := h
  obtain ⟨k, hk, a1, a2, a3, a4, a5⟩ := hp
  have oa := hQ a (by omega)
  have ob := hQ b (by omega)
  have ov := hQ v (by omega)
  have n := (hK k hk).2
  have col := det_col n oa ob (hS a b a1 a2) ((onb_al n oa.1).mp a3).1 ((onb_al n ob.1).mp a4).1 h0
  have := onb_btw oa.1 ob.1 ov.1 n a3 a4 col (hS a v h1 (by omega)) (hS v b h2 a2)
  have h9 := a5 v h1 h2
  unfold onK at h9
  rw [this] at h9
  cases h9
theorem cmb_eq {a b c d : Pt3} {s t s' t' : Int} (h1 : 0 < s) (h2 : 0 < t) (h3 : 0 < s') (h4 : 0 < t') (eX : s * (a.1 : Int) + t * b.1 = s' * c.1 + t' * d.1) (eY : s * (a.2.1 : Int) + t * b.2.1 = s' * c.2.1 + t' * d.2.1) (eD : s * (a.2.2 : Int) + t * b.2.2 = s' * c.2.2 + t' * d.2.2) : cmb s.toNat t.toNat a b = cmb s'.toNat t'.toNat c d := by
  have es : ((s.toNat : Nat) : Int) = s := Int.toNat_of_nonneg (by omega)
  have et : ((t.toNat : Nat) : Int) = t := Int.toNat_of_nonneg (by omega)
  have es' : ((s'.toNat : Nat) : Int) = s' := Int.toNat_of_nonneg (by omega)
  have et' : ((t'.toNat : Nat) : Int) = t' := Int.toNat_of_nonneg (by omega)
  unfold cmb
  have x : ((s.toNat * a.1 + t.toNat * b.1 : Nat) : Int) = ((s'.toNat * c.1 + t'.toNat * d.1 : Nat) : Int) := by
    rw [Int.natCast_add, Int.natCast_add, Int.natCast_mul, Int.natCast_mul, Int.natCast_mul, Int.natCast_mul, es, et, es', et']; exact eX
  have y : ((s.toNat * a.2.1 + t.toNat * b.2.1 : Nat) : Int) = ((s'.toNat * c.2.1 + t'.toNat * d.2.1 : Nat) : Int) := by
    rw [Int.natCast_add, Int.natCast_add, Int.natCast_mul, Int.natCast_mul, Int.natCast_mul, Int.natCast_mul, es, et, es', et']; exact eY
  have z : ((s.toNat * a.2.2 + t.toNat * b.2.2 : Nat) : Int) = ((s'.toNat * c.2.2 + t'.toNat * d.2.2 : Nat) : Int) := by
    rw [Int.natCast_add, Int.natCast_add, Int.natCast_mul, Int.natCast_mul, Int.natCast_mul, Int.natCast_mul, es, et, es', et']; exact eD
  rw [Int.ofNat.inj x, Int.ofNat.inj y, Int.ofNat.inj z]
theorem noX2 {K : Nat → Ln} {N m : Nat} {Q : Nat → Pt3} (h : Mx K N m Q) {a b c d : Nat} (h1 : Pc (onK K Q) N m a b) (h2 : Pc (onK K Q) N m c d) (hd : dtp (Q a) (Q b) (Q c) ≠ 0) : ¬ (0 < - dtp (Q b) (Q c) (Q d) ∧ 0 < dtp (Q a) (Q c) (Q d) ∧ 0 < dtp (Q a) (Q b) (Q d) ∧ 0 < - dtp (Q a) (Q b) (Q c)) ∧ ¬ (0 < dtp (Q b) (Q c) (Q d) ∧ 0 < - dtp (Q a) (Q c) (Q d) ∧ 0 < - dtp (Q a) (Q b) (Q d) ∧ 0 < dtp (Q a) (Q b) (Q c)) := by
  obtain ⟨k1, hk1, h1⟩ := h1
  obtain ⟨k2, hk2, h2⟩ := h2
  have gX := grX (Q a) (Q b) (Q c) (Q d)
  have gY := grY (Q a) (Q b) (Q c) (Q d)
  have gD := grD (Q a) (Q b) (Q c) (Q d)
  constructor
  · rintro ⟨x1, x2, x3, x4⟩
    exact noX h hk1 hk2 h1 h2 hd (by omega) (by omega) (by omega) (by omega) (cmb_eq x1 x2 x3 x4 (by rw [gX]; grind) (by rw [gY]; grind) (by rw [gD]; grind))
  · rintro ⟨x1, x2, x3, x4⟩
    exact noX h hk1 hk2 h1 h2 hd (by omega) (by omega) (by omega) (by omega) (cmb_eq x1 x2 x3 x4 (by grind) (by grind) (by grind))
theorem sgn_mul {x y : Int} (hy : 0 < y) : (0 < x * y ↔ 0 < x) ∧ (x * y < 0 ↔ x < 0) := by
  rcases Int.lt_trichotomy x 0 with h | h | h
  · have := Int.mul_neg_of_neg_of_pos h hy; omega
  · subst h; omega
  · have := Int.mul_pos h hy; omega
theorem hh_lt {m : Nat} {Q : Nat → Pt3} (hQ : ∀ i, i < m → pOK (Q i)) (hS : Srt m Q) {i j : Nat} (hij : i < j) (hj : j < m) : 0 < hh (Q i) (Q j) := (hh_pos (pB_of (hQ i (by omega))) (pB_of (hQ j hj))).mpr (hS i j hij hj)
/-- a piece between the ends of another lies on one side of it -/
theorem pl_n1 {K : Nat → Ln} {N m : Nat} {Q : Nat → Pt3} (h : Mx K N m Q) {a b c d : Nat} (h1 : Pc (onK K Q) N m a b) (h2 : Pc (onK K Q) N m c d) (o1 : a < c) (o2 : d < b) : (dtp (Q a) (Q b) (Q c) < 0 ↔ dtp (Q a) (Q b) (Q d) < 0) := by
  have l1 := Pc_lt h1
  have l2 := Pc_lt h2
  have nc := pl_in h h1 o1 (by omega)
  have nd := pl_in h h1 (v := d) (by omega) o2
  have nx := noX2 h h1 h2 nc
  have hQ := h.2.2.1
  have hS := h.2.2.2.1
  have ab := hh_lt hQ hS l1.1 l1.2
  have ac := hh_lt hQ hS o1 (by omega)
  have ad := hh_lt hQ hS (show a < d by omega) (by omega)
  have cb := hh_lt hQ hS (show c < b by omega) (by omega)
  have db := hh_lt hQ hS o2 (by omega)
  -- heights of the meeting point
  have k1 : dtp (Q a) (Q c) (Q d) * hh (Q a) (Q b) = dtp (Q a) (Q b) (Q d) * hh (Q a) (Q c) + (- dtp (Q a) (Q b) (Q c)) * hh (Q a) (Q d) := by have := hh3 (Q a) (Q b) (Q c) (Q d); grind
  have k2 : (- dtp (Q b) (Q c) (Q d)) * hh (Q a) (Q b) = dtp (Q a) (Q b) (Q d) * hh (Q c) (Q b) + (- dtp (Q a) (Q b) (Q c)) * hh (Q d) (Q b) := by
    have h3 := hh3 (Q b) (Q a) (Q c) (Q d)
    rw [hh_neg (Q a) (Q b), hh_neg (Q c) (Q b), hh_neg (Q d) (Q b), dtp_sw (Q a) (Q b) (Q c), dtp_sw (Q a) (Q b) (Q d)] at h3
    grind
  generalize dtp (Q a) (Q c) (Q d) = B at *
  generalize dtp (Q b) (Q c) (Q d) = A at *
  generalize dtp (Q a) (Q b) (Q c) = C at *
  generalize dtp (Q a) (Q b) (Q d) = E at *
  have s1 := sgn_mul (x := B) ab
  have s2 := sgn_mul (x := -A) ab
  rcases Int.lt_or_gt_of_ne nc with q1 | q1 <;> rcases Int.lt_or_gt_of_ne nd with q2 | q2
  · omega
  · exfalso
    have t1 := Int.mul_pos q2 ac
    have t2 := Int.mul_pos (show 0 < -C by omega) ad
    have t3 := Int.mul_pos q2 cb
    have t4 := Int.mul_pos (show 0 < -C by omega) db
    exact nx.1 ⟨by omega, by omega, by omega, by omega⟩
  · exfalso
    have t1 := Int.mul_neg_of_neg_of_pos q2 ac
    have t2 := Int.mul_neg_of_neg_of_pos (show -C < 0 by omega) ad
    have t3 := Int.mul_neg_of_neg_of_pos q2 cb
    have t4 := Int.mul_neg_of_neg_of_pos (show -C < 0 by omega) db
    exact nx.2 ⟨by omega, by omega, by omega, by omega⟩
  · omega
/-- two pieces, each with an end between the other's -/
theorem pl_n2 {K : Nat → Ln} {N m : Nat} {Q : Nat → Pt3} (h : Mx K N m Q) {a b c d : Nat} (h1 : Pc (onK K Q) N m a b) (h2 : Pc (onK K Q) N m c d) (o1 : a < c) (o2 : c < b) (o3 : b < d) : (dtp (Q a) (Q b) (Q c) < 0 ↔ 0 < dtp (Q c) (Q d) (Q b)) := by
  have l1 := Pc_lt h1
  have l2 := Pc_lt h2
  have nc := pl_in h h1 o1 o2
  have nb := pl_in h h2 (v := b) o2 o3
  have nx := noX2 h h1 h2 nc
  have hQ := h.2.2.1
  have hS := h.2.2.2.1
  have cb := hh_lt hQ hS o2 (by omega)
  have cd := hh_lt hQ hS l2.1 (by omega)
  have ac := hh_lt hQ hS o1 (by omega)
  have ab := hh_lt hQ hS l1.1 (by omega)
  have bd := hh_lt hQ hS o3 (by omega)
  have k1 : dtp (Q a) (Q c) (Q d) * hh (Q c) (Q b) = (- dtp (Q a) (Q b) (Q c)) * hh (Q c) (Q d) + (- dtp (Q b) (Q c) (Q d)) * hh (Q a) (Q c) := by
    have h3 := hh3 (Q c) (Q a) (Q b) (Q d)
    rw [hh_neg (Q a) (Q c), ← dtp_cyc (Q c) (Q b) (Q d), dtp_sw2 (Q b) (Q c) (Q d)] at h3
    have e1 : dtp (Q c) (Q a) (Q d) = - dtp (Q a) (Q c) (Q d) := dtp_sw _ _ _
    have e2 : dtp (Q c) (Q a) (Q b) = dtp (Q a) (Q b) (Q c) := by rw [← dtp_cyc, ← dtp_cyc]
    have e3 : dtp (Q b) (Q d) (Q c) = - dtp (Q b) (Q c) (Q d) := dtp_sw2 _ _ _
    grind
  have k2 : dtp (Q a) (Q b) (Q d) * hh (Q c) (Q b) = (- dtp (Q b) (Q c) (Q d)) * hh (Q a) (Q b) + (- dtp (Q a) (Q b) (Q c)) * hh (Q b) (Q d) := by
    have h3 := hh3 (Q b) (Q a) (Q c) (Q d)
    rw [hh_neg (Q a) (Q b), hh_neg (Q c) (Q b), dtp_sw (Q a) (Q b) (Q c), dtp_sw (Q a) (Q b) (Q d)] at h3
    grind
  have e : dtp (Q c) (Q d) (Q b) = dtp (Q b) (Q c) (Q d) := dtp_cyc _ _ _
  rw [e] at nb ⊢
  generalize dtp (Q a) (Q c) (Q d) = B at *
  generalize dtp (Q b) (Q c) (Q d) = A at *
  generalize dtp (Q a) (Q b) (Q c) = C at *
  generalize dtp (Q a) (Q b) (Q d) = E at *
  have s1 := sgn_mul (x := B) cb
  have s2 := sgn_mul (x := E) cb
  rcases Int.lt_or_gt_of_ne nc with q1 | q1 <;> rcases Int.lt_or_gt_of_ne nb with q2 | q2
  · exfalso
    have t1 := Int.mul_pos (show 0 < -C by omega) cd
    have t2 := Int.mul_pos (show 0 < -A by omega) ac
    have t3 := Int.mul_pos (show 0 < -A by omega) ab
    have t4 := Int.mul_pos (show 0 < -C by omega) bd
    exact nx.1 ⟨by omega, by omega, by omega, by omega⟩
  · omega
  · omega
  · exfalso
    have t1 := Int.mul_neg_of_neg_of_pos (show -C < 0 by omega) cd
    have t2 := Int.mul_neg_of_neg_of_pos (show -A < 0 by omega) ac
    have t3 := Int.mul_neg_of_neg_of_pos (show -A < 0 by omega) ab
    have t4 := Int.mul_neg_of_neg_of_pos (show -C < 0 by omega) bd
    exact nx.2 ⟨by omega, by omega, by omega, by omega⟩
