/-! which piece comes next round a joint -/
def sg (z : Int) : Int := if z < 0 then -1 else if z = 0 then 0 else 1
theorem sg_cases (z : Int) : (z < 0 ∧ sg z = -1) ∨ (z = 0 ∧ sg z = 0) ∨ (0 < z ∧ sg z = 1) := by
  unfold sg
  rcases Int.lt_trichotomy z 0 with h | h | h
  · rw [if_pos h]; exact Or.inl ⟨h, rfl⟩
  · rw [if_neg (by omega), if_pos h]; exact Or.inr (Or.inl ⟨h, rfl⟩)
  · rw [if_neg (by omega), if_neg (by omega)]; exact Or.inr (Or.inr ⟨h, rfl⟩)
theorem lz_nat (y : Int) : (lz y).toBitVec.toNat = (y % 18446744073709551616).toNat := by
  show (BitVec.ofInt 64 y).toNat = _
  rw [BitVec.toNat_ofInt]
  rfl
theorem sgn_ok {z : Int} (h1 : -4611686018427387904 < z) (h2 : z < 4611686018427387904) : sJ13_signum_95d88 (lz z) = some (iz (sg z)) := by
  have s1 : (lz z >>> ((63 : Int32).toInt64 &&& 63)) = lz (if z < 0 then -1 else 0) := by
    apply Int64.toInt_inj.mp
    have e : (((63 : Int32).toInt64 &&& 63).toBitVec.smod 64).toNat = 63 := by decide
    show ((lz z).toBitVec.sshiftRight (((63 : Int32).toInt64 &&& 63).toBitVec.smod 64).toNat).toInt = _
    rw [e, BitVec.toInt_sshiftRight]
    show (lz z).toInt >>> 63 = _
    rw [lz_toInt (by omega) (by omega), Int.shiftRight_eq_div_pow, lz_toInt (by split <;> omega) (by split <;> omega)]
    split <;> omega
  have s2 : (((-(lz z)).toUInt64 >>> ((63 : Int32).toInt64.toUInt64 &&& Int64.toUInt64 63)).toInt64) = lz (if 0 < z then 1 else 0) := by
    apply Int64.toBitVec_inj.mp
    apply BitVec.eq_of_toNat_eq
    have e : ((63 : Int32).toInt64.toUInt64 &&& Int64.toUInt64 63).toNat % 64 = 63 := by decide
    show ((-(lz z)).toUInt64 >>> ((63 : Int32).toInt64.toUInt64 &&& Int64.toUInt64 63)).toNat = _
    rw [UInt64.toNat_shiftRight, e, Nat.shiftRight_eq_div_pow, lz_neg]
    show (lz (-z)).toBitVec.toNat / 2 ^ 63 = _
    rw [lz_nat, lz_nat]
    split <;> omega
  unfold sJ13_signum_95d88
  rw [s1, s2]
  rcases sg_cases z with ⟨a, b⟩ | ⟨a, b⟩ | ⟨a, b⟩
  · rw [b, if_pos a, if_neg (by omega)]; decide
  · rw [b, if_neg (by omega), if_neg (by omega)]; decide
  · rw [b, if_neg (by omega), if_pos a]; decide
theorem mbd {a b A B : Nat} (ha : a ≤ A) (hb : b ≤ B) : a * b ≤ A * B := Nat.mul_le_mul ha hb
theorem dtp_bd {p q r : Pt3} (hp : pB p) (hq : pB q) (hr : pB r) : -1000000000000 < dtp p q r ∧ dtp p q r < 1000000000000 := by
  obtain ⟨p1, p2, p3, p4⟩ := hp
  obtain ⟨q1, q2, q3, q4⟩ := hq
  obtain ⟨r1, r2, r3, r4⟩ := hr
  have b1 := mbd (show q.2.1 ≤ 3456 by omega) (show r.2.2 ≤ 3456 by omega)
  have b2 := mbd (show r.2.1 ≤ 3456 by omega) (show q.2.2 ≤ 3456 by omega)
  have b3 := mbd (show q.1 ≤ 3456 by omega) (show r.2.2 ≤ 3456 by omega)
  have b4 := mbd (show r.1 ≤ 3456 by omega) (show q.2.2 ≤ 3456 by omega)
  have b5 := mbd (show q.1 ≤ 3456 by omega) (show r.2.1 ≤ 3456 by omega)
  have b6 := mbd (show r.1 ≤ 3456 by omega) (show q.2.1 ≤ 3456 by omega)
  have c1 := mul_bd (A := 3456) (B := 12000000) (a := (p.1 : Int)) (b := ((q.2.1 * r.2.2 : Nat) : Int) - ((r.2.1 * q.2.2 : Nat) : Int)) (by omega) (by omega) (by omega) (by omega) (by omega) (by omega)
  have c2 := mul_bd (A := 3456) (B := 12000000) (a := (p.2.1 : Int)) (b := ((q.1 * r.2.2 : Nat) : Int) - ((r.1 * q.2.2 : Nat) : Int)) (by omega) (by omega) (by omega) (by omega) (by omega) (by omega)
  have c3 := mul_bd (A := 3456) (B := 12000000) (a := (p.2.2 : Int)) (b := ((q.1 * r.2.1 : Nat) : Int) - ((r.1 * q.2.1 : Nat) : Int)) (by omega) (by omega) (by omega) (by omega) (by omega) (by omega)
  rw [Int.natCast_mul, Int.natCast_mul] at c1 c2 c3
  unfold dtp
  omega
theorem side_ok {p q r : Pt3} (hp : pB p) (hq : pB q) (hr : pB r) {i j k : Nat} (hi : i < 129) (hj : j < 129) (hk : k < 129) {u x y : Nat → Int32} (a : At3 u x y i p) (b : At3 u x y j q) (c : At3 u x y k r) : sX4_side (nI i) (nI j) (nI k) u x y = some (lz (dtp p q r)) := by
  obtain ⟨a1, a2, a3⟩ := a
  obtain ⟨b1, b2, b3⟩ := b
  obtain ⟨c1, c2, c3⟩ := c
  obtain ⟨p1, p2, p3, p4⟩ := hp
  obtain ⟨q1, q2, q3, q4⟩ := hq
  obtain ⟨r1, r2, r3, r4⟩ := hr
  have e : ∀ s t s' t' : Nat, s ≤ 3456 → t ≤ 3456 → s' ≤ 3456 → t' ≤ 3456 → (nI s * nI t - nI s' * nI t').toInt64 = lz ((s : Int) * t - s' * t') := by
    intro s t s' t' h1 h2 h3 h4
    have m1 := mbd h1 h2
    have m2 := mbd h3 h4
    rw [pk_mul, pk_mul, nsub, iz_l (by omega) (by omega), Int.natCast_mul, Int.natCast_mul]
  simp (disch := omega) only [sX4_side, nI_lt0, nI_clampS, false_or, gd_s, a1, a2, a3, b1, b2, b3, c1, c2, c3]
  rw [e _ _ _ _ (by omega) (by omega) (by omega) (by omega), e _ _ _ _ (by omega) (by omega) (by omega) (by omega), e _ _ _ _ (by omega) (by omega) (by omega) (by omega), nI_l (by omega), nI_l (by omega), nI_l (by omega), ← lz_n, ← lz_n, ← lz_n, lz_mul, lz_mul, lz_mul, lz_sub, lz_add]
  rfl
/-- s comes sooner than t, turned clockwise round y from x -/
def soonB (p q s t : Pt3) : Bool := decide (sg (dtp p q s) < sg (dtp p q t) ∨ (sg (dtp p q s) = sg (dtp p q t) ∧ dtp p s t < 0))
theorem sg_bd (z : Int) : -1 ≤ sg z ∧ sg z ≤ 1 := by rcases sg_cases z with h | h | h <;> omega
theorem lz_ge0 {z : Int} (h1 : -1000000000000 < z) (h2 : z < 1000000000000) : (0 ≤ lg_cmp (lz z) (0 : Int64)) ↔ 0 ≤ z := by
  have h := lg_cmp_lt (lz z) 0
  rw [show (0 : Int64) = lz 0 from rfl] at *
  rw [lz_lt (by omega) (by omega) (by omega) (by omega)] at h
  constructor
  · intro q
    rcases Int.lt_or_le z 0 with w | w
    · have := h.mpr w
      exact absurd this (Int32.not_lt.mpr q)
    · exact w
  · intro q
    exact Int32.not_lt.mp (fun w => by have := h.mp w; omega)
theorem soonX_ok {n : Nat} (hn : n ≤ 768) {F T : Nat → Nat} {fr to : Nat → Int32} (hf : hN n fr F) (ht : hN n to T) {Q : Nat → Pt3} {u x y : Nat → Int32} {m : Nat} (hm : m ≤ 128) (hQ : ∀ i, i < m → pOK (Q i)) (hJ : JR m Q u x y) {b s t : Nat} (hb : b < n) (hs : s < n) (htn : t < n) (hF : ∀ k, k < n → F k < m ∧ T k < m) (e1 : F s = F b) : sX8_comesSooner (nI b) (nI s) (nI t) fr u x y to = some (bI (soonB (Q (F b)) (Q (T b)) (Q (T s)) (Q (T t)))) := by
  obtain ⟨b1, b2⟩ := hF b hb
  obtain ⟨s1, s2⟩ := hF s hs
  obtain ⟨t1, t2⟩ := hF t htn
  have o1 := pB_of (hQ _ b1)
  have o2 := pB_of (hQ _ b2)
  have o3 := pB_of (hQ _ s2)
  have o4 := pB_of (hQ _ t2)
  have d1 := side_ok o1 o2 o3 (show F b < 129 by omega) (show T b < 129 by omega) (show T s < 129 by omega) (hJ _ b1) (hJ _ b2) (hJ _ s2)
  have d2 := side_ok o1 o2 o4 (show F b < 129 by omega) (show T b < 129 by omega) (show T t < 129 by omega) (hJ _ b1) (hJ _ b2) (hJ _ t2)
  have d3 := side_ok o1 o3 o4 (show F b < 129 by omega) (show T s < 129 by omega) (show T t < 129 by omega) (hJ _ b1) (hJ _ s2) (hJ _ t2)
  have w1 := dtp_bd o1 o2 o3
  have w2 := dtp_bd o1 o2 o4
  have w3 := dtp_bd o1 o3 o4
  have g1 := sgn_ok (z := dtp (Q (F b)) (Q (T b)) (Q (T s))) (by omega) (by omega)
  have g2 := sgn_ok (z := dtp (Q (F b)) (Q (T b)) (Q (T t))) (by omega) (by omega)
  have v1 := sg_bd (dtp (Q (F b)) (Q (T b)) (Q (T s)))
  have v2 := sg_bd (dtp (Q (F b)) (Q (T b)) (Q (T t)))
  simp (disch := omega) only [sX8_comesSooner, nI_lt0, nI_clampS, false_or, gd_s, hf b hb, ht b hb, ht s hs, ht t htn, hf s hs, e1, d1, d2, d3, ob, dm1, g1, g2]
  have q1 := iz_eq (a := sg (dtp (Q (F b)) (Q (T b)) (Q (T s)))) (b := sg (dtp (Q (F b)) (Q (T b)) (Q (T t)))) (by omega) (by omega) (by omega) (by omega)
  have q2 := iz_le (a := sg (dtp (Q (F b)) (Q (T b)) (Q (T t)))) (b := sg (dtp (Q (F b)) (Q (T b)) (Q (T s)))) (by omega) (by omega) (by omega) (by omega)
  have q3 := lz_ge0 w3.1 w3.2
  simp only [q1, q2, q3]
  unfold soonB
  by_cases h1 : sg (dtp (Q (F b)) (Q (T b)) (Q (T s))) = sg (dtp (Q (F b)) (Q (T b)) (Q (T t)))
  · rw [if_pos h1]
    by_cases h2 : 0 ≤ dtp (Q (F b)) (Q (T s)) (Q (T t))
    · rw [if_pos h2, decide_eq_false (by omega)]; rfl
    · rw [if_neg h2, decide_eq_true (by omega)]; rfl
  · rw [if_neg h1]
    by_cases h2 : sg (dtp (Q (F b)) (Q (T b)) (Q (T t))) ≤ sg (dtp (Q (F b)) (Q (T b)) (Q (T s)))
    · rw [if_pos h2, decide_eq_false (by omega)]; rfl
    · rw [if_neg h2, decide_eq_true (by omega)]; rfl
/-- the order round a joint -/
theorem pluck (y x s t u : Pt3) : dtp y x t * dtp y s u = dtp y x s * dtp y t u + dtp y x u * dtp y s t := by unfold dtp; grind
def nbOK (Q : Nat → Pt3) (y : Nat) (nb : Nat → Prop) : Prop := ∀ u v, nb u → nb v → u ≠ v → u ≠ y ∧ (y < u → 0 < hh (Q y) (Q u)) ∧ (u < y → hh (Q y) (Q u) < 0) ∧ ((y < u ↔ y < v) → dtp (Q y) (Q u) (Q v) ≠ 0)
theorem soon_tot {Q : Nat → Pt3} {y : Nat} {nb : Nat → Prop} (h : nbOK Q y nb) {x s t : Nat} (nx : nb x) (ns : nb s) (nt : nb t) (h1 : s ≠ x) (h2 : t ≠ x) (h3 : s ≠ t) : soonB (Q y) (Q x) (Q s) (Q t) = true ∨ soonB (Q y) (Q x) (Q t) (Q s) = true := by
  have a1 := h s t ns nt h3
  have a2 := h t s nt ns (Ne.symm h3)
  have a3 := h x s nx ns (Ne.symm h1)
  have a4 := h x t nx nt (Ne.symm h2)
  have k := hh3 (Q y) (Q x) (Q s) (Q t)
  have sw := dtp_sw2 (Q y) (Q s) (Q t)
  unfold soonB
  simp only [decide_eq_true_eq]
  by_cases e : sg (dtp (Q y) (Q x) (Q s)) = sg (dtp (Q y) (Q x) (Q t))
  · by_cases z : dtp (Q y) (Q s) (Q t) = 0
    · exfalso
      have ud : ¬ (y < s ↔ y < t) := fun w => a1.2.2.2 w z
      rw [z, Int.mul_zero] at k
      have hs : (y < s ∧ t < y) ∨ (s < y ∧ y < t) := by
        have := a1.1
        have := a2.1
        omega
      have both : dtp (Q y) (Q x) (Q s) = 0 ∧ dtp (Q y) (Q x) (Q t) = 0 := by
        rcases hs with ⟨w1, w2⟩ | ⟨w1, w2⟩
        · have p1 := a1.2.1 w1
          have p2 := a2.2.2.1 w2
          rcases sg_cases (dtp (Q y) (Q x) (Q s)) with ⟨c, d⟩ | ⟨c, d⟩ | ⟨c, d⟩ <;> rcases sg_cases (dtp (Q y) (Q x) (Q t)) with ⟨c', d'⟩ | ⟨c', d'⟩ | ⟨c', d'⟩
          · have r1 := Int.mul_neg_of_pos_of_neg p1 c'
            have r2 := Int.mul_pos_of_neg_of_neg p2 c
            omega
          · omega
          · omega
          · omega
          · exact ⟨c, c'⟩
          · omega
          · omega
          · omega
          · have r1 := Int.mul_pos p1 c'
            have r2 := Int.mul_neg_of_neg_of_pos p2 c
            omega
        · have p1 := a1.2.2.1 w1
          have p2 := a2.2.1 w2
          rcases sg_cases (dtp (Q y) (Q x) (Q s)) with ⟨c, d⟩ | ⟨c, d⟩ | ⟨c, d⟩ <;> rcases sg_cases (dtp (Q y) (Q x) (Q t)) with ⟨c', d'⟩ | ⟨c', d'⟩ | ⟨c', d'⟩
          · have r1 := Int.mul_pos_of_neg_of_neg p1 c'
            have r2 := Int.mul_neg_of_pos_of_neg p2 c
            omega
          · omega
          · omega
          · omega
          · exact ⟨c, c'⟩
          · omega
          · omega
          · omega
          · have r1 := Int.mul_neg_of_neg_of_pos p1 c'
            have r2 := Int.mul_pos p2 c
            omega
      have xne := a3.1
      by_cases xs : (y < x ↔ y < s)
      · exact a3.2.2.2 xs both.1
      · exact a4.2.2.2 (by omega) both.2
    · omega
  · omega
theorem soon_asy {p q s t : Pt3} (h1 : soonB p q s t = true) (h2 : soonB p q t s = true) : False := by
  unfold soonB at h1 h2
  simp only [decide_eq_true_eq] at h1 h2
  have sw := dtp_sw2 p s t
  omega
theorem soon_tr {Q : Nat → Pt3} {y : Nat} {nb : Nat → Prop} (h : nbOK Q y nb) {x s t u : Nat} (nx : nb x) (ns : nb s) (nt : nb t) (nu : nb u) (h1 : s ≠ x) (h2 : t ≠ x) (h3 : u ≠ x) (e1 : soonB (Q y) (Q x) (Q s) (Q t) = true) (e2 : soonB (Q y) (Q x) (Q t) (Q u) = true) : soonB (Q y) (Q x) (Q s) (Q u) = true := by
  unfold soonB at e1 e2 ⊢
  simp only [decide_eq_true_eq] at e1 e2 ⊢
  by_cases c : sg (dtp (Q y) (Q x) (Q s)) = sg (dtp (Q y) (Q x) (Q t)) ∧ sg (dtp (Q y) (Q x) (Q t)) = sg (dtp (Q y) (Q x) (Q u))
  · obtain ⟨c1, c2⟩ := c
    have d1 : dtp (Q y) (Q s) (Q t) < 0 := by omega
    have d2 : dtp (Q y) (Q t) (Q u) < 0 := by omega
    right
    refine ⟨by omega, ?_⟩
    have k := pluck (Q y) (Q x) (Q s) (Q t) (Q u)
    rcases sg_cases (dtp (Q y) (Q x) (Q t)) with ⟨w, w'⟩ | ⟨w, w'⟩ | ⟨w, w'⟩
    · have w1 : dtp (Q y) (Q x) (Q s) < 0 := by rcases sg_cases (dtp (Q y) (Q x) (Q s)) with z | z | z <;> omega
      have w2 : dtp (Q y) (Q x) (Q u) < 0 := by rcases sg_cases (dtp (Q y) (Q x) (Q u)) with z | z | z <;> omega
      have r1 := Int.mul_pos_of_neg_of_neg w1 d2
      have r2 := Int.mul_pos_of_neg_of_neg w2 d1
      rcases Int.lt_or_le (dtp (Q y) (Q s) (Q u)) 0 with z | z
      · exact z
      · have := Int.mul_nonpos_of_nonpos_of_nonneg (show dtp (Q y) (Q x) (Q t) ≤ 0 by omega) z
        omega
    · exfalso
      -- three on one carrier
      have w1 : dtp (Q y) (Q x) (Q s) = 0 := by rcases sg_cases (dtp (Q y) (Q x) (Q s)) with z | z | z <;> omega
      have st : s ≠ t := fun z => by subst z; have : dtp (Q y) (Q s) (Q s) = 0 := by unfold dtp; grind
                                     omega
      have a3 := h x s nx ns (Ne.symm h1)
      have a4 := h x t nx nt (Ne.symm h2)
      have a5 := h s t ns nt st
      have a6 := h t s nt ns (Ne.symm st)
      have z1 : ¬ (y < x ↔ y < s) := fun z => a3.2.2.2 z w1
      have z2 : ¬ (y < x ↔ y < t) := fun z => a4.2.2.2 z w
      have k2 := hh3 (Q y) (Q x) (Q s) (Q t)
      rw [w, w1] at k2
      have xx : hh (Q y) (Q x) ≠ 0 := by
        have := a3.1
        rcases Nat.lt_or_gt_of_ne this with z | z
        · have := a3.2.2.1 z; omega
        · have := a3.2.1 z; omega
      have := Int.mul_ne_zero xx (show dtp (Q y) (Q s) (Q t) ≠ 0 by omega)
      omega
    · have w1 : 0 < dtp (Q y) (Q x) (Q s) := by rcases sg_cases (dtp (Q y) (Q x) (Q s)) with z | z | z <;> omega
      have w2 : 0 < dtp (Q y) (Q x) (Q u) := by rcases sg_cases (dtp (Q y) (Q x) (Q u)) with z | z | z <;> omega
      have r1 := Int.mul_neg_of_pos_of_neg w1 d2
      have r2 := Int.mul_neg_of_pos_of_neg w2 d1
      rcases Int.lt_or_le (dtp (Q y) (Q s) (Q u)) 0 with z | z
      · exact z
      · have := Int.mul_nonneg (show 0 ≤ dtp (Q y) (Q x) (Q t) by omega) z
        omega
  · omega
