/-! lines and joints: what is on what -/
def rx (L : Ln) (p : Pt3) : Int := (p.1 : Int) - L.1 * p.2.2
def ry (L : Ln) (p : Pt3) : Int := (p.2.1 : Int) - L.2.1 * p.2.2
def al (L : Ln) (p : Pt3) : Int := rx L p * lnU L + ry L p * lnV L
def lS (L : Ln) : Int := lnU L * lnU L + lnV L * lnV L
theorem lS_pos {L : Ln} (hn : lnN L) : 0 < lS L := by
  unfold lS
  have h1 := sq_nn (lnU L)
  have h2 := sq_nn (lnV L)
  rcases hn with h | h
  · have h3 : lnU L * lnU L ≠ 0 := by intro z; rcases Int.mul_eq_zero.mp z with z | z <;> exact h z
    omega
  · have h3 : lnV L * lnV L ≠ 0 := by intro z; rcases Int.mul_eq_zero.mp z with z | z <;> exact h z
    omega
theorem onb_al {L : Ln} {p : Pt3} (hn : lnN L) (hp : 0 < p.2.2) : onb L p = true ↔ (lnU L * ry L p = lnV L * rx L p ∧ 0 ≤ al L p ∧ al L p ≤ lS L * p.2.2) := by
  unfold onb
  rw [decide_eq_true_iff]
  constructor
  · rintro ⟨h1, h2, h3⟩
    have hc : rx L p * lnV L = ry L p * lnU L := by unfold rx ry; rw [Int.mul_comm _ (lnV L), Int.mul_comm _ (lnU L)]; exact h1.symm
    exact ⟨h1, (on_alg (by omega) hn hc).mpr ⟨nmin_bd.mp h2, nmin_bd.mp h3⟩⟩
  · rintro ⟨h1, h2⟩
    have hc : rx L p * lnV L = ry L p * lnU L := by rw [Int.mul_comm _ (lnV L), Int.mul_comm _ (lnU L)]; exact h1.symm
    have h3 := (on_alg (by omega) hn hc).mp h2
    exact ⟨h1, nmin_bd.mpr h3.1, nmin_bd.mpr h3.2⟩
theorem onb_A (L : Ln) : onb L (L.1, L.2.1, 1) = true := by
  unfold onb
  rw [decide_eq_true_iff]
  refine ⟨by dsimp only; grind, ?_, ?_⟩ <;> dsimp only <;> omega
theorem onb_B (L : Ln) : onb L (L.2.2.1, L.2.2.2, 1) = true := by
  unfold onb lnU lnV
  rw [decide_eq_true_iff]
  refine ⟨by dsimp only; grind, ?_, ?_⟩ <;> dsimp only <;> omega
theorem le_scale {g a b : Nat} (hg : 0 < g) : g * a ≤ g * b ↔ a ≤ b := Nat.mul_le_mul_left_iff hg
theorem onb_sc {L : Ln} {g x y d : Nat} (hg : 0 < g) (hn : lnN L) (hd : 0 < d) : onb L (g * x, g * y, g * d) = true ↔ onb L (x, y, d) = true := by
  have hg' : (0 : Int) < g := by omega
  rw [onb_al hn (show 0 < ((g * x, g * y, g * d) : Pt3).2.2 from Nat.mul_pos hg hd), onb_al hn (show 0 < ((x, y, d) : Pt3).2.2 from hd)]
  have e1 : rx L (g * x, g * y, g * d) = g * rx L (x, y, d) := by unfold rx; dsimp only; grind
  have e2 : ry L (g * x, g * y, g * d) = g * ry L (x, y, d) := by unfold ry; dsimp only; grind
  have e3 : al L (g * x, g * y, g * d) = g * al L (x, y, d) := by unfold al; rw [e1, e2]; grind
  have e4 : lS L * ((g * x, g * y, g * d) : Pt3).2.2 = g * (lS L * ((x, y, d) : Pt3).2.2) := by dsimp only; grind
  rw [e1, e2, e3, e4]
  constructor
  · rintro ⟨h1, h2, h3⟩
    refine ⟨?_, ?_, ?_⟩
    · have : (g : Int) * (lnU L * ry L (x, y, d)) = g * (lnV L * rx L (x, y, d)) := by grind
      exact Int.eq_of_mul_eq_mul_left (by omega) this
    · exact Int.nonneg_of_mul_nonneg_right h2 hg'
    · exact Int.le_of_mul_le_mul_left h3 hg'
  · rintro ⟨h1, h2, h3⟩
    refine ⟨by grind, Int.mul_nonneg (by omega) h2, Int.mul_le_mul_of_nonneg_left h3 (by omega)⟩
theorem redu_sc {a b c : Nat} (hc : 0 < c) : ∃ g, 0 < g ∧ a = g * (redu a b c).1 ∧ b = g * (redu a b c).2.1 ∧ c = g * (redu a b c).2.2 ∧ 0 < (redu a b c).2.2 := by
  have hg : 0 < Nat.gcd (Nat.gcd a b) c := Nat.gcd_pos_of_pos_right _ hc
  have da : Nat.gcd (Nat.gcd a b) c ∣ a := Nat.dvd_trans (Nat.gcd_dvd_left _ _) (Nat.gcd_dvd_left _ _)
  have db : Nat.gcd (Nat.gcd a b) c ∣ b := Nat.dvd_trans (Nat.gcd_dvd_left _ _) (Nat.gcd_dvd_right _ _)
  have dc : Nat.gcd (Nat.gcd a b) c ∣ c := Nat.gcd_dvd_right _ _
  refine ⟨Nat.gcd (Nat.gcd a b) c, hg, (Nat.mul_div_cancel' da).symm, (Nat.mul_div_cancel' db).symm, (Nat.mul_div_cancel' dc).symm, Nat.div_pos (Nat.le_of_dvd hc dc) hg⟩
theorem onb_redu {L : Ln} {a b c : Nat} (hn : lnN L) (hc : 0 < c) : onb L (redu a b c) = true ↔ onb L (a, b, c) = true := by
  obtain ⟨g, g0, e1, e2, e3, h⟩ := redu_sc (a := a) (b := b) hc
  generalize redu a b c = r at *
  obtain ⟨x, y, d⟩ := r
  dsimp only at e1 e2 e3 h
  rw [e1, e2, e3]
  exact (onb_sc g0 hn h).symm
theorem onb_crP {L M : Ln} (hL : lnOK L) (hn : lnN L) (h : crs L M) : onb L (crP L M) = true := by
  have hW := cSW_pos h.1
  have h1 := crX_bd hL h
  have h2 := crY_bd hL h
  have eW : ((cS L M * cW L M).toNat : Int) = cS L M * cW L M := Int.toNat_of_nonneg (by omega)
  have eX : ((crX L M).toNat : Int) = crX L M := Int.toNat_of_nonneg h1.1
  have eY : ((crY L M).toNat : Int) = crY L M := Int.toNat_of_nonneg h2.1
  unfold crP
  rw [onb_redu hn (by omega), onb_al hn (show 0 < (((crX L M).toNat, (crY L M).toNat, (cS L M * cW L M).toNat) : Pt3).2.2 by dsimp only; omega)]
  have e1 : rx L ((crX L M).toNat, (crY L M).toNat, (cS L M * cW L M).toNat) = cS L M * cA L M * lnU L := by
    unfold rx; dsimp only; rw [eX, eW]; unfold crX; grind
  have e2 : ry L ((crX L M).toNat, (crY L M).toNat, (cS L M * cW L M).toNat) = cS L M * cA L M * lnV L := by
    unfold ry; dsimp only; rw [eY, eW]; unfold crY; grind
  have e3 : al L ((crX L M).toNat, (crY L M).toNat, (cS L M * cW L M).toNat) = cS L M * cA L M * lS L := by
    unfold al lS; rw [e1, e2]; grind
  rw [e1, e2, e3]
  dsimp only
  rw [eW]
  have hS := lS_pos hn
  refine ⟨by grind, Int.mul_nonneg h.2.1 (by omega), ?_⟩
  have := Int.mul_le_mul_of_nonneg_right h.2.2.1 (show 0 ≤ lS L by omega)
  grind
/-- two lines that aren't parallel have one point -/
theorem onb_one {L M : Ln} {p q : Pt3} (hp : pOK p) (hq : pOK q) (nL : lnN L) (nM : lnN M) (hW : cW L M ≠ 0) (h1 : onb L p = true) (h2 : onb M p = true) (h3 : onb L q = true) (h4 : onb M q = true) : p = q := by
  have a1 := ((onb_al nL hp.1).mp h1).1
  have a2 := ((onb_al nM hp.1).mp h2).1
  have a3 := ((onb_al nL hq.1).mp h3).1
  have a4 := ((onb_al nM hq.1).mp h4).1
  apply pcmp_eq hp hq
  have p0 := hp.1
  have q0 := hq.1
  unfold rx ry at a1 a2 a3 a4
  have ex : cW L M * ((p.1 : Int) * q.2.2 - q.1 * p.2.2) = 0 := by unfold cW; grind
  have ey : cW L M * ((p.2.1 : Int) * q.2.2 - q.2.1 * p.2.2) = 0 := by unfold cW; grind
  have ex' : (p.1 : Int) * q.2.2 - q.1 * p.2.2 = 0 := by
    rcases Int.mul_eq_zero.mp ex with z | z
    · exact absurd z hW
    · exact z
  have ey' : (p.2.1 : Int) * q.2.2 - q.2.1 * p.2.2 = 0 := by
    rcases Int.mul_eq_zero.mp ey with z | z
    · exact absurd z hW
    · exact z
  unfold pcmp pY pX
  rw [Int.natCast_mul, Int.natCast_mul, Int.natCast_mul, Int.natCast_mul, ex', ey']
  rfl
theorem cW_par {K A B : Ln} (hn : lnN K) (h1 : cW K A = 0) (h2 : cW K B = 0) : cW A B = 0 := by
  unfold cW at *
  have e1 : lnU K * (lnU A * lnV B - lnV A * lnU B) = 0 := by grind
  have e2 : lnV K * (lnU A * lnV B - lnV A * lnU B) = 0 := by grind
  rcases hn with h | h
  · rcases Int.mul_eq_zero.mp e1 with z | z
    · exact absurd z h
    · exact z
  · rcases Int.mul_eq_zero.mp e2 with z | z
    · exact absurd z h
    · exact z
/-- between two points of a line -/
theorem onb_btw {L : Ln} {p q r : Pt3} (hp : 0 < p.2.2) (hq : 0 < q.2.2) (hr : 0 < r.2.2) (hn : lnN L) (h1 : onb L p = true) (h2 : onb L q = true) (hc : lnU L * ry L r = lnV L * rx L r) (h3 : plt p r) (h4 : plt r q) : onb L r = true := by
  obtain ⟨c1, a1, b1⟩ := (onb_al hn hp).mp h1
  obtain ⟨c2, a2, b2⟩ := (onb_al hn hq).mp h2
  rw [onb_al hn hr]
  have hS := lS_pos hn
  have hp' : (0 : Int) < p.2.2 := by omega
  have hq' : (0 : Int) < q.2.2 := by omega
  have hr' : (0 : Int) < r.2.2 := by omega
  refine ⟨hc, ?_⟩
  -- the order along the line
  have key : (al L p * r.2.2 ≤ al L r * p.2.2 ∧ al L r * q.2.2 ≤ al L q * r.2.2) ∨ (al L r * p.2.2 ≤ al L p * r.2.2 ∧ al L q * r.2.2 ≤ al L r * q.2.2) := by
    have s1 : ∀ s t : Pt3, lnU L * ry L s = lnV L * rx L s → lnU L * ry L t = lnV L * rx L t → lnV L * (al L t * s.2.2 - al L s * t.2.2) = lS L * ((t.2.1 : Int) * s.2.2 - s.2.1 * t.2.2) := by
      intro s t e1 e2
      unfold al lS
      unfold rx ry at *
      grind
    have s2 : lnV L = 0 → ∀ s t : Pt3, lnU L * ry L s = lnV L * rx L s → lnU L * ry L t = lnV L * rx L t → al L t * s.2.2 - al L s * t.2.2 = lnU L * ((t.1 : Int) * s.2.2 - s.1 * t.2.2) := by
      intro e s t e1 e2
      unfold al
      rw [e]
      unfold rx
      grind
    have y1 : ∀ s t : Pt3, plt s t → (0 : Int) ≤ (t.2.1 : Int) * s.2.2 - s.2.1 * t.2.2 := by
      intro s t h
      rw [plt_iff] at h
      have e1 : (t.2.1 : Int) * s.2.2 = ((t.2.1 * s.2.2 : Nat) : Int) := by grind
      have e2 : (s.2.1 : Int) * t.2.2 = ((s.2.1 * t.2.2 : Nat) : Int) := by grind
      omega
    have k1 := s1 p r c1 hc
    have k2 := s1 r q hc c2
    have y2 := Int.mul_nonneg (show 0 ≤ lS L by omega) (y1 p r h3)
    have y3 := Int.mul_nonneg (show 0 ≤ lS L by omega) (y1 r q h4)
    rcases Int.lt_trichotomy (lnV L) 0 with hv | hv | hv
    · right
      constructor
      · rcases Int.lt_or_le (al L p * r.2.2) (al L r * p.2.2) with z | z
        · have := Int.mul_neg_of_neg_of_pos hv (show 0 < al L r * p.2.2 - al L p * r.2.2 by omega); omega
        · exact z
      · rcases Int.lt_or_le (al L r * q.2.2) (al L q * r.2.2) with z | z
        · have := Int.mul_neg_of_neg_of_pos hv (show 0 < al L q * r.2.2 - al L r * q.2.2 by omega); omega
        · exact z
    · have hu : lnU L ≠ 0 := by
        rcases hn with z | z
        · exact z
        · exact absurd hv z
      have j1 := s2 hv p r c1 hc
      have j2 := s2 hv r q hc c2
      have x1 : ∀ s t : Pt3, lnU L * ry L s = lnV L * rx L s → lnU L * ry L t = lnV L * rx L t → plt s t → (0 : Int) ≤ (t.1 : Int) * s.2.2 - s.1 * t.2.2 := by
        intro s t e1 e2 h
        have z1 : ry L s = 0 := by
          rw [hv, Int.zero_mul] at e1
          rcases Int.mul_eq_zero.mp e1 with z | z
          · exact absurd z hu
          · exact z
        have z2 : ry L t = 0 := by
          rw [hv, Int.zero_mul] at e2
          rcases Int.mul_eq_zero.mp e2 with z | z
          · exact absurd z hu
          · exact z
        have z3 : (s.2.1 : Int) * t.2.2 = t.2.1 * s.2.2 := by unfold ry at z1 z2; grind
        rw [plt_iff] at h
        have e1 : (t.1 : Int) * s.2.2 = ((t.1 * s.2.2 : Nat) : Int) := by grind
        have e2 : (s.1 : Int) * t.2.2 = ((s.1 * t.2.2 : Nat) : Int) := by grind
        have e3 : (t.2.1 : Int) * s.2.2 = ((t.2.1 * s.2.2 : Nat) : Int) := by grind
        have e4 : (s.2.1 : Int) * t.2.2 = ((s.2.1 * t.2.2 : Nat) : Int) := by grind
        omega
      have x2 := x1 p r c1 hc h3
      have x3 := x1 r q hc c2 h4
      rcases Int.lt_or_le (lnU L) 0 with z | z
      · right
        have w1 := Int.mul_nonpos_of_nonpos_of_nonneg (show lnU L ≤ 0 by omega) x2
        have w2 := Int.mul_nonpos_of_nonpos_of_nonneg (show lnU L ≤ 0 by omega) x3
        omega
      · left
        have w1 := Int.mul_nonneg z x2
        have w2 := Int.mul_nonneg z x3
        omega
    · left
      constructor
      · rcases Int.lt_or_le (al L r * p.2.2) (al L p * r.2.2) with z | z
        · have := Int.mul_neg_of_pos_of_neg hv (show al L r * p.2.2 - al L p * r.2.2 < 0 by omega); omega
        · exact z
      · rcases Int.lt_or_le (al L q * r.2.2) (al L r * q.2.2) with z | z
        · have := Int.mul_neg_of_pos_of_neg hv (show al L q * r.2.2 - al L r * q.2.2 < 0 by omega); omega
        · exact z
  have lo : ∀ s : Pt3, 0 < (s.2.2 : Int) → 0 ≤ al L s → al L s * r.2.2 ≤ al L r * s.2.2 → 0 ≤ al L r := by
    intro s hs h0 hle
    have z1 := Int.mul_nonneg h0 (show (0 : Int) ≤ r.2.2 by omega)
    rcases Int.lt_or_le (al L r) 0 with z | z
    · have := Int.mul_neg_of_neg_of_pos z hs; omega
    · exact z
  have hi : ∀ s : Pt3, 0 < (s.2.2 : Int) → al L s ≤ lS L * s.2.2 → al L r * s.2.2 ≤ al L s * r.2.2 → al L r ≤ lS L * r.2.2 := by
    intro s hs h0 hle
    have z1 := Int.mul_le_mul_of_nonneg_right h0 (show (0 : Int) ≤ r.2.2 by omega)
    rcases Int.lt_or_le (lS L * r.2.2) (al L r) with z | z
    · have z2 := Int.mul_lt_mul_of_pos_right z hs
      have z3 : lS L * s.2.2 * r.2.2 = lS L * r.2.2 * s.2.2 := by grind
      omega
    · exact z
  rcases key with ⟨k1, k2⟩ | ⟨k1, k2⟩
  · exact ⟨lo p hp' a1 k1, hi q hq' b2 k2⟩
  · exact ⟨lo q hq' a2 k2, hi p hp' b1 k1⟩
