/-! where two lines cross -/
abbrev Ln : Type := Nat × Nat × Nat × Nat
def lnOK (L : Ln) : Prop := L.1 ≤ 12 ∧ L.2.1 ≤ 12 ∧ L.2.2.1 ≤ 12 ∧ L.2.2.2 ≤ 12
def lnU (L : Ln) : Int := (L.2.2.1 : Int) - (L.1 : Int)
def lnV (L : Ln) : Int := (L.2.2.2 : Int) - (L.2.1 : Int)
def cW (L M : Ln) : Int := lnU L * lnV M - lnV L * lnU M
def cA (L M : Ln) : Int := ((M.1 : Int) - (L.1 : Int)) * lnV M - ((M.2.1 : Int) - (L.2.1 : Int)) * lnU M
def cB (L M : Ln) : Int := ((M.1 : Int) - (L.1 : Int)) * lnV L - ((M.2.1 : Int) - (L.2.1 : Int)) * lnU L
def cS (L M : Ln) : Int := if 0 ≤ cW L M then 1 else -1
def crs (L M : Ln) : Prop := cW L M ≠ 0 ∧ 0 ≤ cS L M * cA L M ∧ cS L M * cA L M ≤ cS L M * cW L M ∧ 0 ≤ cS L M * cB L M ∧ cS L M * cB L M ≤ cS L M * cW L M
def crX (L M : Ln) : Int := (L.1 : Int) * (cS L M * cW L M) + cS L M * cA L M * lnU L
def crY (L M : Ln) : Int := (L.2.1 : Int) * (cS L M * cW L M) + cS L M * cA L M * lnV L
def crP (L M : Ln) : Pt3 := redu (crX L M).toNat (crY L M).toNat (cS L M * cW L M).toNat
theorem mul_bd {a b A B : Int} (ha1 : -A ≤ a) (ha2 : a ≤ A) (hb1 : -B ≤ b) (hb2 : b ≤ B) (hA : 0 ≤ A) (hB : 0 ≤ B) : -(A * B) ≤ a * b ∧ a * b ≤ A * B := by
  have h1 : 0 ≤ (A - a) * (B + b) := Int.mul_nonneg (by omega) (by omega)
  have h2 : 0 ≤ (A + a) * (B - b) := Int.mul_nonneg (by omega) (by omega)
  have h3 : 0 ≤ (A - a) * (B - b) := Int.mul_nonneg (by omega) (by omega)
  have h4 : 0 ≤ (A + a) * (B + b) := Int.mul_nonneg (by omega) (by omega)
  have e1 : (A - a) * (B + b) = A * B + A * b - a * B - a * b := by rw [Int.sub_mul, Int.mul_add, Int.mul_add]; omega
  have e2 : (A + a) * (B - b) = A * B - A * b + a * B - a * b := by rw [Int.add_mul, Int.mul_sub, Int.mul_sub]; omega
  have e3 : (A - a) * (B - b) = A * B - A * b - a * B + a * b := by rw [Int.sub_mul, Int.mul_sub, Int.mul_sub]; omega
  have e4 : (A + a) * (B + b) = A * B + A * b + a * B + a * b := by rw [Int.add_mul, Int.mul_add, Int.mul_add]; omega
  rw [e1] at h1
  rw [e2] at h2
  rw [e3] at h3
  rw [e4] at h4
  generalize A * b = p at *
  generalize a * B = q at *
  generalize a * b = r at *
  generalize A * B = s at *
  omega
theorem lnU_bd {L : Ln} (h : lnOK L) : -12 ≤ lnU L ∧ lnU L ≤ 12 := by
  obtain ⟨h1, h2, h3, h4⟩ := h
  unfold lnU
  omega
theorem lnV_bd {L : Ln} (h : lnOK L) : -12 ≤ lnV L ∧ lnV L ≤ 12 := by
  obtain ⟨h1, h2, h3, h4⟩ := h
  unfold lnV
  omega
theorem two_bd {a b c d : Int} (ha : -12 ≤ a ∧ a ≤ 12) (hb : -12 ≤ b ∧ b ≤ 12) (hc : -12 ≤ c ∧ c ≤ 12) (hd : -12 ≤ d ∧ d ≤ 12) : -288 ≤ a * b - c * d ∧ a * b - c * d ≤ 288 := by
  have h1 := mul_bd ha.1 ha.2 hb.1 hb.2 (by omega) (by omega)
  have h2 := mul_bd hc.1 hc.2 hd.1 hd.2 (by omega) (by omega)
  omega
theorem cW_bd {L M : Ln} (hL : lnOK L) (hM : lnOK M) : -288 ≤ cW L M ∧ cW L M ≤ 288 := two_bd (lnU_bd hL) (lnV_bd hM) (lnV_bd hL) (lnU_bd hM)
theorem aw_bd {a b : Nat} (ha : a ≤ 12) (hb : b ≤ 12) : -12 ≤ (b : Int) - (a : Int) ∧ (b : Int) - (a : Int) ≤ 12 := by omega
theorem cA_bd {L M : Ln} (hL : lnOK L) (hM : lnOK M) : -288 ≤ cA L M ∧ cA L M ≤ 288 := two_bd (aw_bd hL.1 hM.1) (lnV_bd hM) (aw_bd hL.2.1 hM.2.1) (lnU_bd hM)
theorem cB_bd {L M : Ln} (hL : lnOK L) (hM : lnOK M) : -288 ≤ cB L M ∧ cB L M ≤ 288 := two_bd (aw_bd hL.1 hM.1) (lnV_bd hL) (aw_bd hL.2.1 hM.2.1) (lnU_bd hL)
theorem cS_or (L M : Ln) : (cS L M = 1 ∧ 0 ≤ cW L M) ∨ (cS L M = -1 ∧ cW L M < 0) := by
  unfold cS
  by_cases h : 0 ≤ cW L M
  · rw [if_pos h]; exact Or.inl ⟨rfl, h⟩
  · rw [if_neg h]; exact Or.inr ⟨rfl, by omega⟩
theorem cSW_pos {L M : Ln} (h : cW L M ≠ 0) : 0 < cS L M * cW L M := by
  rcases cS_or L M with ⟨e, h1⟩ | ⟨e, h1⟩ <;> rw [e] <;> omega
theorem cSW_bd {L M : Ln} (hL : lnOK L) (hM : lnOK M) : cS L M * cW L M ≤ 288 := by
  have := cW_bd hL hM
  rcases cS_or L M with ⟨e, h1⟩ | ⟨e, h1⟩ <;> rw [e] <;> omega
/-- between the two ends: a numerator from 0 to 12 times the denominator -/
theorem mid_bd {x u : Nat} {w s : Int} (hx : x ≤ 12) (hu : u ≤ 12) (hs0 : 0 ≤ s) (hs1 : s ≤ w) : 0 ≤ (x : Int) * w + s * ((u : Int) - (x : Int)) ∧ (x : Int) * w + s * ((u : Int) - (x : Int)) ≤ 12 * w := by
  have e : (x : Int) * w + s * ((u : Int) - (x : Int)) = (x : Int) * (w - s) + (u : Int) * s := by
    rw [Int.mul_sub, Int.mul_sub, Int.mul_comm s (u : Int), Int.mul_comm s (x : Int)]
    omega
  have h1 : 0 ≤ (x : Int) * (w - s) := Int.mul_nonneg (by omega) (by omega)
  have h2 : 0 ≤ (u : Int) * s := Int.mul_nonneg (by omega) (by omega)
  have h3 : (x : Int) * (w - s) ≤ 12 * (w - s) := Int.mul_le_mul_of_nonneg_right (by omega) (by omega)
  have h4 : (u : Int) * s ≤ 12 * s := Int.mul_le_mul_of_nonneg_right (by omega) (by omega)
  rw [e]
  omega
theorem crX_bd {L M : Ln} (hL : lnOK L) (h : crs L M) : 0 ≤ crX L M ∧ crX L M ≤ 12 * (cS L M * cW L M) := mid_bd hL.1 hL.2.2.1 h.2.1 h.2.2.1
theorem crY_bd {L M : Ln} (hL : lnOK L) (h : crs L M) : 0 ≤ crY L M ∧ crY L M ≤ 12 * (cS L M * cW L M) := mid_bd hL.2.1 hL.2.2.2 h.2.1 h.2.2.1
theorem crP_ok {L M : Ln} (hL : lnOK L) (hM : lnOK M) (h : crs L M) : pOK (crP L M) := by
  have h1 := crX_bd hL h
  have h2 := crY_bd hL h
  have h3 := cSW_pos h.1
  have h4 := cSW_bd hL hM
  exact redu_ok (by omega) (by omega) (by omega) (by omega)
