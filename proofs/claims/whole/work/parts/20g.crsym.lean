/-! crossings don't ask which line comes first, nor which end of one -/
theorem cW_sym (L M : Ln) : cW M L = -cW L M := by
  unfold cW
  simp only [Int.mul_comm (lnU M), Int.mul_comm (lnV M)]
  omega
theorem cA_sym (L M : Ln) : cA M L = -cB L M := by
  unfold cA cB
  simp only [Int.sub_mul]
  omega
theorem cB_sym (L M : Ln) : cB M L = -cA L M := by
  unfold cA cB
  simp only [Int.sub_mul]
  omega
theorem cS_sym {L M : Ln} (h : cW L M ≠ 0) : cS M L = -cS L M := by
  unfold cS
  rw [cW_sym]
  by_cases h1 : 0 ≤ cW L M
  · rw [if_pos h1, if_neg (by omega)]
  · rw [if_neg h1, if_pos (by omega)]; rfl
theorem cr_id (a b p q r s : Int) : a * (p * s - q * r) = (a * s - b * r) * p - (a * q - b * p) * r := by
  simp only [Int.mul_sub, Int.sub_mul, Int.mul_assoc, Int.mul_comm, Int.mul_left_comm]
  omega
theorem cr_id2 (a b p q r s : Int) : b * (p * s - q * r) = (a * s - b * r) * q - (a * q - b * p) * s := by
  simp only [Int.mul_sub, Int.sub_mul, Int.mul_assoc, Int.mul_comm, Int.mul_left_comm]
  omega
theorem nn_mul (a b : Int) : -a * -b = a * b := Int.neg_mul_neg a b
theorem crs_sym {L M : Ln} (h : crs L M) : crs M L := by
  obtain ⟨h0, h1, h2, h3, h4⟩ := h
  have e : cS M L = -cS L M := cS_sym h0
  refine ⟨by rw [cW_sym]; omega, ?_, ?_, ?_, ?_⟩
  · rw [e, cA_sym, nn_mul]; exact h3
  · rw [e, cA_sym, cW_sym, nn_mul, nn_mul]; exact h4
  · rw [e, cB_sym, nn_mul]; exact h1
  · rw [e, cB_sym, cW_sym, nn_mul, nn_mul]; exact h2
theorem crX_sym {L M : Ln} (h0 : cW L M ≠ 0) : crX M L = crX L M := by
  have e : cS M L = -cS L M := cS_sym h0
  have k := cr_id ((M.1 : Int) - (L.1 : Int)) ((M.2.1 : Int) - (L.2.1 : Int)) (lnU L) (lnV L) (lnU M) (lnV M)
  have k2 : ((M.1 : Int) - (L.1 : Int)) * cW L M = cA L M * lnU L - cB L M * lnU M := k
  unfold crX
  rw [e, cA_sym, cW_sym, nn_mul, nn_mul]
  have k3 : cS L M * (((M.1 : Int) - (L.1 : Int)) * cW L M) = cS L M * (cA L M * lnU L - cB L M * lnU M) := by rw [k2]
  simp only [Int.mul_sub, Int.sub_mul, Int.mul_assoc, Int.mul_comm, Int.mul_left_comm] at k3 ⊢
  omega
theorem crY_sym {L M : Ln} (h0 : cW L M ≠ 0) : crY M L = crY L M := by
  have e : cS M L = -cS L M := cS_sym h0
  have k := cr_id2 ((M.1 : Int) - (L.1 : Int)) ((M.2.1 : Int) - (L.2.1 : Int)) (lnU L) (lnV L) (lnU M) (lnV M)
  have k2 : ((M.2.1 : Int) - (L.2.1 : Int)) * cW L M = cA L M * lnV L - cB L M * lnV M := k
  unfold crY
  rw [e, cA_sym, cW_sym, nn_mul, nn_mul]
  have k3 : cS L M * (((M.2.1 : Int) - (L.2.1 : Int)) * cW L M) = cS L M * (cA L M * lnV L - cB L M * lnV M) := by rw [k2]
  simp only [Int.mul_sub, Int.sub_mul, Int.mul_assoc, Int.mul_comm, Int.mul_left_comm] at k3 ⊢
  omega
theorem crP_sym {L M : Ln} (h0 : cW L M ≠ 0) : crP M L = crP L M := by
  unfold crP
  rw [crX_sym h0, crY_sym h0, cS_sym h0, cW_sym, nn_mul]
/-- the other way round -/
def lnR (L : Ln) : Ln := (L.2.2.1, L.2.2.2, L.1, L.2.1)
theorem lnU_R (L : Ln) : lnU (lnR L) = -lnU L := by unfold lnU lnR; dsimp only; omega
theorem lnV_R (L : Ln) : lnV (lnR L) = -lnV L := by unfold lnV lnR; dsimp only; omega
theorem lnR_R (L : Ln) : lnR (lnR L) = L := rfl
theorem cW_R (L M : Ln) : cW L (lnR M) = -cW L M := by
  unfold cW
  rw [lnU_R, lnV_R, Int.mul_neg, Int.mul_neg]
  omega
theorem cA_R (L M : Ln) : cA L (lnR M) = -cA L M := by
  have e1 : (((lnR M).1 : Nat) : Int) = (M.1 : Int) + lnU M := by unfold lnU lnR; dsimp only; omega
  have e2 : (((lnR M).2.1 : Nat) : Int) = (M.2.1 : Int) + lnV M := by unfold lnV lnR; dsimp only; omega
  unfold cA
  rw [lnU_R, lnV_R, e1, e2]
  simp only [Int.mul_neg, Int.add_mul, Int.sub_mul, Int.mul_comm (lnV M) (lnU M)]
  omega
theorem cB_R (L M : Ln) : cB L (lnR M) = cB L M - cW L M := by
  have e1 : (((lnR M).1 : Nat) : Int) = (M.1 : Int) + lnU M := by unfold lnU lnR; dsimp only; omega
  have e2 : (((lnR M).2.1 : Nat) : Int) = (M.2.1 : Int) + lnV M := by unfold lnV lnR; dsimp only; omega
  unfold cB cW
  rw [e1, e2]
  simp only [Int.add_mul, Int.sub_mul, Int.mul_comm (lnU M) (lnV L), Int.mul_comm (lnV M) (lnU L)]
  omega
theorem cS_R {L M : Ln} (h : cW L M ≠ 0) : cS L (lnR M) = -cS L M := by
  unfold cS
  rw [cW_R]
  by_cases h1 : 0 ≤ cW L M
  · rw [if_pos h1, if_neg (by omega)]
  · rw [if_neg h1, if_pos (by omega)]; rfl
theorem crs_R {L M : Ln} (h : crs L M) : crs L (lnR M) := by
  obtain ⟨h0, h1, h2, h3, h4⟩ := h
  have e : cS L (lnR M) = -cS L M := cS_R h0
  have e2 : cS L (lnR M) * cW L (lnR M) = cS L M * cW L M := by rw [e, cW_R, nn_mul]
  have e3 : cS L (lnR M) * cA L (lnR M) = cS L M * cA L M := by rw [e, cA_R, nn_mul]
  have e4 : cS L (lnR M) * cB L (lnR M) = cS L M * cW L M - cS L M * cB L M := by rw [e, cB_R, Int.mul_sub, Int.neg_mul, Int.neg_mul]; omega
  refine ⟨by rw [cW_R]; omega, by rw [e3]; exact h1, by rw [e2, e3]; exact h2, by rw [e4]; omega, by rw [e2, e4]; omega⟩
theorem crP_R {L M : Ln} (h0 : cW L M ≠ 0) : crP L (lnR M) = crP L M := by
  have e : cS L (lnR M) = -cS L M := cS_R h0
  have e2 : cS L (lnR M) * cW L (lnR M) = cS L M * cW L M := by rw [e, cW_R, nn_mul]
  have e3 : cS L (lnR M) * cA L (lnR M) = cS L M * cA L M := by rw [e, cA_R, nn_mul]
  unfold crP crX crY
  rw [e2, e3]
