/-! a lead meets a side of the window only in one of its own ends -/
theorem redu_scale {a b k : Nat} (hk : 0 < k) : redu (a * k) (b * k) k = (a, b, 1) := by
  have hg : Nat.gcd (Nat.gcd (a * k) (b * k)) k = k := by
    rw [Nat.gcd_mul_right]
    exact Nat.gcd_eq_right (Nat.dvd_mul_left k _)
  unfold redu
  rw [hg, Nat.mul_div_cancel _ hk, Nat.mul_div_cancel _ hk, Nat.div_self hk]
/-- at the first end -/
theorem crP_first {L M : Ln} (h0 : cW L M ≠ 0) (hA : cA L M = 0) : crP L M = (L.1, L.2.1, 1) := by
  have hw := cSW_pos h0
  have ex : crX L M = (L.1 : Int) * (cS L M * cW L M) := by unfold crX; rw [hA, Int.mul_zero, Int.zero_mul, Int.add_zero]
  have ey : crY L M = (L.2.1 : Int) * (cS L M * cW L M) := by unfold crY; rw [hA, Int.mul_zero, Int.zero_mul, Int.add_zero]
  unfold crP
  obtain ⟨k, hk⟩ : ∃ k : Nat, cS L M * cW L M = (k : Int) := ⟨(cS L M * cW L M).toNat, by omega⟩
  rw [ex, ey, hk]
  have e1 : ((L.1 : Int) * (k : Int)).toNat = L.1 * k := by rw [← Int.natCast_mul, Int.toNat_natCast]
  have e2 : ((L.2.1 : Int) * (k : Int)).toNat = L.2.1 * k := by rw [← Int.natCast_mul, Int.toNat_natCast]
  rw [e1, e2, Int.toNat_natCast]
  exact redu_scale (by omega)
/-- at the second end -/
theorem crP_second {L M : Ln} (h0 : cW L M ≠ 0) (hA : cA L M = cW L M) : crP L M = (L.2.2.1, L.2.2.2, 1) := by
  have hw := cSW_pos h0
  have ex : crX L M = (L.2.2.1 : Int) * (cS L M * cW L M) := by
    unfold crX lnU
    rw [hA, Int.mul_sub, Int.mul_comm (cS L M * cW L M), Int.mul_comm (cS L M * cW L M)]
    omega
  have ey : crY L M = (L.2.2.2 : Int) * (cS L M * cW L M) := by
    unfold crY lnV
    rw [hA, Int.mul_sub, Int.mul_comm (cS L M * cW L M), Int.mul_comm (cS L M * cW L M)]
    omega
  unfold crP
  obtain ⟨k, hk⟩ : ∃ k : Nat, cS L M * cW L M = (k : Int) := ⟨(cS L M * cW L M).toNat, by omega⟩
  rw [ex, ey, hk]
  have e1 : ((L.2.2.1 : Int) * (k : Int)).toNat = L.2.2.1 * k := by rw [← Int.natCast_mul, Int.toNat_natCast]
  have e2 : ((L.2.2.2 : Int) * (k : Int)).toNat = L.2.2.2 * k := by rw [← Int.natCast_mul, Int.toNat_natCast]
  rw [e1, e2, Int.toNat_natCast]
  exact redu_scale (by omega)
/-- a level side: y of it is at most, or at least, that of both ends of the lead -/
theorem cr_level {L M : Ln} (hc : crs L M) (hV : lnV M = 0) (hs : (M.2.1 ≤ L.2.1 ∧ M.2.1 ≤ L.2.2.2) ∨ (L.2.1 ≤ M.2.1 ∧ L.2.2.2 ≤ M.2.1)) : crP L M = (L.1, L.2.1, 1) ∨ crP L M = (L.2.2.1, L.2.2.2, 1) := by
  obtain ⟨h0, h1, h2, -, -⟩ := hc
  have eW : cW L M = -(lnV L * lnU M) := by unfold cW; rw [hV, Int.mul_zero]; omega
  have eA : cA L M = -(((M.2.1 : Int) - (L.2.1 : Int)) * lnU M) := by unfold cA; rw [hV, Int.mul_zero]; omega
  have hV2 : lnV L = (L.2.2.2 : Int) - (L.2.1 : Int) := rfl
  obtain ⟨t, ht⟩ : ∃ t : Int, t = cS L M * lnU M := ⟨_, rfl⟩
  have eSW : cS L M * cW L M = -(lnV L * t) := by rw [eW, ht, Int.mul_neg, Int.mul_left_comm]
  have eSA : cS L M * cA L M = -(((M.2.1 : Int) - (L.2.1 : Int)) * t) := by rw [eA, ht, Int.mul_neg, Int.mul_left_comm]
  have hp := cSW_pos h0
  rw [eSW] at hp h2
  rw [eSA] at h1 h2
  obtain ⟨dy, hdy⟩ : ∃ d : Int, d = (M.2.1 : Int) - (L.2.1 : Int) := ⟨_, rfl⟩
  rw [← hdy] at h1 h2 eA
  -- dy is 0 or lnV L
  have key : dy = 0 ∨ dy = lnV L := by
    rcases Int.lt_trichotomy t 0 with h | h | h
    · have k1 : 0 ≤ dy := by
        rcases Int.lt_or_le dy 0 with q | q
        · have : 0 < dy * t := Int.mul_pos_of_neg_of_neg q h
          omega
        · exact q
      have k2 : 0 < lnV L := by
        rcases Int.lt_or_le 0 (lnV L) with q | q
        · exact q
        · have : 0 ≤ lnV L * t := Int.mul_nonneg_of_nonpos_of_nonpos q (by omega)
          omega
      have k3 : dy ≤ lnV L := by
        rcases Int.lt_or_le (lnV L) dy with q | q
        · have : (dy - lnV L) * t < 0 := Int.mul_neg_of_pos_of_neg (by omega) h
          rw [Int.sub_mul] at this
          omega
        · exact q
      omega
    · rw [h, Int.mul_zero] at hp; omega
    · have k1 : dy ≤ 0 := by
        rcases Int.lt_or_le 0 dy with q | q
        · have : 0 < dy * t := Int.mul_pos q h
          omega
        · exact q
      have k2 : lnV L < 0 := by
        rcases Int.lt_or_le (lnV L) 0 with q | q
        · exact q
        · have : 0 ≤ lnV L * t := Int.mul_nonneg q (by omega)
          omega
      have k3 : lnV L ≤ dy := by
        rcases Int.lt_or_le dy (lnV L) with q | q
        · have : 0 < (lnV L - dy) * t := Int.mul_pos (by omega) h
          rw [Int.sub_mul] at this
          omega
        · exact q
      omega
  rcases key with k | k
  · exact Or.inl (crP_first h0 (by rw [eA, k, Int.zero_mul]; rfl))
  · exact Or.inr (crP_second h0 (by rw [eA, eW, k]))
/-- an upright side -/
theorem cr_upright {L M : Ln} (hc : crs L M) (hU : lnU M = 0) (hs : (M.1 ≤ L.1 ∧ M.1 ≤ L.2.2.1) ∨ (L.1 ≤ M.1 ∧ L.2.2.1 ≤ M.1)) : crP L M = (L.1, L.2.1, 1) ∨ crP L M = (L.2.2.1, L.2.2.2, 1) := by
  obtain ⟨h0, h1, h2, -, -⟩ := hc
  have eW : cW L M = lnU L * lnV M := by unfold cW; rw [hU, Int.mul_zero]; omega
  have eA : cA L M = ((M.1 : Int) - (L.1 : Int)) * lnV M := by unfold cA; rw [hU, Int.mul_zero]; omega
  have hU2 : lnU L = (L.2.2.1 : Int) - (L.1 : Int) := rfl
  obtain ⟨t, ht⟩ : ∃ t : Int, t = cS L M * lnV M := ⟨_, rfl⟩
  have eSW : cS L M * cW L M = lnU L * t := by rw [eW, ht, Int.mul_left_comm]
  have eSA : cS L M * cA L M = ((M.1 : Int) - (L.1 : Int)) * t := by rw [eA, ht, Int.mul_left_comm]
  have hp := cSW_pos h0
  rw [eSW] at hp h2
  rw [eSA] at h1 h2
  obtain ⟨dx, hdx⟩ : ∃ d : Int, d = (M.1 : Int) - (L.1 : Int) := ⟨_, rfl⟩
  rw [← hdx] at h1 h2 eA
  have key : dx = 0 ∨ dx = lnU L := by
    rcases Int.lt_trichotomy t 0 with h | h | h
    · have k1 : dx ≤ 0 := by
        rcases Int.lt_or_le 0 dx with q | q
        · have : dx * t < 0 := Int.mul_neg_of_pos_of_neg q h
          omega
        · exact q
      have k2 : lnU L < 0 := by
        rcases Int.lt_or_le (lnU L) 0 with q | q
        · exact q
        · have : lnU L * t ≤ 0 := Int.mul_nonpos_of_nonneg_of_nonpos q (by omega)
          omega
      have k3 : lnU L ≤ dx := by
        rcases Int.lt_or_le dx (lnU L) with q | q
        · have : (lnU L - dx) * t < 0 := Int.mul_neg_of_pos_of_neg (by omega) h
          rw [Int.sub_mul] at this
          omega
        · exact q
      omega
    · rw [h, Int.mul_zero] at hp; omega
    · have k1 : 0 ≤ dx := by
        rcases Int.lt_or_le dx 0 with q | q
        · have : dx * t < 0 := Int.mul_neg_of_neg_of_pos q h
          omega
        · exact q
      have k2 : 0 < lnU L := by
        rcases Int.lt_or_le 0 (lnU L) with q | q
        · exact q
        · have : lnU L * t ≤ 0 := Int.mul_nonpos_of_nonpos_of_nonneg q (by omega)
          omega
      have k3 : dx ≤ lnU L := by
        rcases Int.lt_or_le (lnU L) dx with q | q
        · have : 0 < (dx - lnU L) * t := Int.mul_pos (by omega) h
          rw [Int.sub_mul] at this
          omega
        · exact q
      omega
  rcases key with k | k
  · exact Or.inl (crP_first h0 (by rw [eA, k, Int.zero_mul]))
  · exact Or.inr (crP_second h0 (by rw [eA, eW, k]))
