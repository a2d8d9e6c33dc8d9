/-! the reference: a pane's area -/
def p82 (t : Nat) : Nat := 82944 ^ t
theorem p82_0 : p82 0 = 1 := rfl
theorem p82_s (t : Nat) : p82 (t + 1) = p82 t * 82944 := Nat.pow_succ _ _
theorem pw82 {t u : Nat} (h : t ≤ u) : p82 t ≤ p82 u := Nat.pow_le_pow_right (by omega) h
theorem bnd_pw : p82 684 * (684 * 20000000 * 500000) < pw 500 := by decide +kernel
theorem bs_ok {ul : Int32} {ud : Nat → Int32} {U : Nat} (hU : Hd ul ud U) {pl : Int32} {pd : Nat → Int32} {P : Nat} (hP : Hd pl pd P) (hb : U * 200000000 < pw 500) (hlt : P < U * 200000000) (wl : Int32) (wd : Nat → Int32) : ∃ (r : Nat) (x : Int64) (wl' : Int32) (wd' : Nat → Int32), iter (bX12_area_319 ul ud pl pd) FU ((0 : Int64), (200000000 : Int64), wl, wd) = some (0, (lN r, x, wl', wd')) ∧ U * r ≤ P ∧ P < U * (r + 1) := by
  obtain ⟨t, h1, r, x, wl', wd', e, h2, h3⟩ := iter_wh (S := Nat × Nat × Int32 × (Nat → Int32)) (B := bX12_area_319 ul ud pl pd) (fun s => (lN s.1, lN s.2.1, s.2.2.1, s.2.2.2)) (fun s => s.1 < s.2.1 ∧ s.2.1 ≤ 200000000 ∧ U * s.1 ≤ P ∧ P < U * s.2.1) (fun s => s.2.1 - s.1) (fun t => ∃ (r : Nat) (x : Int64) (wl' : Int32) (wd' : Nat → Int32), t = (lN r, x, wl', wd') ∧ U * r ≤ P ∧ P < U * (r + 1)) (fun s hI => by
    obtain ⟨lo, hi, wl, wd⟩ := s
    obtain ⟨i1, i2, i3, i4⟩ := hI
    dsimp only at i1 i2 i3 i4 ⊢
    have e1 : lN hi - lN lo = lN (hi - lo) := by rw [← lz_n, ← lz_n, lz_sub, ← lz_n]; congr 1; omega
    have c := (lg_cmp_gt (lN (hi - lo)) (1 : Int64)).trans (pk_lLT (a := 1) (by omega) (by omega))
    by_cases z : hi - lo ≤ 1
    · right
      refine ⟨(lN lo, lN hi, wl, wd), ?_, lo, _, _, _, rfl, i3, ?_⟩
      · simp only [bX12_area_319, dm4, e1]
        rw [if_pos (Int32.not_lt.mp (fun y => by have := c.mp y; omega))]
      · rw [show lo + 1 = hi by omega]; exact i4
    · left
      have e2 : (lN lo + lN hi) / (2 : Int64) = lN ((lo + hi) / 2) := by rw [lNa]; exact pk_lDiv (a := lo + hi) (b := 2) (by omega) (by omega) (by omega)
      have z2 : ¬ ((2 : Int64) = 0) := by decide
      obtain ⟨wd1, c1, c2⟩ := copy_ok wl wd hU
      have m1 : U * ((lo + hi) / 2) ≤ U * 200000000 := Nat.mul_le_mul_left U (by omega)
      obtain ⟨l2, d2, t1, t2⟩ := times_ok (by_ := (lo + hi) / 2) c2 (by omega) (by omega)
      obtain ⟨r, r1, r2⟩ := cmp_ok2 t2 hP
      have e0 : bX12_area_319 ul ud pl pd (lN lo, lN hi, wl, wd) = ob (if 0 < r then some (lN lo, lN ((lo + hi) / 2)) else some (lN ((lo + hi) / 2), lN hi)) (fun t => dm2 t (fun v73 v74 => some (0, (v73, v74, l2, d2)))) := by
        simp only [bX12_area_319, dm4, e1, lt, e2]
        rw [if_neg (fun y => absurd (c.mpr (by omega)) (Int32.not_lt.mpr y)), gd_s z2, c1]
        simp only [ob, dm2]
        rw [t1]
        simp only [r1, dm1]
      by_cases q : 0 < r
      · rw [if_pos q] at e0
        refine ⟨(lo, (lo + hi) / 2, l2, d2), e0, ⟨?_, ?_, i3, r2.mp q⟩, ?_⟩ <;> dsimp only <;> omega
      · rw [if_neg q] at e0
        have : ¬ P < U * ((lo + hi) / 2) := fun y => q (r2.mpr y)
        refine ⟨((lo + hi) / 2, hi, l2, d2), e0, ⟨?_, i2, ?_, i4⟩, ?_⟩ <;> dsimp only <;> omega) (0, 200000000, wl, wd) ⟨by dsimp only; omega, Nat.le_refl _, by dsimp only; rw [Nat.mul_zero]; omega, hlt⟩ (by dsimp only; omega)
  subst e
  exact ⟨r, x, wl', wd', h1, h2, h3⟩
theorem big_bd {t c : Nat} (ht : t ≤ 684) (hc : c ≤ 684 * 20000000 * 500000) : p82 t * c < pw 500 := by
  exact Nat.lt_of_le_of_lt (Nat.mul_le_mul (pw82 ht) hc) bnd_pw
theorem area1_ok {pl ml ul wl : Int32} {pd md ud wd : Nat → Int32} {P M U : Nat} (hP : Hd pl pd P) (hMm : Hd ml md M) (hU : Hd ul ud U) {da db : Nat} {n : Int} (ha : 0 < da ∧ da ≤ 288) (hb : 0 < db ∧ db ≤ 288) (hn1 : -20000000 ≤ n) (hn2 : n ≤ 20000000) {t : Nat} (ht : t < 684) (bU : U ≤ p82 t) (bP : P ≤ p82 t * (t * 20000000)) (bM : M ≤ p82 t * (t * 20000000)) : ∃ (pl' ml' ul' wl' : Int32) (pd' md' ud' wd' : Nat → Int32) (P' M' U' : Nat), (∀ {α : Type} (k : Int32 → (Nat → Int32) → Int32 → (Nat → Int32) → Int32 → (Nat → Int32) → Int32 → (Nat → Int32) → Option α), ob (sX11_times (lN da) pl pd) (fun o => dm2 o (fun (o25 : Int32) (o26 : Nat → Int32) => ob (sX11_times (lN db) o25 o26) (fun o => dm2 o (fun (o27 : Int32) (o28 : Nat → Int32) => ob (sX11_times (lN da) ml md) (fun o => dm2 o (fun (o29 : Int32) (o30 : Nat → Int32) => ob (sX11_times (lN db) o29 o30) (fun o => dm2 o (fun (o31 : Int32) (o32 : Nat → Int32) => ob (sX11_copy wl wd ul ud) (fun o => dm2 o (fun (o33 : Int32) (o34 : Nat → Int32) => ob (sX11_times (if 0 < lz n then lz n else -lz n) o33 o34) (fun o => dm2 o (fun (o35 : Int32) (o36 : Nat → Int32) => ob (if (lg_cmp (lz n) (0 : Int64)) ≤ 0 then ob (sX11_add o31 o32 o35 o36) (fun o => dm2 o (fun (o46 : Int32) (o47 : Nat → Int32) => some (o46, o47, o27, o28))) else ob (sX11_add o27 o28 o35 o36) (fun o => dm2 o (fun (o48 : Int32) (o49 : Nat → Int32) => some (o31, o32, o48, o49)))) (fun t => dm4 t (fun (v37 : Int32) (v38 : Nat → Int32) (v39 : Int32) (v40 : Nat → Int32) => ob (sX11_times (lN da) ul ud) (fun o => dm2 o (fun (o41 : Int32) (o42 : Nat → Int32) => ob (sX11_times (lN db) o41 o42) (fun o => dm2 o (fun (o43 : Int32) (o44 : Nat → Int32) => k v37 v38 v39 v40 o43 o44 o35 o36)))))))))))))))))) = k ml' md' pl' pd' ul' ud' wl' wd') ∧ Hd pl' pd' P' ∧ Hd ml' md' M' ∧ Hd ul' ud' U' ∧ (P' : Int) - M' = (P - M) * (da * db) + U * n ∧ U' = U * (da * db) ∧ U' ≤ p82 (t + 1) ∧ P' ≤ p82 (t + 1) * ((t + 1) * 20000000) ∧ M' ≤ p82 (t + 1) * ((t + 1) * 20000000) := by
  have dd : da * db ≤ 82944 := Nat.mul_le_mul ha.2 hb.2
  have abs1 : n.natAbs ≤ 20000000 := by omega
  have pows : p82 (t + 1) = p82 t * 82944 := p82_s t
  have T := big_bd (t := t + 1) (by omega) (c := 684 * 20000000 * 500000) (Nat.le_refl _)
  have Tle : ∀ x c : Nat, c ≤ 684 * 20000000 * 500000 → x ≤ p82 (t + 1) * c → x < pw 500 := fun x c h1 h2 => by
    have := Nat.mul_le_mul_left (p82 (t + 1)) h1
    omega
  -- sizes
  have sP1 : P * da ≤ p82 (t + 1) * (t * 20000000) := by
    have h1 := Nat.mul_le_mul bP (show da ≤ 82944 by omega)
    have e : p82 t * (t * 20000000) * 82944 = p82 (t + 1) * (t * 20000000) := by rw [pows]; grind
    omega
  have sP2 : P * da * db ≤ p82 (t + 1) * (t * 20000000) := by
    have h1 := Nat.mul_le_mul bP dd
    have e : p82 t * (t * 20000000) * 82944 = p82 (t + 1) * (t * 20000000) := by rw [pows]; grind
    rw [Nat.mul_assoc]; omega
  have sM1 : M * da ≤ p82 (t + 1) * (t * 20000000) := by
    have h1 := Nat.mul_le_mul bM (show da ≤ 82944 by omega)
    have e : p82 t * (t * 20000000) * 82944 = p82 (t + 1) * (t * 20000000) := by rw [pows]; grind
    omega
  have sM2 : M * da * db ≤ p82 (t + 1) * (t * 20000000) := by
    have h1 := Nat.mul_le_mul bM dd
    have e : p82 t * (t * 20000000) * 82944 = p82 (t + 1) * (t * 20000000) := by rw [pows]; grind
    rw [Nat.mul_assoc]; omega
  have sU1 : U * da ≤ p82 (t + 1) := by have h1 := Nat.mul_le_mul bU (show da ≤ 82944 by omega); omega
  have sU2 : U * da * db ≤ p82 (t + 1) := by have h1 := Nat.mul_le_mul bU dd; rw [Nat.mul_assoc]; omega
  have sW : U * n.natAbs ≤ p82 (t + 1) * 20000000 := by
    have h1 := Nat.mul_le_mul (show U ≤ p82 (t + 1) by omega) abs1
    exact h1
  have tb : t * 20000000 ≤ 684 * 20000000 * 500000 := by omega
  have tb1 : (t + 1) * 20000000 ≤ 684 * 20000000 * 500000 := Nat.le_trans (Nat.mul_le_mul_right 20000000 (show t + 1 ≤ 684 from ht)) (by decide)
  have grow : p82 (t + 1) * (t * 20000000) ≤ p82 (t + 1) * ((t + 1) * 20000000) := Nat.mul_le_mul_left _ (Nat.mul_le_mul_right _ (Nat.le_succ t))
  have gP := Nat.le_trans sP2 grow
  have gM := Nat.le_trans sM2 grow
  obtain ⟨l1, d1, p1, p2⟩ := times_ok (by_ := da) hP (by omega) (Tle _ _ tb sP1)
  obtain ⟨l2, d2, p3, p4⟩ := times_ok (by_ := db) p2 (by omega) (Tle _ _ tb sP2)
  obtain ⟨l3, d3, p5, p6⟩ := times_ok (by_ := da) hMm (by omega) (Tle _ _ tb sM1)
  obtain ⟨l4, d4, p7, p8⟩ := times_ok (by_ := db) p6 (by omega) (Tle _ _ tb sM2)
  obtain ⟨wd1, p9, p10⟩ := copy_ok wl wd hU
  obtain ⟨l5, d5, p11, p12⟩ := times_ok (by_ := n.natAbs) p10 (by omega) (Tle _ 20000000 (by omega) sW)
  obtain ⟨l6, d6, p13, p14⟩ := times_ok (by_ := da) hU (by omega) (Tle _ 1 (by omega) (by omega))
  obtain ⟨l7, d7, p15, p16⟩ := times_ok (by_ := db) p14 (by omega) (Tle _ 1 (by omega) (by omega))
  have eabs : (if 0 < lz n then lz n else -lz n) = lN n.natAbs := by
    have c : (0 : Int64) < lz n ↔ 0 < n := lz_lt (a := 0) (b := n) (by omega) (by omega) (by omega) (by omega)
    by_cases z : 0 < n
    · rw [if_pos (c.mpr z), ← lz_n]; congr 1; omega
    · rw [if_neg (fun y => z (c.mp y)), lz_neg, ← lz_n]; congr 1; omega
  have cle := lz_le0' (z := n) (by omega) (by omega)
  have sz : ∀ X : Nat, X ≤ p82 (t + 1) * (t * 20000000) → X + U * n.natAbs ≤ p82 (t + 1) * ((t + 1) * 20000000) := fun X hX => by
    have e : p82 (t + 1) * ((t + 1) * 20000000) = p82 (t + 1) * (t * 20000000) + p82 (t + 1) * 20000000 := by grind
    omega
  by_cases z : n ≤ 0
  · obtain ⟨l8, d8, p17, p18⟩ := add_ok p8 p12 (Tle _ _ tb1 (sz _ sM2))
    refine ⟨l2, l8, l7, l5, d2, d8, d7, d5, P * da * db, M * da * db + U * n.natAbs, U * da * db, fun k => ?_, p4, p18, p16, ?_, by rw [Nat.mul_assoc], sU2, gP, sz _ sM2⟩
    · rw [p1]
      simp only [ob, dm2]
      rw [p3]
      simp only [p5]
      rw [p7]
      simp only [p9, eabs]
      rw [p11]
      simp only [if_pos (cle.mpr z), p17, dm4, p13]
      rw [p15]
    · simp only [Int.natCast_add, Int.natCast_mul]
      have : ((n.natAbs : Nat) : Int) = -n := by omega
      rw [this]; grind
  · obtain ⟨l8, d8, p17, p18⟩ := add_ok p4 p12 (Tle _ _ tb1 (sz _ sP2))
    refine ⟨l8, l4, l7, l5, d8, d4, d7, d5, P * da * db + U * n.natAbs, M * da * db, U * da * db, fun k => ?_, p18, p8, p16, ?_, by rw [Nat.mul_assoc], sU2, sz _ sP2, gM⟩
    · rw [p1]
      simp only [ob, dm2]
      rw [p3]
      simp only [p5]
      rw [p7]
      simp only [p9, eabs]
      rw [p11]
      simp only [if_neg (fun y => z (cle.mp y)), p17, dm4, p13]
      rw [p15]
    · simp only [Int.natCast_add, Int.natCast_mul]
      have : ((n.natAbs : Nat) : Int) = n := by omega
      rw [this]; grind
