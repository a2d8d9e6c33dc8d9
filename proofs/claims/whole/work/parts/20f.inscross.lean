/-! a crossing put in, on both sides -/
def LnAt (X Y U V : Nat → Int32) (i : Nat) (L : Ln) : Prop := X i = nI L.1 ∧ Y i = nI L.2.1 ∧ U i = nI L.2.2.1 ∧ V i = nI L.2.2.2
theorem iz_toNat {z : Int} (h : 0 ≤ z) : iz z = nI z.toNat := by
  rw [← iz_n, Int.toNat_of_nonneg h]
theorem lz_toNat {z : Int} (h : 0 ≤ z) : lz z = lN z.toNat := by
  rw [← lz_n, Int.toNat_of_nonneg h]
theorem insC_ok {n : Nat} (hn : n < 128) {P : Nat → Pt3} (hP : ∀ i, i < n → pOK (P i)) (sP : Srt n P) {u x y : Nat → Int32} (hJ : JR n P u x y) {X Y U V : Nat → Int32} {i j : Nat} (hi : i < 18) (hj : j < 18) {L M : Ln} (hL : lnOK L) (hM : lnOK M) (aL : LnAt X Y U V i L) (aM : LnAt X Y U V j M) : ∃ (m : Nat) (Q : Nat → Pt3) (u' x' y' : Nat → Int32), sX4_insertCrossing (nI i) (nI j) (nI n) u x y U V X Y = some (nI m, u', x', y') ∧ m ≤ n + 1 ∧ (∀ i, i < m → pOK (Q i)) ∧ Srt m Q ∧ JR m Q u' x' y' ∧ ∀ q, (∃ i, i < m ∧ Q i = q) ↔ ((∃ i, i < n ∧ P i = q) ∨ (crs L M ∧ q = crP L M)) := by
  have ci : (nI i).toNatClampNeg = i := nI_clamp (by omega)
  have cj : (nI j).toNatClampNeg = j := nI_clamp (by omega)
  obtain ⟨l1, l2, l3, l4⟩ := aL
  obtain ⟨m1, m2, m3, m4⟩ := aM
  have hw := cW_bd hL hM
  have ha := cA_bd hL hM
  have hb := cB_bd hL hM
  have start : sX4_insertCrossing (nI i) (nI j) (nI n) u x y U V X Y = if ¬ iz (cW L M) = 0 then ob (if 0 ≤ iz (cW L M) then some (1 : Int32) else some (-1 : Int32)) (fun v6 => if v6 * iz (cA L M) < 0 then some (nI n, u, x, y) else if v6 * iz (cW L M) < v6 * iz (cA L M) then some (nI n, u, x, y) else if v6 * iz (cB L M) < 0 then some (nI n, u, x, y) else if v6 * iz (cB L M) ≤ v6 * iz (cW L M) then ob (sX4_insert (nI L.1 * (v6 * iz (cW L M)) + v6 * iz (cA L M) * iz (lnU L)) (nI L.2.1 * (v6 * iz (cW L M)) + v6 * iz (cA L M) * iz (lnV L)) (v6 * iz (cW L M)) (nI n) u x y) (fun o => some (o.1, o.2.1, o.2.2.1, o.2.2.2)) else some (nI n, u, x, y)) else some (nI n, u, x, y) := by
    simp only [sX4_insertCrossing, lt, gd_t (ix_ok hi (by omega)), gd_t (ix_ok hj (by omega))]
    simp only [ci, cj, l1, l2, l3, l4, m1, m2, m3, m4, nsub, iz_mul, iz_sub]
    rfl
  have same : sX4_insertCrossing (nI i) (nI j) (nI n) u x y U V X Y = some (nI n, u, x, y) → ¬ crs L M → ∃ (m : Nat) (Q : Nat → Pt3) (u' x' y' : Nat → Int32), sX4_insertCrossing (nI i) (nI j) (nI n) u x y U V X Y = some (nI m, u', x', y') ∧ m ≤ n + 1 ∧ (∀ i, i < m → pOK (Q i)) ∧ Srt m Q ∧ JR m Q u' x' y' ∧ ∀ q, (∃ i, i < m ∧ Q i = q) ↔ ((∃ i, i < n ∧ P i = q) ∨ (crs L M ∧ q = crP L M)) := fun h1 h2 => ⟨n, P, u, x, y, h1, by omega, hP, sP, hJ, fun q => ⟨fun h => Or.inl h, fun h => h.elim id (fun z => absurd z.1 h2)⟩⟩
  by_cases h0 : cW L M = 0
  · rw [if_neg (fun z => z ((iz0 (by omega) (by omega)).mpr h0))] at start
    exact same start (fun z => z.1 h0)
  · rw [if_pos (fun z => h0 ((iz0 (by omega) (by omega)).mp z))] at start
    have hsg : (if 0 ≤ iz (cW L M) then some (1 : Int32) else some (-1 : Int32)) = some (iz (cS L M)) := by
      unfold cS
      by_cases h : 0 ≤ cW L M
      · rw [if_pos ((iz_ge0 (by omega) (by omega)).mpr h), if_pos h]; rfl
      · rw [if_neg (fun z => h ((iz_ge0 (by omega) (by omega)).mp z)), if_neg h]; rfl
    rw [ob_s hsg] at start
    simp only [iz_mul] at start
    have hsw := cSW_pos h0
    have hsw2 := cSW_bd hL hM
    have ha2 : -288 ≤ cS L M * cA L M ∧ cS L M * cA L M ≤ 288 := by
      rcases cS_or L M with ⟨e, h1⟩ | ⟨e, h1⟩ <;> rw [e] <;> omega
    have hb2 : -288 ≤ cS L M * cB L M ∧ cS L M * cB L M ≤ 288 := by
      rcases cS_or L M with ⟨e, h1⟩ | ⟨e, h1⟩ <;> rw [e] <;> omega
    by_cases c1 : cS L M * cA L M < 0
    · rw [if_pos ((iz_lt0 (by omega) (by omega)).mpr c1)] at start
      exact same start (fun z => absurd z.2.1 (by omega))
    · rw [if_neg (fun z => c1 ((iz_lt0 (by omega) (by omega)).mp z))] at start
      by_cases c2 : cS L M * cW L M < cS L M * cA L M
      · rw [if_pos ((iz_lt (by omega) (by omega) (by omega) (by omega)).mpr c2)] at start
        exact same start (fun z => absurd z.2.2.1 (by omega))
      · rw [if_neg (fun z => c2 ((iz_lt (by omega) (by omega) (by omega) (by omega)).mp z))] at start
        by_cases c3 : cS L M * cB L M < 0
        · rw [if_pos ((iz_lt0 (by omega) (by omega)).mpr c3)] at start
          exact same start (fun z => absurd z.2.2.2.1 (by omega))
        · rw [if_neg (fun z => c3 ((iz_lt0 (by omega) (by omega)).mp z))] at start
          by_cases c4 : cS L M * cB L M ≤ cS L M * cW L M
          · have hc : crs L M := ⟨h0, by omega, by omega, by omega, c4⟩
            rw [if_pos ((iz_le (by omega) (by omega) (by omega) (by omega)).mpr c4)] at start
            have bx := crX_bd hL hc
            have by_ := crY_bd hL hc
            have e1 : nI L.1 * iz (cS L M * cW L M) + iz (cS L M * cA L M * lnU L) = nI (crX L M).toNat := by rw [← iz_n, iz_mul, iz_add, ← iz_toNat bx.1]; rfl
            have e2 : nI L.2.1 * iz (cS L M * cW L M) + iz (cS L M * cA L M * lnV L) = nI (crY L M).toNat := by rw [← iz_n, iz_mul, iz_add, ← iz_toNat by_.1]; rfl
            have e3 : iz (cS L M * cW L M) = nI (cS L M * cW L M).toNat := iz_toNat (by omega)
            rw [e1, e2, e3] at start
            obtain ⟨m, Q, u', x', y', g1, g2, g3, g4, g5, g6⟩ := ins_ok hn hP sP hJ (a := (crX L M).toNat) (b := (crY L M).toNat) (c := (cS L M * cW L M).toNat) (by omega) (by omega) (by omega) (by omega)
            rw [ob_s g1] at start
            refine ⟨m, Q, u', x', y', start, g2, g3, g4, g5, fun q => (g6 q).trans ⟨fun h => h.elim Or.inl (fun z => Or.inr ⟨hc, z⟩), fun h => h.elim Or.inl (fun z => Or.inr z.2)⟩⟩
          · rw [if_neg (fun z => c4 ((iz_le (by omega) (by omega) (by omega) (by omega)).mp z))] at start
            exact same start (fun z => c4 z.2.2.2.2)
theorem lz0 {z : Int} (h1 : -1000000 ≤ z) (h2 : z ≤ 1000000) : lz z = 0 ↔ z = 0 := lz_eq (b := 0) (by omega) (by omega) (by omega) (by omega)
theorem lgz_lt {a b : Int} (a1 : -1000000 ≤ a) (a2 : a ≤ 1000000) (b1 : -1000000 ≤ b) (b2 : b ≤ 1000000) : lg_cmp (lz a) (lz b) < 0 ↔ a < b := (lg_cmp_lt _ _).trans (lz_lt (by omega) (by omega) (by omega) (by omega))
theorem lgz_gt {a b : Int} (a1 : -1000000 ≤ a) (a2 : a ≤ 1000000) (b1 : -1000000 ≤ b) (b2 : b ≤ 1000000) : 0 < lg_cmp (lz a) (lz b) ↔ b < a := (lg_cmp_gt _ _).trans (lz_lt (by omega) (by omega) (by omega) (by omega))
theorem lgz_eq {a b : Int} (a1 : -1000000 ≤ a) (a2 : a ≤ 1000000) (b1 : -1000000 ≤ b) (b2 : b ≤ 1000000) : lg_cmp (lz a) (lz b) = 0 ↔ a = b := (lg_cmp_eq _ _).trans (lz_eq (by omega) (by omega) (by omega) (by omega))
theorem lgz_ge {a b : Int} (a1 : -1000000 ≤ a) (a2 : a ≤ 1000000) (b1 : -1000000 ≤ b) (b2 : b ≤ 1000000) : 0 ≤ lg_cmp (lz a) (lz b) ↔ b ≤ a := by
  rw [← Int32.not_lt, lgz_lt a1 a2 b1 b2]; omega
theorem mcross_ok {n : Nat} (hn : n < 239) {P : Nat → Pt3} (hP : ∀ i, i < n → pOK (P i)) (sP : Srt n P) {d x y : Nat → Int64} (hJ : JL n P d x y) {X Y U V : Nat → Int32} {i j : Nat} (hi : i < 18) (hj : j < 18) {L M : Ln} (hL : lnOK L) (hM : lnOK M) (aL : LnAt X Y U V i L) (aM : LnAt X Y U V j M) : ∃ (m : Nat) (Q : Nat → Pt3) (d' x' y' : Nat → Int64), sX10_cross (nI i) (nI j) (nI n) X Y U V d x y = some (nI m, d', x', y') ∧ m ≤ n + 1 ∧ (∀ i, i < m → pOK (Q i)) ∧ Srt m Q ∧ JL m Q d' x' y' ∧ ∀ q, (∃ i, i < m ∧ Q i = q) ↔ ((∃ i, i < n ∧ P i = q) ∨ (crs L M ∧ q = crP L M)) := by
  have ci : (nI i).toNatClampNeg = i := nI_clamp (by omega)
  have cj : (nI j).toNatClampNeg = j := nI_clamp (by omega)
  obtain ⟨l1, l2, l3, l4⟩ := aL
  obtain ⟨m1, m2, m3, m4⟩ := aM
  have hw := cW_bd hL hM
  have ha := cA_bd hL hM
  have hb := cB_bd hL hM
  have toL : ∀ a b : Nat, a ≤ 12 → b ≤ 12 → (nI a - nI b).toInt64 = lz ((a : Int) - (b : Int)) := fun a b h1 h2 => by rw [nsub, iz_l (by omega) (by omega)]
  have start : sX10_cross (nI i) (nI j) (nI n) X Y U V d x y = if ¬ lg_cmp (lz (cW L M)) 0 = 0 then ob (if 0 ≤ lg_cmp (lz (cW L M)) 0 then some (lz (cW L M), lz (cA L M), lz (cB L M)) else some (-lz (cW L M), -lz (cA L M), -lz (cB L M))) (fun t => if lg_cmp t.2.1 0 < 0 then some (nI n, d, x, y) else if 0 < lg_cmp t.2.1 t.1 then some (nI n, d, x, y) else if lg_cmp t.2.2 0 < 0 then some (nI n, d, x, y) else if 0 < lg_cmp t.2.2 t.1 then some (nI n, d, x, y) else ob (sX10_joint ((nI L.1).toInt64 * t.1 + t.2.1 * lz (lnU L)) ((nI L.2.1).toInt64 * t.1 + t.2.1 * lz (lnV L)) t.1 (nI n) d x y) (fun o => some (o.1, o.2.1, o.2.2.1, o.2.2.2))) else some (nI n, d, x, y) := by
    simp only [sX10_cross, lt, gd_t (ix_ok hi (by omega)), gd_t (ix_ok hj (by omega))]
    simp only [ci, cj, l1, l2, l3, l4, m1, m2, m3, m4]
    rw [toL _ _ hL.2.2.1 hL.1, toL _ _ hL.2.2.2 hL.2.1, toL _ _ hM.2.2.1 hM.1, toL _ _ hM.2.2.2 hM.2.1, toL _ _ hM.1 hL.1, toL _ _ hM.2.1 hL.2.1]
    simp only [lz_mul, lz_sub]
    rfl
  have same : sX10_cross (nI i) (nI j) (nI n) X Y U V d x y = some (nI n, d, x, y) → ¬ crs L M → ∃ (m : Nat) (Q : Nat → Pt3) (d' x' y' : Nat → Int64), sX10_cross (nI i) (nI j) (nI n) X Y U V d x y = some (nI m, d', x', y') ∧ m ≤ n + 1 ∧ (∀ i, i < m → pOK (Q i)) ∧ Srt m Q ∧ JL m Q d' x' y' ∧ ∀ q, (∃ i, i < m ∧ Q i = q) ↔ ((∃ i, i < n ∧ P i = q) ∨ (crs L M ∧ q = crP L M)) := fun h1 h2 => ⟨n, P, d, x, y, h1, by omega, hP, sP, hJ, fun q => ⟨fun h => Or.inl h, fun h => h.elim id (fun z => absurd z.1 h2)⟩⟩
  have z0 : (0 : Int64) = lz 0 := rfl
  rw [z0] at start
  by_cases h0 : cW L M = 0
  · rw [if_neg (fun z => z ((lgz_eq (by omega) (by omega) (by omega) (by omega)).mpr h0))] at start
    exact same start (fun z => z.1 h0)
  · rw [if_pos (fun z => h0 ((lgz_eq (by omega) (by omega) (by omega) (by omega)).mp z))] at start
    have hsg : (if 0 ≤ lg_cmp (lz (cW L M)) (lz 0) then some (lz (cW L M), lz (cA L M), lz (cB L M)) else some (-lz (cW L M), -lz (cA L M), -lz (cB L M))) = some (lz (cS L M * cW L M), lz (cS L M * cA L M), lz (cS L M * cB L M)) := by
      unfold cS
      by_cases h : 0 ≤ cW L M
      · rw [if_pos ((lgz_ge (by omega) (by omega) (by omega) (by omega)).mpr h), if_pos h, Int.one_mul, Int.one_mul, Int.one_mul]
      · rw [if_neg (fun z => h ((lgz_ge (by omega) (by omega) (by omega) (by omega)).mp z)), if_neg h, lz_neg, lz_neg, lz_neg, Int.neg_one_mul, Int.neg_one_mul, Int.neg_one_mul]
    rw [ob_s hsg] at start
    dsimp only at start
    have hsw := cSW_pos h0
    have hsw2 := cSW_bd hL hM
    have ha2 : -288 ≤ cS L M * cA L M ∧ cS L M * cA L M ≤ 288 := by
      rcases cS_or L M with ⟨e, h1⟩ | ⟨e, h1⟩ <;> rw [e] <;> omega
    have hb2 : -288 ≤ cS L M * cB L M ∧ cS L M * cB L M ≤ 288 := by
      rcases cS_or L M with ⟨e, h1⟩ | ⟨e, h1⟩ <;> rw [e] <;> omega
    by_cases c1 : cS L M * cA L M < 0
    · rw [if_pos ((lgz_lt (by omega) (by omega) (by omega) (by omega)).mpr c1)] at start
      exact same start (fun z => absurd z.2.1 (by omega))
    · rw [if_neg (fun z => c1 ((lgz_lt (by omega) (by omega) (by omega) (by omega)).mp z))] at start
      by_cases c2 : cS L M * cW L M < cS L M * cA L M
      · rw [if_pos ((lgz_gt (by omega) (by omega) (by omega) (by omega)).mpr c2)] at start
        exact same start (fun z => absurd z.2.2.1 (by omega))
      · rw [if_neg (fun z => c2 ((lgz_gt (by omega) (by omega) (by omega) (by omega)).mp z))] at start
        by_cases c3 : cS L M * cB L M < 0
        · rw [if_pos ((lgz_lt (by omega) (by omega) (by omega) (by omega)).mpr c3)] at start
          exact same start (fun z => absurd z.2.2.2.1 (by omega))
        · rw [if_neg (fun z => c3 ((lgz_lt (by omega) (by omega) (by omega) (by omega)).mp z))] at start
          by_cases c4 : cS L M * cW L M < cS L M * cB L M
          · rw [if_pos ((lgz_gt (by omega) (by omega) (by omega) (by omega)).mpr c4)] at start
            exact same start (fun z => absurd z.2.2.2.2 (by omega))
          · rw [if_neg (fun z => c4 ((lgz_gt (by omega) (by omega) (by omega) (by omega)).mp z))] at start
            have hc : crs L M := ⟨h0, by omega, by omega, by omega, by omega⟩
            have bx := crX_bd hL hc
            have by_ := crY_bd hL hc
            have e1 : (nI L.1).toInt64 * lz (cS L M * cW L M) + lz (cS L M * cA L M) * lz (lnU L) = lN (crX L M).toNat := by rw [nI_l (by have := hL.1; omega), ← lz_n, lz_mul, lz_mul, lz_add, ← lz_toNat bx.1]; rfl
            have e2 : (nI L.2.1).toInt64 * lz (cS L M * cW L M) + lz (cS L M * cA L M) * lz (lnV L) = lN (crY L M).toNat := by rw [nI_l (by have := hL.2.1; omega), ← lz_n, lz_mul, lz_mul, lz_add, ← lz_toNat by_.1]; rfl
            have e3 : lz (cS L M * cW L M) = lN (cS L M * cW L M).toNat := lz_toNat (by omega)
            rw [e1, e2, e3] at start
            obtain ⟨m, Q, d', x', y', g1, g2, g3, g4, g5, g6⟩ := mins_ok hn hP sP hJ (a := (crX L M).toNat) (b := (crY L M).toNat) (c := (cS L M * cW L M).toNat) (by omega) (by omega) (by omega) (by omega)
            rw [ob_s g1] at start
            refine ⟨m, Q, d', x', y', start, g2, g3, g4, g5, fun q => (g6 q).trans ⟨fun h => h.elim Or.inl (fun z => Or.inr ⟨hc, z⟩), fun h => h.elim Or.inl (fun z => Or.inr z.2)⟩⟩
