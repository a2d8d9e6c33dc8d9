/-! the reference's naturals: less, compare, set -/
theorem and30i {z : Int} : iz z &&& (1073741823 : Int32) = nI (z % 1073741824).toNat := by
  rw [pk_and (iz z) 30 (by decide)]
  congr 1
  have : (iz z).toBitVec.toNat = (z % 4294967296).toNat := by
    show (BitVec.ofInt 32 z).toNat = _
    rw [BitVec.toNat_ofInt]
    rfl
  rw [this]
  omega
theorem less_ok {l1 l2 : Int32} {d1 d2 : Nat → Int32} {v1 v2 : Nat} (h : Hd l1 d1 v1) (h' : Hd l2 d2 v2) (hv : v2 ≤ v1) : ∃ l d, sX11_less l1 d1 l2 d2 = some (l, d) ∧ Hd l d (v1 - v2) := by
  obtain ⟨n1, D1, rfl, a1, a2, a3, a4, a5⟩ := h
  obtain ⟨n2, D2, rfl, b1, b2, b3, b4, b5⟩ := h'
  have hn : n2 ≤ n1 := Hd_len b4 b5 (by have := vl_lt a3; omega)
  have x2 : ∀ k, ext n2 D2 k < 1073741824 := fun k => by unfold ext; split <;> first | omega | exact b3 k (by assumption)
  obtain ⟨s, g1, g2⟩ := iter_for (S := Nat × (Nat → Nat) × (Nat → Int32)) (B := bX11_less_4 (nI n1) (nI n2) d2) (fun k s => (nI s.1, nI k, s.2.2)) n1 (fun k s => s.1 ≤ 1 ∧ hN k s.2.2 s.2.1 ∧ (∀ i, i < k → s.2.1 i < 1073741824) ∧ (∀ i, k ≤ i → i < n1 → s.2.2 i = nI (D1 i)) ∧ vl s.2.1 k + vl (ext n2 D2) k = vl D1 k + s.1 * pw k) 0 (0, fun _ => 0, d1) ⟨by omega, fun i hi => absurd hi (Nat.not_lt_zero _), fun i hi => absurd hi (Nat.not_lt_zero _), fun i _ hi => a2 i hi, by show 0 + 0 = 0 + 0 * pw 0; omega⟩ (by omega) (by omega) (fun k s _ hk hI => by
    obtain ⟨c, E, a⟩ := s
    obtain ⟨i1, i2, i3, i4, i5⟩ := hI
    dsimp only at i1 i2 i3 i4 i5 ⊢
    have y1 := a3 k hk
    have y2 := x2 k
    have e2 : (if n2 ≤ k then some (nI 0) else some (d2 k)) = some (nI (ext n2 D2 k)) := by
      unfold ext
      by_cases z : k < n2
      · rw [if_neg (by omega), if_pos z, b2 k z]
      · rw [if_pos (by omega), if_neg z]
    have e3 : nI (D1 k) - nI c - nI (ext n2 D2 k) = iz ((D1 k : Int) - c - ext n2 D2 k) := by rw [← iz_n, ← iz_n, ← iz_n, iz_sub, iz_sub]
    have e4 : (if 0 ≤ iz ((D1 k : Int) - c - ext n2 D2 k) then some (nI 0) else some (nI 1)) = some (nI (if (0 : Int) ≤ (D1 k : Int) - c - ext n2 D2 k then 0 else 1)) := by
      have := iz_ge0 (z := (D1 k : Int) - c - ext n2 D2 k) (by omega) (by omega)
      by_cases z : (0 : Int) ≤ (D1 k : Int) - c - ext n2 D2 k
      · rw [if_pos (this.mpr z), if_pos z]
      · rw [if_neg (fun y => z (this.mp y)), if_neg z]
    refine ⟨((if (0 : Int) ≤ (D1 k : Int) - c - ext n2 D2 k then 0 else 1), up E k (((D1 k : Int) - c - ext n2 D2 k) % 1073741824).toNat, upd a k (nI (((D1 k : Int) - c - ext n2 D2 k) % 1073741824).toNat)), ?_, ?_, hN_push i2 _, fun i hi => ?_, fun i z1 z2 => ?_, ?_⟩
    · rw [nl_0] at e4
      simp (disch := omega) only [bX11_less_4, dm3, nI_leS, nI_lt0, nI_clampS, false_or, gd_s, nl_0, nI_lt0', nl_1]
      rw [if_neg (by omega), e2]
      simp only [ob, dm1, lt, i4 k (Nat.le_refl _) hk, e3, and30i]
      rw [e4]
      simp only [nI_add]
    · dsimp only; split <;> omega
    · dsimp only
      by_cases z : i = k
      · rw [z, up_s]; omega
      · rw [up_n z]; exact i3 i (by omega)
    · dsimp only
      rw [pk_un (by omega)]; exact i4 i (by omega) z2
    · dsimp only
      rw [vl_s, vl_s, vl_s, up_s, vl_congr (E := E) (fun i hi => up_n (by omega)), pw_s]
      by_cases z : (0 : Int) ≤ (D1 k : Int) - c - ext n2 D2 k
      · rw [if_pos z]
        have e9 : (((D1 k : Int) - c - ext n2 D2 k) % 1073741824).toNat + c + ext n2 D2 k = D1 k := by omega
        generalize (((D1 k : Int) - c - ext n2 D2 k) % 1073741824).toNat = r at *
        rw [← e9]
        grind
      · rw [if_neg z]
        have e9 : (((D1 k : Int) - c - ext n2 D2 k) % 1073741824).toNat + c + ext n2 D2 k = D1 k + 1073741824 := by omega
        generalize (((D1 k : Int) - c - ext n2 D2 k) % 1073741824).toNat = r at *
        have e8 : (r + c + ext n2 D2 k) * pw k = (D1 k + 1073741824) * pw k := by rw [e9]
        grind) (fun s hI => by
    simp (disch := omega) only [bX11_less_4, dm3, nI_leS]
    rw [if_pos (by omega)])
  obtain ⟨c, E, a⟩ := s
  obtain ⟨i1, i2, i3, i4, i5⟩ := g2
  dsimp only at g1 i1 i2 i3 i4 i5
  rw [ext_v hn, a4, b4] at i5
  have lt1 := vl_lt i3
  have c0 : c = 0 := by
    rcases Nat.eq_zero_or_pos c with z | z
    · exact z
    · exfalso
      have := Nat.mul_le_mul_right (pw n1) z
      omega
  rw [c0] at i5
  obtain ⟨n3, t1, t2, t3, t4⟩ := trim_ok (show n1 ≤ 600 by omega) i2 i3
  refine ⟨nI n3, a, ?_, n3, E, rfl, by omega, fun i hi => i2 i (by omega), fun k hk => i3 k (by omega), by rw [t3]; omega, t4⟩
  unfold sX11_less
  have g1' : iter (bX11_less_4 (nI n1) (nI n2) d2) FU (nI 0, nI 0, d1) = some (0, (nI c, nI n1, a)) := g1
  rw [nl_0, ob_s g1']
  simp only [ex1, dm3, if_true]
  rw [ob_s t2]
  rfl
theorem cmp_ok2 {l1 l2 : Int32} {d1 d2 : Nat → Int32} {v1 v2 : Nat} (h : Hd l1 d1 v1) (h' : Hd l2 d2 v2) : ∃ r, sX11_compare l1 d1 l2 d2 = some r ∧ (0 < r ↔ v2 < v1) := by
  obtain ⟨n1, D1, rfl, a1, a2, a3, a4, a5⟩ := h
  obtain ⟨n2, D2, rfl, b1, b2, b3, b4, b5⟩ := h'
  unfold sX11_compare
  by_cases e : n1 = n2
  · subst e
    rw [if_pos rfl]
    -- from the last digit down
    have main : ∀ (k f : Nat), k ≤ n1 → k < f → (∃ i, i < k ∧ D1 i ≠ D2 i ∧ (∀ j, i < j → j < k → D1 j = D2 j) ∧ iter (bX11_compare_35 d1 d2) f (iz ((k : Int) - 1)) = some (0, nI i)) ∨ ((∀ j, j < k → D1 j = D2 j) ∧ ∃ v, iter (bX11_compare_35 d1 d2) f (iz ((k : Int) - 1)) = some (1, v)) := by
      intro k
      induction k with
      | zero =>
        intro f _ hf
        obtain ⟨f, rfl⟩ : ∃ g, f = g + 1 := ⟨f - 1, by omega⟩
        refine Or.inr ⟨fun j hj => absurd hj (Nat.not_lt_zero _), iz (((0 : Nat) : Int) - 1), iter_out ?_ f⟩
        simp only [bX11_compare_35, dm1]
        rw [if_pos (by decide)]
      | succ k ih =>
        intro f hk hf
        obtain ⟨f, rfl⟩ : ∃ g, f = g + 1 := ⟨f - 1, by omega⟩
        have y1 := a3 k (by omega)
        have y2 := b3 k (by omega)
        have e1 : iz (((k + 1 : Nat) : Int) - 1) = nI k := by rw [← iz_n]; congr 1; omega
        have e2 : bX11_compare_35 d1 d2 (nI k) = if D1 k = D2 k then some (0, iz ((k : Int) - 1)) else some (1, nI k) := by
          simp (disch := omega) only [bX11_compare_35, dm1, nI_lt0, if_false, nI_clampS, false_or, gd_s, a2 k (by omega), b2 k (by omega), nI_eqS, lt]
          rw [← iz_n, show (-1 : Int32) = iz (-1) by decide, iz_add]
          rfl
        rw [e1]
        by_cases z : D1 k = D2 k
        · rw [if_pos z] at e2
          rcases ih f (by omega) (by omega) with ⟨i, i1, i2, i3, i4⟩ | ⟨i1, v, i2⟩
          · refine Or.inl ⟨i, by omega, i2, fun j x y => ?_, by rw [iter_go e2]; exact i4⟩
            by_cases w : j = k
            · rw [w]; exact z
            · exact i3 j x (by omega)
          · refine Or.inr ⟨fun j hj => ?_, v, by rw [iter_go e2]; exact i2⟩
            by_cases w : j = k
            · rw [w]; exact z
            · exact i1 j (by omega)
        · rw [if_neg z] at e2
          exact Or.inl ⟨k, by omega, z, fun j x y => by omega, iter_out e2 f⟩
    have x0 : nI n1 - 1 = iz ((n1 : Int) - 1) := by rw [← iz_n, show (1 : Int32) = iz 1 by decide, iz_sub]
    unfold lt
    dsimp only
    rw [x0]
    rcases main n1 FU (Nat.le_refl _) (FU_lt (by omega)) with ⟨i, i1, i2, i3, i4⟩ | ⟨i1, v, i2⟩
    · rw [ob_s i4]
      have y1 := a3 i i1
      have y2 := b3 i i1
      -- the highest digit that differs decides
      have dec : ∀ (D E : Nat → Nat) (n : Nat), (∀ k, k < n → D k < 1073741824) → i < n → D i < E i → (∀ j, i < j → j < n → D j = E j) → vl D n < vl E n := by
        intro D E n hD hi hlt heq
        have base : vl D (i + 1) < vl E (i + 1) := by
          rw [vl_s, vl_s]
          have h1 := vl_lt (D := D) (n := i) (fun k hk => hD k (by omega))
          have h2 := Nat.mul_le_mul_right (pw i) (show D i + 1 ≤ E i by omega)
          have h3 : (D i + 1) * pw i = D i * pw i + pw i := by grind
          omega
        have up : ∀ d, i + 1 + d ≤ n → vl D (i + 1 + d) < vl E (i + 1 + d) := by
          intro d
          induction d with
          | zero => intro _; exact base
          | succ d ih =>
            intro hd
            rw [show i + 1 + (d + 1) = i + 1 + d + 1 by omega, vl_s, vl_s, heq (i + 1 + d) (by omega) (by omega)]
            have := ih (by omega)
            omega
        have := up (n - (i + 1)) (by omega)
        rw [show i + 1 + (n - (i + 1)) = n by omega] at this
        exact this
      simp (disch := omega) only [ex2, dm1, if_true, nI_lt0, nI_clampS, false_or, gd_s, a2 i i1, b2 i i1, nI_leS]
      rcases Nat.lt_or_gt_of_ne i2 with z | z
      · rw [if_neg (by omega)]
        refine ⟨-1, rfl, ?_⟩
        have := dec D1 D2 n1 a3 i1 z i3
        constructor
        · intro q; exact absurd q (by decide)
        · intro q; omega
      · rw [if_pos (by omega)]
        refine ⟨1, rfl, ?_⟩
        have := dec D2 D1 n1 b3 i1 z (fun j x y => (i3 j x y).symm)
        constructor
        · intro q; omega
        · intro q; decide
    · rw [ob_s i2]
      refine ⟨0, rfl, ?_⟩
      have : v1 = v2 := by rw [← a4, ← b4]; exact vl_congr i1
      constructor
      · intro q; exact absurd q (by decide)
      · intro q; omega
  · rw [if_neg (by rw [nI_eqS (by omega) (by omega)]; exact e)]
    rcases Nat.lt_or_gt_of_ne e with z | z
    · rw [if_neg (by rw [nI_leS (by omega) (by omega)]; omega)]
      refine ⟨-1, rfl, ?_⟩
      have h1 := vl_lt a3
      have h2 := vl_ge (D := D2) (n := n2) (by omega) (b5.resolve_left (by omega))
      have h3 := pw_le (show n1 ≤ n2 - 1 by omega)
      constructor
      · intro q; exact absurd q (by decide)
      · intro q; omega
    · rw [if_pos (by rw [nI_leS (by omega) (by omega)]; omega)]
      refine ⟨1, rfl, ?_⟩
      have h1 := vl_lt b3
      have h2 := vl_ge (D := D1) (n := n1) (by omega) (a5.resolve_left (by omega))
      have h3 := pw_le (show n2 ≤ n1 - 1 by omega)
      constructor
      · intro q; omega
      · intro q; decide
theorem set0_ok (len : Int32) (d : Nat → Int32) : ∃ l d', sX11_set (0 : Int64) len d = some (l, d') ∧ Hd l d' 0 := by
  refine ⟨nI 0, d, ?_, 0, fun _ => 0, rfl, by omega, fun i hi => absurd hi (Nat.not_lt_zero _), fun i hi => absurd hi (Nat.not_lt_zero _), rfl, Or.inl rfl⟩
  have e : iter bX11_set_7 FU ((0 : Int64), nI 0, d) = some (0, ((0 : Int64), nI 0, d)) := by
    refine iter_out (n := 999999999) ?_
    simp only [bX11_set_7, dm3]
    rw [if_pos ((lg_cmp_eq _ _).mpr rfl)]
  unfold sX11_set
  rw [nl_0, ob_s e]
  rfl
theorem set1_ok (len : Int32) (d : Nat → Int32) : ∃ l d', sX11_set (1 : Int64) len d = some (l, d') ∧ Hd l d' 1 := by
  have hh1 : hN 1 (upd d 0 (nI 1)) (fun _ => 1) := fun i hi => by
    obtain rfl : i = 0 := by omega
    exact pk_us
  have hv1 : vl (fun _ => 1) 1 = 1 := by decide
  refine ⟨nI 1, upd d 0 (nI 1), ?_, 1, fun _ => 1, rfl, by omega, hh1, fun i _ => (by decide : 1 < 1073741824), hv1, Or.inr (by decide)⟩
  have e1 : bX11_set_7 ((1 : Int64), nI 0, d) = some (0, ((0 : Int64), nI 1, upd d 0 (nI 1))) := by
    simp (disch := omega) only [bX11_set_7, dm3, nI_lt0, nI_clampS, false_or, gd_s, lt, nl_1, nI_add]
    rw [if_neg (by decide)]
    rfl
  have e : iter bX11_set_7 FU ((1 : Int64), nI 0, d) = some (0, ((0 : Int64), nI 1, upd d 0 (nI 1))) := by
    show iter bX11_set_7 (999999999 + 1) _ = _
    rw [iter_go e1]
    refine iter_out (n := 999999998) ?_
    simp only [bX11_set_7, dm3]
    rw [if_pos ((lg_cmp_eq _ _).mpr rfl)]
  unfold sX11_set
  rw [nl_0, ob_s e]
  rfl
