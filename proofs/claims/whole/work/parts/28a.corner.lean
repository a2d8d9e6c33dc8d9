/-! corners of a pane -/
theorem cornX_ok {nv : Nat → Nat → Nat} {n : Nat} {F T : Nat → Nat} (hn : n ≤ 684) {np : Nat} (hnp : np ≤ 125) {gs : Nat → St} {st wk : Nat → Nat} {sa wa : Nat → Int32} (hW : WaX nv n F T np gs st wk sa wa) {p : Nat} (hp : p < np) {K : Nat} (hK : Per nv (gs p) K) : sX7_corners (nI p) sa = some (nI K) := by
  obtain ⟨K', hK', e1, e2, hw⟩ := wk_at hW hp
  have := Per_one hK hK'
  subst this
  have sa0 := hW.2.2.1 p (by omega)
  have sa1 := hW.2.2.1 (p + 1) (by omega)
  simp (disch := omega) only [sX7_corners, nl_1, nI_add, nI_lt0, nI_clampS, false_or, gd_s, sa0, sa1, pk_sub]
  congr 2
  omega
theorem jacX_ok {nv : Nat → Nat → Nat} {n : Nat} {F T : Nat → Nat} (hn : n ≤ 684) {np : Nat} (hnp : np ≤ 125) {gs : Nat → St} {st wk : Nat → Nat} {sa wa fr : Nat → Int32} (hf : hN n fr F) (hW : WaX nv n F T np gs st wk sa wa) {p : Nat} (hp : p < np) {K : Nat} (hK : Per nv (gs p) K) {k : Nat} (hk : k < K) : sX7_jointAtCorner (nI p) (nI k) fr sa wa = some (nI (itr nv k (gs p)).1) := by
  obtain ⟨K', hK', e1, e2, hw⟩ := wk_at hW hp
  have := Per_one hK hK'
  subst this
  have sa0 := hW.2.2.1 p (by omega)
  obtain ⟨w1, w2, w3⟩ := hw k hk
  have f1 : F (wk (st p + k)) = (itr nv k (gs p)).1 := congrArg Prod.fst w3
  simp (disch := omega) only [sX7_jointAtCorner, nI_add, nI_lt0, nI_clampS, false_or, gd_s, sa0, w1, hf _ w2, f1]
theorem cornM_ok {n : Nat} {np : Nat} (hnp : np ≤ 125) {cs : Nat → Nat} {fa gw gr gt : Nat → Int32} {d x y : Nat → Int64} {p : Nat} (hp : p < np) (f1 : fa p = nI (cs p)) {σ : Nat → Nat} {K : Nat} (hn : n ≤ 342) (K0 : 0 < K) (hKn : K ≤ 2 * n) (s0 : σ 0 = cs p) (sK : σ K = cs p) (hσ : ∀ t, σ t < 2 * n ∧ sX12_next (nI (σ t)) (nI n) d gw gr gt x y = some (nI (σ (t + 1)))) (hne : ∀ t, 0 < t → t < K → σ t ≠ cs p) : sX12_corners (nI p) fa (nI n) d gw gr gt x y = some (nI K) := by
  have f1' : fa (nI p).toNatClampNeg = nI (cs p) := by rw [nI_clampS (by omega)]; exact f1
  have ix3 : ¬ (nI p < 0 ∨ 160 ≤ (nI p).toNatClampNeg) := ix_ok (by omega) (by omega)
  have step1 : ∀ t, bX12_corners_9 (nI p) fa (nI n) d gw gr gt x y (nI t, nI (σ t)) = (if ¬ σ (t + 1) = cs p then some (0, (nI (t + 1), nI (σ (t + 1)))) else some (1, (nI (t + 1), nI (σ (t + 1))))) := by
    intro t
    obtain ⟨q1, q3⟩ := hσ t
    have q4 := (hσ (t + 1)).1
    have q5 := (hσ 0).1
    unfold bX12_corners_9
    simp only [dm2, lt, nI_1]
    rw [ob_s q3]
    simp only [dm1, gd_s ix3, f1']
    simp (disch := omega) only [nI_eqS]
  obtain ⟨s, h1, h2⟩ := iter_per (S := Unit) (B := bX12_corners_9 (nI p) fa (nI n) d gw gr gt x y) (fun t _ => (nI t, nI (σ t))) K K0 (by omega) (fun _ _ => True) () trivial (fun t s ht _ => ⟨(), by
      rw [step1 t, if_pos (hne (t + 1) (by omega) ht)], trivial⟩) (fun t s ht _ => ⟨(), by
      subst ht
      rw [step1 t, if_neg (fun z => z sK)], trivial⟩)
  have h1' : iter (bX12_corners_9 (nI p) fa (nI n) d gw gr gt x y) FU (nI 0, nI (σ 0)) = some (0, (nI K, nI (σ K))) := h1
  rw [s0] at h1'
  unfold sX12_corners
  rw [gd_s ix3, lt_v, f1', nl_0, ob_s h1']
  rfl
theorem cornM2_ok {n : Nat} {gw gr gt : Nat → Int32} {d x y : Nat → Int64} {σ : Nat → Nat} (hσ : ∀ t, σ t < 2 * n ∧ sX12_next (nI (σ t)) (nI n) d gw gr gt x y = some (nI (σ (t + 1)))) {k : Nat} (hk : k < 1000) : iter (bX12_corner_56 (nI k) (nI n) d gw gr gt x y) FU (nI (σ 0), (0 : Int32)) = some (0, (nI (σ k), nI k)) := by
  obtain ⟨s, h1, h2⟩ := iter_for (S := Unit) (B := bX12_corner_56 (nI k) (nI n) d gw gr gt x y) (fun t _ => (nI (σ t), nI t)) k (fun _ _ => True) 0 () trivial (by omega) (by omega) (fun t s _ ht _ => ⟨(), by
      obtain ⟨q1, q3⟩ := hσ t
      unfold bX12_corner_56
      simp (disch := omega) only [dm2, nI_leS]
      rw [if_neg (by omega), ob_s q3]
      simp only [dm1, lt, nI_1], trivial⟩) (fun s _ => by
      unfold bX12_corner_56
      simp (disch := omega) only [dm2, nI_leS]
      rw [if_pos (by omega)])
  exact h1
