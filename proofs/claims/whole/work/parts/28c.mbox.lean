/-! the reference: boxes of a pane -/
theorem lN_i3 (v : Nat) : (lN v).toInt32 = nI v := by
  rw [← lz_n, lz_i]; unfold iz nI; first | rfl | simp
def Cof (a2 : Int32) (x y : Nat → Int64) : Nat → Int64 := if a2 = 0 then y else x
theorem lN_ne0 {v : Nat} (h : 0 < v) (h1 : v < 1000000) : ¬ lN v = 0 := fun z => by
  have c : (0 : Int64) < lz v ↔ (0 : Int) < v := lz_lt (a := 0) (b := v) (by omega) (by omega) (by omega) (by omega)
  have := c.mpr (by omega)
  rw [lz_n, z] at this
  exact absurd this (by decide)
theorem side_st {n : Nat} {np : Nat} (hnp : np ≤ 125) {cs : Nat → Nat} {A B : Nat → Nat} {fa gw gr gt : Nat → Int32} {d x y : Nat → Int64} {p : Nat} (hp : p < np) (f1 : fa p = nI (cs p)) (hn : n ≤ 342) (hgr : hN n gr A) (hgt : hN n gt B) {σ : Nat → Nat} (hc : cs p < 2 * n) (hσ : ∀ t, σ t < 2 * n ∧ sX12_next (nI (σ t)) (nI n) d gw gr gt x y = some (nI (σ (t + 1)))) {X D : Nat → Nat} (a2 : Int32) {t : Nat} (j1 : bg A B (σ t) < 240) (j2 : Cof a2 x y (bg A B (σ t)) = lN (X (bg A B (σ t)))) (j3 : d (bg A B (σ t)) = lN (D (bg A B (σ t)))) (j4 : 0 < D (bg A B (σ t))) (j5 : D (bg A B (σ t)) ≤ 288) (j6 : X (bg A B (σ t)) ≤ 12 * D (bg A B (σ t))) {v : Nat} (hv : v ≤ 12) (a3 : Int32) : bX12_side_20 (nI p) a2 a3 fa (nI n) d gw gr gt x y (nI v, nI (σ t)) = (if ¬ σ (t + 1) = cs p then some (0, (nI (if a3 = 0 then (if X (bg A B (σ t)) / D (bg A B (σ t)) < v then X (bg A B (σ t)) / D (bg A B (σ t)) else v) else (if v < (X (bg A B (σ t)) + D (bg A B (σ t)) - 1) / D (bg A B (σ t)) then (X (bg A B (σ t)) + D (bg A B (σ t)) - 1) / D (bg A B (σ t)) else v)), nI (σ (t + 1)))) else some (1, (nI (if a3 = 0 then (if X (bg A B (σ t)) / D (bg A B (σ t)) < v then X (bg A B (σ t)) / D (bg A B (σ t)) else v) else (if v < (X (bg A B (σ t)) + D (bg A B (σ t)) - 1) / D (bg A B (σ t)) then (X (bg A B (σ t)) + D (bg A B (σ t)) - 1) / D (bg A B (σ t)) else v)), nI (σ (t + 1))))) := by
  obtain ⟨q1, q3⟩ := hσ t
  have q4 := (hσ (t + 1)).1
  have e1 := bg_ok hn hgr hgt q1
  have f1' : fa (nI p).toNatClampNeg = nI (cs p) := by rw [nI_clampS (by omega)]; exact f1
  have ix3 : ¬ (nI p < 0 ∨ 160 ≤ (nI p).toNatClampNeg) := ix_ok (by omega) (by omega)
  have ix1 : ¬ (nI (bg A B (σ t)) < 0 ∨ 240 ≤ (nI (bg A B (σ t))).toNatClampNeg) := ix_ok (by omega) (by omega)
  have c1 : (nI (bg A B (σ t))).toNatClampNeg = bg A B (σ t) := nI_clampS (by omega)
  have fl := flr12 j6 j4
  have ce := ceil12 j6 j4
  generalize bg A B (σ t) = r at *
  have e6 : (if a2 = 0 then some (y r) else some (x r)) = some (lN (X r)) := by
    rw [← j2]; unfold Cof; split <;> rfl
  have d0 : ¬ d r = 0 := by rw [j3]; exact lN_ne0 j4 (by omega)
  have eF : lN (X r) / d r = lN (X r / D r) := by rw [j3]; exact pk_lDiv (by omega) j4 (by omega)
  have eC : (lN (X r) + d r - (1 : Int64)) / d r = lN ((X r + D r - 1) / D r) := by
    have : lN (X r) + lN (D r) - (1 : Int64) = lN (X r + D r - 1) := by
      rw [lNa, show (1 : Int64) = lz 1 from rfl, ← lz_n, lz_sub, ← lz_n]; congr 1; omega
    rw [j3, this]; exact pk_lDiv (by omega) j4 (by omega)
  unfold bX12_side_20
  simp only [dm2]
  rw [ob_s e1]
  simp only [dm1, gd_s ix1, gd_s ix3, f1']
  simp only [c1]
  rw [ob_s e6]
  by_cases z : a3 = 0
  · simp only [if_pos z, gd_s d0, eF, ob, lt, lN_i3, q3]
    simp (disch := omega) only [nI_ltS, if_nI, nI_eqS]
  · simp only [if_neg z, gd_s d0, eC, ob, lt, lN_i3, q3]
    simp (disch := omega) only [nI_ltS, if_nI, nI_eqS]
theorem sideM_ok {n : Nat} {np : Nat} (hnp : np ≤ 125) {cs : Nat → Nat} {A B : Nat → Nat} {fa gw gr gt : Nat → Int32} {d x y : Nat → Int64} {p : Nat} (hp : p < np) (f1 : fa p = nI (cs p)) (hn : n ≤ 342) (hgr : hN n gr A) (hgt : hN n gt B) {σ : Nat → Nat} {K : Nat} (K0 : 0 < K) (hKn : K ≤ 2 * n) (s0 : σ 0 = cs p) (sK : σ K = cs p) (hσ : ∀ t, σ t < 2 * n ∧ sX12_next (nI (σ t)) (nI n) d gw gr gt x y = some (nI (σ (t + 1)))) (hne : ∀ t, 0 < t → t < K → σ t ≠ cs p) {X D : Nat → Nat} (a2 : Int32) (hj : ∀ t, t < K → bg A B (σ t) < 240 ∧ Cof a2 x y (bg A B (σ t)) = lN (X (bg A B (σ t))) ∧ d (bg A B (σ t)) = lN (D (bg A B (σ t))) ∧ 0 < D (bg A B (σ t)) ∧ D (bg A B (σ t)) ≤ 288 ∧ X (bg A B (σ t)) ≤ 12 * D (bg A B (σ t))) : sX12_side (nI p) a2 (0 : Int32) fa (nI n) d gw gr gt x y = some (nI (mnF (fun k => X (bg A B (σ k)) / D (bg A B (σ k))) K)) ∧ sX12_side (nI p) a2 (1 : Int32) fa (nI n) d gw gr gt x y = some (nI (mxF (fun k => (X (bg A B (σ k)) + D (bg A B (σ k)) - 1) / D (bg A B (σ k))) K)) := by
  have hc : cs p < 2 * n := by rw [← s0]; exact (hσ 0).1
  have f1' : fa (nI p).toNatClampNeg = nI (cs p) := by rw [nI_clampS (by omega)]; exact f1
  have ix3 : ¬ (nI p < 0 ∨ 160 ≤ (nI p).toNatClampNeg) := ix_ok (by omega) (by omega)
  constructor
  · have go : ∀ t, t < K → bX12_side_20 (nI p) a2 0 fa (nI n) d gw gr gt x y (nI (mnF (fun k => X (bg A B (σ k)) / D (bg A B (σ k))) t), nI (σ t)) = (if ¬ σ (t + 1) = cs p then some (0, (nI (mnF (fun k => X (bg A B (σ k)) / D (bg A B (σ k))) (t + 1)), nI (σ (t + 1)))) else some (1, (nI (mnF (fun k => X (bg A B (σ k)) / D (bg A B (σ k))) (t + 1)), nI (σ (t + 1))))) := by
      intro t ht
      obtain ⟨j1, j2, j3, j4, j5, j6⟩ := hj t ht
      have := side_st hnp hp f1 hn hgr hgt hc hσ a2 j1 j2 j3 j4 j5 j6 (mnF_le (fun k => X (bg A B (σ k)) / D (bg A B (σ k))) t) 0
      rw [this]
      rfl
    obtain ⟨s, h1, h2⟩ := iter_per (S := Unit) (B := bX12_side_20 (nI p) a2 0 fa (nI n) d gw gr gt x y) (fun t _ => (nI (mnF (fun k => X (bg A B (σ k)) / D (bg A B (σ k))) t), nI (σ t))) K K0 (by omega) (fun _ _ => True) () trivial (fun t s ht _ => ⟨(), by
        rw [go t (by omega), if_pos (hne (t + 1) (by omega) ht)], trivial⟩) (fun t s ht _ => ⟨(), by
        subst ht
        rw [go t (by omega), if_neg (fun z => z sK)], trivial⟩)
    have h1' : iter (bX12_side_20 (nI p) a2 0 fa (nI n) d gw gr gt x y) FU ((12 : Int32), nI (σ 0)) = some (0, (nI (mnF (fun k => X (bg A B (σ k)) / D (bg A B (σ k))) K), nI (σ K))) := h1
    rw [s0] at h1'
    unfold sX12_side
    rw [if_pos rfl]
    rw [ob_d1 rfl]
    rw [gd_s ix3, lt_v, f1', ob_s h1']
    rfl
  · have go : ∀ t, t < K → bX12_side_20 (nI p) a2 1 fa (nI n) d gw gr gt x y (nI (mxF (fun k => (X (bg A B (σ k)) + D (bg A B (σ k)) - 1) / D (bg A B (σ k))) t), nI (σ t)) = (if ¬ σ (t + 1) = cs p then some (0, (nI (mxF (fun k => (X (bg A B (σ k)) + D (bg A B (σ k)) - 1) / D (bg A B (σ k))) (t + 1)), nI (σ (t + 1)))) else some (1, (nI (mxF (fun k => (X (bg A B (σ k)) + D (bg A B (σ k)) - 1) / D (bg A B (σ k))) (t + 1)), nI (σ (t + 1))))) := by
      intro t ht
      obtain ⟨j1, j2, j3, j4, j5, j6⟩ := hj t ht
      have := side_st hnp hp f1 hn hgr hgt hc hσ a2 j1 j2 j3 j4 j5 j6 (mxF_le (f := fun k => (X (bg A B (σ k)) + D (bg A B (σ k)) - 1) / D (bg A B (σ k))) t (fun i hi => by
        obtain ⟨-, -, -, i4, -, i6⟩ := hj i (by omega)
        exact ceil12 i6 i4)) 1
      rw [this, if_neg (show ¬ (1 : Int32) = 0 by decide)]
      rfl
    obtain ⟨s, h1, h2⟩ := iter_per (S := Unit) (B := bX12_side_20 (nI p) a2 1 fa (nI n) d gw gr gt x y) (fun t _ => (nI (mxF (fun k => (X (bg A B (σ k)) + D (bg A B (σ k)) - 1) / D (bg A B (σ k))) t), nI (σ t))) K K0 (by omega) (fun _ _ => True) () trivial (fun t s ht _ => ⟨(), by
        rw [go t (by omega), if_pos (hne (t + 1) (by omega) ht)], trivial⟩) (fun t s ht _ => ⟨(), by
        subst ht
        rw [go t (by omega), if_neg (fun z => z sK)], trivial⟩)
    have h1' : iter (bX12_side_20 (nI p) a2 1 fa (nI n) d gw gr gt x y) FU ((0 : Int32), nI (σ 0)) = some (0, (nI (mxF (fun k => (X (bg A B (σ k)) + D (bg A B (σ k)) - 1) / D (bg A B (σ k))) K), nI (σ K))) := h1
    rw [s0] at h1'
    unfold sX12_side
    rw [if_neg (show ¬ (1 : Int32) = 0 by decide)]
    rw [ob_d1 rfl]
    rw [gd_s ix3, lt_v, f1', ob_s h1']
    rfl
