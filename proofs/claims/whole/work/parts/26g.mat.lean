/-! the reference's at() -/
theorem mat1_ok {w h nl : Nat} {ld : Nat → Ln} {m : Nat} {Q : Nat → Pt3} {fm : Nat → Nat → Bool} (hM : Mesh w h nl ld m Q fm) {n : Nat} {A B : Nat → Nat} {gw gr gt : Nat → Int32} (hX : MsM (Pc (onK (KX w h ld) Q) (nl + 4) m) fm m n A B gw gr gt) {d x y : Nat → Int64} (hJ : JL m Q d x y) {qx qy : Nat} (hq : inQ w h (qx, qy, 2)) : (onF Q fm (qx, qy, 2) ∧ ∃ v, iter (bX12_at_61 (nI qx) (nI qy) (nI n) d gw gr gt x y) FU (0 : Int32) = some (0, v)) ∨ (¬ onF Q fm (qx, qy, 2) ∧ ∃ v, iter (bX12_at_61 (nI qx) (nI qy) (nI n) d gw gr gt x y) FU (0 : Int32) = some (1, v)) := by
  obtain ⟨x1, x2, x3, x4, x5⟩ := hX
  have hm := hM.2.2.1
  have qB := inQ_B hM.1.2.1 hM.1.2.2.2.1 hq
  obtain ⟨b0, b1, b2, b3⟩ := id qB
  dsimp only at b2 b3
  have main := iter_first (B := bX12_at_61 (nI qx) (nI qy) (nI n) d gw gr gt x y) n (fun k => fm (A k) (B k) = true ∧ onPb (Q (A k)) (Q (B k)) (qx, qy, 2) = true) 0 (by omega) (by omega) (fun k _ hk => by
    have io := onPc_ok hm hM.2.1.1 hM.2.1.2.1 x1 x5 x2 x3 hJ qB hk
    have e9 := x4 k hk
    dsimp only at e9
    have e0 : bX12_at_61 (nI qx) (nI qy) (nI n) d gw gr gt x y (nI k) = if fm (A k) (B k) = false then some (0, nI (k + 1)) else if onPb (Q (A k)) (Q (B k)) (qx, qy, 2) = false then some (0, nI (k + 1)) else some (1, nI k) := by
      simp (disch := omega) only [bX12_at_61, dm1, nI_leS, nI_lt0, nI_clampS, false_or, gd_s, e9, bI_0', lt, nI_1, nI_l, io, ob]
      rw [if_neg (by omega)]
    rw [e0]
    cases h1 : fm (A k) (B k) with
    | false => exact Or.inl ⟨fun z => (by cases z.1), by simp⟩
    | true =>
      cases h2 : onPb (Q (A k)) (Q (B k)) (qx, qy, 2) with
      | false => exact Or.inl ⟨fun z => (by cases z.2), by simp⟩
      | true => exact Or.inr ⟨⟨rfl, rfl⟩, by simp⟩) (by
    simp (disch := omega) only [bX12_at_61, dm1, nI_leS]
    rw [if_pos (by omega)])
  have iffF : onF Q fm (qx, qy, 2) ↔ ∃ k, k < n ∧ fm (A k) (B k) = true ∧ onPb (Q (A k)) (Q (B k)) (qx, qy, 2) = true := by
    constructor
    · rintro ⟨c, e, f1, f2, f3⟩
      obtain ⟨-, -, -, -, k1, -⟩ := fm_ad hM f1
      obtain ⟨k, k2, k3, k4⟩ := x1.2.2 c e (k1 f2)
      exact ⟨k, k2, by rw [k3, k4]; exact f1, by rw [k3, k4]; exact decide_eq_true f3⟩
    · rintro ⟨k, k1, k2, k3⟩
      have k4 := k3
      unfold onPb at k4
      have k5 := of_decide_eq_true k4
      exact ⟨A k, B k, k2, (x1.1 k k1).1, k5⟩
  rcases main with ⟨s, -, s1, s2, -, s3⟩ | ⟨s1, s2⟩
  · exact Or.inl ⟨iffF.mpr ⟨s, s1, s2⟩, _, s3⟩
  · refine Or.inr ⟨fun z => ?_, _, s2⟩
    obtain ⟨s, y1, y2⟩ := iffF.mp z
    exact s1 s (by omega) y1 y2
theorem mat2_ok {w h nl : Nat} {ld : Nat → Ln} {m : Nat} {Q : Nat → Pt3} {fm : Nat → Nat → Bool} (hM : Mesh w h nl ld m Q fm) {nv : Nat → Nat → Nat} (hn : NV Q fm nv) {n : Nat} {A B : Nat → Nat} {gw gr gt : Nat → Int32} (hX : MsM (Pc (onK (KX w h ld) Q) (nl + 4) m) fm m n A B gw gr gt) {d x y : Nat → Int64} (hJ : JL m Q d x y) {np : Nat} (hnp : np ≤ 125) {gs : Nat → St} {cs : Nat → Nat} {fa : Nat → Int32} (hfs : FsM n A B np gs cs fa) (hS : ∀ p, p < np → isS fm (gs p)) {qx qy : Nat} (hq : inQ w h (qx, qy, 2)) {p : Nat} (hp : p < np) (hv : ∀ K, ∀ p', p' < np → Per nv (gs p') K → sm K (fun k => rho Q (qx, qy, 2) (itr nv k (gs p'))) = if p' = p then 1 else 0) : iter (bX12_at_111 (nI qx) (nI qy) fa (nI n) d gw gr gt x y) FU (0 : Int32) = some (0, nI p) := by
  have qB := inQ_B hM.1.2.1 hM.1.2.2.2.1 hq
  obtain ⟨b0, b1, b2, b3⟩ := id qB
  dsimp only at b2 b3
  have e0 : ∀ p', p' < np → bX12_at_111 (nI qx) (nI qy) fa (nI n) d gw gr gt x y (nI p') = if p' = p then some (1, nI p') else some (0, nI (p' + 1)) := by
    intro p' hp'
    obtain ⟨K, hK, r⟩ := rounds_ok hM hn hX hJ hnp hfs hp' (hS p' hp') qB
    rw [hv K p' hp' hK] at r
    simp (disch := omega) only [bX12_at_111, dm1, nI_l, r, ob, lt, nI_1]
    by_cases z : p' = p
    · rw [if_pos z, if_pos z, if_pos (by decide)]
    · rw [if_neg z, if_neg z, if_neg (by decide)]
  obtain ⟨k, t, h1, h2, h3⟩ := iter_forE (S := Unit) (B := bX12_at_111 (nI qx) (nI qy) fa (nI n) d gw gr gt x y) (fun i _ => nI i) p (fun _ _ => True) (fun k t => k = 0 ∧ t = nI p) 0 () trivial (by omega) (by omega) (fun i s _ hi _ => Or.inl ⟨(), by rw [e0 i (by omega), if_neg (by omega)], trivial⟩) (fun s _ => ⟨0, nI p, by rw [e0 p hp, if_pos rfl], rfl, rfl⟩)
  subst h2 h3
  exact h1
