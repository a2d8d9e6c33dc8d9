/-! the reference goes round a pane -/
theorem wsig {w h nl : Nat} {ld : Nat → Ln} {m : Nat} {Q : Nat → Pt3} {fm : Nat → Nat → Bool} (hM : Mesh w h nl ld m Q fm) {nv : Nat → Nat → Nat} (hn : NV Q fm nv) {n : Nat} {A B : Nat → Nat} {gw gr gt : Nat → Int32} (hX : MsM (Pc (onK (KX w h ld) Q) (nl + 4) m) fm m n A B gw gr gt) {d x y : Nat → Int64} (hJ : JL m Q d x y) {c0 : Nat} (hc0 : c0 < 2 * n) {g : St} (hg : isS fm g) (e0 : ((bg A B c0, ed A B c0) : St) = g) : ∃ (K : Nat) (σ : Nat → Nat), Per nv g K ∧ K ≤ 2 * n ∧ σ 0 = c0 ∧ σ K = c0 ∧ (∀ t, σ t < 2 * n ∧ ((bg A B (σ t), ed A B (σ t)) : St) = itr nv t g ∧ sX12_next (nI (σ t)) (nI n) d gw gr gt x y = some (nI (σ (t + 1)))) ∧ ∀ t, 0 < t → t < K → σ t ≠ c0 := by
  have x1 := hX.1
  obtain ⟨K, hK⟩ := per_ex2 hM hn hg
  have hKn := per_le hM hn x1 hg hK
  have hex : ∀ k, ∃ c, c < 2 * n ∧ ((bg A B c, ed A B c) : St) = itr nv k g := fun k => msig_ex hM x1 (itr_S hM hn hg k)
  obtain ⟨σ, hσ⟩ := Classical.axiomOfChoice hex
  have uq : ∀ k l, k < 2 * n → l < 2 * n → ((bg A B k, ed A B k) : St) = (bg A B l, ed A B l) → k = l := fun k l hk hl e => bg_uniq x1 hk hl (congrArg Prod.fst e) (congrArg Prod.snd e)
  refine ⟨K, σ, hK, hKn, uq _ _ (hσ 0).1 hc0 (by rw [(hσ 0).2, e0]; rfl), uq _ _ (hσ K).1 hc0 (by rw [(hσ K).2, hK.2.1, e0]), fun t => ⟨(hσ t).1, (hσ t).2, ?_⟩, fun t h1 h2 z => ?_⟩
  · obtain ⟨q1, q2⟩ := hσ t
    have ft : fm (bg A B (σ t)) (ed A B (σ t)) = true := by
      have := itr_S hM hn hg t
      rw [← q2] at this; exact this
    obtain ⟨c', a1, a2, a3⟩ := mnext_nx hM hn hX hJ q1 ft
    have e' : c' = σ (t + 1) := uq _ _ a2 (hσ (t + 1)).1 (by rw [a3, (hσ (t + 1)).2, q2]; rfl)
    subst e'
    exact a1
  · have := (hσ t).2
    rw [z, e0] at this
    exact hK.2.2 t h1 h2 this.symm
theorem rho1_ok {p r : Pt3} (hp : pB p) (hr : pB r) {qx qy : Nat} (hq : pB (qx, qy, 2)) {i j : Nat} (hi : i < 240) (hj : j < 240) {dd xx yy : Nat → Int64} (a : At3L dd xx yy i p) (b : At3L dd xx yy j r) (v2 : Int) : ob (if 0 < (lg_cmp ((2 : Int64) * (yy i)) (lN qy * (dd i))) then some (0 : Int32) else some (1 : Int32)) (fun t => dm1 t (fun (v6 : Int32) => ob (if 0 < (lg_cmp ((2 : Int64) * (yy j)) (lN qy * (dd j))) then some (0 : Int32) else some (1 : Int32)) (fun t => dm1 t (fun (v7 : Int32) => (if v6 = v7 then some (iz v2) else ob (sX12_wayX (nI i) (nI j) dd xx) (fun o => dm1 o (fun (r10 : Int64) => ob (sX12_wayY (nI i) (nI j) dd yy) (fun o => dm1 o (fun (r11 : Int64) => lt ((r10 * ((lN qy * (dd i)) - ((2 : Int64) * (yy i)))) - (r11 * ((lN qx * (dd i)) - ((2 : Int64) * (xx i))))) (fun x12 => if v6 = 0 then if ¬ v6 = 0 then lt (iz v2 + (0 : Int32)) (fun x13 => some x13) else if 0 ≤ (lg_cmp x12 (0 : Int64)) then lt (iz v2 + (0 : Int32)) (fun x14 => some x14) else lt (iz v2 + (-1 : Int32)) (fun x15 => some x15) else if (lg_cmp x12 (0 : Int64)) ≤ 0 then if ¬ v6 = 0 then lt (iz v2 + (0 : Int32)) (fun x16 => some x16) else if 0 ≤ (lg_cmp x12 (0 : Int64)) then lt (iz v2 + (0 : Int32)) (fun x17 => some x17) else lt (iz v2 + (-1 : Int32)) (fun x18 => some x18) else lt (iz v2 + (1 : Int32)) (fun x19 => some x19))))))))))) = some (iz (v2 + (ib (crA p r (qx, qy, 2)) - ib (crA r p (qx, qy, 2))))) := by
  have eX := wX_ok hi hj a b
  have eY := wY_ok hi hj a b
  obtain ⟨j1, j2, j3⟩ := a
  obtain ⟨j4, j5, j6⟩ := b
  have w1 := wX_bd hp hr
  have w2 := wY_bd hp hr
  have w3 := wX_bd hp hq
  have w4 := wY_bd hp hq
  have p1 : lN qx * lN p.2.2 - (2 : Int64) * lN p.1 = lz (vX p (qx, qy, 2)) := by
    rw [show (2 : Int64) = lN 2 from rfl, ← lz_n, ← lz_n, ← lz_n, ← lz_n, lz_mul, lz_mul, lz_sub]
    congr 1
    unfold vX; dsimp only; grind
  have p2 : lN qy * lN p.2.2 - (2 : Int64) * lN p.2.1 = lz (wY p (qx, qy, 2)) := by
    rw [show (2 : Int64) = lN 2 from rfl, ← lz_n, ← lz_n, ← lz_n, ← lz_n, lz_mul, lz_mul, lz_sub]
    congr 1
    unfold wY; dsimp only; grind
  have lw : ∀ s : Pt3, pB s → (if 0 < (lg_cmp ((2 : Int64) * lN s.2.1) (lN qy * lN s.2.2)) then some (0 : Int32) else some (1 : Int32)) = some (bI (lwB s (qx, qy, 2))) := by
    intro s hs
    obtain ⟨s0, s1, s2, s3⟩ := hs
    obtain ⟨q0, q1, q2, q3⟩ := hq
    dsimp only at q0 q1 q2 q3
    have m1 := mbd (show qy ≤ 24 by omega) (show s.2.2 ≤ 288 by omega)
    have e1 : (2 : Int64) * lN s.2.1 = lN (2 * s.2.1) := by rw [show (2 : Int64) = lN 2 from rfl, ← lz_n, ← lz_n, lz_mul, ← lz_n, Int.natCast_mul]
    have e2 : lN qy * lN s.2.2 = lN (qy * s.2.2) := by rw [← lz_n, ← lz_n, lz_mul, ← lz_n, Int.natCast_mul]
    rw [e1, e2]
    have c := (lg_cmp_gt (lN (2 * s.2.1)) (lN (qy * s.2.2))).trans (pk_lLT (by omega) (by omega))
    unfold lwB
    dsimp only
    by_cases z : qy * s.2.2 < 2 * s.2.1
    · rw [if_pos (c.mpr z), decide_eq_false (by omega)]; rfl
    · rw [if_neg (fun y => z (c.mp y)), decide_eq_true (by omega)]; rfl
  have hcr := cross_w p r (qx, qy, 2)
  have sgc := sg_cross (s := r) (t := (qx, qy, 2)) hp
  have hb := cross_bd hp hr hq
  have z1 := sg_cases (dtp p r (qx, qy, 2))
  have z2 := sg_cases (vX p r * wY p (qx, qy, 2) - wY p r * vX p (qx, qy, 2))
  have sw := dtp_sw p r (qx, qy, 2)
  have ge := lz_ge0' (z := vX p r * wY p (qx, qy, 2) - wY p r * vX p (qx, qy, 2)) (by omega) (by omega)
  have le := lz_le0' (z := vX p r * wY p (qx, qy, 2) - wY p r * vX p (qx, qy, 2)) (by omega) (by omega)
  rw [j1, j2, j3, j5, j6, lw p hp, lw r hr, p1, p2]
  simp only [ob, dm1, eX, eY, lt, lz_mul, lz_sub, ge, le]
  unfold crA
  rw [sw]
  cases h1 : lwB p (qx, qy, 2) <;> cases h2 : lwB r (qx, qy, 2)
  · rw [if_pos rfl]; simp [ib]
  · have bf : bI false = 0 := nI_0
    rw [if_neg (by rw [bI_eq]; simp), if_pos bf, if_neg (fun z => z bf)]
    by_cases h3 : 0 ≤ vX p r * wY p (qx, qy, 2) - wY p r * vX p (qx, qy, 2)
    · rw [if_pos h3]
      have : ¬ dtp p r (qx, qy, 2) < 0 := by omega
      simp [ib, this]
    · rw [if_neg h3]
      have : dtp p r (qx, qy, 2) < 0 := by omega
      rw [nm_1, iz_add]
      simp [ib, this]
  · rw [if_neg (by rw [bI_eq]; simp), if_neg (by rw [bI_0']; simp)]
    by_cases h3 : vX p r * wY p (qx, qy, 2) - wY p r * vX p (qx, qy, 2) ≤ 0
    · rw [if_pos h3, if_pos (by rw [bI_0']; simp)]
      have : ¬ 0 < dtp p r (qx, qy, 2) := by omega
      simp [ib, this]
    · rw [if_neg h3]
      have : 0 < dtp p r (qx, qy, 2) := by omega
      rw [show (1 : Int32) = iz 1 by decide, iz_add]
      simp [ib, this]
  · rw [if_pos rfl]; simp [ib]
theorem rounds_ok {w h nl : Nat} {ld : Nat → Ln} {m : Nat} {Q : Nat → Pt3} {fm : Nat → Nat → Bool} (hM : Mesh w h nl ld m Q fm) {nv : Nat → Nat → Nat} (hn : NV Q fm nv) {n : Nat} {A B : Nat → Nat} {gw gr gt : Nat → Int32} (hX : MsM (Pc (onK (KX w h ld) Q) (nl + 4) m) fm m n A B gw gr gt) {d x y : Nat → Int64} (hJ : JL m Q d x y) {np : Nat} (hnp : np ≤ 125) {gs : Nat → St} {cs : Nat → Nat} {fa : Nat → Int32} (hfs : FsM n A B np gs cs fa) {p : Nat} (hp : p < np) (hg : isS fm (gs p)) {qx qy : Nat} (hq : pB (qx, qy, 2)) : ∃ K, Per nv (gs p) K ∧ sX12_rounds (nI p) (lN qx) (lN qy) fa (nI n) d gw gr gt x y = some (iz (sm K (fun k => rho Q (qx, qy, 2) (itr nv k (gs p))))) := by
  obtain ⟨f1, f2, f3⟩ := hfs p hp
  have x5 := hX.2.2.2.2
  have x1 := hX.1
  have hm := hM.2.2.1
  have hQ : ∀ i, i < m → pB (Q i) := fun i hi => pB_of (hM.2.1.1 i hi)
  obtain ⟨K, σ, hK, hKn, s0, sK, hσ, hne⟩ := wsig hM hn hX hJ f2 hg f3
  refine ⟨K, hK, ?_⟩
  have step1 : ∀ (t : Nat) (v2 : Int), bX12_rounds_11 (nI p) (lN qx) (lN qy) fa (nI n) d gw gr gt x y (iz v2, nI (σ t)) = (if ¬ σ (t + 1) = cs p then some (0, (iz (v2 + rho Q (qx, qy, 2) (itr nv t (gs p))), nI (σ (t + 1)))) else some (1, (iz (v2 + rho Q (qx, qy, 2) (itr nv t (gs p))), nI (σ (t + 1))))) := by
    intro t v2
    obtain ⟨q1, q2, q3⟩ := hσ t
    have q4 := (hσ (t + 1)).1
    obtain ⟨o1, o2⟩ := bg_lt x1 q1
    have e1 := bg_ok x5 hX.2.1 hX.2.2.1 q1
    have e2 := ed_ok x5 hX.2.1 hX.2.2.1 q1
    have r1 := rho1_ok (hQ _ o1) (hQ _ o2) hq (show bg A B (σ t) < 240 by omega) (show ed A B (σ t) < 240 by omega) (hJ _ o1) (hJ _ o2) v2
    have er : rho Q (qx, qy, 2) (itr nv t (gs p)) = ib (crA (Q (bg A B (σ t))) (Q (ed A B (σ t))) (qx, qy, 2)) - ib (crA (Q (ed A B (σ t))) (Q (bg A B (σ t))) (qx, qy, 2)) := by rw [← q2]; rfl
    rw [er]
    have f1' : fa (nI p).toNatClampNeg = nI (cs p) := by rw [nI_clampS (by omega)]; exact f1
    have ix1 : ¬ (nI (bg A B (σ t)) < 0 ∨ 240 ≤ (nI (bg A B (σ t))).toNatClampNeg) := ix_ok (by omega) (by omega)
    have ix2 : ¬ (nI (ed A B (σ t)) < 0 ∨ 240 ≤ (nI (ed A B (σ t))).toNatClampNeg) := ix_ok (by omega) (by omega)
    have ix3 : ¬ (nI p < 0 ∨ 160 ≤ (nI p).toNatClampNeg) := ix_ok (by omega) (by omega)
    unfold bX12_rounds_11
    simp only [dm2]
    rw [e1]
    simp only [ob, dm1]
    rw [e2]
    simp only [gd_s ix1, gd_s ix2, gd_s ix3, q3, f1']
    simp (disch := omega) only [nI_clampS, nI_eqS]
    simp only [ob, dm1] at r1
    revert r1
    cases h1 : (if 0 < (lg_cmp ((2 : Int64) * (y (bg A B (σ t)))) (lN qy * (d (bg A B (σ t))))) then some (0 : Int32) else some (1 : Int32)) with
    | none => intro r1; cases r1
    | some v6 =>
      cases h2 : (if 0 < (lg_cmp ((2 : Int64) * (y (ed A B (σ t)))) (lN qy * (d (ed A B (σ t))))) then some (0 : Int32) else some (1 : Int32)) with
      | none => intro r1; cases r1
      | some v7 =>
        intro r1
        simp only at r1 ⊢
        rw [r1]
  obtain ⟨s, h1, h2⟩ := iter_per (S := Unit) (B := bX12_rounds_11 (nI p) (lN qx) (lN qy) fa (nI n) d gw gr gt x y) (fun t _ => (iz (sm t (fun k => rho Q (qx, qy, 2) (itr nv k (gs p)))), nI (σ t))) K hK.1 (by omega) (fun _ _ => True) () trivial (fun t s ht _ => ⟨(), by
      rw [step1 t, if_pos (hne (t + 1) (by omega) ht)]; rfl, trivial⟩) (fun t s ht _ => ⟨(), by
      subst ht
      rw [step1 t, if_neg (fun z => z sK)]; rfl, trivial⟩)
  have h1' : iter (bX12_rounds_11 (nI p) (lN qx) (lN qy) fa (nI n) d gw gr gt x y) FU (nI 0, nI (σ 0)) = some (0, (iz (sm K (fun k => rho Q (qx, qy, 2) (itr nv k (gs p)))), nI (σ K))) := h1
  rw [s0] at h1'
  simp (disch := omega) only [sX12_rounds, nI_lt0, nI_clampS, false_or, gd_s, lt, f1]
  rw [nl_0, ob_s h1']
  rfl
