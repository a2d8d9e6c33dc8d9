/-! the reference: a pane's area, whole -/
theorem dm9_s {A1 A2 A3 A4 A5 A6 A7 A8 A9 R : Type} (a : A1) (b : A2) (c : A3) (d : A4) (e : A5) (f : A6) (g : A7) (h : A8) (i : A9) (F : A1 → A2 → A3 → A4 → A5 → A6 → A7 → A8 → A9 → Option R) : dm9 (a, b, c, d, e, f, g, h, i) F = F a b c d e f g h i := rfl
theorem ob_d1 {X R : Type} {e : Option X} {a : X} (h : e = some a) (F : X → Option R) : ob e (fun o => dm1 o F) = F a := by rw [h]; rfl
theorem ob_d2 {X Y R : Type} {e : Option (X × Y)} {a : X} {b : Y} (h : e = some (a, b)) (F : X → Y → Option R) : ob e (fun o => dm2 o F) = F a b := by rw [h]; rfl
theorem ob_x4 {A1 A2 A3 A4 R : Type} {e : Option (Nat × A1 × A2 × A3 × A4)} {a : A1} {b : A2} {c : A3} {d : A4} (h : e = some (0, (a, b, c, d))) (F : A1 → A2 → A3 → A4 → Option R) : ob e (fun kt => ex1 kt (fun t => dm4 t F)) = F a b c d := by rw [h]; rfl
theorem ob_x9 {A1 A2 A3 A4 A5 A6 A7 A8 A9 R : Type} {v : Option (Nat × A1 × A2 × A3 × A4 × A5 × A6 × A7 × A8 × A9)} {a : A1} {b : A2} {c : A3} {d : A4} {e : A5} {f : A6} {g : A7} {h : A8} {i : A9} (hv : v = some (0, (a, b, c, d, e, f, g, h, i))) (F : A1 → A2 → A3 → A4 → A5 → A6 → A7 → A8 → A9 → Option R) : ob v (fun kt => ex1 kt (fun t => dm9 t F)) = F a b c d e f g h i := by rw [hv]; rfl
theorem lt_v {X R : Type} (x : X) (f : X → Option R) : lt x f = f x := rfl
theorem ex1_z {T R : Type} (t : T) (F : T → Option R) : ex1 (0, t) F = F t := rfl
theorem v3_l {D U : Nat} (h : D ≤ 288 * U) (h0 : 0 < U) : D * 500000 < U * 200000000 := by omega
theorem rlt_l {D U r : Nat} (h : U * r ≤ D) (h1 : D < U * 200000000) : r < 200000000 := Nat.lt_of_mul_lt_mul_left (Nat.lt_of_le_of_lt h h1)
theorem area_fin {L2 S : Int} (Lp : 0 < L2) (bd1 : 0 ≤ S) (bd2 : S ≤ 288 * L2) {P M U : Nat} (g7 : ((P : Int) - M) * L2 = U * S) (g8 : 0 < U) : M ≤ P ∧ P - M ≤ 288 * U ∧ ∀ r : Nat, U * r ≤ (P - M) * 500000 → (P - M) * 500000 < U * (r + 1) → (r : Int) = 500000 * S / L2 := by
  have MP : M ≤ P := by
    have h0 : 0 ≤ (U : Int) * S := Int.mul_nonneg (by omega) bd1
    rw [← g7] at h0
    have := Int.nonneg_of_mul_nonneg_left h0 Lp
    omega
  have eD : ((P - M : Nat) : Int) * L2 = U * S := by rw [Int.ofNat_sub MP]; exact g7
  have le288 : P - M ≤ 288 * U := by
    have h0 : (U : Int) * S ≤ U * (288 * L2) := Int.mul_le_mul_of_nonneg_left bd2 (by omega)
    rw [← eD] at h0
    have h1 : ((P - M : Nat) : Int) * L2 ≤ (288 * U : Nat) * L2 := by
      rw [Int.natCast_mul]
      have : (U : Int) * (288 * L2) = ((288 : Nat) : Int) * U * L2 := by grind
      omega
    have := Int.le_of_mul_le_mul_right h1 Lp
    omega
  refine ⟨MP, le288, fun r y6 y7 => ?_⟩
  have q1 : (r : Int) * L2 ≤ 500000 * S := by
    apply Int.le_of_mul_le_mul_left (a := (U : Int)) _ (by omega)
    have h0 : ((U * r : Nat) : Int) * L2 ≤ (((P - M) * 500000 : Nat) : Int) * L2 := Int.mul_le_mul_of_nonneg_right (by omega) (by omega)
    rw [Int.natCast_mul, Int.natCast_mul] at h0
    have e1 : (U : Int) * (r * L2) = U * r * L2 := by grind
    have e2 : (U : Int) * (500000 * S) = ((P - M : Nat) : Int) * ((500000 : Nat) : Int) * L2 := by
      have : ((P - M : Nat) : Int) * ((500000 : Nat) : Int) * L2 = (((P - M : Nat) : Int) * L2) * 500000 := by grind
      rw [this, eD]; grind
    rw [e1, e2]; exact h0
  have q2 : 500000 * S < ((r : Int) + 1) * L2 := by
    apply Int.lt_of_mul_lt_mul_left (a := (U : Int)) _ (by omega)
    have h0 : (((P - M) * 500000 : Nat) : Int) * L2 < ((U * (r + 1) : Nat) : Int) * L2 := Int.mul_lt_mul_of_pos_right (by omega) Lp
    rw [Int.natCast_mul, Int.natCast_mul] at h0
    have e1 : (U : Int) * (((r : Int) + 1) * L2) = U * ((r + 1 : Nat) : Int) * L2 := by rw [Int.natCast_add]; grind
    have e2 : (U : Int) * (500000 * S) = ((P - M : Nat) : Int) * ((500000 : Nat) : Int) * L2 := by
      have : ((P - M : Nat) : Int) * ((500000 : Nat) : Int) * L2 = (((P - M : Nat) : Int) * L2) * 500000 := by grind
      rw [this, eD]; grind
    rw [e1, e2]; exact h0
  have a1 := (Int.le_ediv_iff_mul_le Lp).mpr q1
  have a2 := Int.ediv_lt_of_lt_mul Lp q2
  omega
theorem area_st {w h nl : Nat} {ld : Nat → Ln} {m : Nat} {Q : Nat → Pt3} {fm : Nat → Nat → Bool} (hM : Mesh w h nl ld m Q fm) {nv : Nat → Nat → Nat} {n : Nat} {A B : Nat → Nat} {gw gr gt : Nat → Int32} (hX : MsM (Pc (onK (KX w h ld) Q) (nl + 4) m) fm m n A B gw gr gt) {d x y : Nat → Int64} (hJ : JL m Q d x y) {np : Nat} (hnp : np ≤ 125) {gs : Nat → St} {cs : Nat → Nat} {fa : Nat → Int32} (hfs : FsM n A B np gs cs fa) {p : Nat} (hp : p < np) {σ : Nat → Nat} (hσ : ∀ t, σ t < 2 * n ∧ ((bg A B (σ t), ed A B (σ t)) : St) = itr nv t (gs p) ∧ sX12_next (nI (σ t)) (nI n) d gw gr gt x y = some (nI (σ (t + 1)))) : ∀ (t : Nat) (ml : Int32) (md : Nat → Int32) (pl : Int32) (pd : Nat → Int32) (ul : Int32) (ud : Nat → Int32) (wl : Int32) (wd : Nat → Int32) (P M U : Nat), t < 684 → Hd pl pd P → Hd ml md M → Hd ul ud U → U ≤ p82 t → P ≤ p82 t * (t * 20000000) → M ≤ p82 t * (t * 20000000) → ((P : Int) - M) * ((LL : Int) * LL) = U * sm t (fun k => gX Q LL (itr nv k (gs p))) → 0 < U → ∃ (pl' ml' ul' wl' : Int32) (pd' md' ud' wd' : Nat → Int32) (P' M' U' : Nat), bX12_area_65 (nI p) fa (nI n) d gw gr gt x y (nI (σ t), ml, md, pl, pd, ul, ud, wl, wd) = (if ¬ σ (t + 1) = cs p then some (0, (nI (σ (t + 1)), ml', md', pl', pd', ul', ud', wl', wd')) else some (1, (nI (σ (t + 1)), ml', md', pl', pd', ul', ud', wl', wd'))) ∧ Hd pl' pd' P' ∧ Hd ml' md' M' ∧ Hd ul' ud' U' ∧ U' ≤ p82 (t + 1) ∧ P' ≤ p82 (t + 1) * ((t + 1) * 20000000) ∧ M' ≤ p82 (t + 1) * ((t + 1) * 20000000) ∧ ((P' : Int) - M') * ((LL : Int) * LL) = U' * sm (t + 1) (fun k => gX Q LL (itr nv k (gs p))) ∧ 0 < U' := by
  obtain ⟨f1, f2, f3⟩ := hfs p hp
  have x5 := hX.2.2.2.2
  have x1 := hX.1
  have hm := hM.2.2.1
  have hQ : ∀ i, i < m → pB (Q i) := fun i hi => pB_of (hM.2.1.1 i hi)
  intro t ml md pl pd ul ud wl wd P M U ht hP hMm hU bU bP bM hI U0
  obtain ⟨q1, q2, q3⟩ := hσ t
  have q4 := (hσ (t + 1)).1
  obtain ⟨o1, o2⟩ := bg_lt x1 q1
  have e1 := bg_ok x5 hX.2.1 hX.2.2.1 q1
  have e2 := ed_ok x5 hX.2.1 hX.2.2.1 q1
  obtain ⟨a0, a1, a2, a3⟩ := hQ _ o1
  obtain ⟨b0, b1, b2, b3⟩ := hQ _ o2
  obtain ⟨j1, j2, j3⟩ := hJ _ o1
  obtain ⟨j4, j5, j6⟩ := hJ _ o2
  have f1' : fa (nI p).toNatClampNeg = nI (cs p) := by rw [nI_clampS (by omega)]; exact f1
  have ix1 : ¬ (nI (bg A B (σ t)) < 0 ∨ 240 ≤ (nI (bg A B (σ t))).toNatClampNeg) := ix_ok (by omega) (by omega)
  have ix2 : ¬ (nI (ed A B (σ t)) < 0 ∨ 240 ≤ (nI (ed A B (σ t))).toNatClampNeg) := ix_ok (by omega) (by omega)
  have ix3 : ¬ (nI p < 0 ∨ 160 ≤ (nI p).toNatClampNeg) := ix_ok (by omega) (by omega)
  have c1 : (nI (bg A B (σ t))).toNatClampNeg = bg A B (σ t) := nI_clampS (by omega)
  have c2 : (nI (ed A B (σ t))).toNatClampNeg = ed A B (σ t) := nI_clampS (by omega)
  have m1 := mbd (show (Q (bg A B (σ t))).1 ≤ 3456 by omega) (show (Q (ed A B (σ t))).2.1 ≤ 3456 by omega)
  have m2 := mbd (show (Q (ed A B (σ t))).1 ≤ 3456 by omega) (show (Q (bg A B (σ t))).2.1 ≤ 3456 by omega)
  have en : x (bg A B (σ t)) * y (ed A B (σ t)) - x (ed A B (σ t)) * y (bg A B (σ t)) = lz (crX2 Q (bg A B (σ t), ed A B (σ t))) := by
    rw [j1, j2, j4, j5, ← lz_n, ← lz_n, ← lz_n, ← lz_n, lz_mul, lz_mul, lz_sub]; rfl
  have nb : -20000000 ≤ crX2 Q (bg A B (σ t), ed A B (σ t)) ∧ crX2 Q (bg A B (σ t), ed A B (σ t)) ≤ 20000000 := by
    unfold crX2
    dsimp only
    rw [← Int.natCast_mul, ← Int.natCast_mul]
    omega
  obtain ⟨c, k1, k2⟩ := gX_c (Q := Q) (s := (bg A B (σ t), ed A B (σ t))) (hQ _ o1) (hQ _ o2)
  obtain ⟨pl', ml', ul', wl', pd', md', ud', wd', P', M', U', h1, h2, h3, h4, h5, h6, h7, h8, h9⟩ := area1_ok (wl := wl) (wd := wd) hP hMm hU (da := (Q (bg A B (σ t))).2.2) (db := (Q (ed A B (σ t))).2.2) ⟨a0, a1⟩ ⟨b0, b1⟩ nb.1 nb.2 ht bU bP bM
  refine ⟨pl', ml', ul', wl', pd', md', ud', wd', P', M', U', ?_, h2, h3, h4, h7, h8, h9, ?_, ?_⟩
  · unfold bX12_area_65
    rw [dm9_s, ob_s e1]
    simp only [dm1]
    rw [ob_s e2]
    simp only [gd_s ix1, gd_s ix2, gd_s ix3, lt]
    simp only [c1, c2, en, j3, j6, f1', q3]
    refine (h1 (fun v37 v38 v39 v40 o43 o44 o35 o36 => ob (some (nI (σ (t + 1)))) (fun o => if ¬ o = nI (cs p) then some (0, (o, v37, v38, v39, v40, o43, o44, o35, o36)) else some (1, (o, v37, v38, v39, v40, o43, o44, o35, o36))))).trans ?_
    simp only [ob]
    simp (disch := omega) only [nI_eqS]
  · have es : sm (t + 1) (fun k => gX Q LL (itr nv k (gs p))) = sm t (fun k => gX Q LL (itr nv k (gs p))) + crX2 Q (bg A B (σ t), ed A B (σ t)) * c := by
      rw [← k2]
      show _ + gX Q LL (itr nv t (gs p)) = _
      rw [← q2]
    have eu : ((U' : Nat) : Int) = U * dnX Q (bg A B (σ t), ed A B (σ t)) := by rw [h6, Int.natCast_mul, Int.natCast_mul]; rfl
    have edd : (((Q (bg A B (σ t))).2.2 : Int) * ((Q (ed A B (σ t))).2.2 : Int)) = dnX Q (bg A B (σ t), ed A B (σ t)) := rfl
    rw [edd] at h5
    rw [h5, es, eu]
    rw [← k1] at hI ⊢
    generalize dnX Q (bg A B (σ t), ed A B (σ t)) = D at *
    generalize crX2 Q (bg A B (σ t), ed A B (σ t)) = N at *
    generalize sm t (fun k => gX Q LL (itr nv k (gs p))) = S at *
    have : ((↑P - ↑M) * D + ↑U * N) * (D * c) = ((↑P - ↑M) * (D * c)) * D + ↑U * N * (D * c) := by grind
    rw [this, hI]
    grind
  · rw [h6]; exact Nat.mul_pos U0 (Nat.mul_pos a0 b0)
theorem area_lp {w h nl : Nat} {ld : Nat → Ln} {m : Nat} {Q : Nat → Pt3} {fm : Nat → Nat → Bool} (hM : Mesh w h nl ld m Q fm) {nv : Nat → Nat → Nat} {n : Nat} {A B : Nat → Nat} {gw gr gt : Nat → Int32} (hX : MsM (Pc (onK (KX w h ld) Q) (nl + 4) m) fm m n A B gw gr gt) {d x y : Nat → Int64} (hJ : JL m Q d x y) {np : Nat} (hnp : np ≤ 125) {gs : Nat → St} {cs : Nat → Nat} {fa : Nat → Int32} (hfs : FsM n A B np gs cs fa) {p : Nat} (hp : p < np) {σ : Nat → Nat} (hσ : ∀ t, σ t < 2 * n ∧ ((bg A B (σ t), ed A B (σ t)) : St) = itr nv t (gs p) ∧ sX12_next (nI (σ t)) (nI n) d gw gr gt x y = some (nI (σ (t + 1)))) {K : Nat} (K0 : 0 < K) (K684 : K ≤ 684) (s0 : σ 0 = cs p) (sK : σ K = cs p) (hne : ∀ t, 0 < t → t < K → σ t ≠ cs p) {ml0 pl0 ul0 : Int32} {md0 pd0 ud0 : Nat → Int32} (wl : Int32) (wd : Nat → Int32) (z2 : Hd pl0 pd0 0) (z4 : Hd ml0 md0 0) (z6 : Hd ul0 ud0 1) : ∃ (ml1 pl1 ul1 wl1 : Int32) (md1 pd1 ud1 wd1 : Nat → Int32) (P M U : Nat), iter (bX12_area_65 (nI p) fa (nI n) d gw gr gt x y) FU (nI (cs p), ml0, md0, pl0, pd0, ul0, ud0, wl, wd) = some (0, (nI (σ K), ml1, md1, pl1, pd1, ul1, ud1, wl1, wd1)) ∧ Hd pl1 pd1 P ∧ Hd ml1 md1 M ∧ Hd ul1 ud1 U ∧ U ≤ p82 K ∧ P ≤ p82 K * (K * 20000000) ∧ M ≤ p82 K * (K * 20000000) ∧ ((P : Int) - M) * ((LL : Int) * LL) = U * sm K (fun k => gX Q LL (itr nv k (gs p))) ∧ 0 < U := by
  have step1 := area_st hM hX hJ hnp hfs hp hσ
  obtain ⟨⟨ml1, md1, pl1, pd1, ul1, ud1, wl1, wd1⟩, h1, P, M, U, g1, g2, g3, g4, g5, g6, g7, g8⟩ := iter_per (S := Int32 × (Nat → Int32) × Int32 × (Nat → Int32) × Int32 × (Nat → Int32) × Int32 × (Nat → Int32)) (B := bX12_area_65 (nI p) fa (nI n) d gw gr gt x y) (fun t s => (nI (σ t), s)) K K0 (by omega) (fun t s => ∃ P M U : Nat, Hd s.2.2.1 s.2.2.2.1 P ∧ Hd s.1 s.2.1 M ∧ Hd s.2.2.2.2.1 s.2.2.2.2.2.1 U ∧ U ≤ p82 t ∧ P ≤ p82 t * (t * 20000000) ∧ M ≤ p82 t * (t * 20000000) ∧ ((P : Int) - M) * ((LL : Int) * LL) = U * sm t (fun k => gX Q LL (itr nv k (gs p))) ∧ 0 < U) (ml0, md0, pl0, pd0, ul0, ud0, wl, wd) ⟨0, 0, 1, z2, z4, z6, (by rw [p82_0]; exact Nat.le_refl _), Nat.zero_le _, Nat.zero_le _, (by rw [show ((0 : Nat) : Int) - ((0 : Nat) : Int) = 0 from rfl, Int.zero_mul]; exact (Int.mul_zero _).symm), Nat.zero_lt_one⟩ (fun t s ht hI => by
      obtain ⟨ml, md, pl, pd, ul, ud, wl, wd⟩ := s
      obtain ⟨P, M, U, i1, i2, i3, i4, i5, i6, i7, i8⟩ := hI
      obtain ⟨pl', ml', ul', wl', pd', md', ud', wd', P', M', U', h1, h2, h3, h4, h5, h6, h7, h8, h9⟩ := step1 t ml md pl pd ul ud wl wd P M U (by omega) i1 i2 i3 i4 i5 i6 i7 i8
      rw [if_pos (hne (t + 1) (by omega) ht)] at h1
      exact ⟨(ml', md', pl', pd', ul', ud', wl', wd'), h1, P', M', U', h2, h3, h4, h5, h6, h7, h8, h9⟩) (fun t s ht hI => by
      obtain ⟨ml, md, pl, pd, ul, ud, wl, wd⟩ := s
      obtain ⟨P, M, U, i1, i2, i3, i4, i5, i6, i7, i8⟩ := hI
      obtain ⟨pl', ml', ul', wl', pd', md', ud', wd', P', M', U', h1, h2, h3, h4, h5, h6, h7, h8, h9⟩ := step1 t ml md pl pd ul ud wl wd P M U (by omega) i1 i2 i3 i4 i5 i6 i7 i8
      subst ht
      rw [if_neg (fun z => z sK)] at h1
      exact ⟨(ml', md', pl', pd', ul', ud', wl', wd'), h1, P', M', U', h2, h3, h4, h5, h6, h7, h8, h9⟩)
  have h1' : iter (bX12_area_65 (nI p) fa (nI n) d gw gr gt x y) FU (nI (σ 0), ml0, md0, pl0, pd0, ul0, ud0, wl, wd) = some (0, (nI (σ K), ml1, md1, pl1, pd1, ul1, ud1, wl1, wd1)) := h1
  rw [s0] at h1'
  exact ⟨ml1, pl1, ul1, wl1, md1, pd1, ud1, wd1, P, M, U, h1', g1, g2, g3, g4, g5, g6, g7, g8⟩
theorem area_run {n p np c : Nat} (hnp : np ≤ 125) (hp : p < np) {win : Int32} (hwin : ¬ win = 0) {fa gw gr gt : Nat → Int32} {d x y : Nat → Int64} (fo : Nat → Int32) (f1 : fa p = nI c) {ml ml0 ml1 pl pl0 pl1 ul ul0 ul1 wl wl1 wl2 l2 l3 q : Int32} {md md0 md1 pd pd0 pd1 ud ud0 ud1 wd wd1 wd2 d2 d3 : Nat → Int32} {v xx : Int64} (z1 : sX11_set (0 : Int64) pl pd = some (pl0, pd0)) (z3 : sX11_set (0 : Int64) ml md = some (ml0, md0)) (z5 : sX11_set (1 : Int64) ul ud = some (ul0, ud0)) (h1' : iter (bX12_area_65 (nI p) fa (nI n) d gw gr gt x y) FU (nI c, ml0, md0, pl0, pd0, ul0, ud0, wl, wd) = some (0, (q, ml1, md1, pl1, pd1, ul1, ud1, wl1, wd1))) (y1 : sX11_less pl1 pd1 ml1 md1 = some (l2, d2)) (y3' : sX11_times (500000 : Int64) l2 d2 = some (l3, d3)) (y5 : iter (bX12_area_319 ul1 ud1 l3 d3) FU ((0 : Int64), (200000000 : Int64), wl1, wd1) = some (0, (v, xx, wl2, wd2))) : sX12_area (nI p) win (nI np) fa fo ml md (nI n) d gw gr gt x y pl pd ul ud wl wd = some (v, fo, ml1, md1, l3, d3, ul1, ud1, wl2, wd2) := by
  have f1' : fa (nI p).toNatClampNeg = nI c := by rw [nI_clampS (by omega)]; exact f1
  have ix3 : ¬ (nI p < 0 ∨ 160 ≤ (nI p).toNatClampNeg) := ix_ok (by omega) (by omega)
  have ip : sX12_isPane (nI p) (nI np) = some (1 : Int32) := by
    simp (disch := omega) only [sX12_isPane, nI_lt0, nI_leS]
    rw [if_neg (by decide), if_neg (by omega)]
  unfold sX12_area
  rw [if_neg hwin, ob_d1 ip, if_pos (by decide), ob_d2 z1, ob_d2 z3, ob_d2 z5, gd_s ix3, lt_v, f1', ob_x9 h1', ob_d2 y1, ob_d2 y3', ob_x4 y5]
theorem marea_ok {w h nl : Nat} {ld : Nat → Ln} {m : Nat} {Q : Nat → Pt3} {fm : Nat → Nat → Bool} (hM : Mesh w h nl ld m Q fm) {nv : Nat → Nat → Nat} (hn : NV Q fm nv) {a b : Nat} (ha : cn1 (onK (KX w h ld) Q 3) m 0 a) (ea : (Q a).1 = 0) (hb : cn1 (onK (KX w h ld) Q 0) m 0 b) (eb : (Q b).2.1 = 0) {n : Nat} {A B : Nat → Nat} {gw gr gt : Nat → Int32} (hX : MsM (Pc (onK (KX w h ld) Q) (nl + 4) m) fm m n A B gw gr gt) {d x y : Nat → Int64} (hJ : JL m Q d x y) {np : Nat} (hnp : np ≤ 125) {gs : Nat → St} {cs : Nat → Nat} {fa : Nat → Int32} (hfs : FsM n A B np gs cs fa) {p : Nat} (hp : p < np) (hg : isS fm (gs p)) (hno : ¬ Orb nv (0, a) (gs p)) {win : Int32} (hwin : ¬ win = 0) (fo : Nat → Int32) (ml : Int32) (md : Nat → Int32) (pl : Int32) (pd : Nat → Int32) (ul : Int32) (ud : Nat → Int32) (wl : Int32) (wd : Nat → Int32) : ∃ K, Per nv (gs p) K ∧ ∃ r : Nat, r < 200000000 ∧ (r : Int) = 500000 * sm K (fun k => gX Q LL (itr nv k (gs p))) / ((LL : Int) * LL) ∧ ∃ (ml' : Int32) (md' : Nat → Int32) (pl' : Int32) (pd' : Nat → Int32) (ul' : Int32) (ud' : Nat → Int32) (wl' : Int32) (wd' : Nat → Int32), sX12_area (nI p) win (nI np) fa fo ml md (nI n) d gw gr gt x y pl pd ul ud wl wd = some (lN r, fo, ml', md', pl', pd', ul', ud', wl', wd') := by
  obtain ⟨f1, f2, f3⟩ := hfs p hp
  have x5 := hX.2.2.2.2
  have x1 := hX.1
  have hm := hM.2.2.1
  have hQ : ∀ i, i < m → pB (Q i) := fun i hi => pB_of (hM.2.1.1 i hi)
  obtain ⟨K, σ, hK, hKn, s0, sK, hσ, hne⟩ := wsig hM hn hX hJ f2 hg f3
  refine ⟨K, hK, ?_⟩
  obtain ⟨bd1, bd2⟩ := area_bd hM hn ha ea hb eb hg hno hK LL_dv
  have Lp : 0 < (LL : Int) * LL := by
    have := LL_dv.1
    exact Int.mul_pos (by omega) (by omega)
  obtain ⟨pl0, pd0, z1, z2⟩ := set0_ok pl pd
  obtain ⟨ml0, md0, z3, z4⟩ := set0_ok ml md
  obtain ⟨ul0, ud0, z5, z6⟩ := set1_ok ul ud
  have K684 : K ≤ 684 := by omega
  obtain ⟨ml1, pl1, ul1, wl1, md1, pd1, ud1, wd1, P, M, U, h1', g1, g2, g3, g4, g5, g6, g7, g8⟩ := area_lp hM hX hJ hnp hfs hp hσ hK.1 K684 s0 sK hne wl wd z2 z4 z6
  generalize sm K (fun k => gX Q LL (itr nv k (gs p))) = S at *
  generalize (LL : Int) * LL = L2 at *
  obtain ⟨MP, le288, hr⟩ := area_fin Lp bd1 bd2 g7 g8
  obtain ⟨l2, d2, y1, y2⟩ := less_ok g1 g2 MP
  have tb : K * 20000000 * 500000 ≤ 684 * 20000000 * 500000 := Nat.mul_le_mul_right _ (Nat.mul_le_mul_right _ K684)
  have v1 : (P - M) * 500000 < pw 500 := by
    refine Nat.lt_of_le_of_lt ?_ (big_bd K684 tb)
    rw [← Nat.mul_assoc]
    exact Nat.mul_le_mul_right _ (Nat.le_trans (Nat.sub_le _ _) g5)
  obtain ⟨l3, d3, y3, y4⟩ := times_ok (by_ := 500000) y2 (by decide) v1
  have v2 : U * 200000000 < pw 500 := by
    refine Nat.lt_of_le_of_lt (Nat.mul_le_mul_right _ g4) (big_bd K684 (by decide))
  have v3 : (P - M) * 500000 < U * 200000000 := v3_l le288 g8
  obtain ⟨r, xx, wl2, wd2, y5, y6, y7⟩ := bs_ok g3 y4 v2 v3 wl1 wd1
  have rlt : r < 200000000 := rlt_l y6 v3
  refine ⟨r, rlt, hr r y6 y7, ml1, md1, l3, d3, ul1, ud1, wl2, wd2, ?_⟩
  have y3' : sX11_times (500000 : Int64) l2 d2 = some (l3, d3) := by rw [show (500000 : Int64) = lN 500000 by decide]; exact y3
  exact area_run hnp hp hwin fo f1 z1 z3 z5 h1' y1 y3' y5
