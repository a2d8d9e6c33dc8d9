/-! winding numbers of a walk: 1 on its own steps, 0 on all others -/
theorem no_cyc {Q : Nat → Pt3} {y : Nat} {nb : Nat → Prop} (h : nbOK Q y nb) {x x' z : Nat} (nx : nb x) (nx' : nb x') (hne : x ≠ x') (s1 : soonB (Q y) (Q x) (Q z) (Q x') = true) (s2 : soonB (Q y) (Q x') (Q z) (Q x) = true) : False := by
  have c1 := h x x' nx nx' hne
  have c2 := h x' x nx' nx (Ne.symm hne)
  have k := hh3 (Q y) (Q x) (Q z) (Q x')
  have w1 : dtp (Q y) (Q x') (Q z) = - dtp (Q y) (Q z) (Q x') := dtp_sw2 _ _ _
  have w2 : dtp (Q y) (Q x') (Q x) = - dtp (Q y) (Q x) (Q x') := dtp_sw2 _ _ _
  have w3 : dtp (Q y) (Q z) (Q x) = - dtp (Q y) (Q x) (Q z) := dtp_sw2 _ _ _
  unfold soonB at s1 s2
  simp only [decide_eq_true_eq] at s1 s2
  rw [w1, w2, w3] at s2
  generalize dtp (Q y) (Q x) (Q z) = P at *
  generalize hR : dtp (Q y) (Q x) (Q x') = R at *
  generalize dtp (Q y) (Q z) (Q x') = S at *
  have g1 := sg_cases P
  have g2 := sg_cases R
  have g3 := sg_cases S
  have g4 := sg_cases (-S)
  have g5 := sg_cases (-R)
  have hP : P < 0 := by omega
  have hR0 : R = 0 := by omega
  have hS0 : 0 < S := by omega
  rw [hR0, Int.mul_zero] at k
  have ud : ¬ (y < x ↔ y < x') := fun z => c1.2.2.2 z (by omega)
  have hs : (y < x ∧ x' < y) ∨ (x < y ∧ y < x') := by
    have := c1.1
    have := c2.1
    omega
  rcases hs with ⟨v1, v2⟩ | ⟨v1, v2⟩
  · have r1 := m_pp (c1.2.1 v1) hS0
    have r2 := m_nn (c2.2.2.1 v2) hP
    omega
  · have r1 := m_np (c1.2.2.1 v1) hS0
    have r2 := m_pn (c2.2.1 v2) hP
    omega
/-- the last of a set in an order -/
theorem last_ex {R : Nat → Nat → Prop} {C : Nat → Prop} (tr : ∀ a b c, C a → C b → C c → R a b → R b c → R a c) (to : ∀ a b, C a → C b → a ≠ b → R a b ∨ R b a) : ∀ k, (∃ a, a < k ∧ C a) → ∃ c, c < k ∧ C c ∧ ∀ a, a < k → C a → a ≠ c → R a c := by
  intro k
  induction k with
  | zero => rintro ⟨a, h, -⟩; omega
  | succ k ih =>
    rintro ⟨a, ha, hC⟩
    by_cases hx : ∃ a, a < k ∧ C a
    · obtain ⟨c, c1, c2, c3⟩ := ih hx
      by_cases hk : C k
      · rcases to c k c2 hk (by omega) with r | r
        · refine ⟨k, by omega, hk, fun b hb hCb hne => ?_⟩
          by_cases e : b = c
          · rw [e]; exact r
          · exact tr b c k hCb c2 hk (c3 b (by omega) hCb e) r
        · refine ⟨c, by omega, c2, fun b hb hCb hne => ?_⟩
          by_cases e : b = k
          · rw [e]; exact r
          · exact c3 b (by omega) hCb hne
      · refine ⟨c, by omega, c2, fun b hb hCb hne => ?_⟩
        by_cases e : b = k
        · rw [e] at hCb; exact absurd hCb hk
        · exact c3 b (by omega) hCb hne
    · have : a = k := by
        rcases Nat.lt_or_ge a k with q | q
        · exact absurd ⟨a, q, hC⟩ hx
        · omega
      subst this
      exact ⟨a, by omega, hC, fun b hb hCb hne => absurd ⟨b, by omega, hCb⟩ hx⟩
/-- what is kept from one piece to the next round a joint holds of all there -/
theorem rot_all {w h nl : Nat} {ld : Nat → Ln} {m : Nat} {Q : Nat → Pt3} {fm : Nat → Nat → Bool} (hM : Mesh w h nl ld m Q fm) {nv : Nat → Nat → Nat} (hn : NV Q fm nv) {y : Nat} {C : Nat → Prop} (hC : ∀ x, C x → fm y x = true ∧ C (nv x y)) {x0 : Nat} (h0 : C x0) {u : Nat} (hu : fm y u = true) : C u := by
  by_cases hx : C u
  · exact hx
  · exfalso
    have nb := nb_fm hM y
    obtain ⟨c, c1, c2, c3⟩ := last_ex (R := fun a b => soonB (Q y) (Q u) (Q a) (Q b) = true) (C := C) (fun a b c ha hb hc r1 r2 => soon_tr nb hu (hC a ha).1 (hC b hb).1 (hC c hc).1 (fun z => hx (z ▸ ha)) (fun z => hx (z ▸ hb)) (fun z => hx (z ▸ hc)) r1 r2) (fun a b ha hb ne => soon_tot nb hu (hC a ha).1 (hC b hb).1 (fun z => hx (z ▸ ha)) (fun z => hx (z ▸ hb)) ne) m ⟨x0, (fm_ad hM (hC x0 h0).1).2.1, h0⟩
    obtain ⟨d1, d2⟩ := hC c c2
    have e1 : fm c y = true := (fm_ad hM d1).2.2.2.1
    obtain ⟨n1, n2, n3⟩ := nx_ne hM hn e1
    have s2 := n3 u hu (fun z => hx (z ▸ c2)) (fun z => hx (z ▸ d2))
    have s1 := c3 (nv c y) (fm_ad hM n1).2.1 d2 n2
    exact no_cyc nb hu d1 (fun z => hx (z ▸ c2)) s1 s2
theorem om_tw {Q : Nat → Pt3} {m : Nat} {W : Nat → Nat → Bool} {x y : Nat} (hxy : x ≠ y) : om Q m (fl W) x y - ib (W x y) = om Q m (fl W) y x - ib (W y x) := by
  unfold om
  have e : fl W x y = ib (W x y) - ib (W y x) := rfl
  have e2 : fl W y x = ib (W y x) - ib (W x y) := rfl
  rcases Nat.lt_or_gt_of_ne hxy with q | q
  · rw [if_pos q, if_neg (by omega)]; omega
  · rw [if_neg (by omega), if_pos q]; omega
/-- h is one number -/
theorem h_all {w h nl : Nat} {ld : Nat → Ln} {m : Nat} {Q : Nat → Pt3} {fm : Nat → Nat → Bool} (hM : Mesh w h nl ld m Q fm) {nv : Nat → Nat → Nat} (hn : NV Q fm nv) {W : Nat → Nat → Bool} (hW : WS fm nv W) {b : Nat} (hb : fm 0 b = true) {x y : Nat} (hxy : fm x y = true) : om Q m (fl W) x y - ib (W x y) = om Q m (fl W) 0 b - ib (W 0 b) := by
  have hf := fl_flow hM hn hW
  -- round a joint
  have rot : ∀ y x u, fm y x = true → fm y u = true → om Q m (fl W) y x - ib (W y x) = om Q m (fl W) y u - ib (W y u) := by
    intro y x u hx hu
    have := rot_all hM hn (y := y) (C := fun v => fm y v = true ∧ om Q m (fl W) y x - ib (W y x) = om Q m (fl W) y v - ib (W y v)) (fun v hv => by
      refine ⟨hv.1, ?_⟩
      have e1 : fm v y = true := (fm_ad hM hv.1).2.2.2.1
      refine ⟨(nx_ne hM hn e1).1, ?_⟩
      rw [hv.2, om_tw (fm_ad hM hv.1).2.2.1, om_next hM hn hf e1, hW.2 v y e1]) (x0 := x) ⟨hx, rfl⟩ hu
    exact this.2
  have key := hM.2.2.2.1.2.2.2 x y hxy (fun v => ∀ u, fm v u = true → om Q m (fl W) v u - ib (W v u) = om Q m (fl W) 0 b - ib (W 0 b)) (fun u hu => rot 0 u b hu hb) (fun i j hi hij u hu => by
    have hij' : fm i j = true := hij
    have e1 : fm j i = true := (fm_ad hM hij').2.2.2.1
    rw [rot j u i hu e1, om_tw (fm_ad hM e1).2.2.1]
    exact hi j hij')
  exact key y hxy
/-- the sides are firm -/
theorem sd_fm {w h nl : Nat} {ld : Nat → Ln} {m : Nat} {Q : Nat → Pt3} {fm : Nat → Nat → Bool} (hM : Mesh w h nl ld m Q fm) {k i j : Nat} (hk : k < 4) (hc : cn1 (onK (KX w h ld) Q k) m i j) : fm i j = true ∧ fm j i = true := by
  have g := hM.2.2.2.1.2.2.1 _ (sdG_good hM.1 hM.2.1)
  exact ⟨g i j ⟨k, hk, Or.inl hc⟩, g j i ⟨k, hk, Or.inr hc⟩⟩
/-- the first joint along the bottom, and along the left side -/
theorem bot_ex {w h nl : Nat} {ld : Nat → Ln} {m : Nat} {Q : Nat → Pt3} {fm : Nat → Nat → Bool} (hM : Mesh w h nl ld m Q fm) : ∃ b, cn1 (onK (KX w h ld) Q 0) m 0 b ∧ (Q b).2.1 = 0 := by
  obtain ⟨d1, d2, d3, d4, d5, d6⟩ := id hM.1
  have hJ := hM.2.1
  obtain ⟨m0, e0⟩ := jt_0 hJ
  obtain ⟨b, hb, eb⟩ := jt_c hJ (q := (w, 0, 1)) (Or.inr (Or.inl rfl))
  have hb0 : 0 < b := by
    rcases Nat.eq_zero_or_pos b with q | q
    · rw [q, e0] at eb
      have := congrArg Prod.fst eb
      dsimp only at this; omega
    · exact q
  obtain ⟨s, s1, s2⟩ := succ_ex (on := onK (KX w h ld) Q 0) ((on_0 d1 (in_win hM.1 hJ m0).1).mpr (by rw [e0])) ((on_0 d1 (in_win hM.1 hJ hb).1).mpr (by rw [eb])) hb0 hb
  exact ⟨s, s2, (on_0 d1 (in_win hM.1 hJ s2.2.1).1).mp s2.2.2.2.1⟩
theorem lft_ex {w h nl : Nat} {ld : Nat → Ln} {m : Nat} {Q : Nat → Pt3} {fm : Nat → Nat → Bool} (hM : Mesh w h nl ld m Q fm) : ∃ a, cn1 (onK (KX w h ld) Q 3) m 0 a ∧ (Q a).1 = 0 := by
  obtain ⟨d1, d2, d3, d4, d5, d6⟩ := id hM.1
  have hJ := hM.2.1
  obtain ⟨m0, e0⟩ := jt_0 hJ
  obtain ⟨b, hb, eb⟩ := jt_c hJ (q := (0, h, 1)) (Or.inr (Or.inr (Or.inl rfl)))
  have hb0 : 0 < b := by
    rcases Nat.eq_zero_or_pos b with q | q
    · rw [q, e0] at eb
      have := congrArg (fun z : Pt3 => z.2.1) eb
      dsimp only at this; omega
    · exact q
  obtain ⟨s, s1, s2⟩ := succ_ex (on := onK (KX w h ld) Q 3) ((on_3 d3 (in_win hM.1 hJ m0).2).mpr (by rw [e0])) ((on_3 d3 (in_win hM.1 hJ hb).2).mpr (by rw [eb])) hb0 hb
  exact ⟨s, s2, (on_3 d3 (in_win hM.1 hJ s2.2.1).2).mp s2.2.2.2.1⟩
/-- along the bottom to the left nothing is on the right -/
theorem om_bot {w h nl : Nat} {ld : Nat → Ln} {m : Nat} {Q : Nat → Pt3} {fm : Nat → Nat → Bool} (hM : Mesh w h nl ld m Q fm) {f : Nat → Nat → Int} (hf : Flow m fm f) {x y : Nat} (hyx : y < x) (hx : x < m) (ex : (Q x).2.1 = 0) (ey : (Q y).2.1 = 0) : om Q m f x y = 0 := by
  have hQ := hM.2.1.1
  have hS := hM.2.1.2.1
  unfold om
  rw [if_neg (by omega), UU_s hx hyx]
  have a1 : RR Q m f y = 0 := by
    unfold RR
    refine sm_0 (fun c hc => sm_0 (fun d hd => ?_))
    rw [if_neg]
    rintro ⟨q1, q2, q3⟩
    have p1 := hS c y q1 (by omega)
    rw [plt_iff, ey] at p1
    have ec : (Q c).2.1 = 0 := by
      rcases p1 with z | z
      · omega
      · have := (hQ y (by omega)).1
        have z1 := z.1
        rw [Nat.zero_mul] at z1
        rcases Nat.mul_eq_zero.mp z1 with k | k
        · exact k
        · omega
    rw [ec] at p1
    have hxc : (Q c).1 * (Q y).2.2 < (Q y).1 * (Q c).2.2 := by omega
    have e : dtp (Q c) (Q d) (Q y) = - (((Q d).2.1 : Int) * (((Q y).1 * (Q c).2.2 : Nat) - ((Q c).1 * (Q y).2.2 : Nat))) := by unfold dtp; rw [ec, ey]; grind
    have := Int.mul_nonneg (show (0 : Int) ≤ (Q d).2.1 by omega) (show (0 : Int) ≤ (((Q y).1 * (Q c).2.2 : Nat) : Int) - ((Q c).1 * (Q y).2.2 : Nat) by omega)
    omega
  have a2 : sm m (fun d => if y < d ∧ dtp (Q y) (Q x) (Q d) < 0 then f y d else 0) = 0 := by
    refine sm_0 (fun d hd => ?_)
    rw [if_neg]
    rintro ⟨q1, q2⟩
    have p1 := hS y x hyx hx
    rw [plt_iff, ey, ex] at p1
    have hxc : (Q y).1 * (Q x).2.2 < (Q x).1 * (Q y).2.2 := by omega
    have e : dtp (Q y) (Q x) (Q d) = ((Q d).2.1 : Int) * (((Q x).1 * (Q y).2.2 : Nat) - ((Q y).1 * (Q x).2.2 : Nat)) := by unfold dtp; rw [ex, ey]; grind
    have := Int.mul_nonneg (show (0 : Int) ≤ (Q d).2.1 by omega) (show (0 : Int) ≤ (((Q x).1 * (Q y).2.2 : Nat) : Int) - ((Q y).1 * (Q x).2.2 : Nat) by omega)
    omega
  rw [a1, a2]; omega
theorem om_pane {w h nl : Nat} {ld : Nat → Ln} {m : Nat} {Q : Nat → Pt3} {fm : Nat → Nat → Bool} (hM : Mesh w h nl ld m Q fm) {nv : Nat → Nat → Nat} (hn : NV Q fm nv) {W : Nat → Nat → Bool} (hW : WS fm nv W) {b : Nat} (hb : cn1 (onK (KX w h ld) Q 0) m 0 b) (eb : (Q b).2.1 = 0) {x y : Nat} (hxy : fm x y = true) : om Q m (fl W) x y = ib (W x y) - ib (W b 0) := by
  have f1 := sd_fm hM (k := 0) (by omega) hb
  have h1 := h_all hM hn hW f1.1 hxy
  rw [om_tw (show 0 ≠ b by have := hb.1; omega), om_bot hM (fl_flow hM hn hW) hb.1 hb.2.1 eb (by rw [(jt_0 hM.2.1).2])] at h1
  omega
/-- up along the left side -/
theorem om_lft {w h nl : Nat} {ld : Nat → Ln} {m : Nat} {Q : Nat → Pt3} {fm : Nat → Nat → Bool} (hM : Mesh w h nl ld m Q fm) {f : Nat → Nat → Int} (hf : Flow m fm f) {a : Nat} (ha : cn1 (onK (KX w h ld) Q 3) m 0 a) (ea : (Q a).1 = 0) : om Q m f 0 a = 0 := by
  have hQ := hM.2.1.1
  obtain ⟨m0, e0⟩ := jt_0 hM.2.1
  have fa := (sd_fm hM (k := 3) (by omega) ha).1
  unfold om
  rw [if_pos ha.1]
  have a1 : RR Q m f 0 = 0 := by
    unfold RR
    refine sm_0 (fun c hc => sm_0 (fun d hd => ?_))
    rw [if_neg (by omega)]
  have a2 : UU Q m f 0 a = sm m (fun d => f 0 d) := by
    unfold UU
    refine sm_congr (fun d hd => ?_)
    by_cases nz : f 0 d = 0
    · rw [nz]; split <;> rfl
    · rw [if_pos]
      have fd := hf.2.2 0 d nz
      have d0 := (fm_ad hM fd).2.2.1
      refine ⟨by omega, ?_⟩
      by_cases da : d = a
      · exact Or.inl da
      · right
        have ne := (nb_fm hM 0 a d fa fd (Ne.symm da)).2.2.2 ⟨fun _ => by omega, fun _ => ha.1⟩
        have e : dtp (Q 0) (Q a) (Q d) = - (((Q d).1 : Int) * (Q a).2.1) := by unfold dtp; rw [e0, ea]; grind
        have := Int.mul_nonneg (show (0 : Int) ≤ (Q d).1 by omega) (show (0 : Int) ≤ (Q a).2.1 by omega)
        omega
  rw [a1, a2, hf.2.1 0 m0]; rfl
theorem W_lft {w h nl : Nat} {ld : Nat → Ln} {m : Nat} {Q : Nat → Pt3} {fm : Nat → Nat → Bool} (hM : Mesh w h nl ld m Q fm) {nv : Nat → Nat → Nat} (hn : NV Q fm nv) {W : Nat → Nat → Bool} (hW : WS fm nv W) {a b : Nat} (ha : cn1 (onK (KX w h ld) Q 3) m 0 a) (ea : (Q a).1 = 0) (hb : cn1 (onK (KX w h ld) Q 0) m 0 b) (eb : (Q b).2.1 = 0) : W 0 a = W b 0 := by
  have h1 := om_pane hM hn hW hb eb (sd_fm hM (k := 3) (by omega) ha).1
  rw [om_lft hM (fl_flow hM hn hW) ha ea] at h1
  cases e1 : W 0 a <;> cases e2 : W b 0 <;> rw [e1, e2] at h1 <;> simp [ib] at h1 ⊢
theorem W_bot {w h nl : Nat} {ld : Nat → Ln} {m : Nat} {Q : Nat → Pt3} {fm : Nat → Nat → Bool} (hM : Mesh w h nl ld m Q fm) {nv : Nat → Nat → Nat} (hn : NV Q fm nv) {W : Nat → Nat → Bool} (hW : WS fm nv W) {b : Nat} (hb : cn1 (onK (KX w h ld) Q 0) m 0 b) (eb : (Q b).2.1 = 0) {x y : Nat} (hf : fm x y = true) (hyx : y < x) (ex : (Q x).2.1 = 0) (ey : (Q y).2.1 = 0) : W x y = W b 0 := by
  have h1 := om_pane hM hn hW hb eb hf
  rw [om_bot hM (fl_flow hM hn hW) hyx (fm_ad hM hf).1 ex ey] at h1
  cases e1 : W x y <;> cases e2 : W b 0 <;> rw [e1, e2] at h1 <;> simp [ib] at h1 ⊢
