/-! alike -/
theorem step_alike0 (n : Nat) (x : SX) (y : SM) (hr : Rel (n + 1) x y) : ∃ (r : Int32) (x' : SX) (y' : SM), stX_alike (nI 0) x = some (r, x') ∧ stM_alike (nI 0) y = some (r, y') ∧ Rel n x' y' := by
  obtain ⟨⟨f0, f1, f2, f3⟩, hk, wn⟩ := hr
  have u1 : ¬ (1 : Int32) = 0 := by decide
  rcases id wn with ⟨z1, z2⟩ | ⟨z1, w, h, nl, ld, m, Q, fm, nv, a, np, gs, pn, n1, n', c, pi, ⟨hw, dx, dm⟩, ⟨e1, e2, e3, e4, e5, e6, e7⟩, sx, sm, gz, lk, c6, hpi, ec, ep, hch, hpk⟩
  · have r2 := sX12_alike_no0 (s_isWindow := y.1.1) (s_founds := y.1.2.2.2.2.2.2.2.2.2.2.2.2.2.2.2.1) (s_goal := y.1.2.2.2.2.2.2.2.2.2.2.2.2.2.2.2.2.2.2.2.2.2.2.2.2) (s_isKept := y.1.2.2.2.2.2.1) (s_kept_0_w := y.2.2.2.2.2.2.2.1.1) (s_kept_0_h := y.2.2.2.2.2.2.2.1.2.1) (s_kept_0_leads := y.2.2.2.2.2.2.2.1.2.2.1) (s_kept_1_w := y.2.2.2.2.2.2.2.2.1.1) (s_kept_1_h := y.2.2.2.2.2.2.2.2.1.2.1) (s_kept_1_leads := y.2.2.2.2.2.2.2.2.1.2.2.1) (s_kept_2_w := y.2.2.2.2.2.2.2.2.2.1.1) (s_kept_2_h := y.2.2.2.2.2.2.2.2.2.1.2.1) (s_kept_2_leads := y.2.2.2.2.2.2.2.2.2.1.2.2.1) (s_kept_3_w := y.2.2.2.2.2.2.2.2.2.2.1) (s_kept_3_h := y.2.2.2.2.2.2.2.2.2.2.2.1) (s_kept_3_leads := y.2.2.2.2.2.2.2.2.2.2.2.2.1) (s_kept_0_lines := y.2.2.2.2.2.2.2.1.2.2.2.1) (s_kept_0_joints := y.2.2.2.2.2.2.2.1.2.2.2.2.1) (s_kept_0_pieces := y.2.2.2.2.2.2.2.1.2.2.2.2.2.1) (s_kept_0_ax := y.2.2.2.2.2.2.2.1.2.2.2.2.2.2.1) (s_kept_0_ay := y.2.2.2.2.2.2.2.1.2.2.2.2.2.2.2.1) (s_kept_0_bx := y.2.2.2.2.2.2.2.1.2.2.2.2.2.2.2.2.1) (s_kept_0_by := y.2.2.2.2.2.2.2.1.2.2.2.2.2.2.2.2.2.1) (s_kept_0_d := y.2.2.2.2.2.2.2.1.2.2.2.2.2.2.2.2.2.2.2.2.1) (s_kept_0_firm := y.2.2.2.2.2.2.2.1.2.2.2.2.2.2.2.2.2.2.2.2.2.2.2) (s_kept_0_from := y.2.2.2.2.2.2.2.1.2.2.2.2.2.2.2.2.2.2.2.2.2.1) (s_kept_0_to := y.2.2.2.2.2.2.2.1.2.2.2.2.2.2.2.2.2.2.2.2.2.2.1) (s_kept_0_x := y.2.2.2.2.2.2.2.1.2.2.2.2.2.2.2.2.2.2.1) (s_kept_0_y := y.2.2.2.2.2.2.2.1.2.2.2.2.2.2.2.2.2.2.2.1) (s_kept_1_lines := y.2.2.2.2.2.2.2.2.1.2.2.2.1) (s_kept_1_joints := y.2.2.2.2.2.2.2.2.1.2.2.2.2.1) (s_kept_1_pieces := y.2.2.2.2.2.2.2.2.1.2.2.2.2.2.1) (s_kept_1_ax := y.2.2.2.2.2.2.2.2.1.2.2.2.2.2.2.1) (s_kept_1_ay := y.2.2.2.2.2.2.2.2.1.2.2.2.2.2.2.2.1) (s_kept_1_bx := y.2.2.2.2.2.2.2.2.1.2.2.2.2.2.2.2.2.1) (s_kept_1_by := y.2.2.2.2.2.2.2.2.1.2.2.2.2.2.2.2.2.2.1) (s_kept_1_d := y.2.2.2.2.2.2.2.2.1.2.2.2.2.2.2.2.2.2.2.2.2.1) (s_kept_1_firm := y.2.2.2.2.2.2.2.2.1.2.2.2.2.2.2.2.2.2.2.2.2.2.2.2) (s_kept_1_from := y.2.2.2.2.2.2.2.2.1.2.2.2.2.2.2.2.2.2.2.2.2.2.1) (s_kept_1_to := y.2.2.2.2.2.2.2.2.1.2.2.2.2.2.2.2.2.2.2.2.2.2.2.1) (s_kept_1_x := y.2.2.2.2.2.2.2.2.1.2.2.2.2.2.2.2.2.2.2.1) (s_kept_1_y := y.2.2.2.2.2.2.2.2.1.2.2.2.2.2.2.2.2.2.2.2.1) (s_kept_2_lines := y.2.2.2.2.2.2.2.2.2.1.2.2.2.1) (s_kept_2_joints := y.2.2.2.2.2.2.2.2.2.1.2.2.2.2.1) (s_kept_2_pieces := y.2.2.2.2.2.2.2.2.2.1.2.2.2.2.2.1) (s_kept_2_ax := y.2.2.2.2.2.2.2.2.2.1.2.2.2.2.2.2.1) (s_kept_2_ay := y.2.2.2.2.2.2.2.2.2.1.2.2.2.2.2.2.2.1) (s_kept_2_bx := y.2.2.2.2.2.2.2.2.2.1.2.2.2.2.2.2.2.2.1) (s_kept_2_by := y.2.2.2.2.2.2.2.2.2.1.2.2.2.2.2.2.2.2.2.1) (s_kept_2_d := y.2.2.2.2.2.2.2.2.2.1.2.2.2.2.2.2.2.2.2.2.2.2.1) (s_kept_2_firm := y.2.2.2.2.2.2.2.2.2.1.2.2.2.2.2.2.2.2.2.2.2.2.2.2.2) (s_kept_2_from := y.2.2.2.2.2.2.2.2.2.1.2.2.2.2.2.2.2.2.2.2.2.2.2.1) (s_kept_2_to := y.2.2.2.2.2.2.2.2.2.1.2.2.2.2.2.2.2.2.2.2.2.2.2.2.1) (s_kept_2_x := y.2.2.2.2.2.2.2.2.2.1.2.2.2.2.2.2.2.2.2.2.1) (s_kept_2_y := y.2.2.2.2.2.2.2.2.2.1.2.2.2.2.2.2.2.2.2.2.2.1) (s_kept_3_lines := y.2.2.2.2.2.2.2.2.2.2.2.2.2.1) (s_kept_3_joints := y.2.2.2.2.2.2.2.2.2.2.2.2.2.2.1) (s_kept_3_pieces := y.2.2.2.2.2.2.2.2.2.2.2.2.2.2.2.1) (s_kept_3_ax := y.2.2.2.2.2.2.2.2.2.2.2.2.2.2.2.2.1) (s_kept_3_ay := y.2.2.2.2.2.2.2.2.2.2.2.2.2.2.2.2.2.1) (s_kept_3_bx := y.2.2.2.2.2.2.2.2.2.2.2.2.2.2.2.2.2.2.1) (s_kept_3_by := y.2.2.2.2.2.2.2.2.2.2.2.2.2.2.2.2.2.2.2.1) (s_kept_3_d := y.2.2.2.2.2.2.2.2.2.2.2.2.2.2.2.2.2.2.2.2.2.2.1) (s_kept_3_firm := y.2.2.2.2.2.2.2.2.2.2.2.2.2.2.2.2.2.2.2.2.2.2.2.2.2) (s_kept_3_from := y.2.2.2.2.2.2.2.2.2.2.2.2.2.2.2.2.2.2.2.2.2.2.2.1) (s_kept_3_to := y.2.2.2.2.2.2.2.2.2.2.2.2.2.2.2.2.2.2.2.2.2.2.2.2.1) (s_kept_3_x := y.2.2.2.2.2.2.2.2.2.2.2.2.2.2.2.2.2.2.2.2.1) (s_kept_3_y := y.2.2.2.2.2.2.2.2.2.2.2.2.2.2.2.2.2.2.2.2.2.1) (s_now_w := y.2.1.1) (s_now_h := y.2.1.2.1) (s_now_joints := y.2.1.2.2.2.2.1) (s_now_pieces := y.2.1.2.2.2.2.2.1) (s_now_d := y.2.1.2.2.2.2.2.2.2.2.2.2.2.2.1) (s_now_from := y.2.1.2.2.2.2.2.2.2.2.2.2.2.2.2.1) (s_now_to := y.2.1.2.2.2.2.2.2.2.2.2.2.2.2.2.2.1) (s_now_x := y.2.1.2.2.2.2.2.2.2.2.2.2.1) (s_now_y := y.2.1.2.2.2.2.2.2.2.2.2.2.2.1) (Or.inl z1)
    exact ⟨-4, _, _, stX_alike_of (sX9_alike_no0 (Or.inl z2)), stM_alike_of r2, ⟨⟨congrArg (cf 4) f0, f1, f2, f3⟩, hk, wn⟩⟩
  · obtain ⟨d1, d2, d3, d4, d5, d6⟩ := dx.1
    have iw : ¬ y.1.1 = 0 := by rw [z1]; exact u1
    rcases hk.1 with ⟨z3, z4⟩ | ⟨z3, w2, h2, nl2, ld2, dx2, dm2⟩
    · exact ⟨-4, _, _, stX_alike_of (sX9_alike_no0 (Or.inr ⟨(by rw [dx.2.1]; exact there1 d1 d2), z4⟩)), stM_alike_of (sX12_alike_no0 (Or.inr ⟨iw, z3⟩)), ⟨⟨congrArg (cf 4) f0, f1, f2, f3⟩, hk, wn⟩⟩
    · have HB0 := alk hw sx sm dx2.1 dx2.2.2.2.2 dm2.2.2.2 x.2.2.2.2.2.2.2.2.2.2.2.1 x.2.2.2.2.2.2.2.2.2.2.2.2.1.1 x.2.2.2.2.2.2.2.2.2.2.2.2.1.2.2.2 x.2.2.2.2.2.2.2.2.2.2.2.2.1.2.1 x.2.2.2.2.2.2.2.2.2.2.2.2.1.2.2.1 x.2.2.2.2.2.2.2.2.2.2.2.2.2.1.1 x.2.2.2.2.2.2.2.2.2.2.2.2.2.1.2.2.2.2.1 x.2.2.2.2.2.2.2.2.2.2.2.2.2.1.2.2.2.2.2.2.1 x.2.2.2.2.2.2.2.2.2.2.2.2.2.1.2.2.2.2.2.1 x.2.2.2.2.2.2.2.2.2.2.2.2.2.1.2.1 x.2.2.2.2.2.2.2.2.2.2.2.2.2.1.2.2.2.2.2.2.2.2.2 x.2.2.2.2.2.2.2.2.2.2.2.2.2.1.2.2.2.2.2.2.2.2.1 x.2.2.2.2.2.2.2.2.2.2.2.2.2.1.2.2.2.2.2.2.2.1 x.2.2.2.2.2.2.2.2.2.2.2.2.2.1.2.2.1 x.2.2.2.2.2.2.2.2.2.2.2.2.2.1.2.2.2.1 y.2.2.2.2.2.2.2.1.2.2.2.1 y.2.2.2.2.2.2.2.1.2.2.2.2.1 y.2.2.2.2.2.2.2.1.2.2.2.2.2.1 y.2.2.2.2.2.2.2.1.2.2.2.2.2.2.2.2.2.2.2.2.1 y.2.2.2.2.2.2.2.1.2.2.2.2.2.2.2.2.2.2.2.2.2.2.2 y.2.2.2.2.2.2.2.1.2.2.2.2.2.2.2.2.2.2.2.2.2.1 y.2.2.2.2.2.2.2.1.2.2.2.2.2.2.2.2.2.2.2.2.2.2.1 y.2.2.2.2.2.2.2.1.2.2.2.2.2.2.2.2.2.2.1 y.2.2.2.2.2.2.2.1.2.2.2.2.2.2.2.2.2.2.2.1 y.1.2.2.2.2.2.2.2.2.2.2.2.2.2.2.2.2.2.2.2.2.2.2.2.2
      refine Exists.elim HB0 (fun r HB1 => ?_)
      refine Exists.elim HB1 (fun img' HB2 => ?_)
      refine Exists.elim HB2 (fun p1 HB3 => ?_)
      refine Exists.elim HB3 (fun p2 HB4 => ?_)
      refine Exists.elim HB4 (fun p3 HB5 => ?_)
      refine Exists.elim HB5 (fun p4 HB6 => ?_)
      refine Exists.elim HB6 (fun p5 HB7 => ?_)
      refine Exists.elim HB7 (fun p6 HB8 => ?_)
      refine Exists.elim HB8 (fun p7 HB9 => ?_)
      refine Exists.elim HB9 (fun p8 HB10 => ?_)
      refine Exists.elim HB10 (fun p9 HB11 => ?_)
      refine Exists.elim HB11 (fun p10 HB12 => ?_)
      refine Exists.elim HB12 (fun p11 HB13 => ?_)
      refine Exists.elim HB13 (fun p12 HB14 => ?_)
      refine Exists.elim HB14 (fun p13 HB15 => ?_)
      refine Exists.elim HB15 (fun p14 HB16 => ?_)
      refine Exists.elim HB16 (fun go' HB17 => ?_)
      refine Exists.elim HB17 (fun o12 HB18 => ?_)
      refine Exists.elim HB18 (fun o13 HB19 => ?_)
      refine Exists.elim HB19 (fun o14 HB20 => ?_)
      refine Exists.elim HB20 (fun o15 HB21 => ?_)
      refine Exists.elim HB21 (fun o16 HB22 => ?_)
      refine Exists.elim HB22 (fun o17 HB23 => ?_)
      refine Exists.elim HB23 (fun o18 HB24 => ?_)
      refine Exists.elim HB24 (fun o19 HB25 => ?_)
      refine Exists.elim HB25 (fun o20 HB26 => ?_)
      refine Exists.elim HB26 (fun o21 HB27 => ?_)
      refine Exists.elim HB27 (fun o22 HB28 => ?_)
      refine Exists.elim HB28 (fun o23 HB29 => ?_)
      refine Exists.elim HB29 (fun o24 HB30 => ?_)
      obtain ⟨k1, k2, k3, k4⟩ := HB30
      clear HB0 HB1 HB2 HB3 HB4 HB5 HB6 HB7 HB8 HB9 HB10 HB11 HB12 HB13 HB14 HB15 HB16 HB17 HB18 HB19 HB20 HB21 HB22 HB23 HB24 HB25 HB26 HB27 HB28 HB29
      exact ⟨r, _, _, stX_alike_of (sX9_alike_go0 dx.2.1 dx.2.2.1 dx2.2.1 dx2.2.2.1 dx2.2.2.2.1 e1 e2 (there1 d1 d2) (there1 dx2.1.1 dx2.1.2.1) k1), stM_alike_of (sX12_alike_go0 dm.1 dm.2.1 e6 e7 dm2.1 dm2.2.1 dm2.2.2.1 iw (by rw [z3]; exact u1) k2 k3), ⟨⟨f0, f1, f2, f3⟩, ⟨Or.inr ⟨z3, w2, h2, nl2, ld2, dx2, ⟨dm2.1, dm2.2.1, dm2.2.2.1, k4⟩⟩, hk.2.1, hk.2.2.1, hk.2.2.2⟩, wn⟩⟩
theorem step_alike1 (n : Nat) (x : SX) (y : SM) (hr : Rel (n + 1) x y) : ∃ (r : Int32) (x' : SX) (y' : SM), stX_alike (nI 1) x = some (r, x') ∧ stM_alike (nI 1) y = some (r, y') ∧ Rel n x' y' := by
  obtain ⟨⟨f0, f1, f2, f3⟩, hk, wn⟩ := hr
  have u1 : ¬ (1 : Int32) = 0 := by decide
  rcases id wn with ⟨z1, z2⟩ | ⟨z1, w, h, nl, ld, m, Q, fm, nv, a, np, gs, pn, n1, n', c, pi, ⟨hw, dx, dm⟩, ⟨e1, e2, e3, e4, e5, e6, e7⟩, sx, sm, gz, lk, c6, hpi, ec, ep, hch, hpk⟩
  · have r2 := sX12_alike_no1 (s_isWindow := y.1.1) (s_founds := y.1.2.2.2.2.2.2.2.2.2.2.2.2.2.2.2.1) (s_goal := y.1.2.2.2.2.2.2.2.2.2.2.2.2.2.2.2.2.2.2.2.2.2.2.2.2) (s_isKept := y.1.2.2.2.2.2.1) (s_kept_0_w := y.2.2.2.2.2.2.2.1.1) (s_kept_0_h := y.2.2.2.2.2.2.2.1.2.1) (s_kept_0_leads := y.2.2.2.2.2.2.2.1.2.2.1) (s_kept_1_w := y.2.2.2.2.2.2.2.2.1.1) (s_kept_1_h := y.2.2.2.2.2.2.2.2.1.2.1) (s_kept_1_leads := y.2.2.2.2.2.2.2.2.1.2.2.1) (s_kept_2_w := y.2.2.2.2.2.2.2.2.2.1.1) (s_kept_2_h := y.2.2.2.2.2.2.2.2.2.1.2.1) (s_kept_2_leads := y.2.2.2.2.2.2.2.2.2.1.2.2.1) (s_kept_3_w := y.2.2.2.2.2.2.2.2.2.2.1) (s_kept_3_h := y.2.2.2.2.2.2.2.2.2.2.2.1) (s_kept_3_leads := y.2.2.2.2.2.2.2.2.2.2.2.2.1) (s_kept_0_lines := y.2.2.2.2.2.2.2.1.2.2.2.1) (s_kept_0_joints := y.2.2.2.2.2.2.2.1.2.2.2.2.1) (s_kept_0_pieces := y.2.2.2.2.2.2.2.1.2.2.2.2.2.1) (s_kept_0_ax := y.2.2.2.2.2.2.2.1.2.2.2.2.2.2.1) (s_kept_0_ay := y.2.2.2.2.2.2.2.1.2.2.2.2.2.2.2.1) (s_kept_0_bx := y.2.2.2.2.2.2.2.1.2.2.2.2.2.2.2.2.1) (s_kept_0_by := y.2.2.2.2.2.2.2.1.2.2.2.2.2.2.2.2.2.1) (s_kept_0_d := y.2.2.2.2.2.2.2.1.2.2.2.2.2.2.2.2.2.2.2.2.1) (s_kept_0_firm := y.2.2.2.2.2.2.2.1.2.2.2.2.2.2.2.2.2.2.2.2.2.2.2) (s_kept_0_from := y.2.2.2.2.2.2.2.1.2.2.2.2.2.2.2.2.2.2.2.2.2.1) (s_kept_0_to := y.2.2.2.2.2.2.2.1.2.2.2.2.2.2.2.2.2.2.2.2.2.2.1) (s_kept_0_x := y.2.2.2.2.2.2.2.1.2.2.2.2.2.2.2.2.2.2.1) (s_kept_0_y := y.2.2.2.2.2.2.2.1.2.2.2.2.2.2.2.2.2.2.2.1) (s_kept_1_lines := y.2.2.2.2.2.2.2.2.1.2.2.2.1) (s_kept_1_joints := y.2.2.2.2.2.2.2.2.1.2.2.2.2.1) (s_kept_1_pieces := y.2.2.2.2.2.2.2.2.1.2.2.2.2.2.1) (s_kept_1_ax := y.2.2.2.2.2.2.2.2.1.2.2.2.2.2.2.1) (s_kept_1_ay := y.2.2.2.2.2.2.2.2.1.2.2.2.2.2.2.2.1) (s_kept_1_bx := y.2.2.2.2.2.2.2.2.1.2.2.2.2.2.2.2.2.1) (s_kept_1_by := y.2.2.2.2.2.2.2.2.1.2.2.2.2.2.2.2.2.2.1) (s_kept_1_d := y.2.2.2.2.2.2.2.2.1.2.2.2.2.2.2.2.2.2.2.2.2.1) (s_kept_1_firm := y.2.2.2.2.2.2.2.2.1.2.2.2.2.2.2.2.2.2.2.2.2.2.2.2) (s_kept_1_from := y.2.2.2.2.2.2.2.2.1.2.2.2.2.2.2.2.2.2.2.2.2.2.1) (s_kept_1_to := y.2.2.2.2.2.2.2.2.1.2.2.2.2.2.2.2.2.2.2.2.2.2.2.1) (s_kept_1_x := y.2.2.2.2.2.2.2.2.1.2.2.2.2.2.2.2.2.2.2.1) (s_kept_1_y := y.2.2.2.2.2.2.2.2.1.2.2.2.2.2.2.2.2.2.2.2.1) (s_kept_2_lines := y.2.2.2.2.2.2.2.2.2.1.2.2.2.1) (s_kept_2_joints := y.2.2.2.2.2.2.2.2.2.1.2.2.2.2.1) (s_kept_2_pieces := y.2.2.2.2.2.2.2.2.2.1.2.2.2.2.2.1) (s_kept_2_ax := y.2.2.2.2.2.2.2.2.2.1.2.2.2.2.2.2.1) (s_kept_2_ay := y.2.2.2.2.2.2.2.2.2.1.2.2.2.2.2.2.2.1) (s_kept_2_bx := y.2.2.2.2.2.2.2.2.2.1.2.2.2.2.2.2.2.2.1) (s_kept_2_by := y.2.2.2.2.2.2.2.2.2.1.2.2.2.2.2.2.2.2.2.1) (s_kept_2_d := y.2.2.2.2.2.2.2.2.2.1.2.2.2.2.2.2.2.2.2.2.2.2.1) (s_kept_2_firm := y.2.2.2.2.2.2.2.2.2.1.2.2.2.2.2.2.2.2.2.2.2.2.2.2.2) (s_kept_2_from := y.2.2.2.2.2.2.2.2.2.1.2.2.2.2.2.2.2.2.2.2.2.2.2.1) (s_kept_2_to := y.2.2.2.2.2.2.2.2.2.1.2.2.2.2.2.2.2.2.2.2.2.2.2.2.1) (s_kept_2_x := y.2.2.2.2.2.2.2.2.2.1.2.2.2.2.2.2.2.2.2.2.1) (s_kept_2_y := y.2.2.2.2.2.2.2.2.2.1.2.2.2.2.2.2.2.2.2.2.2.1) (s_kept_3_lines := y.2.2.2.2.2.2.2.2.2.2.2.2.2.1) (s_kept_3_joints := y.2.2.2.2.2.2.2.2.2.2.2.2.2.2.1) (s_kept_3_pieces := y.2.2.2.2.2.2.2.2.2.2.2.2.2.2.2.1) (s_kept_3_ax := y.2.2.2.2.2.2.2.2.2.2.2.2.2.2.2.2.1) (s_kept_3_ay := y.2.2.2.2.2.2.2.2.2.2.2.2.2.2.2.2.2.1) (s_kept_3_bx := y.2.2.2.2.2.2.2.2.2.2.2.2.2.2.2.2.2.2.1) (s_kept_3_by := y.2.2.2.2.2.2.2.2.2.2.2.2.2.2.2.2.2.2.2.1) (s_kept_3_d := y.2.2.2.2.2.2.2.2.2.2.2.2.2.2.2.2.2.2.2.2.2.2.1) (s_kept_3_firm := y.2.2.2.2.2.2.2.2.2.2.2.2.2.2.2.2.2.2.2.2.2.2.2.2.2) (s_kept_3_from := y.2.2.2.2.2.2.2.2.2.2.2.2.2.2.2.2.2.2.2.2.2.2.2.1) (s_kept_3_to := y.2.2.2.2.2.2.2.2.2.2.2.2.2.2.2.2.2.2.2.2.2.2.2.2.1) (s_kept_3_x := y.2.2.2.2.2.2.2.2.2.2.2.2.2.2.2.2.2.2.2.2.1) (s_kept_3_y := y.2.2.2.2.2.2.2.2.2.2.2.2.2.2.2.2.2.2.2.2.2.1) (s_now_w := y.2.1.1) (s_now_h := y.2.1.2.1) (s_now_joints := y.2.1.2.2.2.2.1) (s_now_pieces := y.2.1.2.2.2.2.2.1) (s_now_d := y.2.1.2.2.2.2.2.2.2.2.2.2.2.2.1) (s_now_from := y.2.1.2.2.2.2.2.2.2.2.2.2.2.2.2.1) (s_now_to := y.2.1.2.2.2.2.2.2.2.2.2.2.2.2.2.2.1) (s_now_x := y.2.1.2.2.2.2.2.2.2.2.2.2.1) (s_now_y := y.2.1.2.2.2.2.2.2.2.2.2.2.2.1) (Or.inl z1)
    exact ⟨-4, _, _, stX_alike_of (sX9_alike_no1 (Or.inl z2)), stM_alike_of r2, ⟨⟨congrArg (cf 4) f0, f1, f2, f3⟩, hk, wn⟩⟩
  · obtain ⟨d1, d2, d3, d4, d5, d6⟩ := dx.1
    have iw : ¬ y.1.1 = 0 := by rw [z1]; exact u1
    rcases hk.2.1 with ⟨z3, z4⟩ | ⟨z3, w2, h2, nl2, ld2, dx2, dm2⟩
    · exact ⟨-4, _, _, stX_alike_of (sX9_alike_no1 (Or.inr ⟨(by rw [dx.2.1]; exact there1 d1 d2), z4⟩)), stM_alike_of (sX12_alike_no1 (Or.inr ⟨iw, z3⟩)), ⟨⟨congrArg (cf 4) f0, f1, f2, f3⟩, hk, wn⟩⟩
    · have HB0 := alk hw sx sm dx2.1 dx2.2.2.2.2 dm2.2.2.2 x.2.2.2.2.2.2.2.2.2.2.2.1 x.2.2.2.2.2.2.2.2.2.2.2.2.1.1 x.2.2.2.2.2.2.2.2.2.2.2.2.1.2.2.2 x.2.2.2.2.2.2.2.2.2.2.2.2.1.2.1 x.2.2.2.2.2.2.2.2.2.2.2.2.1.2.2.1 x.2.2.2.2.2.2.2.2.2.2.2.2.2.1.1 x.2.2.2.2.2.2.2.2.2.2.2.2.2.1.2.2.2.2.1 x.2.2.2.2.2.2.2.2.2.2.2.2.2.1.2.2.2.2.2.2.1 x.2.2.2.2.2.2.2.2.2.2.2.2.2.1.2.2.2.2.2.1 x.2.2.2.2.2.2.2.2.2.2.2.2.2.1.2.1 x.2.2.2.2.2.2.2.2.2.2.2.2.2.1.2.2.2.2.2.2.2.2.2 x.2.2.2.2.2.2.2.2.2.2.2.2.2.1.2.2.2.2.2.2.2.2.1 x.2.2.2.2.2.2.2.2.2.2.2.2.2.1.2.2.2.2.2.2.2.1 x.2.2.2.2.2.2.2.2.2.2.2.2.2.1.2.2.1 x.2.2.2.2.2.2.2.2.2.2.2.2.2.1.2.2.2.1 y.2.2.2.2.2.2.2.2.1.2.2.2.1 y.2.2.2.2.2.2.2.2.1.2.2.2.2.1 y.2.2.2.2.2.2.2.2.1.2.2.2.2.2.1 y.2.2.2.2.2.2.2.2.1.2.2.2.2.2.2.2.2.2.2.2.2.1 y.2.2.2.2.2.2.2.2.1.2.2.2.2.2.2.2.2.2.2.2.2.2.2.2 y.2.2.2.2.2.2.2.2.1.2.2.2.2.2.2.2.2.2.2.2.2.2.1 y.2.2.2.2.2.2.2.2.1.2.2.2.2.2.2.2.2.2.2.2.2.2.2.1 y.2.2.2.2.2.2.2.2.1.2.2.2.2.2.2.2.2.2.2.1 y.2.2.2.2.2.2.2.2.1.2.2.2.2.2.2.2.2.2.2.2.1 y.1.2.2.2.2.2.2.2.2.2.2.2.2.2.2.2.2.2.2.2.2.2.2.2.2
      refine Exists.elim HB0 (fun r HB1 => ?_)
      refine Exists.elim HB1 (fun img' HB2 => ?_)
      refine Exists.elim HB2 (fun p1 HB3 => ?_)
      refine Exists.elim HB3 (fun p2 HB4 => ?_)
      refine Exists.elim HB4 (fun p3 HB5 => ?_)
      refine Exists.elim HB5 (fun p4 HB6 => ?_)
      refine Exists.elim HB6 (fun p5 HB7 => ?_)
      refine Exists.elim HB7 (fun p6 HB8 => ?_)
      refine Exists.elim HB8 (fun p7 HB9 => ?_)
      refine Exists.elim HB9 (fun p8 HB10 => ?_)
      refine Exists.elim HB10 (fun p9 HB11 => ?_)
      refine Exists.elim HB11 (fun p10 HB12 => ?_)
      refine Exists.elim HB12 (fun p11 HB13 => ?_)
      refine Exists.elim HB13 (fun p12 HB14 => ?_)
      refine Exists.elim HB14 (fun p13 HB15 => ?_)
      refine Exists.elim HB15 (fun p14 HB16 => ?_)
      refine Exists.elim HB16 (fun go' HB17 => ?_)
      refine Exists.elim HB17 (fun o12 HB18 => ?_)
      refine Exists.elim HB18 (fun o13 HB19 => ?_)
      refine Exists.elim HB19 (fun o14 HB20 => ?_)
      refine Exists.elim HB20 (fun o15 HB21 => ?_)
      refine Exists.elim HB21 (fun o16 HB22 => ?_)
      refine Exists.elim HB22 (fun o17 HB23 => ?_)
      refine Exists.elim HB23 (fun o18 HB24 => ?_)
      refine Exists.elim HB24 (fun o19 HB25 => ?_)
      refine Exists.elim HB25 (fun o20 HB26 => ?_)
      refine Exists.elim HB26 (fun o21 HB27 => ?_)
      refine Exists.elim HB27 (fun o22 HB28 => ?_)
      refine Exists.elim HB28 (fun o23 HB29 => ?_)
      refine Exists.elim HB29 (fun o24 HB30 => ?_)
      obtain ⟨k1, k2, k3, k4⟩ := HB30
      clear HB0 HB1 HB2 HB3 HB4 HB5 HB6 HB7 HB8 HB9 HB10 HB11 HB12 HB13 HB14 HB15 HB16 HB17 HB18 HB19 HB20 HB21 HB22 HB23 HB24 HB25 HB26 HB27 HB28 HB29
      exact ⟨r, _, _, stX_alike_of (sX9_alike_go1 dx.2.1 dx.2.2.1 dx2.2.1 dx2.2.2.1 dx2.2.2.2.1 e1 e2 (there1 d1 d2) (there1 dx2.1.1 dx2.1.2.1) k1), stM_alike_of (sX12_alike_go1 dm.1 dm.2.1 e6 e7 dm2.1 dm2.2.1 dm2.2.2.1 iw (by rw [z3]; exact u1) k2 k3), ⟨⟨f0, f1, f2, f3⟩, ⟨hk.1, Or.inr ⟨z3, w2, h2, nl2, ld2, dx2, ⟨dm2.1, dm2.2.1, dm2.2.2.1, k4⟩⟩, hk.2.2.1, hk.2.2.2⟩, wn⟩⟩
theorem step_alike2 (n : Nat) (x : SX) (y : SM) (hr : Rel (n + 1) x y) : ∃ (r : Int32) (x' : SX) (y' : SM), stX_alike (nI 2) x = some (r, x') ∧ stM_alike (nI 2) y = some (r, y') ∧ Rel n x' y' := by
  obtain ⟨⟨f0, f1, f2, f3⟩, hk, wn⟩ := hr
  have u1 : ¬ (1 : Int32) = 0 := by decide
  rcases id wn with ⟨z1, z2⟩ | ⟨z1, w, h, nl, ld, m, Q, fm, nv, a, np, gs, pn, n1, n', c, pi, ⟨hw, dx, dm⟩, ⟨e1, e2, e3, e4, e5, e6, e7⟩, sx, sm, gz, lk, c6, hpi, ec, ep, hch, hpk⟩
  · have r2 := sX12_alike_no2 (s_isWindow := y.1.1) (s_founds := y.1.2.2.2.2.2.2.2.2.2.2.2.2.2.2.2.1) (s_goal := y.1.2.2.2.2.2.2.2.2.2.2.2.2.2.2.2.2.2.2.2.2.2.2.2.2) (s_isKept := y.1.2.2.2.2.2.1) (s_kept_0_w := y.2.2.2.2.2.2.2.1.1) (s_kept_0_h := y.2.2.2.2.2.2.2.1.2.1) (s_kept_0_leads := y.2.2.2.2.2.2.2.1.2.2.1) (s_kept_1_w := y.2.2.2.2.2.2.2.2.1.1) (s_kept_1_h := y.2.2.2.2.2.2.2.2.1.2.1) (s_kept_1_leads := y.2.2.2.2.2.2.2.2.1.2.2.1) (s_kept_2_w := y.2.2.2.2.2.2.2.2.2.1.1) (s_kept_2_h := y.2.2.2.2.2.2.2.2.2.1.2.1) (s_kept_2_leads := y.2.2.2.2.2.2.2.2.2.1.2.2.1) (s_kept_3_w := y.2.2.2.2.2.2.2.2.2.2.1) (s_kept_3_h := y.2.2.2.2.2.2.2.2.2.2.2.1) (s_kept_3_leads := y.2.2.2.2.2.2.2.2.2.2.2.2.1) (s_kept_0_lines := y.2.2.2.2.2.2.2.1.2.2.2.1) (s_kept_0_joints := y.2.2.2.2.2.2.2.1.2.2.2.2.1) (s_kept_0_pieces := y.2.2.2.2.2.2.2.1.2.2.2.2.2.1) (s_kept_0_ax := y.2.2.2.2.2.2.2.1.2.2.2.2.2.2.1) (s_kept_0_ay := y.2.2.2.2.2.2.2.1.2.2.2.2.2.2.2.1) (s_kept_0_bx := y.2.2.2.2.2.2.2.1.2.2.2.2.2.2.2.2.1) (s_kept_0_by := y.2.2.2.2.2.2.2.1.2.2.2.2.2.2.2.2.2.1) (s_kept_0_d := y.2.2.2.2.2.2.2.1.2.2.2.2.2.2.2.2.2.2.2.2.1) (s_kept_0_firm := y.2.2.2.2.2.2.2.1.2.2.2.2.2.2.2.2.2.2.2.2.2.2.2) (s_kept_0_from := y.2.2.2.2.2.2.2.1.2.2.2.2.2.2.2.2.2.2.2.2.2.1) (s_kept_0_to := y.2.2.2.2.2.2.2.1.2.2.2.2.2.2.2.2.2.2.2.2.2.2.1) (s_kept_0_x := y.2.2.2.2.2.2.2.1.2.2.2.2.2.2.2.2.2.2.1) (s_kept_0_y := y.2.2.2.2.2.2.2.1.2.2.2.2.2.2.2.2.2.2.2.1) (s_kept_1_lines := y.2.2.2.2.2.2.2.2.1.2.2.2.1) (s_kept_1_joints := y.2.2.2.2.2.2.2.2.1.2.2.2.2.1) (s_kept_1_pieces := y.2.2.2.2.2.2.2.2.1.2.2.2.2.2.1) (s_kept_1_ax := y.2.2.2.2.2.2.2.2.1.2.2.2.2.2.2.1) (s_kept_1_ay := y.2.2.2.2.2.2.2.2.1.2.2.2.2.2.2.2.1) (s_kept_1_bx := y.2.2.2.2.2.2.2.2.1.2.2.2.2.2.2.2.2.1) (s_kept_1_by := y.2.2.2.2.2.2.2.2.1.2.2.2.2.2.2.2.2.2.1) (s_kept_1_d := y.2.2.2.2.2.2.2.2.1.2.2.2.2.2.2.2.2.2.2.2.2.1) (s_kept_1_firm := y.2.2.2.2.2.2.2.2.1.2.2.2.2.2.2.2.2.2.2.2.2.2.2.2) (s_kept_1_from := y.2.2.2.2.2.2.2.2.1.2.2.2.2.2.2.2.2.2.2.2.2.2.1) (s_kept_1_to := y.2.2.2.2.2.2.2.2.1.2.2.2.2.2.2.2.2.2.2.2.2.2.2.1) (s_kept_1_x := y.2.2.2.2.2.2.2.2.1.2.2.2.2.2.2.2.2.2.2.1) (s_kept_1_y := y.2.2.2.2.2.2.2.2.1.2.2.2.2.2.2.2.2.2.2.2.1) (s_kept_2_lines := y.2.2.2.2.2.2.2.2.2.1.2.2.2.1) (s_kept_2_joints := y.2.2.2.2.2.2.2.2.2.1.2.2.2.2.1) (s_kept_2_pieces := y.2.2.2.2.2.2.2.2.2.1.2.2.2.2.2.1) (s_kept_2_ax := y.2.2.2.2.2.2.2.2.2.1.2.2.2.2.2.2.1) (s_kept_2_ay := y.2.2.2.2.2.2.2.2.2.1.2.2.2.2.2.2.2.1) (s_kept_2_bx := y.2.2.2.2.2.2.2.2.2.1.2.2.2.2.2.2.2.2.1) (s_kept_2_by := y.2.2.2.2.2.2.2.2.2.1.2.2.2.2.2.2.2.2.2.1) (s_kept_2_d := y.2.2.2.2.2.2.2.2.2.1.2.2.2.2.2.2.2.2.2.2.2.2.1) (s_kept_2_firm := y.2.2.2.2.2.2.2.2.2.1.2.2.2.2.2.2.2.2.2.2.2.2.2.2.2) (s_kept_2_from := y.2.2.2.2.2.2.2.2.2.1.2.2.2.2.2.2.2.2.2.2.2.2.2.1) (s_kept_2_to := y.2.2.2.2.2.2.2.2.2.1.2.2.2.2.2.2.2.2.2.2.2.2.2.2.1) (s_kept_2_x := y.2.2.2.2.2.2.2.2.2.1.2.2.2.2.2.2.2.2.2.2.1) (s_kept_2_y := y.2.2.2.2.2.2.2.2.2.1.2.2.2.2.2.2.2.2.2.2.2.1) (s_kept_3_lines := y.2.2.2.2.2.2.2.2.2.2.2.2.2.1) (s_kept_3_joints := y.2.2.2.2.2.2.2.2.2.2.2.2.2.2.1) (s_kept_3_pieces := y.2.2.2.2.2.2.2.2.2.2.2.2.2.2.2.1) (s_kept_3_ax := y.2.2.2.2.2.2.2.2.2.2.2.2.2.2.2.2.1) (s_kept_3_ay := y.2.2.2.2.2.2.2.2.2.2.2.2.2.2.2.2.2.1) (s_kept_3_bx := y.2.2.2.2.2.2.2.2.2.2.2.2.2.2.2.2.2.2.1) (s_kept_3_by := y.2.2.2.2.2.2.2.2.2.2.2.2.2.2.2.2.2.2.2.1) (s_kept_3_d := y.2.2.2.2.2.2.2.2.2.2.2.2.2.2.2.2.2.2.2.2.2.2.1) (s_kept_3_firm := y.2.2.2.2.2.2.2.2.2.2.2.2.2.2.2.2.2.2.2.2.2.2.2.2.2) (s_kept_3_from := y.2.2.2.2.2.2.2.2.2.2.2.2.2.2.2.2.2.2.2.2.2.2.2.1) (s_kept_3_to := y.2.2.2.2.2.2.2.2.2.2.2.2.2.2.2.2.2.2.2.2.2.2.2.2.1) (s_kept_3_x := y.2.2.2.2.2.2.2.2.2.2.2.2.2.2.2.2.2.2.2.2.1) (s_kept_3_y := y.2.2.2.2.2.2.2.2.2.2.2.2.2.2.2.2.2.2.2.2.2.1) (s_now_w := y.2.1.1) (s_now_h := y.2.1.2.1) (s_now_joints := y.2.1.2.2.2.2.1) (s_now_pieces := y.2.1.2.2.2.2.2.1) (s_now_d := y.2.1.2.2.2.2.2.2.2.2.2.2.2.2.1) (s_now_from := y.2.1.2.2.2.2.2.2.2.2.2.2.2.2.2.1) (s_now_to := y.2.1.2.2.2.2.2.2.2.2.2.2.2.2.2.2.1) (s_now_x := y.2.1.2.2.2.2.2.2.2.2.2.2.1) (s_now_y := y.2.1.2.2.2.2.2.2.2.2.2.2.2.1) (Or.inl z1)
    exact ⟨-4, _, _, stX_alike_of (sX9_alike_no2 (Or.inl z2)), stM_alike_of r2, ⟨⟨congrArg (cf 4) f0, f1, f2, f3⟩, hk, wn⟩⟩
  · obtain ⟨d1, d2, d3, d4, d5, d6⟩ := dx.1
    have iw : ¬ y.1.1 = 0 := by rw [z1]; exact u1
    rcases hk.2.2.1 with ⟨z3, z4⟩ | ⟨z3, w2, h2, nl2, ld2, dx2, dm2⟩
    · exact ⟨-4, _, _, stX_alike_of (sX9_alike_no2 (Or.inr ⟨(by rw [dx.2.1]; exact there1 d1 d2), z4⟩)), stM_alike_of (sX12_alike_no2 (Or.inr ⟨iw, z3⟩)), ⟨⟨congrArg (cf 4) f0, f1, f2, f3⟩, hk, wn⟩⟩
    · have HB0 := alk hw sx sm dx2.1 dx2.2.2.2.2 dm2.2.2.2 x.2.2.2.2.2.2.2.2.2.2.2.1 x.2.2.2.2.2.2.2.2.2.2.2.2.1.1 x.2.2.2.2.2.2.2.2.2.2.2.2.1.2.2.2 x.2.2.2.2.2.2.2.2.2.2.2.2.1.2.1 x.2.2.2.2.2.2.2.2.2.2.2.2.1.2.2.1 x.2.2.2.2.2.2.2.2.2.2.2.2.2.1.1 x.2.2.2.2.2.2.2.2.2.2.2.2.2.1.2.2.2.2.1 x.2.2.2.2.2.2.2.2.2.2.2.2.2.1.2.2.2.2.2.2.1 x.2.2.2.2.2.2.2.2.2.2.2.2.2.1.2.2.2.2.2.1 x.2.2.2.2.2.2.2.2.2.2.2.2.2.1.2.1 x.2.2.2.2.2.2.2.2.2.2.2.2.2.1.2.2.2.2.2.2.2.2.2 x.2.2.2.2.2.2.2.2.2.2.2.2.2.1.2.2.2.2.2.2.2.2.1 x.2.2.2.2.2.2.2.2.2.2.2.2.2.1.2.2.2.2.2.2.2.1 x.2.2.2.2.2.2.2.2.2.2.2.2.2.1.2.2.1 x.2.2.2.2.2.2.2.2.2.2.2.2.2.1.2.2.2.1 y.2.2.2.2.2.2.2.2.2.1.2.2.2.1 y.2.2.2.2.2.2.2.2.2.1.2.2.2.2.1 y.2.2.2.2.2.2.2.2.2.1.2.2.2.2.2.1 y.2.2.2.2.2.2.2.2.2.1.2.2.2.2.2.2.2.2.2.2.2.2.1 y.2.2.2.2.2.2.2.2.2.1.2.2.2.2.2.2.2.2.2.2.2.2.2.2.2 y.2.2.2.2.2.2.2.2.2.1.2.2.2.2.2.2.2.2.2.2.2.2.2.1 y.2.2.2.2.2.2.2.2.2.1.2.2.2.2.2.2.2.2.2.2.2.2.2.2.1 y.2.2.2.2.2.2.2.2.2.1.2.2.2.2.2.2.2.2.2.2.1 y.2.2.2.2.2.2.2.2.2.1.2.2.2.2.2.2.2.2.2.2.2.1 y.1.2.2.2.2.2.2.2.2.2.2.2.2.2.2.2.2.2.2.2.2.2.2.2.2
      refine Exists.elim HB0 (fun r HB1 => ?_)
      refine Exists.elim HB1 (fun img' HB2 => ?_)
      refine Exists.elim HB2 (fun p1 HB3 => ?_)
      refine Exists.elim HB3 (fun p2 HB4 => ?_)
      refine Exists.elim HB4 (fun p3 HB5 => ?_)
      refine Exists.elim HB5 (fun p4 HB6 => ?_)
      refine Exists.elim HB6 (fun p5 HB7 => ?_)
      refine Exists.elim HB7 (fun p6 HB8 => ?_)
      refine Exists.elim HB8 (fun p7 HB9 => ?_)
      refine Exists.elim HB9 (fun p8 HB10 => ?_)
      refine Exists.elim HB10 (fun p9 HB11 => ?_)
      refine Exists.elim HB11 (fun p10 HB12 => ?_)
      refine Exists.elim HB12 (fun p11 HB13 => ?_)
      refine Exists.elim HB13 (fun p12 HB14 => ?_)
      refine Exists.elim HB14 (fun p13 HB15 => ?_)
      refine Exists.elim HB15 (fun p14 HB16 => ?_)
      refine Exists.elim HB16 (fun go' HB17 => ?_)
      refine Exists.elim HB17 (fun o12 HB18 => ?_)
      refine Exists.elim HB18 (fun o13 HB19 => ?_)
      refine Exists.elim HB19 (fun o14 HB20 => ?_)
      refine Exists.elim HB20 (fun o15 HB21 => ?_)
      refine Exists.elim HB21 (fun o16 HB22 => ?_)
      refine Exists.elim HB22 (fun o17 HB23 => ?_)
      refine Exists.elim HB23 (fun o18 HB24 => ?_)
      refine Exists.elim HB24 (fun o19 HB25 => ?_)
      refine Exists.elim HB25 (fun o20 HB26 => ?_)
      refine Exists.elim HB26 (fun o21 HB27 => ?_)
      refine Exists.elim HB27 (fun o22 HB28 => ?_)
      refine Exists.elim HB28 (fun o23 HB29 => ?_)
      refine Exists.elim HB29 (fun o24 HB30 => ?_)
      obtain ⟨k1, k2, k3, k4⟩ := HB30
      clear HB0 HB1 HB2 HB3 HB4 HB5 HB6 HB7 HB8 HB9 HB10 HB11 HB12 HB13 HB14 HB15 HB16 HB17 HB18 HB19 HB20 HB21 HB22 HB23 HB24 HB25 HB26 HB27 HB28 HB29
      exact ⟨r, _, _, stX_alike_of (sX9_alike_go2 dx.2.1 dx.2.2.1 dx2.2.1 dx2.2.2.1 dx2.2.2.2.1 e1 e2 (there1 d1 d2) (there1 dx2.1.1 dx2.1.2.1) k1), stM_alike_of (sX12_alike_go2 dm.1 dm.2.1 e6 e7 dm2.1 dm2.2.1 dm2.2.2.1 iw (by rw [z3]; exact u1) k2 k3), ⟨⟨f0, f1, f2, f3⟩, ⟨hk.1, hk.2.1, Or.inr ⟨z3, w2, h2, nl2, ld2, dx2, ⟨dm2.1, dm2.2.1, dm2.2.2.1, k4⟩⟩, hk.2.2.2⟩, wn⟩⟩
theorem step_alike3 (n : Nat) (x : SX) (y : SM) (hr : Rel (n + 1) x y) : ∃ (r : Int32) (x' : SX) (y' : SM), stX_alike (nI 3) x = some (r, x') ∧ stM_alike (nI 3) y = some (r, y') ∧ Rel n x' y' := by
  obtain ⟨⟨f0, f1, f2, f3⟩, hk, wn⟩ := hr
  have u1 : ¬ (1 : Int32) = 0 := by decide
  rcases id wn with ⟨z1, z2⟩ | ⟨z1, w, h, nl, ld, m, Q, fm, nv, a, np, gs, pn, n1, n', c, pi, ⟨hw, dx, dm⟩, ⟨e1, e2, e3, e4, e5, e6, e7⟩, sx, sm, gz, lk, c6, hpi, ec, ep, hch, hpk⟩
  · have r2 := sX12_alike_no3 (s_isWindow := y.1.1) (s_founds := y.1.2.2.2.2.2.2.2.2.2.2.2.2.2.2.2.1) (s_goal := y.1.2.2.2.2.2.2.2.2.2.2.2.2.2.2.2.2.2.2.2.2.2.2.2.2) (s_isKept := y.1.2.2.2.2.2.1) (s_kept_0_w := y.2.2.2.2.2.2.2.1.1) (s_kept_0_h := y.2.2.2.2.2.2.2.1.2.1) (s_kept_0_leads := y.2.2.2.2.2.2.2.1.2.2.1) (s_kept_1_w := y.2.2.2.2.2.2.2.2.1.1) (s_kept_1_h := y.2.2.2.2.2.2.2.2.1.2.1) (s_kept_1_leads := y.2.2.2.2.2.2.2.2.1.2.2.1) (s_kept_2_w := y.2.2.2.2.2.2.2.2.2.1.1) (s_kept_2_h := y.2.2.2.2.2.2.2.2.2.1.2.1) (s_kept_2_leads := y.2.2.2.2.2.2.2.2.2.1.2.2.1) (s_kept_3_w := y.2.2.2.2.2.2.2.2.2.2.1) (s_kept_3_h := y.2.2.2.2.2.2.2.2.2.2.2.1) (s_kept_3_leads := y.2.2.2.2.2.2.2.2.2.2.2.2.1) (s_kept_0_lines := y.2.2.2.2.2.2.2.1.2.2.2.1) (s_kept_0_joints := y.2.2.2.2.2.2.2.1.2.2.2.2.1) (s_kept_0_pieces := y.2.2.2.2.2.2.2.1.2.2.2.2.2.1) (s_kept_0_ax := y.2.2.2.2.2.2.2.1.2.2.2.2.2.2.1) (s_kept_0_ay := y.2.2.2.2.2.2.2.1.2.2.2.2.2.2.2.1) (s_kept_0_bx := y.2.2.2.2.2.2.2.1.2.2.2.2.2.2.2.2.1) (s_kept_0_by := y.2.2.2.2.2.2.2.1.2.2.2.2.2.2.2.2.2.1) (s_kept_0_d := y.2.2.2.2.2.2.2.1.2.2.2.2.2.2.2.2.2.2.2.2.1) (s_kept_0_firm := y.2.2.2.2.2.2.2.1.2.2.2.2.2.2.2.2.2.2.2.2.2.2.2) (s_kept_0_from := y.2.2.2.2.2.2.2.1.2.2.2.2.2.2.2.2.2.2.2.2.2.1) (s_kept_0_to := y.2.2.2.2.2.2.2.1.2.2.2.2.2.2.2.2.2.2.2.2.2.2.1) (s_kept_0_x := y.2.2.2.2.2.2.2.1.2.2.2.2.2.2.2.2.2.2.1) (s_kept_0_y := y.2.2.2.2.2.2.2.1.2.2.2.2.2.2.2.2.2.2.2.1) (s_kept_1_lines := y.2.2.2.2.2.2.2.2.1.2.2.2.1) (s_kept_1_joints := y.2.2.2.2.2.2.2.2.1.2.2.2.2.1) (s_kept_1_pieces := y.2.2.2.2.2.2.2.2.1.2.2.2.2.2.1) (s_kept_1_ax := y.2.2.2.2.2.2.2.2.1.2.2.2.2.2.2.1) (s_kept_1_ay := y.2.2.2.2.2.2.2.2.1.2.2.2.2.2.2.2.1) (s_kept_1_bx := y.2.2.2.2.2.2.2.2.1.2.2.2.2.2.2.2.2.1) (s_kept_1_by := y.2.2.2.2.2.2.2.2.1.2.2.2.2.2.2.2.2.2.1) (s_kept_1_d := y.2.2.2.2.2.2.2.2.1.2.2.2.2.2.2.2.2.2.2.2.2.1) (s_kept_1_firm := y.2.2.2.2.2.2.2.2.1.2.2.2.2.2.2.2.2.2.2.2.2.2.2.2) (s_kept_1_from := y.2.2.2.2.2.2.2.2.1.2.2.2.2.2.2.2.2.2.2.2.2.2.1) (s_kept_1_to := y.2.2.2.2.2.2.2.2.1.2.2.2.2.2.2.2.2.2.2.2.2.2.2.1) (s_kept_1_x := y.2.2.2.2.2.2.2.2.1.2.2.2.2.2.2.2.2.2.2.1) (s_kept_1_y := y.2.2.2.2.2.2.2.2.1.2.2.2.2.2.2.2.2.2.2.2.1) (s_kept_2_lines := y.2.2.2.2.2.2.2.2.2.1.2.2.2.1) (s_kept_2_joints := y.2.2.2.2.2.2.2.2.2.1.2.2.2.2.1) (s_kept_2_pieces := y.2.2.2.2.2.2.2.2.2.1.2.2.2.2.2.1) (s_kept_2_ax := y.2.2.2.2.2.2.2.2.2.1.2.2.2.2.2.2.1) (s_kept_2_ay := y.2.2.2.2.2.2.2.2.2.1.2.2.2.2.2.2.2.1) (s_kept_2_bx := y.2.2.2.2.2.2.2.2.2.1.2.2.2.2.2.2.2.2.1) (s_kept_2_by := y.2.2.2.2.2.2.2.2.2.1.2.2.2.2.2.2.2.2.2.1) (s_kept_2_d := y.2.2.2.2.2.2.2.2.2.1.2.2.2.2.2.2.2.2.2.2.2.2.1) (s_kept_2_firm := y.2.2.2.2.2.2.2.2.2.1.2.2.2.2.2.2.2.2.2.2.2.2.2.2.2) (s_kept_2_from := y.2.2.2.2.2.2.2.2.2.1.2.2.2.2.2.2.2.2.2.2.2.2.2.1) (s_kept_2_to := y.2.2.2.2.2.2.2.2.2.1.2.2.2.2.2.2.2.2.2.2.2.2.2.2.1) (s_kept_2_x := y.2.2.2.2.2.2.2.2.2.1.2.2.2.2.2.2.2.2.2.2.1) (s_kept_2_y := y.2.2.2.2.2.2.2.2.2.1.2.2.2.2.2.2.2.2.2.2.2.1) (s_kept_3_lines := y.2.2.2.2.2.2.2.2.2.2.2.2.2.1) (s_kept_3_joints := y.2.2.2.2.2.2.2.2.2.2.2.2.2.2.1) (s_kept_3_pieces := y.2.2.2.2.2.2.2.2.2.2.2.2.2.2.2.1) (s_kept_3_ax := y.2.2.2.2.2.2.2.2.2.2.2.2.2.2.2.2.1) (s_kept_3_ay := y.2.2.2.2.2.2.2.2.2.2.2.2.2.2.2.2.2.1) (s_kept_3_bx := y.2.2.2.2.2.2.2.2.2.2.2.2.2.2.2.2.2.2.1) (s_kept_3_by := y.2.2.2.2.2.2.2.2.2.2.2.2.2.2.2.2.2.2.2.1) (s_kept_3_d := y.2.2.2.2.2.2.2.2.2.2.2.2.2.2.2.2.2.2.2.2.2.2.1) (s_kept_3_firm := y.2.2.2.2.2.2.2.2.2.2.2.2.2.2.2.2.2.2.2.2.2.2.2.2.2) (s_kept_3_from := y.2.2.2.2.2.2.2.2.2.2.2.2.2.2.2.2.2.2.2.2.2.2.2.1) (s_kept_3_to := y.2.2.2.2.2.2.2.2.2.2.2.2.2.2.2.2.2.2.2.2.2.2.2.2.1) (s_kept_3_x := y.2.2.2.2.2.2.2.2.2.2.2.2.2.2.2.2.2.2.2.2.1) (s_kept_3_y := y.2.2.2.2.2.2.2.2.2.2.2.2.2.2.2.2.2.2.2.2.2.1) (s_now_w := y.2.1.1) (s_now_h := y.2.1.2.1) (s_now_joints := y.2.1.2.2.2.2.1) (s_now_pieces := y.2.1.2.2.2.2.2.1) (s_now_d := y.2.1.2.2.2.2.2.2.2.2.2.2.2.2.1) (s_now_from := y.2.1.2.2.2.2.2.2.2.2.2.2.2.2.2.1) (s_now_to := y.2.1.2.2.2.2.2.2.2.2.2.2.2.2.2.2.1) (s_now_x := y.2.1.2.2.2.2.2.2.2.2.2.2.1) (s_now_y := y.2.1.2.2.2.2.2.2.2.2.2.2.2.1) (Or.inl z1)
    exact ⟨-4, _, _, stX_alike_of (sX9_alike_no3 (Or.inl z2)), stM_alike_of r2, ⟨⟨congrArg (cf 4) f0, f1, f2, f3⟩, hk, wn⟩⟩
  · obtain ⟨d1, d2, d3, d4, d5, d6⟩ := dx.1
    have iw : ¬ y.1.1 = 0 := by rw [z1]; exact u1
    rcases hk.2.2.2 with ⟨z3, z4⟩ | ⟨z3, w2, h2, nl2, ld2, dx2, dm2⟩
    · exact ⟨-4, _, _, stX_alike_of (sX9_alike_no3 (Or.inr ⟨(by rw [dx.2.1]; exact there1 d1 d2), z4⟩)), stM_alike_of (sX12_alike_no3 (Or.inr ⟨iw, z3⟩)), ⟨⟨congrArg (cf 4) f0, f1, f2, f3⟩, hk, wn⟩⟩
    · have HB0 := alk hw sx sm dx2.1 dx2.2.2.2.2 dm2.2.2.2 x.2.2.2.2.2.2.2.2.2.2.2.1 x.2.2.2.2.2.2.2.2.2.2.2.2.1.1 x.2.2.2.2.2.2.2.2.2.2.2.2.1.2.2.2 x.2.2.2.2.2.2.2.2.2.2.2.2.1.2.1 x.2.2.2.2.2.2.2.2.2.2.2.2.1.2.2.1 x.2.2.2.2.2.2.2.2.2.2.2.2.2.1.1 x.2.2.2.2.2.2.2.2.2.2.2.2.2.1.2.2.2.2.1 x.2.2.2.2.2.2.2.2.2.2.2.2.2.1.2.2.2.2.2.2.1 x.2.2.2.2.2.2.2.2.2.2.2.2.2.1.2.2.2.2.2.1 x.2.2.2.2.2.2.2.2.2.2.2.2.2.1.2.1 x.2.2.2.2.2.2.2.2.2.2.2.2.2.1.2.2.2.2.2.2.2.2.2 x.2.2.2.2.2.2.2.2.2.2.2.2.2.1.2.2.2.2.2.2.2.2.1 x.2.2.2.2.2.2.2.2.2.2.2.2.2.1.2.2.2.2.2.2.2.1 x.2.2.2.2.2.2.2.2.2.2.2.2.2.1.2.2.1 x.2.2.2.2.2.2.2.2.2.2.2.2.2.1.2.2.2.1 y.2.2.2.2.2.2.2.2.2.2.2.2.2.1 y.2.2.2.2.2.2.2.2.2.2.2.2.2.2.1 y.2.2.2.2.2.2.2.2.2.2.2.2.2.2.2.1 y.2.2.2.2.2.2.2.2.2.2.2.2.2.2.2.2.2.2.2.2.2.2.1 y.2.2.2.2.2.2.2.2.2.2.2.2.2.2.2.2.2.2.2.2.2.2.2.2.2 y.2.2.2.2.2.2.2.2.2.2.2.2.2.2.2.2.2.2.2.2.2.2.2.1 y.2.2.2.2.2.2.2.2.2.2.2.2.2.2.2.2.2.2.2.2.2.2.2.2.1 y.2.2.2.2.2.2.2.2.2.2.2.2.2.2.2.2.2.2.2.2.1 y.2.2.2.2.2.2.2.2.2.2.2.2.2.2.2.2.2.2.2.2.2.1 y.1.2.2.2.2.2.2.2.2.2.2.2.2.2.2.2.2.2.2.2.2.2.2.2.2
      refine Exists.elim HB0 (fun r HB1 => ?_)
      refine Exists.elim HB1 (fun img' HB2 => ?_)
      refine Exists.elim HB2 (fun p1 HB3 => ?_)
      refine Exists.elim HB3 (fun p2 HB4 => ?_)
      refine Exists.elim HB4 (fun p3 HB5 => ?_)
      refine Exists.elim HB5 (fun p4 HB6 => ?_)
      refine Exists.elim HB6 (fun p5 HB7 => ?_)
      refine Exists.elim HB7 (fun p6 HB8 => ?_)
      refine Exists.elim HB8 (fun p7 HB9 => ?_)
      refine Exists.elim HB9 (fun p8 HB10 => ?_)
      refine Exists.elim HB10 (fun p9 HB11 => ?_)
      refine Exists.elim HB11 (fun p10 HB12 => ?_)
      refine Exists.elim HB12 (fun p11 HB13 => ?_)
      refine Exists.elim HB13 (fun p12 HB14 => ?_)
      refine Exists.elim HB14 (fun p13 HB15 => ?_)
      refine Exists.elim HB15 (fun p14 HB16 => ?_)
      refine Exists.elim HB16 (fun go' HB17 => ?_)
      refine Exists.elim HB17 (fun o12 HB18 => ?_)
      refine Exists.elim HB18 (fun o13 HB19 => ?_)
      refine Exists.elim HB19 (fun o14 HB20 => ?_)
      refine Exists.elim HB20 (fun o15 HB21 => ?_)
      refine Exists.elim HB21 (fun o16 HB22 => ?_)
      refine Exists.elim HB22 (fun o17 HB23 => ?_)
      refine Exists.elim HB23 (fun o18 HB24 => ?_)
      refine Exists.elim HB24 (fun o19 HB25 => ?_)
      refine Exists.elim HB25 (fun o20 HB26 => ?_)
      refine Exists.elim HB26 (fun o21 HB27 => ?_)
      refine Exists.elim HB27 (fun o22 HB28 => ?_)
      refine Exists.elim HB28 (fun o23 HB29 => ?_)
      refine Exists.elim HB29 (fun o24 HB30 => ?_)
      obtain ⟨k1, k2, k3, k4⟩ := HB30
      clear HB0 HB1 HB2 HB3 HB4 HB5 HB6 HB7 HB8 HB9 HB10 HB11 HB12 HB13 HB14 HB15 HB16 HB17 HB18 HB19 HB20 HB21 HB22 HB23 HB24 HB25 HB26 HB27 HB28 HB29
      exact ⟨r, _, _, stX_alike_of (sX9_alike_go3 dx.2.1 dx.2.2.1 dx2.2.1 dx2.2.2.1 dx2.2.2.2.1 e1 e2 (there1 d1 d2) (there1 dx2.1.1 dx2.1.2.1) k1), stM_alike_of (sX12_alike_go3 dm.1 dm.2.1 e6 e7 dm2.1 dm2.2.1 dm2.2.2.1 iw (by rw [z3]; exact u1) k2 k3), ⟨⟨f0, f1, f2, f3⟩, ⟨hk.1, hk.2.1, hk.2.2.1, Or.inr ⟨z3, w2, h2, nl2, ld2, dx2, ⟨dm2.1, dm2.2.1, dm2.2.2.1, k4⟩⟩⟩, wn⟩⟩
theorem step_alike (n : Nat) (a1 : Int32) (x : SX) (y : SM) (hr : Rel (n + 1) x y) : ∃ (r : Int32) (x' : SX) (y' : SM), stX_alike a1 x = some (r, x') ∧ stM_alike a1 y = some (r, y') ∧ Rel n x' y' := by
  rcases plc_or a1 with ⟨k, hk4, e, p1, p2⟩ | ⟨p1, p2⟩
  · have : k = 0 ∨ k = 1 ∨ k = 2 ∨ k = 3 := by omega
    subst e
    rcases this with e | e | e | e <;> subst e
    · exact step_alike0 n x y hr
    · exact step_alike1 n x y hr
    · exact step_alike2 n x y hr
    · exact step_alike3 n x y hr
  · obtain ⟨⟨f0, f1, f2, f3⟩, hk, wn⟩ := hr
    have ne : ∀ b : Int32, sX9_isPlace b = some 1 → ¬ a1 = b := fun b hb z => by
      rw [z, hb] at p1
      exact absurd p1 (by decide)
    have vn : sX12_alike_vn a1 y.1.1 x.1.2.2.2.2 y.1.2.2.2.2.2.1 = some (-1, cf 1 x.1.2.2.2.2) := by
      unfold sX12_alike_vn
      rw [ob_d1 p2, if_pos rfl, ob_d1 p2, if_neg (by decide), ob_d2 (tell1 _).2]
    exact ⟨-1, _, _, stX_alike_of (o_answered := cf 1 x.1.2.2.2.2) (by unfold sX9_alike; rw [ob_d1 p1, if_neg (by decide), ob_d2 (tell1 _).1]), stM_alike_of (o_founds := cf 1 x.1.2.2.2.2) (by unfold sX12_alike; rw [if_neg (ne 0 rfl), if_neg (ne 1 rfl), if_neg (ne 2 rfl), if_neg (ne 3 rfl), ← f0, ob_d2 vn]), ⟨⟨rfl, f1, f2, f3⟩, hk, wn⟩⟩
