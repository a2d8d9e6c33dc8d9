/-! back -/
theorem step_back0 (n : Nat) (x : SX) (y : SM) (hr : Rel (n + 1) x y) : ∃ (r : Int32) (x' : SX) (y' : SM), stX_back (nI 0) x = some (r, x') ∧ stM_back (nI 0) y = some (r, y') ∧ Rel n x' y' := by
  obtain ⟨⟨f0, f1, f2, f3⟩, hk, wn⟩ := hr
  have u1 : ¬ (1 : Int32) = 0 := by decide
  have p2 : sX12_isPlace (nI 0) = some 1 := rfl
  rcases hk.1 with ⟨z1, z2⟩ | ⟨z1, w, h, nl, ld, dx, dm⟩
  · exact ⟨-4, _, _, stX_back_of (sX9_back_no0 z2), stM_back_of (o_founds := cf 4 x.1.2.2.2.2) (by unfold sX12_back; rw [ob_d1 p2, if_neg u1, gd_s (by decide), if_neg (show ¬ ¬ y.1.2.2.2.2.2.1 (nI 0).toNatClampNeg = 0 from fun z => z z1), ob_d1 p2, if_pos u1, ob_d2 (tell4 _).2, f0]), ⟨⟨rfl, f1, f2, f3⟩, hk, wn⟩⟩
  · obtain ⟨d1, d2, d3, d4, d5, d6⟩ := dx.1
    obtain ⟨U', V', X', Y', c1, c2⟩ := copy_okD x.2.1.1 x.2.1.2.1 x.2.1.2.2.1 x.2.1.2.2.2.2.2.1 x.2.1.2.2.2.2.2.2 x.2.1.2.2.2.1 x.2.1.2.2.2.2.1 (wd := x.2.2.1.1) (ht := x.2.2.1.2.1) (ln := x.2.2.1.2.2.1) (U2 := x.2.2.1.2.2.2.2.2.1) (V2 := x.2.2.1.2.2.2.2.2.2) (X2 := x.2.2.1.2.2.2.1) (Y2 := x.2.2.1.2.2.2.2.1)
    obtain ⟨X4, Y4, U4, V4, t1, t2⟩ := take_okD d5 y.2.1.1 y.2.1.2.1 y.2.1.2.2.1 y.2.1.2.2.2.2.2.2.1 y.2.1.2.2.2.2.2.2.2.1 y.2.1.2.2.2.2.2.2.2.2.1 y.2.1.2.2.2.2.2.2.2.2.2.1 y.2.2.2.2.2.2.2.1.1 y.2.2.2.2.2.2.2.1.2.1 y.2.2.2.2.2.2.2.1.2.2.2.2.2.2.1 y.2.2.2.2.2.2.2.1.2.2.2.2.2.2.2.1 y.2.2.2.2.2.2.2.1.2.2.2.2.2.2.2.2.1 y.2.2.2.2.2.2.2.1.2.2.2.2.2.2.2.2.2.1
    have hA : ∀ k, k < nl + 4 → LnAt X' Y' U' V' k (KX w h ld k) := fun k hk => LnAt_c (dx.2.2.2.2 k hk) (c2 k (by omega))
    have hA' : ∀ k, k < nl → LnAt X4 Y4 U4 V4 k (ld k) := fun k hk => LnAt_d (dm.2.2.2 k hk) (t2 k hk)
    have HB0 := redraw_both dx.1 hA hA' x.1.1 x.2.2.2.2.2.2.2.2.2.2.1.1 x.2.2.2.2.2.2.2.2.2.2.1.2.2.1 x.2.2.2.2.2.2.2.2.2.2.1.2.2.2.1 x.2.2.2.2.2.2.2.2.2.2.1.2.1 x.2.2.2.2.2.2.2.2.2.2.1.2.2.2.2.2.2.2.2.2.2.2.2 x.2.2.2.2.2.2.2.2.2.2.1.2.2.2.2.2.1 x.2.2.2.2.2.2.2.2.2.2.1.2.2.2.2.1 x.2.2.2.2.2.2.1.1 x.2.2.2.2.2.2.1.2.2.2 x.2.2.2.2.2.2.1.2.1 x.2.2.2.2.2.2.1.2.2.1 x.2.2.2.2.2.2.2.1.1 x.2.2.2.2.2.2.2.1.2.2.2.2.1 x.2.2.2.2.2.2.2.1.2.2.2.2.2.2.1 x.2.2.2.2.2.2.2.1.2.2.2.2.2.1 x.2.2.2.2.2.2.2.1.2.1 x.2.2.2.2.2.2.2.1.2.2.2.2.2.2.2.2.2 x.2.2.2.2.2.2.2.1.2.2.2.2.2.2.2.2.1 x.2.2.2.2.2.2.2.1.2.2.2.2.2.2.2.1 x.2.2.2.2.2.2.2.1.2.2.1 x.2.2.2.2.2.2.2.1.2.2.2.1 x.2.2.2.2.2.2.2.2.1.1 x.2.2.2.2.2.2.2.2.1.2.1 x.2.2.2.2.2.2.2.2.1.2.2.2 x.2.2.2.2.2.2.2.2.1.2.2.1 y.1.2.1 y.1.2.2.1 y.1.2.2.2.1 y.1.2.2.2.2.2.2.2.2.2.1 y.1.2.2.2.2.2.2.2.2.2.2.1 y.1.2.2.2.2.2.2.2.1 y.1.2.2.2.2.2.2.2.2.1 y.2.1.2.2.2.1 y.2.1.2.2.2.2.1 y.2.1.2.2.2.2.2.1 y.2.1.2.2.2.2.2.2.2.2.2.2.2.2.1 y.2.1.2.2.2.2.2.2.2.2.2.2.2.2.2.2.2 y.2.1.2.2.2.2.2.2.2.2.2.2.2.2.2.1 y.2.1.2.2.2.2.2.2.2.2.2.2.2.2.2.2.1 y.2.1.2.2.2.2.2.2.2.2.2.2.1 y.2.1.2.2.2.2.2.2.2.2.2.2.2.1 y.1.2.2.2.2.2.2.1
    refine Exists.elim HB0 (fun m1 HB1 => ?_)
    refine Exists.elim HB1 (fun Q1 HB2 => ?_)
    refine Exists.elim HB2 (fun fm1 HB3 => ?_)
    refine Exists.elim HB3 (fun nv1 HB4 => ?_)
    refine Exists.elim HB4 (fun b1 HB5 => ?_)
    refine Exists.elim HB5 (fun np1 HB6 => ?_)
    refine Exists.elim HB6 (fun gs1 HB7 => ?_)
    refine Exists.elim HB7 (fun pn1 HB8 => ?_)
    refine Exists.elim HB8 (fun n2 HB9 => ?_)
    refine Exists.elim HB9 (fun u2 HB10 => ?_)
    refine Exists.elim HB10 (fun x2 HB11 => ?_)
    refine Exists.elim HB11 (fun y2 HB12 => ?_)
    refine Exists.elim HB12 (fun fw2 HB13 => ?_)
    refine Exists.elim HB13 (fun fe2 HB14 => ?_)
    refine Exists.elim HB14 (fun fs2 HB15 => ?_)
    refine Exists.elim HB15 (fun fr2 HB16 => ?_)
    refine Exists.elim HB16 (fun H2 HB17 => ?_)
    refine Exists.elim HB17 (fun L2 HB18 => ?_)
    refine Exists.elim HB18 (fun re2 HB19 => ?_)
    refine Exists.elim HB19 (fun to2 HB20 => ?_)
    refine Exists.elim HB20 (fun tn2 HB21 => ?_)
    refine Exists.elim HB21 (fun pa2 HB22 => ?_)
    refine Exists.elim HB22 (fun sa2 HB23 => ?_)
    refine Exists.elim HB23 (fun wa2 HB24 => ?_)
    refine Exists.elim HB24 (fun al2 HB25 => ?_)
    refine Exists.elim HB25 (fun co2 HB26 => ?_)
    refine Exists.elim HB26 (fun kd2 HB27 => ?_)
    refine Exists.elim HB27 (fun lb2 HB28 => ?_)
    refine Exists.elim HB28 (fun nH2 HB29 => ?_)
    refine Exists.elim HB29 (fun nL2 HB30 => ?_)
    refine Exists.elim HB30 (fun n3 HB31 => ?_)
    refine Exists.elim HB31 (fun al3 HB32 => ?_)
    refine Exists.elim HB32 (fun co3 HB33 => ?_)
    refine Exists.elim HB33 (fun fa3 HB34 => ?_)
    refine Exists.elim HB34 (fun kd3 HB35 => ?_)
    refine Exists.elim HB35 (fun X3 HB36 => ?_)
    refine Exists.elim HB36 (fun Y3 HB37 => ?_)
    refine Exists.elim HB37 (fun U3 HB38 => ?_)
    refine Exists.elim HB38 (fun V3 HB39 => ?_)
    refine Exists.elim HB39 (fun d3 HB40 => ?_)
    refine Exists.elim HB40 (fun gw3 HB41 => ?_)
    refine Exists.elim HB41 (fun gr3 HB42 => ?_)
    refine Exists.elim HB42 (fun gt3 HB43 => ?_)
    refine Exists.elim HB43 (fun x3 HB44 => ?_)
    refine Exists.elim HB44 (fun y3 HB45 => ?_)
    refine Exists.elim HB45 (fun pb3 HB46 => ?_)
    obtain ⟨q1, q2, hw2, sx2, sm2, ln3, gz2, lb0⟩ := HB46
    clear HB0 HB1 HB2 HB3 HB4 HB5 HB6 HB7 HB8 HB9 HB10 HB11 HB12 HB13 HB14 HB15 HB16 HB17 HB18 HB19 HB20 HB21 HB22 HB23 HB24 HB25 HB26 HB27 HB28 HB29 HB30 HB31 HB32 HB33 HB34 HB35 HB36 HB37 HB38 HB39 HB40 HB41 HB42 HB43 HB44 HB45
    have i0 : sX1_isThere x.2.2.1.1 = some 1 := by rw [dx.2.1]; exact there1 d1 d2
    have i1 : ¬ y.1.2.2.2.2.2.1 0 = 0 := by rw [z1]; exact u1
    have e1 := dx.2.2.2.1
    have e2 := dm.1
    have e3 := dm.2.1
    have e4 := dm.2.2.1
    rw [← e1] at q1
    rw [← e4] at t1
    rw [← e2, ← e3, ← e4] at q2
    exact ⟨nI np1, _, _, stX_back_of (sX9_back_go0 i0 c1 q1), stM_back_of (sX12_back_go0 i1 t1 q2), ⟨⟨f0, f1, f2, f3⟩, hk, Or.inr ⟨rfl, w, h, nl, ld, m1, Q1, fm1, nv1, b1, np1, gs1, pn1, n2, n3, 0, (fun _ => 0), ⟨hw2, ⟨dx.1, dx.2.1, dx.2.2.1, dx.2.2.2.1, hA⟩, ⟨dm.1, dm.2.1, dm.2.2.1, ln3⟩⟩, ⟨rfl, rfl, rfl, rfl, rfl, rfl, rfl⟩, sx2, sm2, gz2, lk_new lb0 _, by omega, (fun i hi => absurd hi (Nat.not_lt_zero _)), rfl, rfl, (fun i hi => absurd hi (Nat.not_lt_zero _)), (fun i hi => absurd hi (Nat.not_lt_zero _))⟩⟩⟩
theorem step_back1 (n : Nat) (x : SX) (y : SM) (hr : Rel (n + 1) x y) : ∃ (r : Int32) (x' : SX) (y' : SM), stX_back (nI 1) x = some (r, x') ∧ stM_back (nI 1) y = some (r, y') ∧ Rel n x' y' := by
  obtain ⟨⟨f0, f1, f2, f3⟩, hk, wn⟩ := hr
  have u1 : ¬ (1 : Int32) = 0 := by decide
  have p2 : sX12_isPlace (nI 1) = some 1 := rfl
  rcases hk.2.1 with ⟨z1, z2⟩ | ⟨z1, w, h, nl, ld, dx, dm⟩
  · exact ⟨-4, _, _, stX_back_of (sX9_back_no1 z2), stM_back_of (o_founds := cf 4 x.1.2.2.2.2) (by unfold sX12_back; rw [ob_d1 p2, if_neg u1, gd_s (by decide), if_neg (show ¬ ¬ y.1.2.2.2.2.2.1 (nI 1).toNatClampNeg = 0 from fun z => z z1), ob_d1 p2, if_pos u1, ob_d2 (tell4 _).2, f0]), ⟨⟨rfl, f1, f2, f3⟩, hk, wn⟩⟩
  · obtain ⟨d1, d2, d3, d4, d5, d6⟩ := dx.1
    obtain ⟨U', V', X', Y', c1, c2⟩ := copy_okD x.2.1.1 x.2.1.2.1 x.2.1.2.2.1 x.2.1.2.2.2.2.2.1 x.2.1.2.2.2.2.2.2 x.2.1.2.2.2.1 x.2.1.2.2.2.2.1 (wd := x.2.2.2.1.1) (ht := x.2.2.2.1.2.1) (ln := x.2.2.2.1.2.2.1) (U2 := x.2.2.2.1.2.2.2.2.2.1) (V2 := x.2.2.2.1.2.2.2.2.2.2) (X2 := x.2.2.2.1.2.2.2.1) (Y2 := x.2.2.2.1.2.2.2.2.1)
    obtain ⟨X4, Y4, U4, V4, t1, t2⟩ := take_okD d5 y.2.1.1 y.2.1.2.1 y.2.1.2.2.1 y.2.1.2.2.2.2.2.2.1 y.2.1.2.2.2.2.2.2.2.1 y.2.1.2.2.2.2.2.2.2.2.1 y.2.1.2.2.2.2.2.2.2.2.2.1 y.2.2.2.2.2.2.2.2.1.1 y.2.2.2.2.2.2.2.2.1.2.1 y.2.2.2.2.2.2.2.2.1.2.2.2.2.2.2.1 y.2.2.2.2.2.2.2.2.1.2.2.2.2.2.2.2.1 y.2.2.2.2.2.2.2.2.1.2.2.2.2.2.2.2.2.1 y.2.2.2.2.2.2.2.2.1.2.2.2.2.2.2.2.2.2.1
    have hA : ∀ k, k < nl + 4 → LnAt X' Y' U' V' k (KX w h ld k) := fun k hk => LnAt_c (dx.2.2.2.2 k hk) (c2 k (by omega))
    have hA' : ∀ k, k < nl → LnAt X4 Y4 U4 V4 k (ld k) := fun k hk => LnAt_d (dm.2.2.2 k hk) (t2 k hk)
    have HB0 := redraw_both dx.1 hA hA' x.1.1 x.2.2.2.2.2.2.2.2.2.2.1.1 x.2.2.2.2.2.2.2.2.2.2.1.2.2.1 x.2.2.2.2.2.2.2.2.2.2.1.2.2.2.1 x.2.2.2.2.2.2.2.2.2.2.1.2.1 x.2.2.2.2.2.2.2.2.2.2.1.2.2.2.2.2.2.2.2.2.2.2.2 x.2.2.2.2.2.2.2.2.2.2.1.2.2.2.2.2.1 x.2.2.2.2.2.2.2.2.2.2.1.2.2.2.2.1 x.2.2.2.2.2.2.1.1 x.2.2.2.2.2.2.1.2.2.2 x.2.2.2.2.2.2.1.2.1 x.2.2.2.2.2.2.1.2.2.1 x.2.2.2.2.2.2.2.1.1 x.2.2.2.2.2.2.2.1.2.2.2.2.1 x.2.2.2.2.2.2.2.1.2.2.2.2.2.2.1 x.2.2.2.2.2.2.2.1.2.2.2.2.2.1 x.2.2.2.2.2.2.2.1.2.1 x.2.2.2.2.2.2.2.1.2.2.2.2.2.2.2.2.2 x.2.2.2.2.2.2.2.1.2.2.2.2.2.2.2.2.1 x.2.2.2.2.2.2.2.1.2.2.2.2.2.2.2.1 x.2.2.2.2.2.2.2.1.2.2.1 x.2.2.2.2.2.2.2.1.2.2.2.1 x.2.2.2.2.2.2.2.2.1.1 x.2.2.2.2.2.2.2.2.1.2.1 x.2.2.2.2.2.2.2.2.1.2.2.2 x.2.2.2.2.2.2.2.2.1.2.2.1 y.1.2.1 y.1.2.2.1 y.1.2.2.2.1 y.1.2.2.2.2.2.2.2.2.2.1 y.1.2.2.2.2.2.2.2.2.2.2.1 y.1.2.2.2.2.2.2.2.1 y.1.2.2.2.2.2.2.2.2.1 y.2.1.2.2.2.1 y.2.1.2.2.2.2.1 y.2.1.2.2.2.2.2.1 y.2.1.2.2.2.2.2.2.2.2.2.2.2.2.1 y.2.1.2.2.2.2.2.2.2.2.2.2.2.2.2.2.2 y.2.1.2.2.2.2.2.2.2.2.2.2.2.2.2.1 y.2.1.2.2.2.2.2.2.2.2.2.2.2.2.2.2.1 y.2.1.2.2.2.2.2.2.2.2.2.2.1 y.2.1.2.2.2.2.2.2.2.2.2.2.2.1 y.1.2.2.2.2.2.2.1
    refine Exists.elim HB0 (fun m1 HB1 => ?_)
    refine Exists.elim HB1 (fun Q1 HB2 => ?_)
    refine Exists.elim HB2 (fun fm1 HB3 => ?_)
    refine Exists.elim HB3 (fun nv1 HB4 => ?_)
    refine Exists.elim HB4 (fun b1 HB5 => ?_)
    refine Exists.elim HB5 (fun np1 HB6 => ?_)
    refine Exists.elim HB6 (fun gs1 HB7 => ?_)
    refine Exists.elim HB7 (fun pn1 HB8 => ?_)
    refine Exists.elim HB8 (fun n2 HB9 => ?_)
    refine Exists.elim HB9 (fun u2 HB10 => ?_)
    refine Exists.elim HB10 (fun x2 HB11 => ?_)
    refine Exists.elim HB11 (fun y2 HB12 => ?_)
    refine Exists.elim HB12 (fun fw2 HB13 => ?_)
    refine Exists.elim HB13 (fun fe2 HB14 => ?_)
    refine Exists.elim HB14 (fun fs2 HB15 => ?_)
    refine Exists.elim HB15 (fun fr2 HB16 => ?_)
    refine Exists.elim HB16 (fun H2 HB17 => ?_)
    refine Exists.elim HB17 (fun L2 HB18 => ?_)
    refine Exists.elim HB18 (fun re2 HB19 => ?_)
    refine Exists.elim HB19 (fun to2 HB20 => ?_)
    refine Exists.elim HB20 (fun tn2 HB21 => ?_)
    refine Exists.elim HB21 (fun pa2 HB22 => ?_)
    refine Exists.elim HB22 (fun sa2 HB23 => ?_)
    refine Exists.elim HB23 (fun wa2 HB24 => ?_)
    refine Exists.elim HB24 (fun al2 HB25 => ?_)
    refine Exists.elim HB25 (fun co2 HB26 => ?_)
    refine Exists.elim HB26 (fun kd2 HB27 => ?_)
    refine Exists.elim HB27 (fun lb2 HB28 => ?_)
    refine Exists.elim HB28 (fun nH2 HB29 => ?_)
    refine Exists.elim HB29 (fun nL2 HB30 => ?_)
    refine Exists.elim HB30 (fun n3 HB31 => ?_)
    refine Exists.elim HB31 (fun al3 HB32 => ?_)
    refine Exists.elim HB32 (fun co3 HB33 => ?_)
    refine Exists.elim HB33 (fun fa3 HB34 => ?_)
    refine Exists.elim HB34 (fun kd3 HB35 => ?_)
    refine Exists.elim HB35 (fun X3 HB36 => ?_)
    refine Exists.elim HB36 (fun Y3 HB37 => ?_)
    refine Exists.elim HB37 (fun U3 HB38 => ?_)
    refine Exists.elim HB38 (fun V3 HB39 => ?_)
    refine Exists.elim HB39 (fun d3 HB40 => ?_)
    refine Exists.elim HB40 (fun gw3 HB41 => ?_)
    refine Exists.elim HB41 (fun gr3 HB42 => ?_)
    refine Exists.elim HB42 (fun gt3 HB43 => ?_)
    refine Exists.elim HB43 (fun x3 HB44 => ?_)
    refine Exists.elim HB44 (fun y3 HB45 => ?_)
    refine Exists.elim HB45 (fun pb3 HB46 => ?_)
    obtain ⟨q1, q2, hw2, sx2, sm2, ln3, gz2, lb0⟩ := HB46
    clear HB0 HB1 HB2 HB3 HB4 HB5 HB6 HB7 HB8 HB9 HB10 HB11 HB12 HB13 HB14 HB15 HB16 HB17 HB18 HB19 HB20 HB21 HB22 HB23 HB24 HB25 HB26 HB27 HB28 HB29 HB30 HB31 HB32 HB33 HB34 HB35 HB36 HB37 HB38 HB39 HB40 HB41 HB42 HB43 HB44 HB45
    have i0 : sX1_isThere x.2.2.2.1.1 = some 1 := by rw [dx.2.1]; exact there1 d1 d2
    have i1 : ¬ y.1.2.2.2.2.2.1 1 = 0 := by rw [z1]; exact u1
    have e1 := dx.2.2.2.1
    have e2 := dm.1
    have e3 := dm.2.1
    have e4 := dm.2.2.1
    rw [← e1] at q1
    rw [← e4] at t1
    rw [← e2, ← e3, ← e4] at q2
    exact ⟨nI np1, _, _, stX_back_of (sX9_back_go1 i0 c1 q1), stM_back_of (sX12_back_go1 i1 t1 q2), ⟨⟨f0, f1, f2, f3⟩, hk, Or.inr ⟨rfl, w, h, nl, ld, m1, Q1, fm1, nv1, b1, np1, gs1, pn1, n2, n3, 0, (fun _ => 0), ⟨hw2, ⟨dx.1, dx.2.1, dx.2.2.1, dx.2.2.2.1, hA⟩, ⟨dm.1, dm.2.1, dm.2.2.1, ln3⟩⟩, ⟨rfl, rfl, rfl, rfl, rfl, rfl, rfl⟩, sx2, sm2, gz2, lk_new lb0 _, by omega, (fun i hi => absurd hi (Nat.not_lt_zero _)), rfl, rfl, (fun i hi => absurd hi (Nat.not_lt_zero _)), (fun i hi => absurd hi (Nat.not_lt_zero _))⟩⟩⟩
theorem step_back2 (n : Nat) (x : SX) (y : SM) (hr : Rel (n + 1) x y) : ∃ (r : Int32) (x' : SX) (y' : SM), stX_back (nI 2) x = some (r, x') ∧ stM_back (nI 2) y = some (r, y') ∧ Rel n x' y' := by
  obtain ⟨⟨f0, f1, f2, f3⟩, hk, wn⟩ := hr
  have u1 : ¬ (1 : Int32) = 0 := by decide
  have p2 : sX12_isPlace (nI 2) = some 1 := rfl
  rcases hk.2.2.1 with ⟨z1, z2⟩ | ⟨z1, w, h, nl, ld, dx, dm⟩
  · exact ⟨-4, _, _, stX_back_of (sX9_back_no2 z2), stM_back_of (o_founds := cf 4 x.1.2.2.2.2) (by unfold sX12_back; rw [ob_d1 p2, if_neg u1, gd_s (by decide), if_neg (show ¬ ¬ y.1.2.2.2.2.2.1 (nI 2).toNatClampNeg = 0 from fun z => z z1), ob_d1 p2, if_pos u1, ob_d2 (tell4 _).2, f0]), ⟨⟨rfl, f1, f2, f3⟩, hk, wn⟩⟩
  · obtain ⟨d1, d2, d3, d4, d5, d6⟩ := dx.1
    obtain ⟨U', V', X', Y', c1, c2⟩ := copy_okD x.2.1.1 x.2.1.2.1 x.2.1.2.2.1 x.2.1.2.2.2.2.2.1 x.2.1.2.2.2.2.2.2 x.2.1.2.2.2.1 x.2.1.2.2.2.2.1 (wd := x.2.2.2.2.1.1) (ht := x.2.2.2.2.1.2.1) (ln := x.2.2.2.2.1.2.2.1) (U2 := x.2.2.2.2.1.2.2.2.2.2.1) (V2 := x.2.2.2.2.1.2.2.2.2.2.2) (X2 := x.2.2.2.2.1.2.2.2.1) (Y2 := x.2.2.2.2.1.2.2.2.2.1)
    obtain ⟨X4, Y4, U4, V4, t1, t2⟩ := take_okD d5 y.2.1.1 y.2.1.2.1 y.2.1.2.2.1 y.2.1.2.2.2.2.2.2.1 y.2.1.2.2.2.2.2.2.2.1 y.2.1.2.2.2.2.2.2.2.2.1 y.2.1.2.2.2.2.2.2.2.2.2.1 y.2.2.2.2.2.2.2.2.2.1.1 y.2.2.2.2.2.2.2.2.2.1.2.1 y.2.2.2.2.2.2.2.2.2.1.2.2.2.2.2.2.1 y.2.2.2.2.2.2.2.2.2.1.2.2.2.2.2.2.2.1 y.2.2.2.2.2.2.2.2.2.1.2.2.2.2.2.2.2.2.1 y.2.2.2.2.2.2.2.2.2.1.2.2.2.2.2.2.2.2.2.1
    have hA : ∀ k, k < nl + 4 → LnAt X' Y' U' V' k (KX w h ld k) := fun k hk => LnAt_c (dx.2.2.2.2 k hk) (c2 k (by omega))
    have hA' : ∀ k, k < nl → LnAt X4 Y4 U4 V4 k (ld k) := fun k hk => LnAt_d (dm.2.2.2 k hk) (t2 k hk)
    have HB0 := redraw_both dx.1 hA hA' x.1.1 x.2.2.2.2.2.2.2.2.2.2.1.1 x.2.2.2.2.2.2.2.2.2.2.1.2.2.1 x.2.2.2.2.2.2.2.2.2.2.1.2.2.2.1 x.2.2.2.2.2.2.2.2.2.2.1.2.1 x.2.2.2.2.2.2.2.2.2.2.1.2.2.2.2.2.2.2.2.2.2.2.2 x.2.2.2.2.2.2.2.2.2.2.1.2.2.2.2.2.1 x.2.2.2.2.2.2.2.2.2.2.1.2.2.2.2.1 x.2.2.2.2.2.2.1.1 x.2.2.2.2.2.2.1.2.2.2 x.2.2.2.2.2.2.1.2.1 x.2.2.2.2.2.2.1.2.2.1 x.2.2.2.2.2.2.2.1.1 x.2.2.2.2.2.2.2.1.2.2.2.2.1 x.2.2.2.2.2.2.2.1.2.2.2.2.2.2.1 x.2.2.2.2.2.2.2.1.2.2.2.2.2.1 x.2.2.2.2.2.2.2.1.2.1 x.2.2.2.2.2.2.2.1.2.2.2.2.2.2.2.2.2 x.2.2.2.2.2.2.2.1.2.2.2.2.2.2.2.2.1 x.2.2.2.2.2.2.2.1.2.2.2.2.2.2.2.1 x.2.2.2.2.2.2.2.1.2.2.1 x.2.2.2.2.2.2.2.1.2.2.2.1 x.2.2.2.2.2.2.2.2.1.1 x.2.2.2.2.2.2.2.2.1.2.1 x.2.2.2.2.2.2.2.2.1.2.2.2 x.2.2.2.2.2.2.2.2.1.2.2.1 y.1.2.1 y.1.2.2.1 y.1.2.2.2.1 y.1.2.2.2.2.2.2.2.2.2.1 y.1.2.2.2.2.2.2.2.2.2.2.1 y.1.2.2.2.2.2.2.2.1 y.1.2.2.2.2.2.2.2.2.1 y.2.1.2.2.2.1 y.2.1.2.2.2.2.1 y.2.1.2.2.2.2.2.1 y.2.1.2.2.2.2.2.2.2.2.2.2.2.2.1 y.2.1.2.2.2.2.2.2.2.2.2.2.2.2.2.2.2 y.2.1.2.2.2.2.2.2.2.2.2.2.2.2.2.1 y.2.1.2.2.2.2.2.2.2.2.2.2.2.2.2.2.1 y.2.1.2.2.2.2.2.2.2.2.2.2.1 y.2.1.2.2.2.2.2.2.2.2.2.2.2.1 y.1.2.2.2.2.2.2.1
    refine Exists.elim HB0 (fun m1 HB1 => ?_)
    refine Exists.elim HB1 (fun Q1 HB2 => ?_)
    refine Exists.elim HB2 (fun fm1 HB3 => ?_)
    refine Exists.elim HB3 (fun nv1 HB4 => ?_)
    refine Exists.elim HB4 (fun b1 HB5 => ?_)
    refine Exists.elim HB5 (fun np1 HB6 => ?_)
    refine Exists.elim HB6 (fun gs1 HB7 => ?_)
    refine Exists.elim HB7 (fun pn1 HB8 => ?_)
    refine Exists.elim HB8 (fun n2 HB9 => ?_)
    refine Exists.elim HB9 (fun u2 HB10 => ?_)
    refine Exists.elim HB10 (fun x2 HB11 => ?_)
    refine Exists.elim HB11 (fun y2 HB12 => ?_)
    refine Exists.elim HB12 (fun fw2 HB13 => ?_)
    refine Exists.elim HB13 (fun fe2 HB14 => ?_)
    refine Exists.elim HB14 (fun fs2 HB15 => ?_)
    refine Exists.elim HB15 (fun fr2 HB16 => ?_)
    refine Exists.elim HB16 (fun H2 HB17 => ?_)
    refine Exists.elim HB17 (fun L2 HB18 => ?_)
    refine Exists.elim HB18 (fun re2 HB19 => ?_)
    refine Exists.elim HB19 (fun to2 HB20 => ?_)
    refine Exists.elim HB20 (fun tn2 HB21 => ?_)
    refine Exists.elim HB21 (fun pa2 HB22 => ?_)
    refine Exists.elim HB22 (fun sa2 HB23 => ?_)
    refine Exists.elim HB23 (fun wa2 HB24 => ?_)
    refine Exists.elim HB24 (fun al2 HB25 => ?_)
    refine Exists.elim HB25 (fun co2 HB26 => ?_)
    refine Exists.elim HB26 (fun kd2 HB27 => ?_)
    refine Exists.elim HB27 (fun lb2 HB28 => ?_)
    refine Exists.elim HB28 (fun nH2 HB29 => ?_)
    refine Exists.elim HB29 (fun nL2 HB30 => ?_)
    refine Exists.elim HB30 (fun n3 HB31 => ?_)
    refine Exists.elim HB31 (fun al3 HB32 => ?_)
    refine Exists.elim HB32 (fun co3 HB33 => ?_)
    refine Exists.elim HB33 (fun fa3 HB34 => ?_)
    refine Exists.elim HB34 (fun kd3 HB35 => ?_)
    refine Exists.elim HB35 (fun X3 HB36 => ?_)
    refine Exists.elim HB36 (fun Y3 HB37 => ?_)
    refine Exists.elim HB37 (fun U3 HB38 => ?_)
    refine Exists.elim HB38 (fun V3 HB39 => ?_)
    refine Exists.elim HB39 (fun d3 HB40 => ?_)
    refine Exists.elim HB40 (fun gw3 HB41 => ?_)
    refine Exists.elim HB41 (fun gr3 HB42 => ?_)
    refine Exists.elim HB42 (fun gt3 HB43 => ?_)
    refine Exists.elim HB43 (fun x3 HB44 => ?_)
    refine Exists.elim HB44 (fun y3 HB45 => ?_)
    refine Exists.elim HB45 (fun pb3 HB46 => ?_)
    obtain ⟨q1, q2, hw2, sx2, sm2, ln3, gz2, lb0⟩ := HB46
    clear HB0 HB1 HB2 HB3 HB4 HB5 HB6 HB7 HB8 HB9 HB10 HB11 HB12 HB13 HB14 HB15 HB16 HB17 HB18 HB19 HB20 HB21 HB22 HB23 HB24 HB25 HB26 HB27 HB28 HB29 HB30 HB31 HB32 HB33 HB34 HB35 HB36 HB37 HB38 HB39 HB40 HB41 HB42 HB43 HB44 HB45
    have i0 : sX1_isThere x.2.2.2.2.1.1 = some 1 := by rw [dx.2.1]; exact there1 d1 d2
    have i1 : ¬ y.1.2.2.2.2.2.1 2 = 0 := by rw [z1]; exact u1
    have e1 := dx.2.2.2.1
    have e2 := dm.1
    have e3 := dm.2.1
    have e4 := dm.2.2.1
    rw [← e1] at q1
    rw [← e4] at t1
    rw [← e2, ← e3, ← e4] at q2
    exact ⟨nI np1, _, _, stX_back_of (sX9_back_go2 i0 c1 q1), stM_back_of (sX12_back_go2 i1 t1 q2), ⟨⟨f0, f1, f2, f3⟩, hk, Or.inr ⟨rfl, w, h, nl, ld, m1, Q1, fm1, nv1, b1, np1, gs1, pn1, n2, n3, 0, (fun _ => 0), ⟨hw2, ⟨dx.1, dx.2.1, dx.2.2.1, dx.2.2.2.1, hA⟩, ⟨dm.1, dm.2.1, dm.2.2.1, ln3⟩⟩, ⟨rfl, rfl, rfl, rfl, rfl, rfl, rfl⟩, sx2, sm2, gz2, lk_new lb0 _, by omega, (fun i hi => absurd hi (Nat.not_lt_zero _)), rfl, rfl, (fun i hi => absurd hi (Nat.not_lt_zero _)), (fun i hi => absurd hi (Nat.not_lt_zero _))⟩⟩⟩
theorem step_back3 (n : Nat) (x : SX) (y : SM) (hr : Rel (n + 1) x y) : ∃ (r : Int32) (x' : SX) (y' : SM), stX_back (nI 3) x = some (r, x') ∧ stM_back (nI 3) y = some (r, y') ∧ Rel n x' y' := by
  obtain ⟨⟨f0, f1, f2, f3⟩, hk, wn⟩ := hr
  have u1 : ¬ (1 : Int32) = 0 := by decide
  have p2 : sX12_isPlace (nI 3) = some 1 := rfl
  rcases hk.2.2.2 with ⟨z1, z2⟩ | ⟨z1, w, h, nl, ld, dx, dm⟩
  · exact ⟨-4, _, _, stX_back_of (sX9_back_no3 z2), stM_back_of (o_founds := cf 4 x.1.2.2.2.2) (by unfold sX12_back; rw [ob_d1 p2, if_neg u1, gd_s (by decide), if_neg (show ¬ ¬ y.1.2.2.2.2.2.1 (nI 3).toNatClampNeg = 0 from fun z => z z1), ob_d1 p2, if_pos u1, ob_d2 (tell4 _).2, f0]), ⟨⟨rfl, f1, f2, f3⟩, hk, wn⟩⟩
  · obtain ⟨d1, d2, d3, d4, d5, d6⟩ := dx.1
    obtain ⟨U', V', X', Y', c1, c2⟩ := copy_okD x.2.1.1 x.2.1.2.1 x.2.1.2.2.1 x.2.1.2.2.2.2.2.1 x.2.1.2.2.2.2.2.2 x.2.1.2.2.2.1 x.2.1.2.2.2.2.1 (wd := x.2.2.2.2.2.1.1) (ht := x.2.2.2.2.2.1.2.1) (ln := x.2.2.2.2.2.1.2.2.1) (U2 := x.2.2.2.2.2.1.2.2.2.2.2.1) (V2 := x.2.2.2.2.2.1.2.2.2.2.2.2) (X2 := x.2.2.2.2.2.1.2.2.2.1) (Y2 := x.2.2.2.2.2.1.2.2.2.2.1)
    obtain ⟨X4, Y4, U4, V4, t1, t2⟩ := take_okD d5 y.2.1.1 y.2.1.2.1 y.2.1.2.2.1 y.2.1.2.2.2.2.2.2.1 y.2.1.2.2.2.2.2.2.2.1 y.2.1.2.2.2.2.2.2.2.2.1 y.2.1.2.2.2.2.2.2.2.2.2.1 y.2.2.2.2.2.2.2.2.2.2.1 y.2.2.2.2.2.2.2.2.2.2.2.1 y.2.2.2.2.2.2.2.2.2.2.2.2.2.2.2.2.1 y.2.2.2.2.2.2.2.2.2.2.2.2.2.2.2.2.2.1 y.2.2.2.2.2.2.2.2.2.2.2.2.2.2.2.2.2.2.1 y.2.2.2.2.2.2.2.2.2.2.2.2.2.2.2.2.2.2.2.1
    have hA : ∀ k, k < nl + 4 → LnAt X' Y' U' V' k (KX w h ld k) := fun k hk => LnAt_c (dx.2.2.2.2 k hk) (c2 k (by omega))
    have hA' : ∀ k, k < nl → LnAt X4 Y4 U4 V4 k (ld k) := fun k hk => LnAt_d (dm.2.2.2 k hk) (t2 k hk)
    have HB0 := redraw_both dx.1 hA hA' x.1.1 x.2.2.2.2.2.2.2.2.2.2.1.1 x.2.2.2.2.2.2.2.2.2.2.1.2.2.1 x.2.2.2.2.2.2.2.2.2.2.1.2.2.2.1 x.2.2.2.2.2.2.2.2.2.2.1.2.1 x.2.2.2.2.2.2.2.2.2.2.1.2.2.2.2.2.2.2.2.2.2.2.2 x.2.2.2.2.2.2.2.2.2.2.1.2.2.2.2.2.1 x.2.2.2.2.2.2.2.2.2.2.1.2.2.2.2.1 x.2.2.2.2.2.2.1.1 x.2.2.2.2.2.2.1.2.2.2 x.2.2.2.2.2.2.1.2.1 x.2.2.2.2.2.2.1.2.2.1 x.2.2.2.2.2.2.2.1.1 x.2.2.2.2.2.2.2.1.2.2.2.2.1 x.2.2.2.2.2.2.2.1.2.2.2.2.2.2.1 x.2.2.2.2.2.2.2.1.2.2.2.2.2.1 x.2.2.2.2.2.2.2.1.2.1 x.2.2.2.2.2.2.2.1.2.2.2.2.2.2.2.2.2 x.2.2.2.2.2.2.2.1.2.2.2.2.2.2.2.2.1 x.2.2.2.2.2.2.2.1.2.2.2.2.2.2.2.1 x.2.2.2.2.2.2.2.1.2.2.1 x.2.2.2.2.2.2.2.1.2.2.2.1 x.2.2.2.2.2.2.2.2.1.1 x.2.2.2.2.2.2.2.2.1.2.1 x.2.2.2.2.2.2.2.2.1.2.2.2 x.2.2.2.2.2.2.2.2.1.2.2.1 y.1.2.1 y.1.2.2.1 y.1.2.2.2.1 y.1.2.2.2.2.2.2.2.2.2.1 y.1.2.2.2.2.2.2.2.2.2.2.1 y.1.2.2.2.2.2.2.2.1 y.1.2.2.2.2.2.2.2.2.1 y.2.1.2.2.2.1 y.2.1.2.2.2.2.1 y.2.1.2.2.2.2.2.1 y.2.1.2.2.2.2.2.2.2.2.2.2.2.2.1 y.2.1.2.2.2.2.2.2.2.2.2.2.2.2.2.2.2 y.2.1.2.2.2.2.2.2.2.2.2.2.2.2.2.1 y.2.1.2.2.2.2.2.2.2.2.2.2.2.2.2.2.1 y.2.1.2.2.2.2.2.2.2.2.2.2.1 y.2.1.2.2.2.2.2.2.2.2.2.2.2.1 y.1.2.2.2.2.2.2.1
    refine Exists.elim HB0 (fun m1 HB1 => ?_)
    refine Exists.elim HB1 (fun Q1 HB2 => ?_)
    refine Exists.elim HB2 (fun fm1 HB3 => ?_)
    refine Exists.elim HB3 (fun nv1 HB4 => ?_)
    refine Exists.elim HB4 (fun b1 HB5 => ?_)
    refine Exists.elim HB5 (fun np1 HB6 => ?_)
    refine Exists.elim HB6 (fun gs1 HB7 => ?_)
    refine Exists.elim HB7 (fun pn1 HB8 => ?_)
    refine Exists.elim HB8 (fun n2 HB9 => ?_)
    refine Exists.elim HB9 (fun u2 HB10 => ?_)
    refine Exists.elim HB10 (fun x2 HB11 => ?_)
    refine Exists.elim HB11 (fun y2 HB12 => ?_)
    refine Exists.elim HB12 (fun fw2 HB13 => ?_)
    refine Exists.elim HB13 (fun fe2 HB14 => ?_)
    refine Exists.elim HB14 (fun fs2 HB15 => ?_)
    refine Exists.elim HB15 (fun fr2 HB16 => ?_)
    refine Exists.elim HB16 (fun H2 HB17 => ?_)
    refine Exists.elim HB17 (fun L2 HB18 => ?_)
    refine Exists.elim HB18 (fun re2 HB19 => ?_)
    refine Exists.elim HB19 (fun to2 HB20 => ?_)
    refine Exists.elim HB20 (fun tn2 HB21 => ?_)
    refine Exists.elim HB21 (fun pa2 HB22 => ?_)
    refine Exists.elim HB22 (fun sa2 HB23 => ?_)
    refine Exists.elim HB23 (fun wa2 HB24 => ?_)
    refine Exists.elim HB24 (fun al2 HB25 => ?_)
    refine Exists.elim HB25 (fun co2 HB26 => ?_)
    refine Exists.elim HB26 (fun kd2 HB27 => ?_)
    refine Exists.elim HB27 (fun lb2 HB28 => ?_)
    refine Exists.elim HB28 (fun nH2 HB29 => ?_)
    refine Exists.elim HB29 (fun nL2 HB30 => ?_)
    refine Exists.elim HB30 (fun n3 HB31 => ?_)
    refine Exists.elim HB31 (fun al3 HB32 => ?_)
    refine Exists.elim HB32 (fun co3 HB33 => ?_)
    refine Exists.elim HB33 (fun fa3 HB34 => ?_)
    refine Exists.elim HB34 (fun kd3 HB35 => ?_)
    refine Exists.elim HB35 (fun X3 HB36 => ?_)
    refine Exists.elim HB36 (fun Y3 HB37 => ?_)
    refine Exists.elim HB37 (fun U3 HB38 => ?_)
    refine Exists.elim HB38 (fun V3 HB39 => ?_)
    refine Exists.elim HB39 (fun d3 HB40 => ?_)
    refine Exists.elim HB40 (fun gw3 HB41 => ?_)
    refine Exists.elim HB41 (fun gr3 HB42 => ?_)
    refine Exists.elim HB42 (fun gt3 HB43 => ?_)
    refine Exists.elim HB43 (fun x3 HB44 => ?_)
    refine Exists.elim HB44 (fun y3 HB45 => ?_)
    refine Exists.elim HB45 (fun pb3 HB46 => ?_)
    obtain ⟨q1, q2, hw2, sx2, sm2, ln3, gz2, lb0⟩ := HB46
    clear HB0 HB1 HB2 HB3 HB4 HB5 HB6 HB7 HB8 HB9 HB10 HB11 HB12 HB13 HB14 HB15 HB16 HB17 HB18 HB19 HB20 HB21 HB22 HB23 HB24 HB25 HB26 HB27 HB28 HB29 HB30 HB31 HB32 HB33 HB34 HB35 HB36 HB37 HB38 HB39 HB40 HB41 HB42 HB43 HB44 HB45
    have i0 : sX1_isThere x.2.2.2.2.2.1.1 = some 1 := by rw [dx.2.1]; exact there1 d1 d2
    have i1 : ¬ y.1.2.2.2.2.2.1 3 = 0 := by rw [z1]; exact u1
    have e1 := dx.2.2.2.1
    have e2 := dm.1
    have e3 := dm.2.1
    have e4 := dm.2.2.1
    rw [← e1] at q1
    rw [← e4] at t1
    rw [← e2, ← e3, ← e4] at q2
    exact ⟨nI np1, _, _, stX_back_of (sX9_back_go3 i0 c1 q1), stM_back_of (sX12_back_go3 i1 t1 q2), ⟨⟨f0, f1, f2, f3⟩, hk, Or.inr ⟨rfl, w, h, nl, ld, m1, Q1, fm1, nv1, b1, np1, gs1, pn1, n2, n3, 0, (fun _ => 0), ⟨hw2, ⟨dx.1, dx.2.1, dx.2.2.1, dx.2.2.2.1, hA⟩, ⟨dm.1, dm.2.1, dm.2.2.1, ln3⟩⟩, ⟨rfl, rfl, rfl, rfl, rfl, rfl, rfl⟩, sx2, sm2, gz2, lk_new lb0 _, by omega, (fun i hi => absurd hi (Nat.not_lt_zero _)), rfl, rfl, (fun i hi => absurd hi (Nat.not_lt_zero _)), (fun i hi => absurd hi (Nat.not_lt_zero _))⟩⟩⟩
theorem step_back (n : Nat) (a1 : Int32) (x : SX) (y : SM) (hr : Rel (n + 1) x y) : ∃ (r : Int32) (x' : SX) (y' : SM), stX_back a1 x = some (r, x') ∧ stM_back a1 y = some (r, y') ∧ Rel n x' y' := by
  rcases plc_or a1 with ⟨k, hk4, e, p1, p2⟩ | ⟨p1, p2⟩
  · have : k = 0 ∨ k = 1 ∨ k = 2 ∨ k = 3 := by omega
    subst e
    rcases this with e | e | e | e <;> subst e
    · exact step_back0 n x y hr
    · exact step_back1 n x y hr
    · exact step_back2 n x y hr
    · exact step_back3 n x y hr
  · obtain ⟨⟨f0, f1, f2, f3⟩, hk, wn⟩ := hr
    exact ⟨-1, _, _, stX_back_of (o_answered := cf 1 x.1.2.2.2.2) (by unfold sX9_back; rw [ob_d1 p1, if_neg (by decide), ob_d2 (tell1 _).1]), stM_back_of (o_founds := cf 1 x.1.2.2.2.2) (by unfold sX12_back; rw [ob_d1 p2, if_pos rfl, ob_d1 p2, if_neg (by decide), ob_d2 (tell1 _).2, f0]), ⟨⟨rfl, f1, f2, f3⟩, hk, wn⟩⟩
