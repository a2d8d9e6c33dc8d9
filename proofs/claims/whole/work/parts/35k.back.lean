/-! back -/
theorem step_back0 (n : Nat) (x : SX) (y : SM) (hr : Rel (n + 1) x y) : ∃ (r : Int32) (x' : SX) (y' : SM), stX_back (nI 0) x = some (r, x') ∧ stM_back (nI 0) y = some (r, y') ∧ Rel n x' y' := by
  obtain ⟨⟨f0, f1, f2, f3⟩, hk, wn⟩ := hr
  have u1 : ¬ (1 : Int32) = 0 := by decide
  have p2 : sX12_isPlace (nI 0) = some 1 := rfl
  rcases hk.1 with ⟨z1, z2⟩ | ⟨z1, w, h, nl, ld, dx, dm⟩
  · exact ⟨-4, _, _, stX_back_of (sX9_back_no0 z2), stM_back_of (o_founds := cf 4 x.1.2.2.2.2) (by unfold sX12_back; rw [ob_d1 p2, if_neg u1, gd_s (by decide), if_neg (show ¬ ¬ y.1.2.2.2.2.2.1 (nI 0).toNatClampNeg = 0 from fun z => z z1), ob_d1 p2, if_pos u1, ob_d2 (tell4 _).2, f0]), ⟨⟨rfl, f1, f2, f3⟩, hk, wn⟩⟩
  · obtain ⟨d1, d2, d3, d4, d5, d6⟩ := dx.1
    obtain ⟨U', V', X', Y', c1, c2⟩ := copy_okD x.2.1.1 x.2.1.2.1 x.2.1.2.2.1 x.2.1.2.2.2.2.2.1 x.2.1.2.2.2.2.2.2 x.2.1.2.2.2.1 x.2.1.2.2.2.2.1 (wd := x.2.2.1.1) (ht := x.2.2.1.2.1) (ln := x.2.2.1.2.2.1) (U2 := x.2.2.1.2.2.2.2.2.1) (V2 := x.2.2.1.2.2.2.2.2.2) (X2 := x.2.2.1.2.2.2.1) (Y2 := x.2.2.1.2.2.2.2.1)
    obtain ⟨X4, Y4, U4, V4, t1, t2⟩ := take_okD d5 y.2.1.1 y.2.1.2.1 y.2.1.2.2.1 y.2.1.2.2.2.2.2.2.1 y.2.1.2.2.2.2.2.2.2.1 y.2.1.2.2.2.2.2.2.2.2.1 y.2.1.2.2.2.2.2.2.2.2.2.1 y.2.2.2.2.2.2.2.1.1 y.2.2.2.2.2.2.2.1.2.1 y.2.2.2.2.2.2.2.1.2.2.2.2.2.2.1 y.2.2.2.2.2.2.2.1.2.2.2.2.2.2.2.1 y.2.2.2.2.2.2.2.1.2.2.2.2.2.2.2.2.1 y.2.2.2.2.2.2.2.1.2.2.2.2.2.2.2.2.2.1
    have hA : ∀ k, k < nl + 4 → LnAt X' Y' U' V' k (KX w h ld k) := fun k hk => LnAt_c (dx.2.2.2.2 k hk) (c2 k (by omega))
    have hA' : ∀ k, k < nl → LnAt X4 Y4 U4 V4 k (ld k) := fun k hk => LnAt_d (dm.2.2.2 k hk) (t2 k hk)
    obtain ⟨m1, Q1, fm1, nv1, b1, np1, gs1, pn1, n2, u2, x2, y2, fw2, fe2, fs2, fr2, H2, L2, re2, to2, tn2, pa2, sa2, wa2, al2, co2, kd2, lb2, nH2, nL2, n3, al3, co3, fa3, kd3, X3, Y3, U3, V3, d3, gw3, gr3, gt3, x3, y3, pb3, q1, q2, hw2, sx2, sm2, ln3, gz2, lb0⟩ := redraw_both dx.1 hA hA' x.1.1 x.2.2.2.2.2.2.2.2.2.2.1.1 x.2.2.2.2.2.2.2.2.2.2.1.2.2.1 x.2.2.2.2.2.2.2.2.2.2.1.2.2.2.1 x.2.2.2.2.2.2.2.2.2.2.1.2.1 x.2.2.2.2.2.2.2.2.2.2.1.2.2.2.2.2.2.2.2.2.2.2.2 x.2.2.2.2.2.2.2.2.2.2.1.2.2.2.2.2.1 x.2.2.2.2.2.2.2.2.2.2.1.2.2.2.2.1 x.2.2.2.2.2.2.1.1 x.2.2.2.2.2.2.1.2.2.2 x.2.2.2.2.2.2.1.2.1 x.2.2.2.2.2.2.1.2.2.1 x.2.2.2.2.2.2.2.1.1 x.2.2.2.2.2.2.2.1.2.2.2.2.1 x.2.2.2.2.2.2.2.1.2.2.2.2.2.2.1 x.2.2.2.2.2.2.2.1.2.2.2.2.2.1 x.2.2.2.2.2.2.2.1.2.1 x.2.2.2.2.2.2.2.1.2.2.2.2.2.2.2.2.2 x.2.2.2.2.2.2.2.1.2.2.2.2.2.2.2.2.1 x.2.2.2.2.2.2.2.1.2.2.2.2.2.2.2.1 x.2.2.2.2.2.2.2.1.2.2.1 x.2.2.2.2.2.2.2.1.2.2.2.1 x.2.2.2.2.2.2.2.2.1.1 x.2.2.2.2.2.2.2.2.1.2.1 x.2.2.2.2.2.2.2.2.1.2.2.2 x.2.2.2.2.2.2.2.2.1.2.2.1 y.1.2.1 y.1.2.2.1 y.1.2.2.2.1 y.1.2.2.2.2.2.2.2.2.2.1 y.1.2.2.2.2.2.2.2.2.2.2.1 y.1.2.2.2.2.2.2.2.1 y.1.2.2.2.2.2.2.2.2.1 y.2.1.2.2.2.1 y.2.1.2.2.2.2.1 y.2.1.2.2.2.2.2.1 y.2.1.2.2.2.2.2.2.2.2.2.2.2.2.1 y.2.1.2.2.2.2.2.2.2.2.2.2.2.2.2.2.2 y.2.1.2.2.2.2.2.2.2.2.2.2.2.2.2.1 y.2.1.2.2.2.2.2.2.2.2.2.2.2.2.2.2.1 y.2.1.2.2.2.2.2.2.2.2.2.2.1 y.2.1.2.2.2.2.2.2.2.2.2.2.2.1 y.1.2.2.2.2.2.2.1
    have i0 : sX1_isThere x.2.2.1.1 = some 1 := by rw [dx.2.1]; exact there1 d1 d2
    have i1 : ¬ y.1.2.2.2.2.2.1 0 = 0 := by rw [z1]; exact u1
    have e1 := dx.2.2.2.1
    have e2 := dm.1
    have e3 := dm.2.1
    have e4 := dm.2.2.1
    rw [← e1] at q1
    rw [← e4] at t1
    rw [← e2, ← e3, ← e4] at q2
    exact ⟨nI np1, _, _, stX_back_of (sX9_back_go0 i0 c1 q1), stM_back_of (sX12_back_go0 i1 t1 q2), ⟨⟨f0, f1, f2, f3⟩, hk, Or.inr ⟨rfl, w, h, nl, ld, m1, Q1, fm1, nv1, b1, np1, gs1, pn1, n2, n3, 0, (fun _ => 0), ⟨hw2, ⟨dx.1, dx.2.1, dx.2.2.1, dx.2.2.2.1, hA⟩, ⟨dm.1, dm.2.1, dm.2.2.1, ln3⟩⟩, ⟨rfl, rfl, rfl, rfl, rfl, rfl, rfl⟩, sx2, sm2, gz2, lk_new lb0 _, by omega, (fun i hi => absurd hi (Nat.not_lt_zero _)), rfl, rfl, (fun i hi => absurd hi (Nat.not_lt_zero _)), (fun i hi => absurd hi (Nat.not_lt_zero _))⟩⟩⟩
theorem step_back1 (n : Nat) (x : SX) (y : SM) (hr : Rel (n + 1) x y) : ∃ (r : Int32) (x' : SX) (y' : SM), stX_back (nI 1) x = some (r, x') ∧ stM_back (nI 1) y = some (r, y') ∧ Rel n x' y' := by
  obtain ⟨⟨f0, f1, f2, f3⟩, hk, wn⟩ := hr
  have u1 : ¬ (1 : Int32) = 0 := by decide
  have p2 : sX12_isPlace (nI 1) = some 1 := rfl
  rcases hk.2.1 with ⟨z1, z2⟩ | ⟨z1, w, h, nl, ld, dx, dm⟩
  · exact ⟨-4, _, _, stX_back_of (sX9_back_no1 z2), stM_back_of (o_founds := cf 4 x.1.2.2.2.2) (by unfold sX12_back; rw [ob_d1 p2, if_neg u1, gd_s (by decide), if_neg (show ¬ ¬ y.1.2.2.2.2.2.1 (nI 1).toNatClampNeg = 0 from fun z => z z1), ob_d1 p2, if_pos u1, ob_d2 (tell4 _).2, f0]), ⟨⟨rfl, f1, f2, f3⟩, hk, wn⟩⟩
  · obtain ⟨d1, d2, d3, d4, d5, d6⟩ := dx.1
    obtain ⟨U', V', X', Y', c1, c2⟩ := copy_okD x.2.1.1 x.2.1.2.1 x.2.1.2.2.1 x.2.1.2.2.2.2.2.1 x.2.1.2.2.2.2.2.2 x.2.1.2.2.2.1 x.2.1.2.2.2.2.1 (wd := x.2.2.2.1.1) (ht := x.2.2.2.1.2.1) (ln := x.2.2.2.1.2.2.1) (U2 := x.2.2.2.1.2.2.2.2.2.1) (V2 := x.2.2.2.1.2.2.2.2.2.2) (X2 := x.2.2.2.1.2.2.2.1) (Y2 := x.2.2.2.1.2.2.2.2.1)
    obtain ⟨X4, Y4, U4, V4, t1, t2⟩ := take_okD d5 y.2.1.1 y.2.1.2.1 y.2.1.2.2.1 y.2.1.2.2.2.2.2.2.1 y.2.1.2.2.2.2.2.2.2.1 y.2.1.2.2.2.2.2.2.2.2.1 y.2.1.2.2.2.2.2.2.2.2.2.1 y.2.2.2.2.2.2.2.2.1.1 y.2.2.2.2.2.2.2.2.1.2.1 y.2.2.2.2.2.2.2.2.1.2.2.2.2.2.2.1 y.2.2.2.2.2.2.2.2.1.2.2.2.2.2.2.2.1 y.2.2.2.2.2.2.2.2.1.2.2.2.2.2.2.2.2.1 y.2.2.2.2.2.2.2.2.1.2.2.2.2.2.2.2.2.2.1
    have hA : ∀ k, k < nl + 4 → LnAt X' Y' U' V' k (KX w h ld k) := fun k hk => LnAt_c (dx.2.2.2.2 k hk) (c2 k (by omega))
    have hA' : ∀ k, k < nl → LnAt X4 Y4 U4 V4 k (ld k) := fun k hk => LnAt_d (dm.2.2.2 k hk) (t2 k hk)
    obtain ⟨m1, Q1, fm1, nv1, b1, np1, gs1, pn1, n2, u2, x2, y2, fw2, fe2, fs2, fr2, H2, L2, re2, to2, tn2, pa2, sa2, wa2, al2, co2, kd2, lb2, nH2, nL2, n3, al3, co3, fa3, kd3, X3, Y3, U3, V3, d3, gw3, gr3, gt3, x3, y3, pb3, q1, q2, hw2, sx2, sm2, ln3, gz2, lb0⟩ := redraw_both dx.1 hA hA' x.1.1 x.2.2.2.2.2.2.2.2.2.2.1.1 x.2.2.2.2.2.2.2.2.2.2.1.2.2.1 x.2.2.2.2.2.2.2.2.2.2.1.2.2.2.1 x.2.2.2.2.2.2.2.2.2.2.1.2.1 x.2.2.2.2.2.2.2.2.2.2.1.2.2.2.2.2.2.2.2.2.2.2.2 x.2.2.2.2.2.2.2.2.2.2.1.2.2.2.2.2.1 x.2.2.2.2.2.2.2.2.2.2.1.2.2.2.2.1 x.2.2.2.2.2.2.1.1 x.2.2.2.2.2.2.1.2.2.2 x.2.2.2.2.2.2.1.2.1 x.2.2.2.2.2.2.1.2.2.1 x.2.2.2.2.2.2.2.1.1 x.2.2.2.2.2.2.2.1.2.2.2.2.1 x.2.2.2.2.2.2.2.1.2.2.2.2.2.2.1 x.2.2.2.2.2.2.2.1.2.2.2.2.2.1 x.2.2.2.2.2.2.2.1.2.1 x.2.2.2.2.2.2.2.1.2.2.2.2.2.2.2.2.2 x.2.2.2.2.2.2.2.1.2.2.2.2.2.2.2.2.1 x.2.2.2.2.2.2.2.1.2.2.2.2.2.2.2.1 x.2.2.2.2.2.2.2.1.2.2.1 x.2.2.2.2.2.2.2.1.2.2.2.1 x.2.2.2.2.2.2.2.2.1.1 x.2.2.2.2.2.2.2.2.1.2.1 x.2.2.2.2.2.2.2.2.1.2.2.2 x.2.2.2.2.2.2.2.2.1.2.2.1 y.1.2.1 y.1.2.2.1 y.1.2.2.2.1 y.1.2.2.2.2.2.2.2.2.2.1 y.1.2.2.2.2.2.2.2.2.2.2.1 y.1.2.2.2.2.2.2.2.1 y.1.2.2.2.2.2.2.2.2.1 y.2.1.2.2.2.1 y.2.1.2.2.2.2.1 y.2.1.2.2.2.2.2.1 y.2.1.2.2.2.2.2.2.2.2.2.2.2.2.1 y.2.1.2.2.2.2.2.2.2.2.2.2.2.2.2.2.2 y.2.1.2.2.2.2.2.2.2.2.2.2.2.2.2.1 y.2.1.2.2.2.2.2.2.2.2.2.2.2.2.2.2.1 y.2.1.2.2.2.2.2.2.2.2.2.2.1 y.2.1.2.2.2.2.2.2.2.2.2.2.2.1 y.1.2.2.2.2.2.2.1
    have i0 : sX1_isThere x.2.2.2.1.1 = some 1 := by rw [dx.2.1]; exact there1 d1 d2
    have i1 : ¬ y.1.2.2.2.2.2.1 1 = 0 := by rw [z1]; exact u1
    have e1 := dx.2.2.2.1
    have e2 := dm.1
    have e3 := dm.2.1
    have e4 := dm.2.2.1
    rw [← e1] at q1
    rw [← e4] at t1
    rw [← e2, ← e3, ← e4] at q2
    exact ⟨nI np1, _, _, stX_back_of (sX9_back_go1 i0 c1 q1), stM_back_of (sX12_back_go1 i1 t1 q2), ⟨⟨f0, f1, f2, f3⟩, hk, Or.inr ⟨rfl, w, h, nl, ld, m1, Q1, fm1, nv1, b1, np1, gs1, pn1, n2, n3, 0, (fun _ => 0), ⟨hw2, ⟨dx.1, dx.2.1, dx.2.2.1, dx.2.2.2.1, hA⟩, ⟨dm.1, dm.2.1, dm.2.2.1, ln3⟩⟩, ⟨rfl, rfl, rfl, rfl, rfl, rfl, rfl⟩, sx2, sm2, gz2, lk_new lb0 _, by omega, (fun i hi => absurd hi (Nat.not_lt_zero _)), rfl, rfl, (fun i hi => absurd hi (Nat.not_lt_zero _)), (fun i hi => absurd hi (Nat.not_lt_zero _))⟩⟩⟩
theorem step_back2 (n : Nat) (x : SX) (y : SM) (hr : Rel (n + 1) x y) : ∃ (r : Int32) (x' : SX) (y' : SM), stX_back (nI 2) x = some (r, x') ∧ stM_back (nI 2) y = some (r, y') ∧ Rel n x' y' := by
  obtain ⟨⟨f0, f1, f2, f3⟩, hk, wn⟩ := hr
  have u1 : ¬ (1 : Int32) = 0 := by decide
  have p2 : sX12_isPlace (nI 2) = some 1 := rfl
  rcases hk.2.2.1 with ⟨z1, z2⟩ | ⟨z1, w, h, nl, ld, dx, dm⟩
  · exact ⟨-4, _, _, stX_back_of (sX9_back_no2 z2), stM_back_of (o_founds := cf 4 x.1.2.2.2.2) (by unfold sX12_back; rw [ob_d1 p2, if_neg u1, gd_s (by decide), if_neg (show ¬ ¬ y.1.2.2.2.2.2.1 (nI 2).toNatClampNeg = 0 from fun z => z z1), ob_d1 p2, if_pos u1, ob_d2 (tell4 _).2, f0]), ⟨⟨rfl, f1, f2, f3⟩, hk, wn⟩⟩
  · obtain ⟨d1, d2, d3, d4, d5, d6⟩ := dx.1
    obtain ⟨U', V', X', Y', c1, c2⟩ := copy_okD x.2.1.1 x.2.1.2.1 x.2.1.2.2.1 x.2.1.2.2.2.2.2.1 x.2.1.2.2.2.2.2.2 x.2.1.2.2.2.1 x.2.1.2.2.2.2.1 (wd := x.2.2.2.2.1.1) (ht := x.2.2.2.2.1.2.1) (ln := x.2.2.2.2.1.2.2.1) (U2 := x.2.2.2.2.1.2.2.2.2.2.1) (V2 := x.2.2.2.2.1.2.2.2.2.2.2) (X2 := x.2.2.2.2.1.2.2.2.1) (Y2 := x.2.2.2.2.1.2.2.2.2.1)
    obtain ⟨X4, Y4, U4, V4, t1, t2⟩ := take_okD d5 y.2.1.1 y.2.1.2.1 y.2.1.2.2.1 y.2.1.2.2.2.2.2.2.1 y.2.1.2.2.2.2.2.2.2.1 y.2.1.2.2.2.2.2.2.2.2.1 y.2.1.2.2.2.2.2.2.2.2.2.1 y.2.2.2.2.2.2.2.2.2.1.1 y.2.2.2.2.2.2.2.2.2.1.2.1 y.2.2.2.2.2.2.2.2.2.1.2.2.2.2.2.2.1 y.2.2.2.2.2.2.2.2.2.1.2.2.2.2.2.2.2.1 y.2.2.2.2.2.2.2.2.2.1.2.2.2.2.2.2.2.2.1 y.2.2.2.2.2.2.2.2.2.1.2.2.2.2.2.2.2.2.2.1
    have hA : ∀ k, k < nl + 4 → LnAt X' Y' U' V' k (KX w h ld k) := fun k hk => LnAt_c (dx.2.2.2.2 k hk) (c2 k (by omega))
    have hA' : ∀ k, k < nl → LnAt X4 Y4 U4 V4 k (ld k) := fun k hk => LnAt_d (dm.2.2.2 k hk) (t2 k hk)
    obtain ⟨m1, Q1, fm1, nv1, b1, np1, gs1, pn1, n2, u2, x2, y2, fw2, fe2, fs2, fr2, H2, L2, re2, to2, tn2, pa2, sa2, wa2, al2, co2, kd2, lb2, nH2, nL2, n3, al3, co3, fa3, kd3, X3, Y3, U3, V3, d3, gw3, gr3, gt3, x3, y3, pb3, q1, q2, hw2, sx2, sm2, ln3, gz2, lb0⟩ := redraw_both dx.1 hA hA' x.1.1 x.2.2.2.2.2.2.2.2.2.2.1.1 x.2.2.2.2.2.2.2.2.2.2.1.2.2.1 x.2.2.2.2.2.2.2.2.2.2.1.2.2.2.1 x.2.2.2.2.2.2.2.2.2.2.1.2.1 x.2.2.2.2.2.2.2.2.2.2.1.2.2.2.2.2.2.2.2.2.2.2.2 x.2.2.2.2.2.2.2.2.2.2.1.2.2.2.2.2.1 x.2.2.2.2.2.2.2.2.2.2.1.2.2.2.2.1 x.2.2.2.2.2.2.1.1 x.2.2.2.2.2.2.1.2.2.2 x.2.2.2.2.2.2.1.2.1 x.2.2.2.2.2.2.1.2.2.1 x.2.2.2.2.2.2.2.1.1 x.2.2.2.2.2.2.2.1.2.2.2.2.1 x.2.2.2.2.2.2.2.1.2.2.2.2.2.2.1 x.2.2.2.2.2.2.2.1.2.2.2.2.2.1 x.2.2.2.2.2.2.2.1.2.1 x.2.2.2.2.2.2.2.1.2.2.2.2.2.2.2.2.2 x.2.2.2.2.2.2.2.1.2.2.2.2.2.2.2.2.1 x.2.2.2.2.2.2.2.1.2.2.2.2.2.2.2.1 x.2.2.2.2.2.2.2.1.2.2.1 x.2.2.2.2.2.2.2.1.2.2.2.1 x.2.2.2.2.2.2.2.2.1.1 x.2.2.2.2.2.2.2.2.1.2.1 x.2.2.2.2.2.2.2.2.1.2.2.2 x.2.2.2.2.2.2.2.2.1.2.2.1 y.1.2.1 y.1.2.2.1 y.1.2.2.2.1 y.1.2.2.2.2.2.2.2.2.2.1 y.1.2.2.2.2.2.2.2.2.2.2.1 y.1.2.2.2.2.2.2.2.1 y.1.2.2.2.2.2.2.2.2.1 y.2.1.2.2.2.1 y.2.1.2.2.2.2.1 y.2.1.2.2.2.2.2.1 y.2.1.2.2.2.2.2.2.2.2.2.2.2.2.1 y.2.1.2.2.2.2.2.2.2.2.2.2.2.2.2.2.2 y.2.1.2.2.2.2.2.2.2.2.2.2.2.2.2.1 y.2.1.2.2.2.2.2.2.2.2.2.2.2.2.2.2.1 y.2.1.2.2.2.2.2.2.2.2.2.2.1 y.2.1.2.2.2.2.2.2.2.2.2.2.2.1 y.1.2.2.2.2.2.2.1
    have i0 : sX1_isThere x.2.2.2.2.1.1 = some 1 := by rw [dx.2.1]; exact there1 d1 d2
    have i1 : ¬ y.1.2.2.2.2.2.1 2 = 0 := by rw [z1]; exact u1
    have e1 := dx.2.2.2.1
    have e2 := dm.1
    have e3 := dm.2.1
    have e4 := dm.2.2.1
    rw [← e1] at q1
    rw [← e4] at t1
    rw [← e2, ← e3, ← e4] at q2
    exact ⟨nI np1, _, _, stX_back_of (sX9_back_go2 i0 c1 q1), stM_back_of (sX12_back_go2 i1 t1 q2), ⟨⟨f0, f1, f2, f3⟩, hk, Or.inr ⟨rfl, w, h, nl, ld, m1, Q1, fm1, nv1, b1, np1, gs1, pn1, n2, n3, 0, (fun _ => 0), ⟨hw2, ⟨dx.1, dx.2.1, dx.2.2.1, dx.2.2.2.1, hA⟩, ⟨dm.1, dm.2.1, dm.2.2.1, ln3⟩⟩, ⟨rfl, rfl, rfl, rfl, rfl, rfl, rfl⟩, sx2, sm2, gz2, lk_new lb0 _, by omega, (fun i hi => absurd hi (Nat.not_lt_zero _)), rfl, rfl, (fun i hi => absurd hi (Nat.not_lt_zero _)), (fun i hi => absurd hi (Nat.not_lt_zero _))⟩⟩⟩
theorem step_back3 (n : Nat) (x : SX) (y : SM) (hr : Rel (n + 1) x y) : ∃ (r : Int32) (x' : SX) (y' : SM), stX_back (nI 3) x = some (r, x') ∧ stM_back (nI 3) y = some (r, y') ∧ Rel n x' y' := by
  obtain ⟨⟨f0, f1, f2, f3⟩, hk, wn⟩ := hr
  have u1 : ¬ (1 : Int32) = 0 := by decide
  have p2 : sX12_isPlace (nI 3) = some 1 := rfl
  rcases hk.2.2.2 with ⟨z1, z2⟩ | ⟨z1, w, h, nl, ld, dx, dm⟩
  · exact ⟨-4, _, _, stX_back_of (sX9_back_no3 z2), stM_back_of (o_founds := cf 4 x.1.2.2.2.2) (by unfold sX12_back; rw [ob_d1 p2, if_neg u1, gd_s (by decide), if_neg (show ¬ ¬ y.1.2.2.2.2.2.1 (nI 3).toNatClampNeg = 0 from fun z => z z1), ob_d1 p2, if_pos u1, ob_d2 (tell4 _).2, f0]), ⟨⟨rfl, f1, f2, f3⟩, hk, wn⟩⟩
  · obtain ⟨d1, d2, d3, d4, d5, d6⟩ := dx.1
    obtain ⟨U', V', X', Y', c1, c2⟩ := copy_okD x.2.1.1 x.2.1.2.1 x.2.1.2.2.1 x.2.1.2.2.2.2.2.1 x.2.1.2.2.2.2.2.2 x.2.1.2.2.2.1 x.2.1.2.2.2.2.1 (wd := x.2.2.2.2.2.1.1) (ht := x.2.2.2.2.2.1.2.1) (ln := x.2.2.2.2.2.1.2.2.1) (U2 := x.2.2.2.2.2.1.2.2.2.2.2.1) (V2 := x.2.2.2.2.2.1.2.2.2.2.2.2) (X2 := x.2.2.2.2.2.1.2.2.2.1) (Y2 := x.2.2.2.2.2.1.2.2.2.2.1)
    obtain ⟨X4, Y4, U4, V4, t1, t2⟩ := take_okD d5 y.2.1.1 y.2.1.2.1 y.2.1.2.2.1 y.2.1.2.2.2.2.2.2.1 y.2.1.2.2.2.2.2.2.2.1 y.2.1.2.2.2.2.2.2.2.2.1 y.2.1.2.2.2.2.2.2.2.2.2.1 y.2.2.2.2.2.2.2.2.2.2.1 y.2.2.2.2.2.2.2.2.2.2.2.1 y.2.2.2.2.2.2.2.2.2.2.2.2.2.2.2.2.1 y.2.2.2.2.2.2.2.2.2.2.2.2.2.2.2.2.2.1 y.2.2.2.2.2.2.2.2.2.2.2.2.2.2.2.2.2.2.1 y.2.2.2.2.2.2.2.2.2.2.2.2.2.2.2.2.2.2.2.1
    have hA : ∀ k, k < nl + 4 → LnAt X' Y' U' V' k (KX w h ld k) := fun k hk => LnAt_c (dx.2.2.2.2 k hk) (c2 k (by omega))
    have hA' : ∀ k, k < nl → LnAt X4 Y4 U4 V4 k (ld k) := fun k hk => LnAt_d (dm.2.2.2 k hk) (t2 k hk)
    obtain ⟨m1, Q1, fm1, nv1, b1, np1, gs1, pn1, n2, u2, x2, y2, fw2, fe2, fs2, fr2, H2, L2, re2, to2, tn2, pa2, sa2, wa2, al2, co2, kd2, lb2, nH2, nL2, n3, al3, co3, fa3, kd3, X3, Y3, U3, V3, d3, gw3, gr3, gt3, x3, y3, pb3, q1, q2, hw2, sx2, sm2, ln3, gz2, lb0⟩ := redraw_both dx.1 hA hA' x.1.1 x.2.2.2.2.2.2.2.2.2.2.1.1 x.2.2.2.2.2.2.2.2.2.2.1.2.2.1 x.2.2.2.2.2.2.2.2.2.2.1.2.2.2.1 x.2.2.2.2.2.2.2.2.2.2.1.2.1 x.2.2.2.2.2.2.2.2.2.2.1.2.2.2.2.2.2.2.2.2.2.2.2 x.2.2.2.2.2.2.2.2.2.2.1.2.2.2.2.2.1 x.2.2.2.2.2.2.2.2.2.2.1.2.2.2.2.1 x.2.2.2.2.2.2.1.1 x.2.2.2.2.2.2.1.2.2.2 x.2.2.2.2.2.2.1.2.1 x.2.2.2.2.2.2.1.2.2.1 x.2.2.2.2.2.2.2.1.1 x.2.2.2.2.2.2.2.1.2.2.2.2.1 x.2.2.2.2.2.2.2.1.2.2.2.2.2.2.1 x.2.2.2.2.2.2.2.1.2.2.2.2.2.1 x.2.2.2.2.2.2.2.1.2.1 x.2.2.2.2.2.2.2.1.2.2.2.2.2.2.2.2.2 x.2.2.2.2.2.2.2.1.2.2.2.2.2.2.2.2.1 x.2.2.2.2.2.2.2.1.2.2.2.2.2.2.2.1 x.2.2.2.2.2.2.2.1.2.2.1 x.2.2.2.2.2.2.2.1.2.2.2.1 x.2.2.2.2.2.2.2.2.1.1 x.2.2.2.2.2.2.2.2.1.2.1 x.2.2.2.2.2.2.2.2.1.2.2.2 x.2.2.2.2.2.2.2.2.1.2.2.1 y.1.2.1 y.1.2.2.1 y.1.2.2.2.1 y.1.2.2.2.2.2.2.2.2.2.1 y.1.2.2.2.2.2.2.2.2.2.2.1 y.1.2.2.2.2.2.2.2.1 y.1.2.2.2.2.2.2.2.2.1 y.2.1.2.2.2.1 y.2.1.2.2.2.2.1 y.2.1.2.2.2.2.2.1 y.2.1.2.2.2.2.2.2.2.2.2.2.2.2.1 y.2.1.2.2.2.2.2.2.2.2.2.2.2.2.2.2.2 y.2.1.2.2.2.2.2.2.2.2.2.2.2.2.2.1 y.2.1.2.2.2.2.2.2.2.2.2.2.2.2.2.2.1 y.2.1.2.2.2.2.2.2.2.2.2.2.1 y.2.1.2.2.2.2.2.2.2.2.2.2.2.1 y.1.2.2.2.2.2.2.1
    have i0 : sX1_isThere x.2.2.2.2.2.1.1 = some 1 := by rw [dx.2.1]; exact there1 d1 d2
    have i1 : ¬ y.1.2.2.2.2.2.1 3 = 0 := by rw [z1]; exact u1
    have e1 := dx.2.2.2.1
    have e2 := dm.1
    have e3 := dm.2.1
    have e4 := dm.2.2.1
    rw [← e1] at q1
    rw [← e4] at t1
    rw [← e2, ← e3, ← e4] at q2
    exact ⟨nI np1, _, _, stX_back_of (sX9_back_go3 i0 c1 q1), stM_back_of (sX12_back_go3 i1 t1 q2), ⟨⟨f0, f1, f2, f3⟩, hk, Or.inr ⟨rfl, w, h, nl, ld, m1, Q1, fm1, nv1, b1, np1, gs1, pn1, n2, n3, 0, (fun _ => 0), ⟨hw2, ⟨dx.1, dx.2.1, dx.2.2.1, dx.2.2.2.1, hA⟩, ⟨dm.1, dm.2.1, dm.2.2.1, ln3⟩⟩, ⟨rfl, rfl, rfl, rfl, rfl, rfl, rfl⟩, sx2, sm2, gz2, lk_new lb0 _, by omega, (fun i hi => absurd hi (Nat.not_lt_zero _)), rfl, rfl, (fun i hi => absurd hi (Nat.not_lt_zero _)), (fun i hi => absurd hi (Nat.not_lt_zero _))⟩⟩⟩
theorem step_back (n : Nat) (a1 : Int32) (x : SX) (y : SM) (hr : Rel (n + 1) x y) : ∃ (r : Int32) (x' : SX) (y' : SM), stX_back a1 x = some (r, x') ∧ stM_back a1 y = some (r, y') ∧ Rel n x' y' := by
  rcases plc_or a1 with ⟨k, hk4, e, p1, p2⟩ | ⟨p1, p2⟩
  · have : k = 0 ∨ k = 1 ∨ k = 2 ∨ k = 3 := by omega
    subst e
    rcases this with e | e | e | e <;> subst e
    · exact step_back0 n x y hr
    · exact step_back1 n x y hr
    · exact step_back2 n x y hr
    · exact step_back3 n x y hr
  · obtain ⟨⟨f0, f1, f2, f3⟩, hk, wn⟩ := hr
    exact ⟨-1, _, _, stX_back_of (o_answered := cf 1 x.1.2.2.2.2) (by unfold sX9_back; rw [ob_d1 p1, if_neg (by decide), ob_d2 (tell1 _).1]), stM_back_of (o_founds := cf 1 x.1.2.2.2.2) (by unfold sX12_back; rw [ob_d1 p2, if_pos rfl, ob_d1 p2, if_neg (by decide), ob_d2 (tell1 _).2, f0]), ⟨⟨rfl, f1, f2, f3⟩, hk, wn⟩⟩
