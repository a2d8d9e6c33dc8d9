/-! steps that only ask -/
theorem step_count (n : Nat) (a1 : Int32) (x : SX) (y : SM) (hr : Rel (n + 1) x y) : ∃ (r : Int32) (x' : SX) (y' : SM), stX_count a1 x = some (r, x') ∧ stM_count a1 y = some (r, y') ∧ Rel n x' y' := by
  obtain ⟨⟨f0, f1, f2, f3⟩, hk, wn⟩ := hr
  rcases id wn with ⟨z1, z2⟩ | ⟨z1, w, h, nl, ld, m, Q, fm, nv, a, np, gs, pn, n1, n', c, pi, ⟨hw, dx, dm⟩, ⟨e1, e2, e3, e4, e5, e6, e7⟩, sx, sm, gz, lk, c6, hpi, ec, ep, hch, hpk⟩
  · exact ⟨-4, _, _, stX_count_of (o_answered := cf 4 x.1.2.2.2.2) (by unfold sX9_count; rw [z2, ob_d1 there0, if_neg (by decide), ob_d2 (tell4 _).1]), stM_count_of (o_founds := cf 4 x.1.2.2.2.2) (by unfold sX12_count; rw [z1, if_pos rfl, if_neg (by decide), ob_d2 (tell4 _).2, f0]), ⟨⟨rfl, f1, f2, f3⟩, hk, wn⟩⟩
  · obtain ⟨r, g, q1, q2⟩ := count_q hw sx sm c _ a1
    exact ⟨r, _, _, stX_count_of (o_answered := g) (by rw [ec, dx.2.1, dx.2.2.1, dx.2.2.2.1, e1, e2, e3]; exact q1), stM_count_of (o_founds := g) (by rw [z1, e5, ep, dm.1, dm.2.1, dm.2.2.1, e6, e7, ← f0]; exact q2), ⟨⟨rfl, f1, f2, f3⟩, hk, wn⟩⟩
theorem step_joint (n : Nat) (a1 : Int32) (a2 : Int32) (x : SX) (y : SM) (hr : Rel (n + 1) x y) : ∃ (r : Int32) (x' : SX) (y' : SM), stX_joint a1 a2 x = some (r, x') ∧ stM_joint a1 a2 y = some (r, y') ∧ Rel n x' y' := by
  obtain ⟨⟨f0, f1, f2, f3⟩, hk, wn⟩ := hr
  rcases id wn with ⟨z1, z2⟩ | ⟨z1, w, h, nl, ld, m, Q, fm, nv, a, np, gs, pn, n1, n', c, pi, ⟨hw, dx, dm⟩, ⟨e1, e2, e3, e4, e5, e6, e7⟩, sx, sm, gz, lk, c6, hpi, ec, ep, hch, hpk⟩
  · exact ⟨-4, _, _, stX_joint_of (o_answered := cf 4 x.1.2.2.2.2) (by unfold sX9_joint; rw [z2, ob_d1 there0, if_neg (by decide), ob_d2 (tell4 _).1]), stM_joint_of (o_founds := cf 4 x.1.2.2.2.2) (by unfold sX12_joint; rw [z1, if_pos rfl, if_neg (by decide), ob_d2 (tell4 _).2, f0]), ⟨⟨rfl, f1, f2, f3⟩, hk, wn⟩⟩
  · obtain ⟨r, g, q1, q2⟩ := joint_q hw sx sm _ a1 a2
    exact ⟨r, _, _, stX_joint_of (o_answered := g) (by rw [dx.2.1, e1]; exact q1), stM_joint_of (o_founds := g) (by rw [z1, e6, e7, ← f0]; exact q2), ⟨⟨rfl, f1, f2, f3⟩, hk, wn⟩⟩
theorem step_piece (n : Nat) (a1 : Int32) (a2 : Int32) (x : SX) (y : SM) (hr : Rel (n + 1) x y) : ∃ (r : Int32) (x' : SX) (y' : SM), stX_piece a1 a2 x = some (r, x') ∧ stM_piece a1 a2 y = some (r, y') ∧ Rel n x' y' := by
  obtain ⟨⟨f0, f1, f2, f3⟩, hk, wn⟩ := hr
  rcases id wn with ⟨z1, z2⟩ | ⟨z1, w, h, nl, ld, m, Q, fm, nv, a, np, gs, pn, n1, n', c, pi, ⟨hw, dx, dm⟩, ⟨e1, e2, e3, e4, e5, e6, e7⟩, sx, sm, gz, lk, c6, hpi, ec, ep, hch, hpk⟩
  · exact ⟨-4, _, _, stX_piece_of (o_answered := cf 4 x.1.2.2.2.2) (by unfold sX9_piece; rw [z2, ob_d1 there0, if_neg (by decide), ob_d2 (tell4 _).1]), stM_piece_of (o_founds := cf 4 x.1.2.2.2.2) (by unfold sX12_piece; rw [z1, if_pos rfl, if_neg (by decide), ob_d2 (tell4 _).2, f0]), ⟨⟨rfl, f1, f2, f3⟩, hk, wn⟩⟩
  · obtain ⟨r, g, q1, q2⟩ := piece_q hw sx sm _ a1 a2
    exact ⟨r, _, _, stX_piece_of (o_answered := g) (by rw [dx.2.1, e1]; exact q1), stM_piece_of (o_founds := g) (by rw [z1, e6, e7, ← f0]; exact q2), ⟨⟨rfl, f1, f2, f3⟩, hk, wn⟩⟩
theorem step_corner (n : Nat) (a1 : Int32) (a2 : Int32) (x : SX) (y : SM) (hr : Rel (n + 1) x y) : ∃ (r : Int32) (x' : SX) (y' : SM), stX_corner a1 a2 x = some (r, x') ∧ stM_corner a1 a2 y = some (r, y') ∧ Rel n x' y' := by
  obtain ⟨⟨f0, f1, f2, f3⟩, hk, wn⟩ := hr
  rcases id wn with ⟨z1, z2⟩ | ⟨z1, w, h, nl, ld, m, Q, fm, nv, a, np, gs, pn, n1, n', c, pi, ⟨hw, dx, dm⟩, ⟨e1, e2, e3, e4, e5, e6, e7⟩, sx, sm, gz, lk, c6, hpi, ec, ep, hch, hpk⟩
  · exact ⟨-4, _, _, stX_corner_of (o_answered := cf 4 x.1.2.2.2.2) (by unfold sX9_corner; rw [z2, ob_d1 there0, if_neg (by decide), ob_d2 (tell4 _).1]), stM_corner_of (o_founds := cf 4 x.1.2.2.2.2) (by unfold sX12_corner; rw [z1, if_pos rfl, if_neg (by decide), ob_d2 (tell4 _).2, f0]), ⟨⟨rfl, f1, f2, f3⟩, hk, wn⟩⟩
  · obtain ⟨r, g, q1, q2⟩ := corner_q hw sx sm _ a1 a2
    exact ⟨r, _, _, stX_corner_of (o_answered := g) (by rw [dx.2.1, e3]; exact q1), stM_corner_of (o_founds := g) (by rw [z1, e5, e7, ← f0]; exact q2), ⟨⟨rfl, f1, f2, f3⟩, hk, wn⟩⟩
theorem step_pane (n : Nat) (a1 : Int32) (a2 : Int32) (x : SX) (y : SM) (hr : Rel (n + 1) x y) : ∃ (r : Int32) (x' : SX) (y' : SM), stX_pane a1 a2 x = some (r, x') ∧ stM_pane a1 a2 y = some (r, y') ∧ Rel n x' y' := by
  obtain ⟨⟨f0, f1, f2, f3⟩, hk, wn⟩ := hr
  rcases id wn with ⟨z1, z2⟩ | ⟨z1, w, h, nl, ld, m, Q, fm, nv, a, np, gs, pn, n1, n', c, pi, ⟨hw, dx, dm⟩, ⟨e1, e2, e3, e4, e5, e6, e7⟩, sx, sm, gz, lk, c6, hpi, ec, ep, hch, hpk⟩
  · exact ⟨-4, _, _, stX_pane_of (o_answered := cf 4 x.1.2.2.2.2) (by unfold sX9_pane; rw [z2, ob_d1 there0, if_neg (by decide), ob_d2 (tell4 _).1]), stM_pane_of (o_founds := cf 4 x.1.2.2.2.2) (by unfold sX12_pane; rw [z1, if_pos rfl, if_neg (by decide), ob_d2 (tell4 _).2, f0]), ⟨⟨rfl, f1, f2, f3⟩, hk, wn⟩⟩
  · obtain ⟨r, g, q1, q2⟩ := pane_q hw sx sm (fun p hp => (gz.1 p hp).1) (fun p hp => (gz.1 p hp).2.1) (fun p hp => (gz.1 p hp).2.2.1) _ a1 a2
    exact ⟨r, _, _, stX_pane_of (o_answered := g) (by rw [dx.2.1, e3]; exact q1), stM_pane_of (o_founds := g) (by rw [z1, e5, e7, ← f0]; exact q2), ⟨⟨rfl, f1, f2, f3⟩, hk, wn⟩⟩
theorem step_touch (n : Nat) (a1 : Int32) (a2 : Int32) (x : SX) (y : SM) (hr : Rel (n + 1) x y) : ∃ (r : Int32) (x' : SX) (y' : SM), stX_touch a1 a2 x = some (r, x') ∧ stM_touch a1 a2 y = some (r, y') ∧ Rel n x' y' := by
  obtain ⟨⟨f0, f1, f2, f3⟩, hk, wn⟩ := hr
  rcases id wn with ⟨z1, z2⟩ | ⟨z1, w, h, nl, ld, m, Q, fm, nv, a, np, gs, pn, n1, n', c, pi, ⟨hw, dx, dm⟩, ⟨e1, e2, e3, e4, e5, e6, e7⟩, sx, sm, gz, lk, c6, hpi, ec, ep, hch, hpk⟩
  · exact ⟨-4, _, _, stX_touch_of (o_answered := cf 4 x.1.2.2.2.2) (by unfold sX9_touch; rw [z2, ob_d1 there0, if_neg (by decide), ob_d2 (tell4 _).1]), stM_touch_of (o_founds := cf 4 x.1.2.2.2.2) (by unfold sX12_touch; rw [z1, if_pos rfl, if_neg (by decide), ob_d2 (tell4 _).2, f0]), ⟨⟨rfl, f1, f2, f3⟩, hk, wn⟩⟩
  · obtain ⟨r, g, q1, q2⟩ := touch_q hw sx sm _ a1 a2
    exact ⟨r, _, _, stX_touch_of (o_answered := g) (by rw [dx.2.1, e3]; exact q1), stM_touch_of (o_founds := g) (by rw [z1, e5, e7, ← f0]; exact q2), ⟨⟨rfl, f1, f2, f3⟩, hk, wn⟩⟩
theorem step_bits (n : Nat) (a1 : Int32) (x : SX) (y : SM) (hr : Rel (n + 1) x y) : ∃ (r : Int32) (x' : SX) (y' : SM), stX_bits a1 x = some (r, x') ∧ stM_bits a1 y = some (r, y') ∧ Rel n x' y' := by
  obtain ⟨⟨f0, f1, f2, f3⟩, hk, wn⟩ := hr
  rcases id wn with ⟨z1, z2⟩ | ⟨z1, w, h, nl, ld, m, Q, fm, nv, a, np, gs, pn, n1, n', c, pi, ⟨hw, dx, dm⟩, ⟨e1, e2, e3, e4, e5, e6, e7⟩, sx, sm, gz, lk, c6, hpi, ec, ep, hch, hpk⟩
  · exact ⟨-4, _, _, stX_bits_of (o_answered := cf 4 x.1.2.2.2.2) (by unfold sX9_bits; rw [z2, ob_d1 there0, if_neg (by decide), ob_d2 (tell4 _).1]), stM_bits_of (o_founds := cf 4 x.1.2.2.2.2) (by unfold sX12_bits; rw [z1, if_pos rfl, if_neg (by decide), ob_d2 (tell4 _).2, f0]), ⟨⟨rfl, f1, f2, f3⟩, hk, wn⟩⟩
  · obtain ⟨r, g, q1, q2⟩ := bits_q dx.1.1 dx.1.2.1 hw.2.2.2.1 lk _ a1
    exact ⟨r, _, _, stX_bits_of (o_answered := g) (by rw [dx.2.1]; exact q1), stM_bits_of (o_founds := g) (by rw [z1, e5, ← f0]; exact q2), ⟨⟨rfl, f1, f2, f3⟩, hk, wn⟩⟩
