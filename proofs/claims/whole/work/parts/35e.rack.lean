/-! found, rack, as -/
theorem plc_or (a : Int32) : (∃ k, k < 4 ∧ a = nI k ∧ sX9_isPlace a = some 1 ∧ sX12_isPlace a = some 1) ∨ (sX9_isPlace a = some 0 ∧ sX12_isPlace a = some 0) := by
  rcases nI_or a 4 (by omega) with ⟨k, hk, e⟩ | ho
  · left
    subst e
    have h1 : ¬ nI k < 0 := nI_pos (by omega)
    have h2 : ¬ (4 : Int32) ≤ nI k := by rw [show (4 : Int32) = nI 4 from rfl, nI_leS (by omega) (by omega)]; omega
    refine ⟨k, hk, rfl, ?_, ?_⟩
    · unfold sX9_isPlace; rw [if_neg h1, if_neg h2]
    · unfold sX12_isPlace; rw [if_neg h1, if_neg h2]
  · right
    unfold sX9_isPlace sX12_isPlace
    by_cases h1 : a < 0
    · rw [if_pos h1]; exact ⟨rfl, rfl⟩
    · have h2 : (4 : Int32) ≤ a := ho.resolve_left h1
      rw [if_neg h1, if_pos h2]; exact ⟨rfl, rfl⟩
theorem found_q (f : Nat → Int32) (a1 : Int32) : ∃ r g, sX9_found a1 f = some (r, g) ∧ sX12_found a1 f = some (r, g) := by
  unfold sX9_found sX12_found
  by_cases h0 : (0 : Int32) ≤ a1
  · rw [if_pos h0, if_pos h0, ob_d2 (tell1 f).1, ob_d2 (tell1 f).2]
    exact ⟨_, _, rfl, rfl⟩
  · rw [if_neg h0, if_neg h0]
    by_cases h7 : (-7 : Int32) ≤ a1
    · rw [if_pos h7, if_neg (Int32.not_lt.mpr h7)]
      have t0 : ¬ (0 : Int) ≤ a1.toInt := fun z => h0 (Int32.le_iff_toInt_le.mpr (by rw [show (0 : Int32).toInt = 0 from rfl]; exact z))
      have t7 : (-7 : Int) ≤ a1.toInt := by
        have := Int32.le_iff_toInt_le.mp h7
        rw [show (-7 : Int32).toInt = -7 from by decide] at this
        exact this
      have : a1.toInt = -1 ∨ a1.toInt = -2 ∨ a1.toInt = -3 ∨ a1.toInt = -4 ∨ a1.toInt = -5 ∨ a1.toInt = -6 ∨ a1.toInt = -7 := by omega
      have key : ∀ b : Int32, a1.toInt = b.toInt → a1 = b := fun b e => Int32.toInt_inj.mp e
      rcases this with e | e | e | e | e | e | e
      · have := key (-1) (by rw [e]; decide); subst this; exact ⟨_, _, rfl, rfl⟩
      · have := key (-2) (by rw [e]; decide); subst this; exact ⟨_, _, rfl, rfl⟩
      · have := key (-3) (by rw [e]; decide); subst this; exact ⟨_, _, rfl, rfl⟩
      · have := key (-4) (by rw [e]; decide); subst this; exact ⟨_, _, rfl, rfl⟩
      · have := key (-5) (by rw [e]; decide); subst this; exact ⟨_, _, rfl, rfl⟩
      · have := key (-6) (by rw [e]; decide); subst this; exact ⟨_, _, rfl, rfl⟩
      · have := key (-7) (by rw [e]; decide); subst this; exact ⟨_, _, rfl, rfl⟩
    · rw [if_neg h7, if_pos (Int32.not_le.mp h7), ob_d2 (tell1 f).1, ob_d2 (tell1 f).2]
      exact ⟨_, _, rfl, rfl⟩
theorem step_found (n : Nat) (a1 : Int32) (x : SX) (y : SM) (hr : Rel (n + 1) x y) : ∃ (r : Int32) (x' : SX) (y' : SM), stX_found a1 x = some (r, x') ∧ stM_found a1 y = some (r, y') ∧ Rel n x' y' := by
  obtain ⟨⟨f0, f1, f2, f3⟩, hk, wn⟩ := hr
  obtain ⟨r, g, q1, q2⟩ := found_q x.1.2.2.2.2 a1
  exact ⟨r, _, _, stX_found_of (o_answered := g) q1, stM_found_of (o_founds := g) (by rw [← f0]; exact q2), ⟨⟨rfl, f1, f2, f3⟩, hk, wn⟩⟩
theorem as_q (f ra rk : Nat → Int32) (hrk : ∀ k, k < 4 → rk k = -1 ∨ ∃ v, v ≤ 2 ∧ rk k = nI v) (a1 a2 : Int32) : ∃ r g, sX9_as a1 a2 f ra rk = some (r, g) ∧ sX12_as a1 a2 f ra rk = some (r, g) := by
  have u1 : ¬ (1 : Int32) = 0 := by decide
  unfold sX9_as sX12_as
  rcases plc_or a1 with ⟨k, hk, e, p1, p2⟩ | ⟨p1, p2⟩
  · subst e
    obtain ⟨ia, ca⟩ := ix_c (i := k) (n := 4) hk (by omega)
    rw [ob_d1 p1, ob_d1 p2, if_neg u1, if_neg u1]
    rcases isKind_ok a2 with ⟨j, hj, e, i1⟩ | ⟨ho, i1⟩
    · subst e
      have n0 : ¬ nI j < 0 := nI_pos (by omega)
      have l2 : nI j ≤ (2 : Int32) := by rw [nl_2, nI_leS (by omega) (by omega)]; omega
      rw [ob_d1 i1, if_pos u1, if_neg n0, if_pos l2]
      simp only [gd_s ia]
      rw [ca]
      rcases hrk k hk with e | ⟨v, v1, e⟩
      · rw [e, if_neg (by decide), if_neg (by decide), ob_d2 (tell4 f).1, ob_d2 (tell4 f).2]
        exact ⟨_, _, rfl, rfl⟩
      · rw [e, if_pos (by
          intro z
          have q : (-1 : Int32) < 0 := by decide
          rw [← z] at q
          exact nI_pos (by omega) q), if_pos (show (0 : Int32) ≤ nI v by rw [nl_0, nI_leS (by omega) (by omega)]; omega)]
        by_cases z : nI j ≤ nI v
        · rw [if_pos z, if_pos z]; exact ⟨_, _, rfl, rfl⟩
        · rw [if_neg z, if_neg z, ob_d2 (tell5 f).1, ob_d2 (tell5 f).2]; exact ⟨_, _, rfl, rfl⟩
    · rw [ob_d1 i1, if_neg (by decide), ob_d2 (tell1 f).1]
      by_cases z : a2 < 0
      · rw [if_pos z, ob_d2 (tell1 f).2]; exact ⟨_, _, rfl, rfl⟩
      · rw [if_neg z, if_neg (le_out ho z (k := 2) (b := 2) (by omega) (by omega) rfl), ob_d2 (tell1 f).2]; exact ⟨_, _, rfl, rfl⟩
  · rw [ob_d1 p1, ob_d1 p2, if_pos rfl, if_pos rfl, ob_d2 (tell1 f).1, ob_d2 (tell1 f).2]
    exact ⟨_, _, rfl, rfl⟩
theorem step_as (n : Nat) (a1 a2 : Int32) (x : SX) (y : SM) (hr : Rel (n + 1) x y) : ∃ (r : Int32) (x' : SX) (y' : SM), stX_as a1 a2 x = some (r, x') ∧ stM_as a1 a2 y = some (r, y') ∧ Rel n x' y' := by
  obtain ⟨⟨f0, f1, f2, f3⟩, hk, wn⟩ := hr
  obtain ⟨r, g, q1, q2⟩ := as_q x.1.2.2.2.2 x.1.2.2.2.1 x.1.2.2.1 f3 a1 a2
  exact ⟨r, _, _, stX_as_of (o_answered := g) q1, stM_as_of (o_founds := g) (by rw [← f0, ← f1, ← f2]; exact q2), ⟨⟨rfl, f1, f2, f3⟩, hk, wn⟩⟩
theorem f3_up {rk : Nat → Int32} (h : ∀ k, k < 4 → rk k = -1 ∨ ∃ v, v ≤ 2 ∧ rk k = nI v) {j : Nat} {u : Int32} (hu : u = -1 ∨ ∃ v, v ≤ 2 ∧ u = nI v) : ∀ k, k < 4 → upd rk j u k = -1 ∨ ∃ v, v ≤ 2 ∧ upd rk j u k = nI v := by
  intro k hk
  by_cases z : k = j
  · subst z; rw [pk_us]; exact hu
  · rw [pk_un z]; exact h k hk
theorem step_rack (n : Nat) (a1 a2 : Int32) (x : SX) (y : SM) (hr : Rel (n + 1) x y) : ∃ (r : Int32) (x' : SX) (y' : SM), stX_rack a1 a2 x = some (r, x') ∧ stM_rack a1 a2 y = some (r, y') ∧ Rel n x' y' := by
  obtain ⟨⟨f0, f1, f2, f3⟩, hk, wn⟩ := hr
  have u1 : ¬ (1 : Int32) = 0 := by decide
  rcases plc_or a1 with ⟨k, hk4, e, p1, p2⟩ | ⟨p1, p2⟩
  · subst e
    obtain ⟨ia, ca⟩ := ix_c (i := k) (n := 4) hk4 (by omega)
    by_cases em : a2 = -1
    · exact ⟨1, _, _, stX_rack_of (o_answered := x.1.2.2.2.2) (o_rackAllowed := x.1.2.2.2.1) (o_rackKind := upd x.1.2.2.1 k (-1)) (by unfold sX9_rack; rw [ob_d1 p1, if_pos u1, if_neg (fun z => z em), gd_s ia, ca, lt_v]), stM_rack_of (o_founds := y.1.2.2.2.2.2.2.2.2.2.2.2.2.2.2.2.1) (o_rackAllowed := y.1.2.2.2.2.2.2.2.2.2.2.2.2.2.2.1) (o_rackKind := upd y.1.2.2.2.2.2.2.2.2.2.2.2.2.2.1 k (-1)) (by unfold sX12_rack; rw [ob_d1 p2, if_pos u1, if_neg (fun z => z em), gd_s ia, ca, lt_v]), ⟨⟨f0, congrArg (fun f => upd f k (-1)) f1, f2, f3_up f3 (Or.inl rfl)⟩, hk, wn⟩⟩
    · rcases id wn with ⟨z1, z2⟩ | ⟨z1, w, h, nl, ld, m, Q, fm, nv, a, np, gs, pn, n1, n', c, pi, ⟨hw, dx, dm⟩, ⟨e1, e2, e3, e4, e5, e6, e7⟩, sx, sm, gz, lk, c6, hpi, ec, ep, hch, hpk⟩
      · exact ⟨-4, _, _, stX_rack_of (o_answered := cf 4 x.1.2.2.2.2) (o_rackAllowed := x.1.2.2.2.1) (o_rackKind := x.1.2.2.1) (by unfold sX9_rack; rw [ob_d1 p1, if_pos u1, if_pos em, z2, ob_d1 there0, if_neg (by decide), ob_d2 (tell4 _).1]), stM_rack_of (o_founds := cf 4 x.1.2.2.2.2) (o_rackAllowed := y.1.2.2.2.2.2.2.2.2.2.2.2.2.2.2.1) (o_rackKind := y.1.2.2.2.2.2.2.2.2.2.2.2.2.2.1) (by unfold sX12_rack; rw [ob_d1 p2, if_pos u1, if_pos em, z1, if_pos rfl, if_neg (by decide), ob_d2 (tell4 _).2, f0]), ⟨⟨rfl, f1, f2, f3⟩, hk, wn⟩⟩
      · have th := there1 dx.1.1 dx.1.2.1
        have np1 := hw.2.2.2.1
        rcases nI_or a2 np (by omega) with ⟨p, hp, e⟩ | ho
        · subst e
          obtain ⟨_, _, h1, h2⟩ := hasJ (m := np) (by omega) hp
          obtain ⟨ib, cb⟩ := ix_c (i := p) (n := 128) (by omega) (by omega)
          obtain ⟨ic, cc⟩ := ix_c (i := p) (n := 160) (by omega) (by omega)
          obtain ⟨g1, g2, g3, v, v1, v2⟩ := gz.1 p hp
          exact ⟨1, _, _, stX_rack_of (o_answered := x.1.2.2.2.2) (o_rackAllowed := upd x.1.2.2.2.1 k (x.2.2.2.2.2.2.2.2.2.2.1.2.2.1 p)) (o_rackKind := upd x.1.2.2.1 k (x.2.2.2.2.2.2.2.2.2.2.1.2.1 p)) (by
            unfold sX9_rack
            rw [ob_d1 p1, if_pos u1, if_pos em, dx.2.1, e3, ob_d1 th, if_pos u1, ob_d1 h1, if_pos u1]
            simp only [gd_s ia, gd_s ib]
            rw [ca, cb, lt_v, lt_v]), stM_rack_of (o_founds := y.1.2.2.2.2.2.2.2.2.2.2.2.2.2.2.2.1) (o_rackAllowed := upd y.1.2.2.2.2.2.2.2.2.2.2.2.2.2.2.1 k (x.2.2.2.2.2.2.2.2.2.2.1.2.2.1 p)) (o_rackKind := upd y.1.2.2.2.2.2.2.2.2.2.2.2.2.2.1 k (x.2.2.2.2.2.2.2.2.2.2.1.2.1 p)) (by
            unfold sX12_rack
            rw [ob_d1 p2, if_pos u1, if_pos em, z1, if_neg u1, e5, ob_d1 h2, if_pos u1]
            simp only [gd_s ia, gd_s ic]
            rw [ca, cc, lt_v, lt_v, g1, g3]), ⟨⟨f0, congrArg (fun f => upd f k _) f1, congrArg (fun f => upd f k _) f2, f3_up f3 (Or.inr ⟨v, v1, v2⟩)⟩, hk, wn⟩⟩
        · obtain ⟨_, _, h1, h2⟩ := hasN ho
          exact ⟨-1, _, _, stX_rack_of (o_answered := cf 1 x.1.2.2.2.2) (o_rackAllowed := x.1.2.2.2.1) (o_rackKind := x.1.2.2.1) (by unfold sX9_rack; rw [ob_d1 p1, if_pos u1, if_pos em, dx.2.1, e3, ob_d1 th, if_pos u1, ob_d1 h1, if_neg (by decide), ob_d2 (tell1 _).1]), stM_rack_of (o_founds := cf 1 x.1.2.2.2.2) (o_rackAllowed := y.1.2.2.2.2.2.2.2.2.2.2.2.2.2.2.1) (o_rackKind := y.1.2.2.2.2.2.2.2.2.2.2.2.2.2.1) (by unfold sX12_rack; rw [ob_d1 p2, if_pos u1, if_pos em, z1, if_neg u1, e5, ob_d1 h2, if_neg (by decide), if_pos u1, ob_d2 (tell1 _).2, f0]), ⟨⟨rfl, f1, f2, f3⟩, hk, wn⟩⟩
  · exact ⟨-1, _, _, stX_rack_of (o_answered := cf 1 x.1.2.2.2.2) (o_rackAllowed := x.1.2.2.2.1) (o_rackKind := x.1.2.2.1) (by unfold sX9_rack; rw [ob_d1 p1, if_neg (by decide), ob_d2 (tell1 _).1]), stM_rack_of (o_founds := cf 1 x.1.2.2.2.2) (o_rackAllowed := y.1.2.2.2.2.2.2.2.2.2.2.2.2.2.2.1) (o_rackKind := y.1.2.2.2.2.2.2.2.2.2.2.2.2.2.1) (by unfold sX12_rack; rw [ob_d1 p2, if_neg (by decide), ob_d2 (tell1 _).2, f0]), ⟨⟨rfl, f1, f2, f3⟩, hk, wn⟩⟩
