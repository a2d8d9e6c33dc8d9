/-! window, lead, undo -/
theorem app_ok {k : Nat} (hk : k < 18) (a1 a2 a3 a4 : Int32) (U V X Y : Nat → Int32) : sX1_append a1 a2 a3 a4 (nI k) U V X Y = some (nI (k + 1), upd U k a3, upd V k a4, upd X k a1, upd Y k a2) := by
  obtain ⟨ia, ca⟩ := ix_c (i := k) (n := 18) hk (by omega)
  unfold sX1_append
  rw [if_pos (by rw [show (18 : Int32) = nI 18 from rfl, nI_ltS (by omega) (by omega)]; omega)]
  simp only [gd_s ia]
  simp only [lt, ca, nI_1]
theorem LnAt_n {X Y U V : Nat → Int32} {k j : Nat} (h : j ≠ k) {L : Ln} (hL : LnAt X Y U V j L) (a b c d : Int32) : LnAt (upd X k a) (upd Y k b) (upd U k c) (upd V k d) j L := by
  obtain ⟨h1, h2, h3, h4⟩ := hL
  exact ⟨by rw [pk_un h]; exact h1, by rw [pk_un h]; exact h2, by rw [pk_un h]; exact h3, by rw [pk_un h]; exact h4⟩
theorem LnAt_s {X Y U V : Nat → Int32} {k : Nat} (L : Ln) : LnAt (upd X k (nI L.1)) (upd Y k (nI L.2.1)) (upd U k (nI L.2.2.1)) (upd V k (nI L.2.2.2)) k L := ⟨pk_us, pk_us, pk_us, pk_us⟩
theorem open_ok (w h : Nat) (ld : Nat → Ln) (wd ht ln : Int32) (U V X Y : Nat → Int32) : ∃ U' V' X' Y', sX1_open (nI w) (nI h) wd ht ln U V X Y = some (nI w, nI h, nI (0 + 4), U', V', X', Y') ∧ ∀ k, k < 0 + 4 → LnAt X' Y' U' V' k (KX w h ld k) := by
  refine ⟨upd (upd (upd (upd (U) 0 (nI w)) 1 (nI w)) 2 (nI w)) 3 (nI 0), upd (upd (upd (upd (V) 0 (nI 0)) 1 (nI h)) 2 (nI h)) 3 (nI h), upd (upd (upd (upd (X) 0 (nI 0)) 1 (nI w)) 2 (nI 0)) 3 (nI 0), upd (upd (upd (upd (Y) 0 (nI 0)) 1 (nI 0)) 2 (nI h)) 3 (nI 0), ?_, fun k hk => ?_⟩
  · unfold sX1_open
    rw [nl_0, ob_d5 (app_ok (k := 0) (by omega) _ _ _ _ _ _ _ _), ob_d5 (app_ok (k := 1) (by omega) _ _ _ _ _ _ _ _), ob_d5 (app_ok (k := 2) (by omega) _ _ _ _ _ _ _ _), ob_d5 (app_ok (k := 3) (by omega) _ _ _ _ _ _ _ _)]
  have : k = 0 ∨ k = 1 ∨ k = 2 ∨ k = 3 := by omega
  rcases this with e | e | e | e <;> subst e
  · exact LnAt_n (k := 3) (by omega) (LnAt_n (k := 2) (by omega) (LnAt_n (k := 1) (by omega) (LnAt_s (0, 0, w, 0)) _ _ _ _) _ _ _ _) _ _ _ _
  · exact LnAt_n (k := 3) (by omega) (LnAt_n (k := 2) (by omega) (LnAt_s (w, 0, w, h)) _ _ _ _) _ _ _ _
  · exact LnAt_n (k := 3) (by omega) (LnAt_s (0, h, w, h)) _ _ _ _
  · exact LnAt_s (0, 0, 0, h)
theorem lk_new {np : Nat} {lb : Nat → Int32} (h : ∀ p, p < 128 → lb p = 0) (lk : Nat → Int32) : LkR np lb 0 lk := Or.inl ⟨rfl, h⟩
theorem win_or (a1 a2 : Int32) : (a1 < 0 ∨ a2 < 0) ∨ (¬ a1 < 0 ∧ ¬ a2 < 0 ∧ ((∃ w h, 1 ≤ w ∧ w ≤ 12 ∧ 1 ≤ h ∧ h ≤ 12 ∧ a1 = nI w ∧ a2 = nI h) ∨ (sX9_isSide a1 = some 0 ∨ (sX9_isSide a1 = some 1 ∧ sX9_isSide a2 = some 0)) ∧ (a1 = 0 ∨ a2 = 0 ∨ (12 : Int32) < a1 ∨ ¬ a2 ≤ (12 : Int32)))) := by
  by_cases h1 : a1 < 0
  · exact Or.inl (Or.inl h1)
  · by_cases h2 : a2 < 0
    · exact Or.inl (Or.inr h2)
    · right
      refine ⟨h1, h2, ?_⟩
      have z0 : ∀ a : Int32, ¬ a < 0 → a < 1 → a = 0 := by
        intro a n0 l1
        obtain ⟨n, hn, e⟩ := nI_of n0
        subst e
        rw [nl_1, nI_ltS (by omega) (by omega)] at l1
        rw [show n = 0 by omega]; rfl
      rcases side_or a1 with ⟨w, w1, w2, e1, s1, _, _⟩ | ⟨o1, s1⟩
      · rcases side_or a2 with ⟨h, k1, k2, e2, s2, _, _⟩ | ⟨o2, s2⟩
        · exact Or.inl ⟨w, h, w1, w2, k1, k2, e1, e2⟩
        · right
          refine ⟨Or.inr ⟨s1, s2⟩, ?_⟩
          rcases o2 with o2 | ⟨o2, o3⟩
          · exact Or.inr (Or.inl (z0 _ h2 o2))
          · exact Or.inr (Or.inr (Or.inr (Int32.not_le.mpr o3)))
      · right
        refine ⟨Or.inl s1, ?_⟩
        rcases o1 with o1 | ⟨o1, o2⟩
        · exact Or.inl (z0 _ h1 o1)
        · exact Or.inr (Or.inr (Or.inl o2))
theorem step_window (n : Nat) (a1 a2 : Int32) (x : SX) (y : SM) (hr : Rel (n + 1) x y) : ∃ (r : Int32) (x' : SX) (y' : SM), stX_window a1 a2 x = some (r, x') ∧ stM_window a1 a2 y = some (r, y') ∧ Rel n x' y' := by
  obtain ⟨⟨f0, f1, f2, f3⟩, hk, wn⟩ := hr
  have u1 : ¬ (1 : Int32) = 0 := by decide
  rcases win_or a1 a2 with hneg | ⟨n1, n2, hh⟩
  · exact ⟨-2, _, _, stX_window_of (o_answered := cf 2 x.1.2.2.2.2) (by
      unfold sX9_window
      by_cases z : a1 < 0
      · rw [if_pos z, ob_d2 (tell2 _).1]
      · rw [if_neg z, if_neg (Int32.not_le.mpr (hneg.resolve_left z)), ob_d2 (tell2 _).1]), stM_window_of (o_founds := cf 2 x.1.2.2.2.2) (by
      unfold sX12_window
      rw [← f0]
      by_cases z : a1 < 0
      · rw [if_pos z, ob_d2 (tell2 _).2]
      · rw [if_neg z, if_neg (Int32.not_le.mpr (hneg.resolve_left z)), ob_d2 (tell2 _).2]), ⟨⟨rfl, f1, f2, f3⟩, hk, wn⟩⟩
  · have p2 : (0 : Int32) ≤ a2 := Int32.not_lt.mp n2
    rcases hh with ⟨w, h, w1, w2, h1, h2, e1, e2⟩ | ⟨hs, hz⟩
    · subst e1
      subst e2
      have s1 : sX9_isSide (nI w) = some 1 := by
        rcases side_or (nI w) with ⟨_, _, _, _, s, _⟩ | ⟨o, _⟩
        · exact s
        · exfalso
          rcases o with o | ⟨_, o⟩
          · rw [nl_1, nI_ltS (by omega) (by omega)] at o; omega
          · rw [show (12 : Int32) = nI 12 from rfl, nI_ltS (by omega) (by omega)] at o; omega
      have s2 : sX9_isSide (nI h) = some 1 := by
        rcases side_or (nI h) with ⟨_, _, _, _, s, _⟩ | ⟨o, _⟩
        · exact s
        · exfalso
          rcases o with o | ⟨_, o⟩
          · rw [nl_1, nI_ltS (by omega) (by omega)] at o; omega
          · rw [show (12 : Int32) = nI 12 from rfl, nI_ltS (by omega) (by omega)] at o; omega
      have hD : Dr w h 0 (fun _ => (0, 0, 0, 0)) := ⟨w1, w2, h1, h2, by omega, fun i hi => absurd hi (Nat.not_lt_zero _)⟩
      obtain ⟨U', V', X', Y', o1, o2⟩ := open_ok w h (fun _ => (0, 0, 0, 0)) x.2.1.1 x.2.1.2.1 x.2.1.2.2.1 x.2.1.2.2.2.2.2.1 x.2.1.2.2.2.2.2.2 x.2.1.2.2.2.1 x.2.1.2.2.2.2.1
      have HB0 := redraw_both hD o2 (X' := y.2.1.2.2.2.2.2.2.1) (Y' := y.2.1.2.2.2.2.2.2.2.1) (U' := y.2.1.2.2.2.2.2.2.2.2.1) (V' := y.2.1.2.2.2.2.2.2.2.2.2.1) (fun k hk => absurd hk (Nat.not_lt_zero _)) x.1.1 x.2.2.2.2.2.2.2.2.2.2.1.1 x.2.2.2.2.2.2.2.2.2.2.1.2.2.1 x.2.2.2.2.2.2.2.2.2.2.1.2.2.2.1 x.2.2.2.2.2.2.2.2.2.2.1.2.1 x.2.2.2.2.2.2.2.2.2.2.1.2.2.2.2.2.2.2.2.2.2.2.2 x.2.2.2.2.2.2.2.2.2.2.1.2.2.2.2.2.1 x.2.2.2.2.2.2.2.2.2.2.1.2.2.2.2.1 x.2.2.2.2.2.2.1.1 x.2.2.2.2.2.2.1.2.2.2 x.2.2.2.2.2.2.1.2.1 x.2.2.2.2.2.2.1.2.2.1 x.2.2.2.2.2.2.2.1.1 x.2.2.2.2.2.2.2.1.2.2.2.2.1 x.2.2.2.2.2.2.2.1.2.2.2.2.2.2.1 x.2.2.2.2.2.2.2.1.2.2.2.2.2.1 x.2.2.2.2.2.2.2.1.2.1 x.2.2.2.2.2.2.2.1.2.2.2.2.2.2.2.2.2 x.2.2.2.2.2.2.2.1.2.2.2.2.2.2.2.2.1 x.2.2.2.2.2.2.2.1.2.2.2.2.2.2.2.1 x.2.2.2.2.2.2.2.1.2.2.1 x.2.2.2.2.2.2.2.1.2.2.2.1 x.2.2.2.2.2.2.2.2.1.1 x.2.2.2.2.2.2.2.2.1.2.1 x.2.2.2.2.2.2.2.2.1.2.2.2 x.2.2.2.2.2.2.2.2.1.2.2.1 y.1.2.1 y.1.2.2.1 y.1.2.2.2.1 y.1.2.2.2.2.2.2.2.2.2.1 y.1.2.2.2.2.2.2.2.2.2.2.1 y.1.2.2.2.2.2.2.2.1 y.1.2.2.2.2.2.2.2.2.1 y.2.1.2.2.2.1 y.2.1.2.2.2.2.1 y.2.1.2.2.2.2.2.1 y.2.1.2.2.2.2.2.2.2.2.2.2.2.2.1 y.2.1.2.2.2.2.2.2.2.2.2.2.2.2.2.2.2 y.2.1.2.2.2.2.2.2.2.2.2.2.2.2.2.1 y.2.1.2.2.2.2.2.2.2.2.2.2.2.2.2.2.1 y.2.1.2.2.2.2.2.2.2.2.2.2.1 y.2.1.2.2.2.2.2.2.2.2.2.2.2.1 y.1.2.2.2.2.2.2.1
      refine Exists.elim HB0 (fun m1 HB1 => ?_)
      refine Exists.elim HB1 (fun Q1 HB2 => ?_)
      refine Exists.elim HB2 (fun fm1 HB3 => ?_)
      refine Exists.elim HB3 (fun nv1 HB4 => ?_)
      refine Exists.elim HB4 (fun b1 HB5 => ?_)
      refine Exists.elim HB5 (fun np1 HB6 => ?_)
      refine Exists.elim HB6 (fun gs1 HB7 => ?_)
      refine Exists.elim HB7 (fun pn1 HB8 => ?_)
      refine Exists.elim HB8 (fun n2 HB9 => ?_)
      refine Exists.elim HB9 (fun u2 HB10 => ?_)
      refine Exists.elim HB10 (fun x2 HB11 => ?_)
      refine Exists.elim HB11 (fun y2 HB12 => ?_)
      refine Exists.elim HB12 (fun fw2 HB13 => ?_)
      refine Exists.elim HB13 (fun fe2 HB14 => ?_)
      refine Exists.elim HB14 (fun fs2 HB15 => ?_)
      refine Exists.elim HB15 (fun fr2 HB16 => ?_)
      refine Exists.elim HB16 (fun H2 HB17 => ?_)
      refine Exists.elim HB17 (fun L2 HB18 => ?_)
      refine Exists.elim HB18 (fun re2 HB19 => ?_)
      refine Exists.elim HB19 (fun to2 HB20 => ?_)
      refine Exists.elim HB20 (fun tn2 HB21 => ?_)
      refine Exists.elim HB21 (fun pa2 HB22 => ?_)
      refine Exists.elim HB22 (fun sa2 HB23 => ?_)
      refine Exists.elim HB23 (fun wa2 HB24 => ?_)
      refine Exists.elim HB24 (fun al2 HB25 => ?_)
      refine Exists.elim HB25 (fun co2 HB26 => ?_)
      refine Exists.elim HB26 (fun kd2 HB27 => ?_)
      refine Exists.elim HB27 (fun lb2 HB28 => ?_)
      refine Exists.elim HB28 (fun nH2 HB29 => ?_)
      refine Exists.elim HB29 (fun nL2 HB30 => ?_)
      refine Exists.elim HB30 (fun n3 HB31 => ?_)
      refine Exists.elim HB31 (fun al3 HB32 => ?_)
      refine Exists.elim HB32 (fun co3 HB33 => ?_)
      refine Exists.elim HB33 (fun fa3 HB34 => ?_)
      refine Exists.elim HB34 (fun kd3 HB35 => ?_)
      refine Exists.elim HB35 (fun X3 HB36 => ?_)
      refine Exists.elim HB36 (fun Y3 HB37 => ?_)
      refine Exists.elim HB37 (fun U3 HB38 => ?_)
      refine Exists.elim HB38 (fun V3 HB39 => ?_)
      refine Exists.elim HB39 (fun d3 HB40 => ?_)
      refine Exists.elim HB40 (fun gw3 HB41 => ?_)
      refine Exists.elim HB41 (fun gr3 HB42 => ?_)
      refine Exists.elim HB42 (fun gt3 HB43 => ?_)
      refine Exists.elim HB43 (fun x3 HB44 => ?_)
      refine Exists.elim HB44 (fun y3 HB45 => ?_)
      refine Exists.elim HB45 (fun pb3 HB46 => ?_)
      obtain ⟨q1, q2, hw2, sx2, sm2, ln3, gz2, lb0⟩ := HB46
      clear HB0 HB1 HB2 HB3 HB4 HB5 HB6 HB7 HB8 HB9 HB10 HB11 HB12 HB13 HB14 HB15 HB16 HB17 HB18 HB19 HB20 HB21 HB22 HB23 HB24 HB25 HB26 HB27 HB28 HB29 HB30 HB31 HB32 HB33 HB34 HB35 HB36 HB37 HB38 HB39 HB40 HB41 HB42 HB43 HB44 HB45
      have r1 := sX9_window_go (s_answered := x.1.2.2.2.2) n1 p2 s1 s2 o1 q1
      have r2 := sX12_window_go (s_isWindow := y.1.1) (s_founds := y.1.2.2.2.2.2.2.2.2.2.2.2.2.2.2.2.1) (s_now_w := y.2.1.1) (s_now_h := y.2.1.2.1) (s_now_leads := y.2.1.2.2.1) n1 p2 (by rw [nl_0, nI_eqS (by omega) (by omega)]; omega) (by rw [nl_0, nI_eqS (by omega) (by omega)]; omega) (by rw [show (12 : Int32) = nI 12 from rfl, nI_ltS (by omega) (by omega)]; omega) (by rw [show (12 : Int32) = nI 12 from rfl, nI_leS (by omega) (by omega)]; omega) q2
      exact ⟨nI np1, _, _, stX_window_of r1, stM_window_of r2, ⟨⟨f0, f1, f2, f3⟩, hk, Or.inr ⟨rfl, w, h, 0, (fun _ => (0, 0, 0, 0)), m1, Q1, fm1, nv1, b1, np1, gs1, pn1, n2, n3, 0, (fun _ => 0), ⟨hw2, ⟨hD, rfl, rfl, rfl, o2⟩, ⟨rfl, rfl, rfl, ln3⟩⟩, ⟨rfl, rfl, rfl, rfl, rfl, rfl, rfl⟩, sx2, sm2, gz2, lk_new lb0 _, by omega, (fun i hi => absurd hi (Nat.not_lt_zero _)), rfl, rfl, (fun i hi => absurd hi (Nat.not_lt_zero _)), (fun i hi => absurd hi (Nat.not_lt_zero _))⟩⟩⟩
    · exact ⟨-1, _, _, stX_window_of (o_answered := cf 1 x.1.2.2.2.2) (by
        unfold sX9_window
        rw [if_neg n1, if_pos p2]
        rcases hs with hs | ⟨hs1, hs2⟩
        · rw [ob_d1 hs, if_pos rfl, ob_d2 (tell1 _).1]
        · rw [ob_d1 hs1, if_neg u1, ob_d1 hs2, if_neg (by decide), ob_d2 (tell1 _).1]), stM_window_of (o_founds := cf 1 x.1.2.2.2.2) (by
        unfold sX12_window
        rw [← f0, if_neg n1, if_pos p2]
        by_cases z1 : a1 = 0
        · rw [if_pos z1, ob_d2 (tell1 _).2]
        · rw [if_neg z1]
          by_cases z2 : a2 = 0
          · rw [if_pos z2, ob_d2 (tell1 _).2]
          · rw [if_neg z2]
            by_cases z3 : (12 : Int32) < a1
            · rw [if_pos z3, ob_d2 (tell1 _).2]
            · rw [if_neg z3]
              have z4 : ¬ a2 ≤ (12 : Int32) := by
                rcases hz with q | q | q | q
                · exact absurd q z1
                · exact absurd q z2
                · exact absurd q z3
                · exact q
              rw [if_neg z4, ob_d2 (tell1 _).2]), ⟨⟨rfl, f1, f2, f3⟩, hk, wn⟩⟩
