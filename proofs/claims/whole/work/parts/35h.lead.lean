/-! lead, undo -/
theorem isPt : sX12_isPoint = sX1_hasPoint := by funext a b c d; rfl
theorem pt_or (a b : Int32) {w h : Nat} (hw : w ≤ 12) (hh : h ≤ 12) : (∃ p q, p ≤ w ∧ q ≤ h ∧ a = nI p ∧ b = nI q ∧ sX1_hasPoint a b (nI w) (nI h) = some 1) ∨ sX1_hasPoint a b (nI w) (nI h) = some 0 := by
  unfold sX1_hasPoint
  by_cases z1 : a < 0
  · right; rw [if_pos z1]
  · rw [if_neg z1]
    by_cases z2 : nI w < a
    · right; rw [if_pos z2]
    · rw [if_neg z2]
      by_cases z3 : b < 0
      · right; rw [if_pos z3]
      · rw [if_neg z3]
        by_cases z4 : nI h < b
        · right; rw [if_pos z4]
        · left
          obtain ⟨p, hp, e1⟩ := nI_of z1
          obtain ⟨q, hq, e2⟩ := nI_of z3
          subst e1
          subst e2
          rw [nI_ltS (by omega) (by omega)] at z2 z4
          exact ⟨p, q, by omega, by omega, rfl, rfl, by rw [if_neg (by rw [nI_ltS (by omega) (by omega)]; omega)]⟩
theorem leads_ok (nl : Nat) : sX1_leads (nI (nl + 4)) = some (nI nl) := by
  unfold sX1_leads
  rw [show (4 : Int32) = nI 4 from rfl, pk_sub (by omega)]
  rfl
def ldU (ld : Nat → Ln) (nl : Nat) (L : Ln) : Nat → Ln := fun k => if k = nl then L else ld k
theorem KX_o {w h : Nat} {ld : Nat → Ln} {nl k : Nat} (L : Ln) (hk : k < nl + 4) : KX w h (ldU ld nl L) k = KX w h ld k := by
  unfold KX
  by_cases z0 : k = 0
  · rw [if_pos z0, if_pos z0]
  · rw [if_neg z0, if_neg z0]
    by_cases z1 : k = 1
    · rw [if_pos z1, if_pos z1]
    · rw [if_neg z1, if_neg z1]
      by_cases z2 : k = 2
      · rw [if_pos z2, if_pos z2]
      · rw [if_neg z2, if_neg z2]
        by_cases z3 : k = 3
        · rw [if_pos z3, if_pos z3]
        · rw [if_neg z3, if_neg z3]
          unfold ldU
          rw [if_neg (by omega)]
theorem KX_l {w h : Nat} {ld : Nat → Ln} {nl : Nat} (L : Ln) : KX w h (ldU ld nl L) (nl + 4) = L := by
  unfold KX
  rw [if_neg (by omega), if_neg (by omega), if_neg (by omega), if_neg (by omega)]
  unfold ldU
  rw [if_pos (by omega)]
theorem line_ok {k : Nat} (hk : k < 18) (a1 a2 a3 a4 : Int32) (X Y U V : Nat → Int32) : sX10_line (nI k) a1 a2 a3 a4 X Y U V = some (upd X k a1, upd Y k a2, upd U k a3, upd V k a4) := by
  obtain ⟨ia, ca⟩ := ix_c (i := k) (n := 18) hk (by omega)
  unfold sX10_line
  simp only [gd_s ia]
  simp only [lt, ca]
theorem step_lead (n : Nat) (a1 a2 a3 a4 : Int32) (x : SX) (y : SM) (hr : Rel (n + 1) x y) : ∃ (r : Int32) (x' : SX) (y' : SM), stX_lead a1 a2 a3 a4 x = some (r, x') ∧ stM_lead a1 a2 a3 a4 y = some (r, y') ∧ Rel n x' y' := by
  obtain ⟨⟨f0, f1, f2, f3⟩, hk, wn⟩ := hr
  have u1 : ¬ (1 : Int32) = 0 := by decide
  rcases id wn with ⟨z1, z2⟩ | ⟨z1, w, h, nl, ld, m, Q, fm, nv, a, np, gs, pn, n1, n', c, pi, ⟨hw, dx, dm⟩, ⟨e1, e2, e3, e4, e5, e6, e7⟩, sx, sm, gz, lk, c6, hpi, ec, ep, hch, hpk⟩
  · exact ⟨-4, _, _, stX_lead_of (o_answered := cf 4 x.1.2.2.2.2) (by unfold sX9_lead; rw [z2, ob_d1 there0, if_neg (by decide), ob_d2 (tell4 _).1]), stM_lead_of (o_founds := cf 4 x.1.2.2.2.2) (by unfold sX12_lead; rw [z1, if_neg (by decide), ob_d2 (tell4 _).2, f0]), ⟨⟨rfl, f1, f2, f3⟩, hk, wn⟩⟩
  · obtain ⟨d1, d2, d3, d4, d5, d6⟩ := dx.1
    have th := there1 d1 d2
    rcases pt_or a1 a2 d2 d4 with ⟨p, q, hp, hq, ep1, eq1, g1⟩ | g1
    · rcases pt_or a3 a4 d2 d4 with ⟨p', q', hp', hq', ep2, eq2, g2⟩ | g2
      · by_cases hne : a1 = a3 ∧ a2 = a4
        · exact ⟨-2, _, _, stX_lead_of (o_answered := cf 2 x.1.2.2.2.2) (by unfold sX9_lead; rw [dx.2.1, dx.2.2.1, ob_d1 th, if_pos u1, ob_d1 g1, if_neg u1, ob_d1 g2, if_pos u1, if_neg (fun z => z hne.1), if_neg (fun z => z hne.2), ob_d2 (tell2 _).1]), stM_lead_of (o_founds := cf 2 x.1.2.2.2.2) (by unfold sX12_lead; rw [z1, dm.1, dm.2.1, isPt, if_pos u1, ob_d1 g1, if_neg u1, ob_d1 g2, if_pos u1, if_neg (fun z => z hne.1), if_neg (fun z => z hne.2), ob_d2 (tell2 _).2, f0]), ⟨⟨rfl, f1, f2, f3⟩, hk, wn⟩⟩
        · by_cases h14 : nl = 14
          · have l14 : ¬ nI nl < (14 : Int32) := by rw [h14]; decide
            have m14 : ¬ ¬ nI nl = (14 : Int32) := by rw [h14]; decide
            exact ⟨-3, _, _, stX_lead_of (o_answered := cf 3 x.1.2.2.2.2) (by
              unfold sX9_lead
              rw [dx.2.1, dx.2.2.1, dx.2.2.2.1, ob_d1 th, if_pos u1, ob_d1 g1, if_neg u1, ob_d1 g2, if_pos u1]
              by_cases z : a1 = a3
              · rw [if_neg (fun y => y z), if_pos (fun y => hne ⟨z, y⟩), ob_d1 (leads_ok nl), if_neg l14, ob_d2 (tell3 _).1]
              · rw [if_pos z, ob_d1 (leads_ok nl), if_neg l14, ob_d2 (tell3 _).1]), stM_lead_of (o_founds := cf 3 x.1.2.2.2.2) (by
              unfold sX12_lead
              rw [z1, dm.1, dm.2.1, dm.2.2.1, isPt, if_pos u1, ob_d1 g1, if_neg u1, ob_d1 g2, if_pos u1]
              by_cases z : a1 = a3
              · rw [if_neg (fun y => y z), if_pos (fun y => hne ⟨z, y⟩), if_neg m14, ob_d2 (tell3 _).2, f0]
              · rw [if_pos z, if_neg m14, ob_d2 (tell3 _).2, f0]), ⟨⟨rfl, f1, f2, f3⟩, hk, wn⟩⟩
          · subst ep1
            subst eq1
            subst ep2
            subst eq2
            have hD : Dr w h (nl + 1) (ldU ld nl (p, q, p', q')) := ⟨d1, d2, d3, d4, by omega, fun i hi => by
              unfold ldU
              by_cases z : i = nl
              · rw [if_pos z]
                refine ⟨⟨hp, hq, hp', hq'⟩, ?_⟩
                unfold lnN lnU lnV
                by_cases zz : p = p'
                · right
                  intro e
                  have e' : (q' : Int) - (q : Int) = 0 := e
                  exact hne ⟨by rw [zz], by rw [show q = q' by omega]⟩
                · left
                  intro e
                  have e' : (p' : Int) - (p : Int) = 0 := e
                  omega
              · rw [if_neg z]; exact d6 i (by omega)⟩
            have hA : ∀ k, k < nl + 1 + 4 → LnAt (upd x.2.1.2.2.2.1 (nl + 4) (nI p)) (upd x.2.1.2.2.2.2.1 (nl + 4) (nI q)) (upd x.2.1.2.2.2.2.2.1 (nl + 4) (nI p')) (upd x.2.1.2.2.2.2.2.2 (nl + 4) (nI q')) k (KX w h (ldU ld nl (p, q, p', q')) k) := by
              intro k hk
              by_cases z : k = nl + 4
              · subst z; rw [KX_l]; exact LnAt_s (p, q, p', q')
              · rw [KX_o _ (by omega)]
                exact LnAt_n z (dx.2.2.2.2 k (by omega)) _ _ _ _
            have hA' : ∀ k, k < nl + 1 → LnAt (upd y.2.1.2.2.2.2.2.2.1 nl (nI p)) (upd y.2.1.2.2.2.2.2.2.2.1 nl (nI q)) (upd y.2.1.2.2.2.2.2.2.2.2.1 nl (nI p')) (upd y.2.1.2.2.2.2.2.2.2.2.2.1 nl (nI q')) k (ldU ld nl (p, q, p', q') k) := by
              intro k hk
              unfold ldU
              by_cases z : k = nl
              · subst z; rw [if_pos rfl]; exact LnAt_s (p, q, p', q')
              · rw [if_neg z]; exact LnAt_n z (dm.2.2.2 k (by omega)) _ _ _ _
            have HB0 := redraw_both hD hA hA' x.1.1 x.2.2.2.2.2.2.2.2.2.2.1.1 x.2.2.2.2.2.2.2.2.2.2.1.2.2.1 x.2.2.2.2.2.2.2.2.2.2.1.2.2.2.1 x.2.2.2.2.2.2.2.2.2.2.1.2.1 x.2.2.2.2.2.2.2.2.2.2.1.2.2.2.2.2.2.2.2.2.2.2.2 x.2.2.2.2.2.2.2.2.2.2.1.2.2.2.2.2.1 x.2.2.2.2.2.2.2.2.2.2.1.2.2.2.2.1 x.2.2.2.2.2.2.1.1 x.2.2.2.2.2.2.1.2.2.2 x.2.2.2.2.2.2.1.2.1 x.2.2.2.2.2.2.1.2.2.1 x.2.2.2.2.2.2.2.1.1 x.2.2.2.2.2.2.2.1.2.2.2.2.1 x.2.2.2.2.2.2.2.1.2.2.2.2.2.2.1 x.2.2.2.2.2.2.2.1.2.2.2.2.2.1 x.2.2.2.2.2.2.2.1.2.1 x.2.2.2.2.2.2.2.1.2.2.2.2.2.2.2.2.2 x.2.2.2.2.2.2.2.1.2.2.2.2.2.2.2.2.1 x.2.2.2.2.2.2.2.1.2.2.2.2.2.2.2.1 x.2.2.2.2.2.2.2.1.2.2.1 x.2.2.2.2.2.2.2.1.2.2.2.1 x.2.2.2.2.2.2.2.2.1.1 x.2.2.2.2.2.2.2.2.1.2.1 x.2.2.2.2.2.2.2.2.1.2.2.2 x.2.2.2.2.2.2.2.2.1.2.2.1 y.1.2.1 y.1.2.2.1 y.1.2.2.2.1 y.1.2.2.2.2.2.2.2.2.2.1 y.1.2.2.2.2.2.2.2.2.2.2.1 y.1.2.2.2.2.2.2.2.1 y.1.2.2.2.2.2.2.2.2.1 y.2.1.2.2.2.1 y.2.1.2.2.2.2.1 y.2.1.2.2.2.2.2.1 y.2.1.2.2.2.2.2.2.2.2.2.2.2.2.1 y.2.1.2.2.2.2.2.2.2.2.2.2.2.2.2.2.2 y.2.1.2.2.2.2.2.2.2.2.2.2.2.2.2.1 y.2.1.2.2.2.2.2.2.2.2.2.2.2.2.2.2.1 y.2.1.2.2.2.2.2.2.2.2.2.2.1 y.2.1.2.2.2.2.2.2.2.2.2.2.2.1 y.1.2.2.2.2.2.2.1
            refine Exists.elim HB0 (fun m1 HB1 => ?_)
            refine Exists.elim HB1 (fun Q1 HB2 => ?_)
            refine Exists.elim HB2 (fun fm1 HB3 => ?_)
            refine Exists.elim HB3 (fun nv1 HB4 => ?_)
            refine Exists.elim HB4 (fun b1 HB5 => ?_)
            refine Exists.elim HB5 (fun np1 HB6 => ?_)
            refine Exists.elim HB6 (fun gs1 HB7 => ?_)
            refine Exists.elim HB7 (fun pn1 HB8 => ?_)
            refine Exists.elim HB8 (fun n2 HB9 => ?_)
            refine Exists.elim HB9 (fun u2 HB10 => ?_)
            refine Exists.elim HB10 (fun x2 HB11 => ?_)
            refine Exists.elim HB11 (fun y2 HB12 => ?_)
            refine Exists.elim HB12 (fun fw2 HB13 => ?_)
            refine Exists.elim HB13 (fun fe2 HB14 => ?_)
            refine Exists.elim HB14 (fun fs2 HB15 => ?_)
            refine Exists.elim HB15 (fun fr2 HB16 => ?_)
            refine Exists.elim HB16 (fun H2 HB17 => ?_)
            refine Exists.elim HB17 (fun L2 HB18 => ?_)
            refine Exists.elim HB18 (fun re2 HB19 => ?_)
            refine Exists.elim HB19 (fun to2 HB20 => ?_)
            refine Exists.elim HB20 (fun tn2 HB21 => ?_)
            refine Exists.elim HB21 (fun pa2 HB22 => ?_)
            refine Exists.elim HB22 (fun sa2 HB23 => ?_)
            refine Exists.elim HB23 (fun wa2 HB24 => ?_)
            refine Exists.elim HB24 (fun al2 HB25 => ?_)
            refine Exists.elim HB25 (fun co2 HB26 => ?_)
            refine Exists.elim HB26 (fun kd2 HB27 => ?_)
            refine Exists.elim HB27 (fun lb2 HB28 => ?_)
            refine Exists.elim HB28 (fun nH2 HB29 => ?_)
            refine Exists.elim HB29 (fun nL2 HB30 => ?_)
            refine Exists.elim HB30 (fun n3 HB31 => ?_)
            refine Exists.elim HB31 (fun al3 HB32 => ?_)
            refine Exists.elim HB32 (fun co3 HB33 => ?_)
            refine Exists.elim HB33 (fun fa3 HB34 => ?_)
            refine Exists.elim HB34 (fun kd3 HB35 => ?_)
            refine Exists.elim HB35 (fun X3 HB36 => ?_)
            refine Exists.elim HB36 (fun Y3 HB37 => ?_)
            refine Exists.elim HB37 (fun U3 HB38 => ?_)
            refine Exists.elim HB38 (fun V3 HB39 => ?_)
            refine Exists.elim HB39 (fun d3 HB40 => ?_)
            refine Exists.elim HB40 (fun gw3 HB41 => ?_)
            refine Exists.elim HB41 (fun gr3 HB42 => ?_)
            refine Exists.elim HB42 (fun gt3 HB43 => ?_)
            refine Exists.elim HB43 (fun x3 HB44 => ?_)
            refine Exists.elim HB44 (fun y3 HB45 => ?_)
            refine Exists.elim HB45 (fun pb3 HB46 => ?_)
            obtain ⟨q1, q2, hw2, sx2, sm2, ln3, gz2, lb0⟩ := HB46
            clear HB0 HB1 HB2 HB3 HB4 HB5 HB6 HB7 HB8 HB9 HB10 HB11 HB12 HB13 HB14 HB15 HB16 HB17 HB18 HB19 HB20 HB21 HB22 HB23 HB24 HB25 HB26 HB27 HB28 HB29 HB30 HB31 HB32 HB33 HB34 HB35 HB36 HB37 HB38 HB39 HB40 HB41 HB42 HB43 HB44 HB45
            have l14 : nI nl < (14 : Int32) := by rw [show (14 : Int32) = nI 14 from rfl, nI_ltS (by omega) (by omega)]; omega
            have m14 : ¬ nI nl = (14 : Int32) := by rw [show (14 : Int32) = nI 14 from rfl, nI_eqS (by omega) (by omega)]; exact h14
            have r1 := sX9_lead_go (s_answered := x.1.2.2.2.2) (a1 := nI p) (a2 := nI q) (a3 := nI p') (a4 := nI q') (s_drawing_width := x.2.1.1) (s_drawing_height := x.2.1.2.1) (s_drawing_lines := x.2.1.2.2.1) (s_drawing_u := x.2.1.2.2.2.2.2.1) (s_drawing_v := x.2.1.2.2.2.2.2.2) (s_drawing_x := x.2.1.2.2.2.1) (s_drawing_y := x.2.1.2.2.2.2.1) (by rw [dx.2.1]; exact th) (by rw [dx.2.1, dx.2.2.1]; exact g1) (by rw [dx.2.1, dx.2.2.1]; exact g2) hne (by rw [dx.2.2.2.1]; exact leads_ok nl) l14 (by rw [dx.2.2.2.1]; exact app_ok (by omega) _ _ _ _ _ _ _ _) q1 (leads_ok (nl + 1))
            have r2 := sX12_lead_go (s_isWindow := y.1.1) (s_founds := y.1.2.2.2.2.2.2.2.2.2.2.2.2.2.2.2.1) (a1 := nI p) (a2 := nI q) (a3 := nI p') (a4 := nI q') (s_now_w := y.2.1.1) (s_now_h := y.2.1.2.1) (s_now_leads := y.2.1.2.2.1) (s_now_ax := y.2.1.2.2.2.2.2.2.1) (s_now_ay := y.2.1.2.2.2.2.2.2.2.1) (s_now_bx := y.2.1.2.2.2.2.2.2.2.2.1) (s_now_by := y.2.1.2.2.2.2.2.2.2.2.2.1) dm.1 dm.2.1 dm.2.2.1 (by rw [z1]; exact u1) (by rw [isPt]; exact g1) (by rw [isPt]; exact g2) hne m14 (line_ok (by omega) _ _ _ _ _ _ _ _) (by rw [nl_1, nI_add]; exact q2)
            have rr : nI (nl + 1) - (1 : Int32) = nI nl := by rw [nl_1, pk_sub (by omega)]; rfl
            have rs : nI nl + (1 : Int32) = nI (nl + 1) := by rw [nl_1, nI_add]
            rw [rr] at r1
            rw [rs, rr] at r2
            exact ⟨nI nl, _, _, stX_lead_of r1, stM_lead_of r2, ⟨⟨f0, f1, f2, f3⟩, hk, Or.inr ⟨z1, w, h, nl + 1, ldU ld nl (p, q, p', q'), m1, Q1, fm1, nv1, b1, np1, gs1, pn1, n2, n3, 0, (fun _ => 0), ⟨hw2, ⟨hD, dx.2.1, dx.2.2.1, rfl, hA⟩, ⟨dm.1, dm.2.1, rfl, ln3⟩⟩, ⟨rfl, rfl, rfl, rfl, rfl, rfl, rfl⟩, sx2, sm2, gz2, lk_new lb0 _, by omega, (fun i hi => absurd hi (Nat.not_lt_zero _)), rfl, rfl, (fun i hi => absurd hi (Nat.not_lt_zero _)), (fun i hi => absurd hi (Nat.not_lt_zero _))⟩⟩⟩
      · exact ⟨-1, _, _, stX_lead_of (o_answered := cf 1 x.1.2.2.2.2) (by unfold sX9_lead; rw [dx.2.1, dx.2.2.1, ob_d1 th, if_pos u1, ob_d1 g1, if_neg u1, ob_d1 g2, if_neg (by decide), ob_d2 (tell1 _).1]), stM_lead_of (o_founds := cf 1 x.1.2.2.2.2) (by unfold sX12_lead; rw [z1, dm.1, dm.2.1, isPt, if_pos u1, ob_d1 g1, if_neg u1, ob_d1 g2, if_neg (by decide), ob_d2 (tell1 _).2, f0]), ⟨⟨rfl, f1, f2, f3⟩, hk, wn⟩⟩
    · exact ⟨-1, _, _, stX_lead_of (o_answered := cf 1 x.1.2.2.2.2) (by unfold sX9_lead; rw [dx.2.1, dx.2.2.1, ob_d1 th, if_pos u1, ob_d1 g1, if_pos rfl, ob_d2 (tell1 _).1]), stM_lead_of (o_founds := cf 1 x.1.2.2.2.2) (by unfold sX12_lead; rw [z1, dm.1, dm.2.1, isPt, if_pos u1, ob_d1 g1, if_pos rfl, ob_d2 (tell1 _).2, f0]), ⟨⟨rfl, f1, f2, f3⟩, hk, wn⟩⟩
theorem step_undo (n : Nat) (x : SX) (y : SM) (hr : Rel (n + 1) x y) : ∃ (r : Int32) (x' : SX) (y' : SM), stX_undo x = some (r, x') ∧ stM_undo y = some (r, y') ∧ Rel n x' y' := by
  obtain ⟨⟨f0, f1, f2, f3⟩, hk, wn⟩ := hr
  have u1 : ¬ (1 : Int32) = 0 := by decide
  rcases id wn with ⟨z1, z2⟩ | ⟨z1, w, h, nl, ld, m, Q, fm, nv, a, np, gs, pn, n1, n', c, pi, ⟨hw, dx, dm⟩, ⟨e1, e2, e3, e4, e5, e6, e7⟩, sx, sm, gz, lk, c6, hpi, ec, ep, hch, hpk⟩
  · exact ⟨-4, _, _, stX_undo_of (o_answered := cf 4 x.1.2.2.2.2) (by unfold sX9_undo; rw [z2, ob_d1 there0, if_pos rfl, ob_d2 (tell4 _).1]), stM_undo_of (o_founds := cf 4 x.1.2.2.2.2) (by unfold sX12_undo; rw [z1, if_pos rfl, ob_d2 (tell4 _).2, f0]), ⟨⟨rfl, f1, f2, f3⟩, hk, wn⟩⟩
  · obtain ⟨d1, d2, d3, d4, d5, d6⟩ := dx.1
    have th := there1 d1 d2
    cases nl with
    | zero =>
      exact ⟨-4, _, _, stX_undo_of (o_answered := cf 4 x.1.2.2.2.2) (by unfold sX9_undo; rw [dx.2.1, dx.2.2.2.1, ob_d1 th, if_neg u1, ob_d1 (leads_ok 0), if_neg (by decide), ob_d2 (tell4 _).1]), stM_undo_of (o_founds := cf 4 x.1.2.2.2.2) (by unfold sX12_undo; rw [z1, dm.2.2.1, if_neg u1, if_neg (by decide), ob_d2 (tell4 _).2, f0]), ⟨⟨rfl, f1, f2, f3⟩, hk, wn⟩⟩
    | succ nl =>
      have hD : Dr w h nl ld := ⟨d1, d2, d3, d4, by omega, fun i hi => d6 i (by omega)⟩
      have hA : ∀ k, k < nl + 4 → LnAt x.2.1.2.2.2.1 x.2.1.2.2.2.2.1 x.2.1.2.2.2.2.2.1 x.2.1.2.2.2.2.2.2 k (KX w h ld k) := fun k hk => dx.2.2.2.2 k (by omega)
      have hA' : ∀ k, k < nl → LnAt y.2.1.2.2.2.2.2.2.1 y.2.1.2.2.2.2.2.2.2.1 y.2.1.2.2.2.2.2.2.2.2.1 y.2.1.2.2.2.2.2.2.2.2.2.1 k (ld k) := fun k hk => dm.2.2.2 k (by omega)
      have HB0 := redraw_both hD hA hA' x.1.1 x.2.2.2.2.2.2.2.2.2.2.1.1 x.2.2.2.2.2.2.2.2.2.2.1.2.2.1 x.2.2.2.2.2.2.2.2.2.2.1.2.2.2.1 x.2.2.2.2.2.2.2.2.2.2.1.2.1 x.2.2.2.2.2.2.2.2.2.2.1.2.2.2.2.2.2.2.2.2.2.2.2 x.2.2.2.2.2.2.2.2.2.2.1.2.2.2.2.2.1 x.2.2.2.2.2.2.2.2.2.2.1.2.2.2.2.1 x.2.2.2.2.2.2.1.1 x.2.2.2.2.2.2.1.2.2.2 x.2.2.2.2.2.2.1.2.1 x.2.2.2.2.2.2.1.2.2.1 x.2.2.2.2.2.2.2.1.1 x.2.2.2.2.2.2.2.1.2.2.2.2.1 x.2.2.2.2.2.2.2.1.2.2.2.2.2.2.1 x.2.2.2.2.2.2.2.1.2.2.2.2.2.1 x.2.2.2.2.2.2.2.1.2.1 x.2.2.2.2.2.2.2.1.2.2.2.2.2.2.2.2.2 x.2.2.2.2.2.2.2.1.2.2.2.2.2.2.2.2.1 x.2.2.2.2.2.2.2.1.2.2.2.2.2.2.2.1 x.2.2.2.2.2.2.2.1.2.2.1 x.2.2.2.2.2.2.2.1.2.2.2.1 x.2.2.2.2.2.2.2.2.1.1 x.2.2.2.2.2.2.2.2.1.2.1 x.2.2.2.2.2.2.2.2.1.2.2.2 x.2.2.2.2.2.2.2.2.1.2.2.1 y.1.2.1 y.1.2.2.1 y.1.2.2.2.1 y.1.2.2.2.2.2.2.2.2.2.1 y.1.2.2.2.2.2.2.2.2.2.2.1 y.1.2.2.2.2.2.2.2.1 y.1.2.2.2.2.2.2.2.2.1 y.2.1.2.2.2.1 y.2.1.2.2.2.2.1 y.2.1.2.2.2.2.2.1 y.2.1.2.2.2.2.2.2.2.2.2.2.2.2.1 y.2.1.2.2.2.2.2.2.2.2.2.2.2.2.2.2.2 y.2.1.2.2.2.2.2.2.2.2.2.2.2.2.2.1 y.2.1.2.2.2.2.2.2.2.2.2.2.2.2.2.2.1 y.2.1.2.2.2.2.2.2.2.2.2.2.1 y.2.1.2.2.2.2.2.2.2.2.2.2.2.1 y.1.2.2.2.2.2.2.1
      refine Exists.elim HB0 (fun m1 HB1 => ?_)
      refine Exists.elim HB1 (fun Q1 HB2 => ?_)
      refine Exists.elim HB2 (fun fm1 HB3 => ?_)
      refine Exists.elim HB3 (fun nv1 HB4 => ?_)
      refine Exists.elim HB4 (fun b1 HB5 => ?_)
      refine Exists.elim HB5 (fun np1 HB6 => ?_)
      refine Exists.elim HB6 (fun gs1 HB7 => ?_)
      refine Exists.elim HB7 (fun pn1 HB8 => ?_)
      refine Exists.elim HB8 (fun n2 HB9 => ?_)
      refine Exists.elim HB9 (fun u2 HB10 => ?_)
      refine Exists.elim HB10 (fun x2 HB11 => ?_)
      refine Exists.elim HB11 (fun y2 HB12 => ?_)
      refine Exists.elim HB12 (fun fw2 HB13 => ?_)
      refine Exists.elim HB13 (fun fe2 HB14 => ?_)
      refine Exists.elim HB14 (fun fs2 HB15 => ?_)
      refine Exists.elim HB15 (fun fr2 HB16 => ?_)
      refine Exists.elim HB16 (fun H2 HB17 => ?_)
      refine Exists.elim HB17 (fun L2 HB18 => ?_)
      refine Exists.elim HB18 (fun re2 HB19 => ?_)
      refine Exists.elim HB19 (fun to2 HB20 => ?_)
      refine Exists.elim HB20 (fun tn2 HB21 => ?_)
      refine Exists.elim HB21 (fun pa2 HB22 => ?_)
      refine Exists.elim HB22 (fun sa2 HB23 => ?_)
      refine Exists.elim HB23 (fun wa2 HB24 => ?_)
      refine Exists.elim HB24 (fun al2 HB25 => ?_)
      refine Exists.elim HB25 (fun co2 HB26 => ?_)
      refine Exists.elim HB26 (fun kd2 HB27 => ?_)
      refine Exists.elim HB27 (fun lb2 HB28 => ?_)
      refine Exists.elim HB28 (fun nH2 HB29 => ?_)
      refine Exists.elim HB29 (fun nL2 HB30 => ?_)
      refine Exists.elim HB30 (fun n3 HB31 => ?_)
      refine Exists.elim HB31 (fun al3 HB32 => ?_)
      refine Exists.elim HB32 (fun co3 HB33 => ?_)
      refine Exists.elim HB33 (fun fa3 HB34 => ?_)
      refine Exists.elim HB34 (fun kd3 HB35 => ?_)
      refine Exists.elim HB35 (fun X3 HB36 => ?_)
      refine Exists.elim HB36 (fun Y3 HB37 => ?_)
      refine Exists.elim HB37 (fun U3 HB38 => ?_)
      refine Exists.elim HB38 (fun V3 HB39 => ?_)
      refine Exists.elim HB39 (fun d3 HB40 => ?_)
      refine Exists.elim HB40 (fun gw3 HB41 => ?_)
      refine Exists.elim HB41 (fun gr3 HB42 => ?_)
      refine Exists.elim HB42 (fun gt3 HB43 => ?_)
      refine Exists.elim HB43 (fun x3 HB44 => ?_)
      refine Exists.elim HB44 (fun y3 HB45 => ?_)
      refine Exists.elim HB45 (fun pb3 HB46 => ?_)
      obtain ⟨q1, q2, hw2, sx2, sm2, ln3, gz2, lb0⟩ := HB46
      clear HB0 HB1 HB2 HB3 HB4 HB5 HB6 HB7 HB8 HB9 HB10 HB11 HB12 HB13 HB14 HB15 HB16 HB17 HB18 HB19 HB20 HB21 HB22 HB23 HB24 HB25 HB26 HB27 HB28 HB29 HB30 HB31 HB32 HB33 HB34 HB35 HB36 HB37 HB38 HB39 HB40 HB41 HB42 HB43 HB44 HB45
      have n0 : ¬ nI (nl + 1) = 0 := by rw [nl_0, nI_eqS (by omega) (by omega)]; omega
      have dl : sX1_dropLatest (nI (nl + 1 + 4)) = some (nI (nl + 4)) := by
        unfold sX1_dropLatest
        rw [if_neg (by rw [show (4 : Int32) = nI 4 from rfl, nI_leS (by omega) (by omega)]; omega), lt_v, nl_1, pk_sub (by omega)]
        rfl
      have rr : nI (nl + 1) - (1 : Int32) = nI nl := by rw [nl_1, pk_sub (by omega)]; rfl
      have r1 := sX9_undo_go (s_answered := x.1.2.2.2.2) (s_drawing_width := x.2.1.1) (s_drawing_lines := x.2.1.2.2.1) (by rw [dx.2.1]; exact th) (by rw [dx.2.2.2.1]; exact leads_ok (nl + 1)) n0 (by rw [dx.2.2.2.1]; exact dl) q1 (leads_ok nl)
      have r2 := sX12_undo_go (s_isWindow := y.1.1) (s_founds := y.1.2.2.2.2.2.2.2.2.2.2.2.2.2.2.2.1) (s_now_w := y.2.1.1) (s_now_h := y.2.1.2.1) (s_now_leads := y.2.1.2.2.1) dm.1 dm.2.1 dm.2.2.1 (by rw [z1]; exact u1) n0 (by rw [rr]; exact q2)
      rw [rr] at r2
      exact ⟨nI nl, _, _, stX_undo_of r1, stM_undo_of r2, ⟨⟨f0, f1, f2, f3⟩, hk, Or.inr ⟨z1, w, h, nl, ld, m1, Q1, fm1, nv1, b1, np1, gs1, pn1, n2, n3, 0, (fun _ => 0), ⟨hw2, ⟨hD, dx.2.1, dx.2.2.1, rfl, hA⟩, ⟨dm.1, dm.2.1, rfl, ln3⟩⟩, ⟨rfl, rfl, rfl, rfl, rfl, rfl, rfl⟩, sx2, sm2, gz2, lk_new lb0 _, by omega, (fun i hi => absurd hi (Nat.not_lt_zero _)), rfl, rfl, (fun i hi => absurd hi (Nat.not_lt_zero _)), (fun i hi => absurd hi (Nat.not_lt_zero _))⟩⟩⟩
