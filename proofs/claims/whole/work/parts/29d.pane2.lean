/-! pane, area, at -/
theorem pane_q {w h nl : Nat} {ld : Nat → Ln} {m : Nat} {Q : Nat → Pt3} {fm : Nat → Nat → Bool} {nv : Nat → Nat → Nat} {a np : Nat} {gs : Nat → St} {pn : Nat → Nat → Option Nat} {n : Nat} {u x y fw fe fs fr to tn pa sa wa : Nat → Int32} {n' : Nat} {d x2 y2 : Nat → Int64} {gw gr gt pb fa : Nat → Int32} (hw : Wd w h nl ld m Q fm nv a np gs pn) (hx : SdX w h nl ld m Q fm nv a np gs pn n u x y fw fe fs fr to tn pa sa wa) (hm : SdM w h nl ld m Q fm nv a np gs pn n' d x2 y2 gw gr gt pb fa) {al co kd al' co' kd' : Nat → Int32} (ha : ∀ p, p < np → al p = al' p) (hc : ∀ p, p < np → co p = co' p) (hk : ∀ p, p < np → kd p = kd' p) (f : Nat → Int32) (a1 a2 : Int32) : ∃ r g, sX9_pane a1 a2 f (nI w) al co kd u x y fr tn (nI np) pa sa wa = some (r, g) ∧ sX12_pane a1 a2 1 (nI np) al' co' fa f kd' (nI n') d gw gr gt x2 y2 pb = some (r, g) := by
  obtain ⟨w1, w2, w3, w4, w5, w6⟩ := id hw
  have dr := w1.1
  have th := there1 dr.1 dr.2.1
  unfold sX9_pane
  rw [ob_s th]
  unfold sX12_pane
  rw [if_neg (show ¬ (1 : Int32) = 0 by decide)]
  rcases nI_or a1 np (by omega) with ⟨p, hp, e⟩ | ho
  · subst e
    obtain ⟨_, _, h1, h2⟩ := hasJ (m := np) (by omega) hp
    show ∃ r g, ob (sX9_hasPane (nI p) (nI np)) _ = some (r, g) ∧ ob (sX12_isPane (nI p) (nI np)) _ = some (r, g)
    rw [ob_s h1, ob_s h2]
    rcases nI_or a2 10 (by omega) with ⟨k, hk', e⟩ | h6
    · subst e
      obtain ⟨ia, ca⟩ := ix_c (i := p) (n := 128) (by omega) (by omega)
      obtain ⟨ib, cb⟩ := ix_c (i := p) (n := 160) (by omega) (by omega)
      have : k = 0 ∨ k = 1 ∨ k = 2 ∨ k = 3 ∨ k = 4 ∨ k = 5 ∨ k = 6 ∨ k = 7 ∨ k = 8 ∨ k = 9 := by omega
      obtain ⟨K, l, b, W, H, _, _, _, _, _, b1, b2, b3, b4, b5, b6, b7, b8⟩ := box_q hw hx hm hp
      rcases this with e | e | e | e | e | e | e | e | e | e <;> subst e
      · obtain ⟨K, K0, K6, c1, c2, _⟩ := corn_q hw hx hm hp
        refine ⟨nI K, f, ?_, ?_⟩
        · show ob (sX7_corners (nI p) sa) _ = _
          rw [ob_s c1]; rfl
        · show ob (sX12_corners (nI p) fa (nI n') d gw gr gt x2 y2) _ = _
          rw [ob_s c2]; rfl
      · refine ⟨nI l, f, ?_, ?_⟩
        · show ob (sX7_boxLeft (nI p) u x fr sa wa) _ = _
          rw [ob_s b1]; rfl
        · show ob (sX12_side (nI p) (1 : Int32) (0 : Int32) fa (nI n') d gw gr gt x2 y2) _ = _
          rw [ob_s b2]; rfl
      · refine ⟨nI b, f, ?_, ?_⟩
        · show ob (sX7_boxBottom (nI p) u y fr sa wa) _ = _
          rw [ob_s b3]; rfl
        · show ob (sX12_side (nI p) (0 : Int32) (0 : Int32) fa (nI n') d gw gr gt x2 y2) _ = _
          rw [ob_s b4]; rfl
      · refine ⟨nI W, f, ?_, ?_⟩
        · show ob (sX7_boxWidth (nI p) u x fr sa wa) _ = _
          rw [ob_s b5]; rfl
        · show ob (sX12_wide (nI p) fa (nI n') d gw gr gt x2 y2) _ = _
          rw [ob_s b6]; rfl
      · refine ⟨nI H, f, ?_, ?_⟩
        · show ob (sX7_boxHeight (nI p) u y fr sa wa) _ = _
          rw [ob_s b7]; rfl
        · show ob (sX12_tall (nI p) fa (nI n') d gw gr gt x2 y2) _ = _
          rw [ob_s b8]; rfl
      · refine ⟨kd p, f, ?_, ?_⟩
        · show gd (¬ (nI p < 0 ∨ 128 ≤ (nI p).toNatClampNeg)) (some (kd (nI p).toNatClampNeg, f)) = _
          rw [gd_s ia, ca]
        · show gd (¬ (nI p < 0 ∨ 160 ≤ (nI p).toNatClampNeg)) (some (kd' (nI p).toNatClampNeg, f)) = _
          rw [gd_s ib, cb, hk p hp]
      · refine ⟨al p, f, ?_, ?_⟩
        · show gd (¬ (nI p < 0 ∨ 128 ≤ (nI p).toNatClampNeg)) (some (al (nI p).toNatClampNeg, f)) = _
          rw [gd_s ia, ca]
        · show gd (¬ (nI p < 0 ∨ 160 ≤ (nI p).toNatClampNeg)) (some (al' (nI p).toNatClampNeg, f)) = _
          rw [gd_s ib, cb, ha p hp]
      · refine ⟨co p, f, ?_, ?_⟩
        · show gd (¬ (nI p < 0 ∨ 128 ≤ (nI p).toNatClampNeg)) (some (co (nI p).toNatClampNeg, f)) = _
          rw [gd_s ia, ca]
        · show gd (¬ (nI p < 0 ∨ 160 ≤ (nI p).toNatClampNeg)) (some (co' (nI p).toNatClampNeg, f)) = _
          rw [gd_s ib, cb, hc p hp]
      · obtain ⟨r, _, r2, r3⟩ := oth_one hw hx hm hp
        refine ⟨nI r, f, ?_, ?_⟩
        · show ob (sX7_touchesOthers (nI p) pa tn sa wa) _ = _
          rw [ob_s r2]; rfl
        · show ob (iter (bX12_pane_156 (nI p) (nI np) (nI n') gw pb) FU ((0 : Int32), (0 : Int32))) _ = _
          rw [ob_s r3]; rfl
      · obtain ⟨r, _, r2, r3, _⟩ := tou_one hw hx hm hp hp
        refine ⟨nI r, f, ?_, ?_⟩
        · show ob (sX7_touches (nI p) (nI p) pa tn sa wa) _ = _
          rw [ob_s r2]; rfl
        · show ob (sX12_touched (nI p) (nI p) (nI n') gw pb) _ = _
          rw [ob_s r3]; rfl
    · refine ⟨-1, cf 1 f, ?_, ?_⟩
      · show (if a2 = 0 then _ else if a2 = 1 then _ else if a2 = 2 then _ else if a2 = 3 then _ else if a2 = 4 then _ else if a2 = 5 then _ else if a2 = 6 then _ else if a2 = 7 then _ else if a2 = 8 then _ else if a2 = 9 then _ else _) = _
        rw [if_neg (ne_out h6 (k := 0) (b := 0) (by omega) (by omega) rfl), if_neg (ne_out h6 (k := 1) (b := 1) (by omega) (by omega) rfl), if_neg (ne_out h6 (k := 2) (b := 2) (by omega) (by omega) rfl), if_neg (ne_out h6 (k := 3) (b := 3) (by omega) (by omega) rfl), if_neg (ne_out h6 (k := 4) (b := 4) (by omega) (by omega) rfl), if_neg (ne_out h6 (k := 5) (b := 5) (by omega) (by omega) rfl), if_neg (ne_out h6 (k := 6) (b := 6) (by omega) (by omega) rfl), if_neg (ne_out h6 (k := 7) (b := 7) (by omega) (by omega) rfl), if_neg (ne_out h6 (k := 8) (b := 8) (by omega) (by omega) rfl), if_neg (ne_out h6 (k := 9) (b := 9) (by omega) (by omega) rfl)]
        rfl
      · show (if a2 < 0 then _ else if a2 ≤ (9 : Int32) then _ else _) = _
        by_cases z : a2 < 0
        · rw [if_pos z]; rfl
        · rw [if_neg z, if_neg (le_out h6 z (k := 9) (b := 9) (by omega) (by omega) rfl)]; rfl
  · obtain ⟨_, _, h1, h2⟩ := hasN ho
    refine ⟨-1, cf 1 f, ?_, ?_⟩
    · show ob (sX9_hasPane a1 (nI np)) _ = _
      rw [ob_s h1]; rfl
    · rw [ob_s h2]; rfl
theorem area_q {w h nl : Nat} {ld : Nat → Ln} {m : Nat} {Q : Nat → Pt3} {fm : Nat → Nat → Bool} {nv : Nat → Nat → Nat} {a np : Nat} {gs : Nat → St} {pn : Nat → Nat → Option Nat} {n : Nat} {u x y fw fe fs fr to tn pa sa wa : Nat → Int32} {n' : Nat} {d x2 y2 : Nat → Int64} {gw gr gt pb fa : Nat → Int32} (hw : Wd w h nl ld m Q fm nv a np gs pn) (hx : SdX w h nl ld m Q fm nv a np gs pn n u x y fw fe fs fr to tn pa sa wa) (hm : SdM w h nl ld m Q fm nv a np gs pn n' d x2 y2 gw gr gt pb fa) (f : Nat → Int32) (o1 : Int64) (o2 : Int32) (o3 : Nat → Int64) (ml : Int32) (md : Nat → Int32) (pl : Int32) (pd : Nat → Int32) (ul : Int32) (ud : Nat → Int32) (wl : Int32) (wd : Nat → Int32) (a1 : Int32) : ∃ (r : Int64) (g : Nat → Int32) (o1' : Int64) (o2' : Int32) (o3' : Nat → Int64) (ml' : Int32) (md' : Nat → Int32) (pl' : Int32) (pd' : Nat → Int32) (ul' : Int32) (ud' : Nat → Int32) (wl' : Int32) (wd' : Nat → Int32), sX9_area a1 f (nI w) u x y fr to (nI np) sa o1 o2 o3 wa = some (r, g, o1', o2', o3') ∧ sX12_area a1 1 (nI np) fa f ml md (nI n') d gw gr gt x2 y2 pl pd ul ud wl wd = some (r, g, ml', md', pl', pd', ul', ud', wl', wd') := by
  obtain ⟨F, T, fi, tw, st, wk, x1, x2', x3, x4⟩ := hx
  obtain ⟨A, B, cs, m1, m2, m3, m4⟩ := hm
  obtain ⟨w1, w2, ⟨b, b1, b2, b3, b4⟩, w4, w5, w6⟩ := hw
  have dr := w1.1
  have th := there1 dr.1 dr.2.1
  rcases nI_or a1 np (by omega) with ⟨p, hp, e⟩ | ho
  · subst e
    obtain ⟨_, _, h1, h2⟩ := hasJ (m := np) (by omega) hp
    obtain ⟨K, hK, r, r1, r2, ml', md', pl', pd', ul', ud', wl', wd', r3⟩ := marea_ok w1 w2 b1 b2 b3 b4 m2 m1 w4 m4 hp (w5.1 p hp).1 (w5.1 p hp).2.1 (show ¬ (1 : Int32) = 0 by decide) f ml md pl pd ul ud wl wd
    obtain ⟨K', p1, p2, p3, hK', r4⟩ := millX_ok w1 (x2'.2.2.2.2.2.2.2) x2'.2.1 x2'.2.2.1 (fun k hk => ⟨(x2'.1.1 k hk).1, (x2'.1.1 k hk).2.1⟩) x1 w4 x4 hp o1 o2 o3
    have eK := Per_one hK hK'
    subst eK
    rw [← r2, lz_n] at r4
    refine ⟨lN r, f, p1, p2, p3, ml', md', pl', pd', ul', ud', wl', wd', ?_, r3⟩
    unfold sX9_area
    rw [ob_s th]
    simp only [dm1]
    rw [if_pos (show ¬ (1 : Int32) = 0 by decide), ob_s h1, if_pos (show ¬ (1 : Int32) = 0 by decide), ob_s r4]
    rfl
  · obtain ⟨_, _, h1, h2⟩ := hasN ho
    refine ⟨(-1 : Int32).toInt64, cf 1 f, o1, o2, o3, ml, md, pl, pd, ul, ud, wl, wd, ?_, ?_⟩
    · unfold sX9_area
      rw [ob_s th]
      show ob (sX9_hasPane a1 (nI np)) _ = _
      rw [ob_s h1]; rfl
    · unfold sX12_area
      rw [if_neg (show ¬ (1 : Int32) = 0 by decide), ob_s h2]; rfl
theorem at_q {w h nl : Nat} {ld : Nat → Ln} {m : Nat} {Q : Nat → Pt3} {fm : Nat → Nat → Bool} {nv : Nat → Nat → Nat} {a np : Nat} {gs : Nat → St} {pn : Nat → Nat → Option Nat} {n : Nat} {u x y fw fe fs fr to tn pa sa wa : Nat → Int32} {n' : Nat} {d x2 y2 : Nat → Int64} {gw gr gt pb fa : Nat → Int32} (hw : Wd w h nl ld m Q fm nv a np gs pn) (hx : SdX w h nl ld m Q fm nv a np gs pn n u x y fw fe fs fr to tn pa sa wa) (hm : SdM w h nl ld m Q fm nv a np gs pn n' d x2 y2 gw gr gt pb fa) (f : Nat → Int32) (a1 a2 : Int32) : ∃ (r : Int32) (g u' x' y' : Nat → Int32), sX9_at a1 a2 f (nI w) (nI h) u x y (nI n) fw fr to (nI np) sa wa = some (r, g, u', x', y') ∧ SdX w h nl ld m Q fm nv a np gs pn n u' x' y' fw fe fs fr to tn pa sa wa ∧ sX12_at a1 a2 1 fa f (nI w) (nI h) (nI n') d gw gr gt x2 y2 = some (r, g) := by
  obtain ⟨F, T, fi, tw, st, wk, x1, x2', x3, x4⟩ := id hx
  obtain ⟨A, B, cs, m1, m2, m3, m4⟩ := id hm
  obtain ⟨w1, w2, ⟨b, b1, b2, b3, b4⟩, w4, w5, w6⟩ := id hw
  have dr := w1.1
  have th := there1 dr.1 dr.2.1
  obtain ⟨d1, d2, d3, d4, _⟩ := dr
  have ew : (2 : Int32) * nI w = nI (2 * w) := by rw [nl_2, nI_mul]
  have eh : (2 : Int32) * nI h = nI (2 * h) := by rw [nl_2, nI_mul]
  unfold sX9_at
  rw [ob_s th]
  unfold sX12_at
  rw [if_neg (show ¬ (1 : Int32) = 0 by decide), ew, eh]
  show ∃ (r : Int32) (g u' x' y' : Nat → Int32), (if a1 ≤ 0 then _ else if a2 ≤ 0 then _ else if nI (2 * w) ≤ a1 then _ else if a2 < nI (2 * h) then _ else _) = some (r, g, u', x', y') ∧ SdX w h nl ld m Q fm nv a np gs pn n u' x' y' fw fe fs fr to tn pa sa wa ∧ (if a1 ≤ 0 then _ else if a2 ≤ 0 then _ else if nI (2 * w) ≤ a1 then _ else if a2 < nI (2 * h) then _ else _) = some (r, g)
  by_cases y1 : a1 ≤ 0
  · rw [if_pos y1, if_pos y1]
    exact ⟨-1, cf 1 f, u, x, y, rfl, hx, rfl⟩
  rw [if_neg y1, if_neg y1]
  by_cases y2' : a2 ≤ 0
  · rw [if_pos y2', if_pos y2']
    exact ⟨-1, cf 1 f, u, x, y, rfl, hx, rfl⟩
  rw [if_neg y2', if_neg y2']
  by_cases y3 : nI (2 * w) ≤ a1
  · rw [if_pos y3, if_pos y3]
    exact ⟨-1, cf 1 f, u, x, y, rfl, hx, rfl⟩
  rw [if_neg y3, if_neg y3]
  by_cases y4 : a2 < nI (2 * h)
  · rw [if_pos y4, if_pos y4]
    have n1 : ¬ a1 < 0 := fun z => y1 (Int32.le_of_lt z)
    have n2 : ¬ a2 < 0 := fun z => y2' (Int32.le_of_lt z)
    obtain ⟨qx, hqx, e1⟩ := nI_of n1
    obtain ⟨qy, hqy, e2⟩ := nI_of n2
    subst e1
    subst e2
    rw [nl_0, nI_leS (by omega) (by omega)] at y1 y2'
    rw [nI_leS (by omega) (by omega)] at y3
    rw [nI_ltS (by omega) (by omega)] at y4
    have hq : inQ w h (qx, qy, 2) := ⟨rfl, (by show 0 < qx; omega), (by show qx < 2 * w; omega), (by show 0 < qy; omega), y4⟩
    obtain ⟨r, u', x', y', a1, a2, a3, a4⟩ := aroundX_ok w1 w2 x2' x1 b1 b2 b3 b4 w4 w5 x4 hq
    have sd : SdX w h nl ld m Q fm nv a np gs pn n u' x' y' fw fe fs fr to tn pa sa wa := ⟨F, T, fi, tw, st, wk, a2, x2', x3, x4⟩
    rcases mat1_ok w1 m2 m1 hq with ⟨o1, v, o2⟩ | ⟨o1, v, o2⟩
    · have er := a3 o1
      subst er
      refine ⟨-7, cf 7 f, u', x', y', ?_, sd, ?_⟩
      · rw [ob_s a1]; rfl
      · rw [ob_s o2]; rfl
    · obtain ⟨p, p1, p2, p3⟩ := a4 o1
      subst p1
      have k2 := mat2_ok w1 w2 m2 m1 w4 m4 (fun p hp => (w5.1 p hp).1) hq p2 p3
      refine ⟨nI p, f, u', x', y', ?_, sd, ?_⟩
      · rw [ob_s a1]
        show (if 0 ≤ nI p then some (nI p, f, u', x', y') else _) = _
        rw [if_pos (by rw [nl_0, nI_leS (by omega) (by omega)]; omega)]
      · rw [ob_s o2]
        show ob (iter (bX12_at_111 (nI qx) (nI qy) fa (nI n') d gw gr gt x2 y2) FU (0 : Int32)) _ = _
        rw [ob_s k2]
        rfl
  · rw [if_neg y4, if_neg y4]
    exact ⟨-1, cf 1 f, u, x, y, rfl, hx, rfl⟩
