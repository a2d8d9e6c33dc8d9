/-! a drawing laid anew: class and reference -/
def LkR (np : Nat) (lb : Nat → Int32) (hl : Int32) (lk : Nat → Int32) : Prop := (hl = 0 ∧ ∀ p, p < 128 → lb p = 0) ∨ (hl = 1 ∧ ∃ L : Nat → Bool, (∀ p, p < 128 → lb p = bI (L p && decide (p < np))) ∧ ∀ p, p < np → lk p = bI (L p))
def Gz (np : Nat) (pn : Nat → Nat → Option Nat) (al co kd : Nat → Int32) (nH nL : Nat → Int64) (al2 co2 kd2 : Nat → Int32) : Prop := (∀ p, p < np → al p = al2 p ∧ co p = co2 p ∧ kd p = kd2 p ∧ ∃ k, k ≤ 2 ∧ kd p = nI k) ∧ ∀ p q, p < np → q < 128 → bt nH nL p q = tB pn p q
theorem PaM_gs {nv : Nat → Nat → Nat} {o : St} {n : Nat} {A B : Nat → Nat} {np : Nat} {gs gs' : Nat → St} {pa : Nat → Int32} (h : PaM nv o n A B np gs' pa) (e : ∀ p, p < np → gs p = gs' p) : PaM nv o n A B np gs pa := fun c hc => ⟨(h c hc).1, fun p hp ho => (h c hc).2 p hp (by rw [← e p hp]; exact ho)⟩
theorem FsM_gs {n : Nat} {A B : Nat → Nat} {np : Nat} {gs gs' : Nat → St} {cs : Nat → Nat} {fa : Nat → Int32} (h : FsM n A B np gs' cs fa) (e : ∀ p, p < np → gs p = gs' p) : FsM n A B np gs cs fa := fun p hp => ⟨(h p hp).1, (h p hp).2.1, by rw [e p hp]; exact (h p hp).2.2⟩
theorem redraw_both {w h nl : Nat} {ld : Nat → Ln} (hD : Dr w h nl ld) {X Y U V : Nat → Int32} (hA : ∀ k, k < nl + 4 → LnAt X Y U V k (KX w h ld k)) {X' Y' U' V' : Nat → Int32} (hA' : ∀ k, k < nl → LnAt X' Y' U' V' k (ld k)) (ct gt0 : Int32) (al co kd lb : Nat → Int32) (nH nL : Nat → Int64) (tot : Int32) (u x y : Nat → Int32) (st : Int32) (fw fe fs fr : Nat → Int32) (H L : Nat → Int64) (re to tn : Nat → Int32) (pt : Int32) (pa sa wa : Nat → Int32) (pt2 pk hl : Int32) (al2 co2 fa kd2 : Nat → Int32) (li jo pi : Int32) (d : Nat → Int64) (gw gr gt : Nat → Int32) (x2 y2 : Nat → Int64) (pb : Nat → Int32) :
    ∃ (m : Nat) (Q : Nat → Pt3) (fm : Nat → Nat → Bool) (nv : Nat → Nat → Nat) (a np : Nat) (gs : Nat → St) (pn : Nat → Nat → Option Nat) (n : Nat) (u1 x1 y1 fw1 fe1 fs1 fr1 : Nat → Int32) (H1 L1 : Nat → Int64) (re1 to1 tn1 pa1 sa1 wa1 al1 co1 kd1 lb1 : Nat → Int32) (nH1 nL1 : Nat → Int64) (n' : Nat) (al3 co3 fa3 kd3 X3 Y3 U3 V3 : Nat → Int32) (d3 : Nat → Int64) (gw3 gr3 gt3 : Nat → Int32) (x3 y3 : Nat → Int64) (pb3 : Nat → Int32),
      sX9_redraw ct (nI (nl + 4)) U V X Y gt0 al co kd lb nH nL tot u x y st fw fe fs fr H L re to tn pt pa sa wa = some (0, nI np, al1, co1, kd1, lb1, nH1, nL1, nI m, u1, x1, y1, nI n, fw1, fe1, fs1, fr1, H1, L1, re1, to1, tn1, nI np, pa1, sa1, wa1) ∧
      sX12_arrange pt2 pk hl al2 co2 fa kd2 (nI w) (nI h) (nI nl) li jo pi X' Y' U' V' d gw gr gt x2 y2 pb = some (nI np, 0, 0, al3, co3, fa3, kd3, nI (nl + 4), nI m, nI n', X3, Y3, U3, V3, d3, gw3, gr3, gt3, x3, y3, pb3) ∧
      Wd w h nl ld m Q fm nv a np gs pn ∧ SdX w h nl ld m Q fm nv a np gs pn n u1 x1 y1 fw1 fe1 fs1 fr1 to1 tn1 pa1 sa1 wa1 ∧ SdM w h nl ld m Q fm nv a np gs pn n' d3 x3 y3 gw3 gr3 gt3 pb3 fa3 ∧ (∀ k, k < nl → LnAt X3 Y3 U3 V3 k (ld k)) ∧ Gz np pn al1 co1 kd1 nH1 nL1 al3 co3 kd3 ∧ ∀ p, p < 128 → lb1 p = 0 := by
  obtain ⟨m, Q, fm, hM, ⟨n, F, T, fi, tw, u1, x1, y1, fw1, fe1, fs1, fr1, re1, to1, tn1, H1, L1, e1, j1, s1⟩, ⟨n', A, B, X3, Y3, U3, V3, gw3, gr3, gt3, d3, x3, y3, e2, j2, s2, l2⟩⟩ := lay_both hD hA hA' tot u x y st fw fe fs fr re to tn H L li jo pi d x2 y2 gw gr gt
  obtain ⟨nv, hn⟩ := nv_ex hM s1 j1
  obtain ⟨b, hb, eb⟩ := bot_ex hM
  obtain ⟨a, ha, ea⟩ := lft_ex hM
  obtain ⟨np, gs, st1, wk, pa1, sa1, wa1, f1, f2, f3, f4, f5⟩ := findX_ok hM hn s1 j1 ha ea hb eb pt pa sa wa
  obtain ⟨np', gs', cs, r, v, pb1, pb3, fa3, g1, g2, g3, g4, g5, g6, g7⟩ := marr_ok hM hn s2 j2 ha ea hb eb fa pb
  obtain ⟨ep, eg⟩ := Wlk_one hM hn f3 g5
  subst ep
  obtain ⟨pn, hp⟩ := pn_ex hM hn f3
  have hw : Wd w h nl ld m Q fm nv a np gs pn := ⟨hM, hn, ⟨b, ha, ea, hb, eb⟩, f2, f3, hp⟩
  have hx : SdX w h nl ld m Q fm nv a np gs pn n u1 x1 y1 fw1 fe1 fs1 fr1 to1 tn1 pa1 sa1 wa1 := ⟨F, T, fi, tw, st1, wk, j1, s1, f4, f5⟩
  have hm : SdM w h nl ld m Q fm nv a np gs pn n' d3 x3 y3 gw3 gr3 gt3 pb3 fa3 := ⟨A, B, cs, j2, s2, PaM_gs g6 eg, FsM_gs g7 eg⟩
  obtain ⟨al1, co1, kd1, lb1, nH1, nL1, b1, b2, b3, b4⟩ := begin_ok hw hx gt0 al co kd lb nH nL
  obtain ⟨al3, co3, kd3, c1, c2⟩ := fresh_ok f2 pk hl al2 co2 kd2
  refine ⟨m, Q, fm, nv, a, np, gs, pn, n, u1, x1, y1, fw1, fe1, fs1, fr1, H1, L1, re1, to1, tn1, pa1, sa1, wa1, al1, co1, kd1, lb1, nH1, nL1, n', al3, co3, fa3, kd3, X3, Y3, U3, V3, d3, gw3, gr3, gt3, x3, y3, pb3, ?_, ?_, hw, hx, hm, l2, ⟨fun p hp => ?_, b4⟩, b3⟩
  · unfold sX9_redraw
    rw [ob_s e1]
    simp only [dm14, dm7, dm8, dm2]
    rw [ob_s f1]
    simp only [dm4]
    rw [ob_s b1]
  · unfold sX12_arrange
    rw [ob_s e2]
    simp only [dm13, dm7]
    rw [ob_s g1, ex1_0]
    simp only [dm2]
    rw [ob_s g2]
    simp only [dm1]
    rw [ob_s g3, ex1_0]
    simp only [dm4]
    rw [ob_s c1]
    rfl
  · obtain ⟨z1, z2, z3⟩ := b2 p hp
    obtain ⟨y1, y2, y3⟩ := c2 p hp
    exact ⟨by rw [z1, y1], by rw [z2, y2], by rw [z3, y3], ⟨0, by omega, z3⟩⟩
