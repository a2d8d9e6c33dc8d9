/-! lack: one answer -/
theorem setL_X {np : Nat} (hnp : np ≤ 125) {la : Nat → Int32} {lf : Nat → Bool} (hl : hB np la lf) (lb : Nat → Int32) : ∃ lb', iter (bX3_leaveOut_109 (nI np) la) FU ((0 : Int32), lb) = some (0, (nI np, lb')) ∧ (∀ p, p < np → lb' p = bI (lf p)) ∧ ∀ p, np ≤ p → lb' p = lb p := by
  obtain ⟨s, h1, h2⟩ := iter_for (S := Nat → Int32) (B := bX3_leaveOut_109 (nI np) la) (fun i s => (nI i, s)) np (fun i s => (∀ p, p < i → s p = bI (lf p)) ∧ ∀ p, i ≤ p → s p = lb p) 0 lb ⟨fun p hp => absurd hp (Nat.not_lt_zero _), fun _ _ => rfl⟩ (by omega) (by omega) (fun i s _ hi hI => by
    obtain ⟨ia, ca⟩ := ix_c (i := i) (n := 128) (by omega) (by omega)
    refine ⟨upd s i (bI (lf i)), ?_, fun p hp => ?_, fun p hp => ?_⟩
    · unfold bX3_leaveOut_109
      simp only [dm2]
      rw [if_neg (by rw [nI_leS (by omega) (by omega)]; omega), gd_s ia, gd_s ia, ca, hl i hi, nar_bb]
      simp only [lt, nl_1, nI_add]
    · by_cases z : p = i
      · subst z; exact pk_us
      · rw [pk_un z]; exact hI.1 p (by omega)
    · rw [pk_un (by omega)]; exact hI.2 p (by omega)) (fun s _ => by
    unfold bX3_leaveOut_109
    simp only [dm2]
    rw [if_pos (by rw [nI_leS (by omega) (by omega)]; omega)])
  exact ⟨s, by rw [nl_0]; exact h1, h2.1, h2.2⟩
theorem setL_M {np : Nat} (hnp : np ≤ 125) {ou : Nat → Int32} {lf : Nat → Bool} (hl : hB np ou (fun p => !lf p)) (lk : Nat → Int32) : ∃ lk', iter (bX12_lack_191 (nI np) ou) FU ((0 : Int32), lk) = some (0, (nI np, lk')) ∧ ∀ p, p < np → lk' p = bI (lf p) := by
  obtain ⟨s, h1, h2⟩ := iter_for (S := Nat → Int32) (B := bX12_lack_191 (nI np) ou) (fun i s => (nI i, s)) np (fun i s => ∀ p, p < i → s p = bI (lf p)) 0 lk (fun p hp => absurd hp (Nat.not_lt_zero _)) (by omega) (by omega) (fun i s _ hi hI => by
    obtain ⟨ia, ca⟩ := ix_c (i := i) (n := 160) (by omega) (by omega)
    have oi : ou i = bI (!lf i) := hl i hi
    refine ⟨upd s i (bI (lf i)), ?_, fun p hp => ?_⟩
    · unfold bX12_lack_191
      simp only [dm2]
      rw [if_neg (by rw [nI_leS (by omega) (by omega)]; omega)]
      simp only [gd_s ia]
      simp only [lt, nl_1, nI_add, ca, oi]
      cases lf i <;> rfl
    · by_cases z : p = i
      · subst z; exact pk_us
      · rw [pk_un z]; exact hI p (by omega)) (fun s _ => by
    unfold bX12_lack_191
    simp only [dm2]
    rw [if_pos (by rw [nI_leS (by omega) (by omega)]; omega)])
  exact ⟨s, by rw [nl_0]; exact h1, h2⟩
theorem LkR_hi {np : Nat} {lb : Nat → Int32} {hl : Int32} {lk : Nat → Int32} (h : LkR np lb hl lk) {p : Nat} (h1 : np ≤ p) (h2 : p < 128) : lb p = 0 := by
  rcases h with ⟨_, h⟩ | ⟨_, L, h, _⟩
  · exact h p h2
  · rw [h p h2, decide_eq_false (by omega)]
    simp
    rfl
theorem ob_x8a {A1 A2 A3 A4 A5 A6 A7 A8 R : Type} {e : Option (Nat × (A1 × A2 × A3 × A4 × A5 × A6 × A7 × A8))} {t : A1 × A2 × A3 × A4 × A5 × A6 × A7 × A8} (h : e = some (0, t)) (F G : A1 → A2 → A3 → A4 → A5 → A6 → A7 → A8 → Option R) : ob e (fun kt => ex2 kt (fun t => dm8 t F) (fun t => dm8 t G)) = F t.1 t.2.1 t.2.2.1 t.2.2.2.1 t.2.2.2.2.1 t.2.2.2.2.2.1 t.2.2.2.2.2.2.1 t.2.2.2.2.2.2.2 := by subst h; rfl
theorem ob_x8b {A1 A2 A3 A4 A5 A6 A7 A8 R : Type} {e : Option (Nat × (A1 × A2 × A3 × A4 × A5 × A6 × A7 × A8))} {t : A1 × A2 × A3 × A4 × A5 × A6 × A7 × A8} (h : e = some (1, t)) (F G : A1 → A2 → A3 → A4 → A5 → A6 → A7 → A8 → Option R) : ob e (fun kt => ex2 kt (fun t => dm8 t F) (fun t => dm8 t G)) = G t.1 t.2.1 t.2.2.1 t.2.2.2.1 t.2.2.2.2.1 t.2.2.2.2.2.1 t.2.2.2.2.2.2.1 t.2.2.2.2.2.2.2 := by subst h; rfl
theorem ob_x6a {A1 A2 A3 A4 A5 A6 R : Type} {e : Option (Nat × (A1 × A2 × A3 × A4 × A5 × A6))} {t : A1 × A2 × A3 × A4 × A5 × A6} (h : e = some (0, t)) (F G : A1 → A2 → A3 → A4 → A5 → A6 → Option R) : ob e (fun kt => ex2 kt (fun t => dm6 t F) (fun t => dm6 t G)) = F t.1 t.2.1 t.2.2.1 t.2.2.2.1 t.2.2.2.2.1 t.2.2.2.2.2 := by subst h; rfl
theorem ob_x6b {A1 A2 A3 A4 A5 A6 R : Type} {e : Option (Nat × (A1 × A2 × A3 × A4 × A5 × A6))} {t : A1 × A2 × A3 × A4 × A5 × A6} (h : e = some (1, t)) (F G : A1 → A2 → A3 → A4 → A5 → A6 → Option R) : ob e (fun kt => ex2 kt (fun t => dm6 t F) (fun t => dm6 t G)) = G t.1 t.2.1 t.2.2.1 t.2.2.2.1 t.2.2.2.2.1 t.2.2.2.2.2 := by subst h; rfl
theorem lack_in {w h nl : Nat} {ld : Nat → Ln} {m : Nat} {Q : Nat → Pt3} {fm : Nat → Nat → Bool} {nv : Nat → Nat → Nat} {a np : Nat} {gs : Nat → St} {pn : Nat → Nat → Option Nat} {n' : Nat} {d x2 y2 : Nat → Int64} {gw gr gt pb fa : Nat → Int32} (hw : Wd w h nl ld m Q fm nv a np gs pn) (hm : SdM w h nl ld m Q fm nv a np gs pn n' d x2 y2 gw gr gt pb fa) {al co kd : Nat → Int32} {nH nL : Nat → Int64} {al2 co2 kd2 : Nat → Int32} (hg : Gz np pn al co kd nH nL al2 co2 kd2) {lb : Nat → Int32} {hl : Int32} {lk : Nat → Int32} (hlk : LkR np lb hl lk) {tries : Nat} (htr : tries ≤ 20000) (f lf : Nat → Int32) (pt : Nat → Int32) (H L : Nat → Int64) (sd up : Nat → Int32) (od : Int32) (oa ou tc tr : Nat → Int32) : ∃ (r : Int32) (g lf' lb' pt' : Nat → Int32) (H' L' : Nat → Int64) (sd' up' : Nat → Int32) (hl' od' : Int32) (lk' oa' ou' tc' tr' : Nat → Int32), sX9_lack (nI tries) f (nI w) (nI np) al lf lb nH nL pt H L sd up = some (r, g, lf', lb', pt', H', L', sd', up') ∧ sX12_lack (nI tries) 1 (nI np) hl od al2 f lk (nI n') gw oa ou pb tc tr = some (r, hl', od', g, lk', oa', ou', tc', tr') ∧ LkR np lb' hl' lk' := by
  obtain ⟨w1, w2, w3, w4, w5, w6⟩ := id hw
  have dr := w1.1
  have th := there1 dr.1 dr.2.1
  obtain ⟨tc', g1, g2⟩ := gath_ok hw hm tc
  obtain ⟨la', _, a1, a2⟩ := set1_X w4 lf
  obtain ⟨ou', _, b1, b2⟩ := set0_M w4 ou
  obtain ⟨r, pt', H', L', sd', up', od', oa', tr', e1, e2, e3, e4, e5, e6⟩ := srch_one w4 (show tries ≤ 100000 by omega) a2 b2 (fun p hp => (hg.1 p hp).1) hg.2 g2 pt H L sd up od oa tr
  have n0 : ¬ nI tries < 0 := nI_pos (by omega)
  have le : nI tries ≤ (20000 : Int32) := by rw [show (20000 : Int32) = nI 20000 from rfl, nI_leS (by omega) (by omega)]; omega
  have u1 : ¬ (1 : Int32) = 0 := by decide
  rcases e4 with e | e | e
  · subst e
    have hR1 : ∀ q : Nat → Bool, ∃ r, SrF al (tB pn) np tries q r ∧ (r = 0 ∨ r = 1 ∨ r = 2) := by
      intro q
      obtain ⟨r, col, _, _, _, _, _, _, z2, z3, _⟩ := srchX_ok w4 (show tries ≤ 100000 by omega) (la := fun p => bI (q p)) (lf := q) (fun _ _ => rfl) hg.2 (al := al) pt H L sd up
      exact ⟨r, ⟨col, z2⟩, z3⟩
    obtain ⟨R, hR⟩ : ∃ R : (Nat → Bool) → Nat, ∀ q, SrF al (tB pn) np tries q (R q) ∧ (R q = 0 ∨ R q = 1 ∨ R q = 2) := ⟨fun q => Classical.choose (hR1 q), fun q => Classical.choose_spec (hR1 q)⟩
    obtain ⟨k, t', x1, x2⟩ := lkX w4 (show tries ≤ 100000 by omega) hg.2 (fun q => (hR q).1) a2 pt' H' L' sd' up'
    obtain ⟨k2, t2, y1, y2⟩ := lkM w4 (show tries ≤ 100000 by omega) (fun p hp => (hg.1 p hp).1) g2 hR b2 od' oa' tr'
    rcases x2 with ⟨x3, x4⟩ | ⟨x3, s, q, x4, x5, x6⟩
    · subst x3
      rcases y2 with ⟨y3, y4⟩ | ⟨y3, s', q', y4, _⟩
      · subst y3
        refine ⟨-6, cf 6 f, t'.2.2.1, lb, t'.2.2.2.1, t'.2.2.2.2.1, t'.2.2.2.2.2.1, t'.2.2.2.2.2.2.1, t'.2.2.2.2.2.2.2, hl, t2.2.2.1, lk, t2.2.2.2.1, t2.2.2.2.2.1, tc', t2.2.2.2.2.2, ?_, ?_, hlk⟩
        · have c1 : sX3_leaveOut (nI tries) (nI np) al lf lb nH nL pt H L sd up = some (-6, t'.2.2.1, lb, t'.2.2.2.1, t'.2.2.2.2.1, t'.2.2.2.2.2.1, t'.2.2.2.2.2.2.1, t'.2.2.2.2.2.2.2) := by
            unfold sX3_leaveOut
            rw [ob_x2s a1, ob_d6 e1, if_pos (show rI 0 = 0 by decide), ob_x8a x1]
          unfold sX9_lack
          rw [ob_d1 th, if_pos u1, if_neg n0, if_pos le, ob_d8 c1, if_neg (show ¬ (0 : Int32) ≤ -6 by decide), ob_d2 (tell6 f).1]
        · unfold sX12_lack
          rw [if_neg u1, if_neg n0, if_pos le, ob_d1 g1, ob_x2s b1, ob_d2 e2, ob_d2 e3, if_pos (show rI 0 = 0 by decide), ob_x6a y1, ob_d2 (tell6 f).2]
      · rw [x4] at y4; cases y4
    · subst x3
      rcases y2 with ⟨y3, y4⟩ | ⟨y3, s', q', y4, y5, y6⟩
      · rw [x4] at y4; cases y4
      · subst y3
        rw [x4] at y4
        cases y4
        obtain ⟨lb', z1, z2, z3⟩ := setL_X w4 x6 lb
        obtain ⟨lk', v1, v2⟩ := setL_M w4 y6 lk
        have sl := LK_le x4
        have s0 : (0 : Int32) ≤ nI s := by rw [nl_0, nI_leS (by omega) (by omega)]; omega
        refine ⟨nI s, f, t'.2.2.1, lb', t'.2.2.2.1, t'.2.2.2.2.1, t'.2.2.2.2.2.1, t'.2.2.2.2.2.2.1, t'.2.2.2.2.2.2.2, 1, t2.2.2.1, lk', t2.2.2.2.1, t2.2.2.2.2.1, tc', t2.2.2.2.2.2, ?_, ?_, Or.inr ⟨rfl, q, fun p hp => ?_, v2⟩⟩
        · have c1 : sX3_leaveOut (nI tries) (nI np) al lf lb nH nL pt H L sd up = some (nI s, t'.2.2.1, lb', t'.2.2.2.1, t'.2.2.2.2.1, t'.2.2.2.2.2.1, t'.2.2.2.2.2.2.1, t'.2.2.2.2.2.2.2) := by
            unfold sX3_leaveOut
            rw [ob_x2s a1, ob_d6 e1, if_pos (show rI 0 = 0 by decide), ob_x8b x1, ob_x2s z1, x5]
          unfold sX9_lack
          rw [ob_d1 th, if_pos u1, if_neg n0, if_pos le, ob_d8 c1, if_pos s0]
        · unfold sX12_lack
          rw [if_neg u1, if_neg n0, if_pos le, ob_d1 g1, ob_x2s b1, ob_d2 e2, ob_d2 e3, if_pos (show rI 0 = 0 by decide), ob_x6b y1, ob_x2s v1, y5]
        · by_cases y : p < np
          · rw [z2 p y, decide_eq_true y]; simp
          · rw [z3 p (by omega), LkR_hi hlk (by omega) hp, decide_eq_false y]; simp; rfl
  · subst e
    refine ⟨-7, cf 7 f, la', lb, pt', H', L', sd', up', hl, od', lk, oa', ou', tc', tr', ?_, ?_, hlk⟩
    · have c1 : sX3_leaveOut (nI tries) (nI np) al lf lb nH nL pt H L sd up = some (-7, la', lb, pt', H', L', sd', up') := by
        unfold sX3_leaveOut
        rw [ob_x2s a1, ob_d6 e1, if_neg (show ¬ rI 1 = 0 by decide), if_pos (show ¬ rI 1 = (-6 : Int32) by decide)]
      unfold sX9_lack
      rw [ob_d1 th, if_pos u1, if_neg n0, if_pos le, ob_d8 c1, if_neg (show ¬ (0 : Int32) ≤ -7 by decide), ob_d2 (tell7 f).1]
    · unfold sX12_lack
      rw [if_neg u1, if_neg n0, if_pos le, ob_d1 g1, ob_x2s b1, ob_d2 e2, ob_d2 e3, if_neg (show ¬ rI 1 = 0 by decide), if_neg (show ¬ ¬ rI 1 = (1 : Int32) by decide), ob_d2 (tell7 f).2]
  · subst e
    refine ⟨-6, cf 6 f, la', lb, pt', H', L', sd', up', hl, od', lk, oa', ou', tc', tr', ?_, ?_, hlk⟩
    · have c1 : sX3_leaveOut (nI tries) (nI np) al lf lb nH nL pt H L sd up = some (-6, la', lb, pt', H', L', sd', up') := by
        unfold sX3_leaveOut
        rw [ob_x2s a1, ob_d6 e1, if_neg (show ¬ rI 2 = 0 by decide), if_neg (show ¬ ¬ rI 2 = (-6 : Int32) by decide)]
      unfold sX9_lack
      rw [ob_d1 th, if_pos u1, if_neg n0, if_pos le, ob_d8 c1, if_neg (show ¬ (0 : Int32) ≤ -6 by decide), ob_d2 (tell6 f).1]
    · unfold sX12_lack
      rw [if_neg u1, if_neg n0, if_pos le, ob_d1 g1, ob_x2s b1, ob_d2 e2, ob_d2 e3, if_neg (show ¬ rI 2 = 0 by decide), if_pos (show ¬ rI 2 = (1 : Int32) by decide), ob_d2 (tell6 f).2]
theorem lack_q {w h nl : Nat} {ld : Nat → Ln} {m : Nat} {Q : Nat → Pt3} {fm : Nat → Nat → Bool} {nv : Nat → Nat → Nat} {a np : Nat} {gs : Nat → St} {pn : Nat → Nat → Option Nat} {n' : Nat} {d x2 y2 : Nat → Int64} {gw gr gt pb fa : Nat → Int32} (hw : Wd w h nl ld m Q fm nv a np gs pn) (hm : SdM w h nl ld m Q fm nv a np gs pn n' d x2 y2 gw gr gt pb fa) {al co kd : Nat → Int32} {nH nL : Nat → Int64} {al2 co2 kd2 : Nat → Int32} (hg : Gz np pn al co kd nH nL al2 co2 kd2) {lb : Nat → Int32} {hl : Int32} {lk : Nat → Int32} (hlk : LkR np lb hl lk) (f lf : Nat → Int32) (pt : Nat → Int32) (H L : Nat → Int64) (sd up : Nat → Int32) (od : Int32) (oa ou tc tr : Nat → Int32) (a1 : Int32) : ∃ (r : Int32) (g lf' lb' pt' : Nat → Int32) (H' L' : Nat → Int64) (sd' up' : Nat → Int32) (hl' od' : Int32) (lk' oa' ou' tc' tr' : Nat → Int32), sX9_lack a1 f (nI w) (nI np) al lf lb nH nL pt H L sd up = some (r, g, lf', lb', pt', H', L', sd', up') ∧ sX12_lack a1 1 (nI np) hl od al2 f lk (nI n') gw oa ou pb tc tr = some (r, hl', od', g, lk', oa', ou', tc', tr') ∧ LkR np lb' hl' lk' := by
  obtain ⟨w1, w2, w3, w4, w5, w6⟩ := id hw
  have dr := w1.1
  have th := there1 dr.1 dr.2.1
  have u1 : ¬ (1 : Int32) = 0 := by decide
  by_cases n0 : a1 < 0
  · refine ⟨-1, cf 1 f, lf, lb, pt, H, L, sd, up, hl, od, lk, oa, ou, tc, tr, ?_, ?_, hlk⟩
    · unfold sX9_lack
      rw [ob_d1 th, if_pos u1, if_pos n0, ob_d2 (tell1 f).1]
    · unfold sX12_lack
      rw [if_neg u1, if_pos n0, if_pos u1, ob_d2 (tell1 f).2]
  · by_cases le : a1 ≤ (20000 : Int32)
    · obtain ⟨j, hj, e⟩ := nI_of n0
      subst e
      have le' := le
      rw [show (20000 : Int32) = nI 20000 from rfl, nI_leS (by omega) (by omega)] at le'
      exact lack_in hw hm hg hlk le' f lf pt H L sd up od oa ou tc tr
    · refine ⟨-1, cf 1 f, lf, lb, pt, H, L, sd, up, hl, od, lk, oa, ou, tc, tr, ?_, ?_, hlk⟩
      · unfold sX9_lack
        rw [ob_d1 th, if_pos u1, if_neg n0, if_neg le, ob_d2 (tell1 f).1]
      · unfold sX12_lack
        rw [if_neg u1, if_neg n0, if_neg le, if_pos u1, ob_d2 (tell1 f).2]
