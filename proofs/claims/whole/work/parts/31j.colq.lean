/-! colours: one answer -/
theorem ob_x2s {A B R : Type} {e : Option (Nat × A × B)} {a : A} {b : B} (h : e = some (0, (a, b))) (F : A → B → Option R) : ob e (fun kt => ex1 kt (fun t => dm2 t F)) = F a b := by subst h; rfl
theorem ob_d6 {X Y Z W V U R : Type} {e : Option (X × Y × Z × W × V × U)} {a : X} {b : Y} {c : Z} {d : W} {v : V} {u : U} (h : e = some (a, b, c, d, v, u)) (F : X → Y → Z → W → V → U → Option R) : ob e (fun o => dm6 o F) = F a b c d v u := by subst h; rfl
theorem ob_d8 {X Y Z W V U S T R : Type} {e : Option (X × Y × Z × W × V × U × S × T)} {a : X} {b : Y} {c : Z} {d : W} {v : V} {u : U} {s : S} {t : T} (h : e = some (a, b, c, d, v, u, s, t)) (F : X → Y → Z → W → V → U → S → T → Option R) : ob e (fun o => dm8 o F) = F a b c d v u s t := by subst h; rfl
theorem col_in {w h nl : Nat} {ld : Nat → Ln} {m : Nat} {Q : Nat → Pt3} {fm : Nat → Nat → Bool} {nv : Nat → Nat → Nat} {a np : Nat} {gs : Nat → St} {pn : Nat → Nat → Option Nat} {n' : Nat} {d x2 y2 : Nat → Int64} {gw gr gt pb fa : Nat → Int32} (hw : Wd w h nl ld m Q fm nv a np gs pn) (hm : SdM w h nl ld m Q fm nv a np gs pn n' d x2 y2 gw gr gt pb fa) {al co kd : Nat → Int32} {nH nL : Nat → Int64} {al2 co2 kd2 : Nat → Int32} (hg : Gz np pn al co kd nH nL al2 co2 kd2) {tries : Nat} (htr : tries ≤ 100000) (f lf : Nat → Int32) (pt : Nat → Int32) (H L : Nat → Int64) (sd up : Nat → Int32) (od : Int32) (oa ou tc tr : Nat → Int32) : ∃ (r : Int32) (g co' lf' pt' : Nat → Int32) (H' L' : Nat → Int64) (sd' up' : Nat → Int32) (od' : Int32) (co2' oa' ou' tc' tr' : Nat → Int32), sX9_colours (nI tries) f (nI w) (nI np) al co lf nH nL pt H L sd up = some (r, g, co', lf', pt', H', L', sd', up') ∧ sX12_colours (nI tries) 1 (nI np) od al2 co2 f (nI n') gw oa ou pb tc tr = some (r, od', co2', g, oa', ou', tc', tr') ∧ ∀ p, p < np → co' p = co2' p := by
  obtain ⟨w1, w2, w3, w4, w5, w6⟩ := id hw
  have dr := w1.1
  have th := there1 dr.1 dr.2.1
  obtain ⟨tc', g1, g2⟩ := gath_ok hw hm tc
  obtain ⟨la', a1, _, a2⟩ := set1_X w4 lf
  obtain ⟨ou', b1, _, b2⟩ := set0_M w4 ou
  obtain ⟨r, pt', H', L', sd', up', od', oa', tr', e1, e2, e3, e4, e5, e6⟩ := srch_one w4 htr a2 b2 (fun p hp => (hg.1 p hp).1) hg.2 g2 pt H L sd up od oa tr
  have n0 : ¬ nI tries < 0 := nI_pos (by omega)
  have le : nI tries ≤ (100000 : Int32) := by rw [show (100000 : Int32) = nI 100000 from rfl, nI_leS (by omega) (by omega)]; omega
  by_cases r2 : r = 2
  · subst r2
    refine ⟨-6, cf 6 f, co, la', pt', H', L', sd', up', od', co2, oa', ou', tc', tr', ?_, ?_, fun p hp => (hg.1 p hp).2.1⟩
    · have c1 : sX3_colourAll (nI tries) (nI np) al co lf nH nL pt H L sd up = some (-6, co, la', pt', H', L', sd', up') := by
        unfold sX3_colourAll
        rw [ob_x2s a1, ob_d6 e1, if_neg (show ¬ ¬ rI 2 = (-6 : Int32) by decide)]
      unfold sX9_colours
      rw [ob_d1 th, if_pos (show ¬ (1 : Int32) = 0 by decide), if_neg n0, if_pos le, ob_d8 c1, if_neg (show ¬ (0 : Int32) ≤ -6 by decide), ob_d2 (tell6 f).1]
    · unfold sX12_colours
      rw [if_neg (show ¬ (1 : Int32) = 0 by decide), if_neg n0, if_pos le, ob_d1 g1, ob_x2s b1, ob_d2 e2, ob_d2 e3, if_neg (show ¬ ¬ rI 2 = (-6 : Int32) by decide), ob_d2 (tell6 f).2]
  · have r01 : r = 0 ∨ r = 1 := by omega
    obtain ⟨co', co2', k1, k2, k3⟩ := colset w4 r01 (fun z => e6 z (fun _ _ => rfl)) co co2
    have nr : ¬ rI r = (-6 : Int32) := by rcases r01 with e | e <;> subst e <;> decide
    have nr0 : (0 : Int32) ≤ rI r := by rcases r01 with e | e <;> subst e <;> decide
    refine ⟨rI r, f, co', la', pt', H', L', sd', up', od', co2', oa', ou', tc', tr', ?_, ?_, k3⟩
    · have c1 : sX3_colourAll (nI tries) (nI np) al co lf nH nL pt H L sd up = some (rI r, co', la', pt', H', L', sd', up') := by
        unfold sX3_colourAll
        rw [ob_x2s a1, ob_d6 e1, if_pos nr, ob_x2s k1]
      unfold sX9_colours
      rw [ob_d1 th, if_pos (show ¬ (1 : Int32) = 0 by decide), if_neg n0, if_pos le, ob_d8 c1, if_pos nr0]
    · unfold sX12_colours
      rw [if_neg (show ¬ (1 : Int32) = 0 by decide), if_neg n0, if_pos le, ob_d1 g1, ob_x2s b1, ob_d2 e2, ob_d2 e3, if_pos nr, ob_x2s k2]
theorem colours_q {w h nl : Nat} {ld : Nat → Ln} {m : Nat} {Q : Nat → Pt3} {fm : Nat → Nat → Bool} {nv : Nat → Nat → Nat} {a np : Nat} {gs : Nat → St} {pn : Nat → Nat → Option Nat} {n' : Nat} {d x2 y2 : Nat → Int64} {gw gr gt pb fa : Nat → Int32} (hw : Wd w h nl ld m Q fm nv a np gs pn) (hm : SdM w h nl ld m Q fm nv a np gs pn n' d x2 y2 gw gr gt pb fa) {al co kd : Nat → Int32} {nH nL : Nat → Int64} {al2 co2 kd2 : Nat → Int32} (hg : Gz np pn al co kd nH nL al2 co2 kd2) (f lf : Nat → Int32) (pt : Nat → Int32) (H L : Nat → Int64) (sd up : Nat → Int32) (od : Int32) (oa ou tc tr : Nat → Int32) (a1 : Int32) : ∃ (r : Int32) (g co' lf' pt' : Nat → Int32) (H' L' : Nat → Int64) (sd' up' : Nat → Int32) (od' : Int32) (co2' oa' ou' tc' tr' : Nat → Int32), sX9_colours a1 f (nI w) (nI np) al co lf nH nL pt H L sd up = some (r, g, co', lf', pt', H', L', sd', up') ∧ sX12_colours a1 1 (nI np) od al2 co2 f (nI n') gw oa ou pb tc tr = some (r, od', co2', g, oa', ou', tc', tr') ∧ ∀ p, p < np → co' p = co2' p := by
  obtain ⟨w1, w2, w3, w4, w5, w6⟩ := id hw
  have dr := w1.1
  have th := there1 dr.1 dr.2.1
  by_cases n0 : a1 < 0
  · refine ⟨-1, cf 1 f, co, lf, pt, H, L, sd, up, od, co2, oa, ou, tc, tr, ?_, ?_, fun p hp => (hg.1 p hp).2.1⟩
    · unfold sX9_colours
      rw [ob_d1 th, if_pos (show ¬ (1 : Int32) = 0 by decide), if_pos n0, ob_d2 (tell1 f).1]
    · unfold sX12_colours
      rw [if_neg (show ¬ (1 : Int32) = 0 by decide), if_pos n0, if_pos (show ¬ (1 : Int32) = 0 by decide), ob_d2 (tell1 f).2]
  · by_cases le : a1 ≤ (100000 : Int32)
    · obtain ⟨j, hj, e⟩ := nI_of n0
      subst e
      have le' := le
      rw [show (100000 : Int32) = nI 100000 from rfl, nI_leS (by omega) (by omega)] at le'
      exact col_in hw hm hg le' f lf pt H L sd up od oa ou tc tr
    · refine ⟨-1, cf 1 f, co, lf, pt, H, L, sd, up, od, co2, oa, ou, tc, tr, ?_, ?_, fun p hp => (hg.1 p hp).2.1⟩
      · unfold sX9_colours
        rw [ob_d1 th, if_pos (show ¬ (1 : Int32) = 0 by decide), if_neg n0, if_neg le, ob_d2 (tell1 f).1]
      · unfold sX12_colours
        rw [if_neg (show ¬ (1 : Int32) = 0 by decide), if_neg n0, if_neg le, if_pos (show ¬ (1 : Int32) = 0 by decide), ob_d2 (tell1 f).2]
