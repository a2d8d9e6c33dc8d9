/-! the joints of both sides are one row -/
theorem inW_ok {w h : Nat} (hw : w ≤ 12) (hh : h ≤ 12) {L : Ln} (hL : inW w h L) : lnOK L := ⟨by have := hL.1; omega, by have := hL.2.1; omega, by have := hL.2.2.1; omega, by have := hL.2.2.2; omega⟩
theorem GX_to {S T : Pt3 → Prop} (h : ∀ q, S q ↔ T q) {n : Nat} {P : Nat → Pt3} {u x y : Nat → Int32} (hG : GX S n P u x y) : GX T n P u x y := ⟨hG.1, hG.2.1, hG.2.2.1, fun q => (hG.2.2.2 q).trans (h q)⟩
theorem GM_to {S T : Pt3 → Prop} (h : ∀ q, S q ↔ T q) {n : Nat} {P : Nat → Pt3} {d x y : Nat → Int64} (hG : GM S n P d x y) : GM T n P d x y := ⟨hG.1, hG.2.1, hG.2.2.1, fun q => (hG.2.2.2 q).trans (h q)⟩
theorem joints_one {w h nl : Nat} (hw : w ≤ 12) (hh : h ≤ 12) (hn : nl ≤ 14) {ld : Nat → Ln} (hl : ∀ i, i < nl → inW w h (ld i)) {X Y U V : Nat → Int32} (hA : ∀ k, k < nl + 4 → LnAt X Y U V k (KX w h ld k)) {X' Y' U' V' : Nat → Int32} (hA' : ∀ k, k < nl + 4 → LnAt X' Y' U' V' k (KM w h nl ld k)) (tot : Int32) (u x y : Nat → Int32) (d x2 y2 : Nat → Int64) : ∃ (m : Nat) (Q : Nat → Pt3) (u1 x1 y1 : Nat → Int32) (v : Int32) (d1 x3 y3 : Nat → Int64), sX4_gather tot u x y (nI (nl + 4)) U V X Y = some (nI m, u1, x1, y1) ∧ iter (bX10_draw_95 X' Y' U' V' (nI (nl + 4))) FU (nI 0, nI 0, d, x2, y2) = some (0, (v, nI m, d1, x3, y3)) ∧ m ≤ 123 ∧ GX (TS w h nl ld) m Q u1 x1 y1 ∧ GM (TS w h nl ld) m Q d1 x3 y3 := by
  have fX := Fam_KX (w := w) (h := h) hl
  have fM := Fam_KM (w := w) (h := h) hl
  obtain ⟨m, Q, u1, x1, y1, g1, G1⟩ := gather_ok (K := KX w h ld) (N := nl + 4) (by omega) (fun k hk => inW_ok hw hh (fX.2.1 k hk)) hA (Cap_of hn fX) tot u x y
  obtain ⟨v, m2, Q2, d1, x3, y3, g2, G2⟩ := mdraw_ok (K := KM w h nl ld) (N := nl + 4) (by omega) (fun k hk => inW_ok hw hh (fM.2.1 k hk)) hA' (Cap_of hn fM) d x2 y2
  have G1' := GX_to (fun q => allS_TS fX q) G1
  have G2' := GM_to (fun q => allS_TS fM q) G2
  obtain ⟨e, hQ⟩ := Srt_one m m2 Q Q2 G1'.1 G2'.1 G1'.2.1 G2'.2.1 (fun q => (G1'.2.2.2 q).trans (G2'.2.2.2 q).symm)
  subst e
  refine ⟨m, Q, u1, x1, y1, v, d1, x3, y3, g1, g2, GX_le (Cap_TS hn) (fun _ h => h) G1', G1', G1'.1, G1'.2.1, fun i hi => ?_, G1'.2.2.2⟩
  rw [hQ i hi]
  exact G2'.2.2.1 i hi
