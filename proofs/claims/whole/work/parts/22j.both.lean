/-! laid on both sides -/
theorem mline_ok {k : Nat} (hk : k < 18) (a b c d : Int32) (X Y U V : Nat → Int32) : sX10_line (nI k) a b c d X Y U V = some (upd X k a, upd Y k b, upd U k c, upd V k d) := by
  simp (disch := omega) only [sX10_line, lt, nI_lt0, nI_clampS, false_or, gd_s]
theorem LnAt_up {X Y U V : Nat → Int32} {i k : Nat} {L : Ln} (h : LnAt X Y U V i L) (hne : i ≠ k) (a b c d : Int32) : LnAt (upd X k a) (upd Y k b) (upd U k c) (upd V k d) i L := by
  obtain ⟨h1, h2, h3, h4⟩ := h
  exact ⟨by rw [pk_un hne]; exact h1, by rw [pk_un hne]; exact h2, by rw [pk_un hne]; exact h3, by rw [pk_un hne]; exact h4⟩
theorem LnAt_new (X Y U V : Nat → Int32) (k a b c d : Nat) : LnAt (upd X k (nI a)) (upd Y k (nI b)) (upd U k (nI c)) (upd V k (nI d)) k (a, b, c, d) := ⟨pk_us, pk_us, pk_us, pk_us⟩
theorem nl_3 : (3 : Int32) = nI 3 := by decide
theorem nl_4 : (4 : Int32) = nI 4 := by decide
theorem lay_both {w h nl : Nat} {ld : Nat → Ln} (hD : Dr w h nl ld) {X Y U V : Nat → Int32} (hA : ∀ k, k < nl + 4 → LnAt X Y U V k (KX w h ld k)) {X' Y' U' V' : Nat → Int32} (hA' : ∀ k, k < nl → LnAt X' Y' U' V' k (ld k)) (tot : Int32) (u x y : Nat → Int32) (st : Int32) (fw fe fs fr re to tn : Nat → Int32) (H L : Nat → Int64) (li jo pi : Int32) (d x2 y2 : Nat → Int64) (gw gr gt : Nat → Int32) : ∃ (m : Nat) (Q : Nat → Pt3) (fm : Nat → Nat → Bool), Mesh w h nl ld m Q fm ∧ (∃ (n : Nat) (F T fi tw : Nat → Nat) (u1 x1 y1 fw' fe' fs' fr' re' to' tn' : Nat → Int32) (H' L' : Nat → Int64), sX6_lay tot u x y st fw fe fs fr H L re to tn (nI (nl + 4)) U V X Y = some (nI m, u1, x1, y1, nI n, fw', fe', fs', fr', H', L', re', to', tn') ∧ JR m Q u1 x1 y1 ∧ MsX (adB (KX w h ld) (nl + 4) m Q) fm m n F T fi tw fw' fe' fs' fr' to' tn') ∧ (∃ (n : Nat) (A B : Nat → Nat) (X3 Y3 U3 V3 gw' gr' gt' : Nat → Int32) (d1 x3 y3 : Nat → Int64), sX10_draw (nI w) (nI h) (nI nl) li jo pi X' Y' U' V' d gw gr gt x2 y2 = some (nI (nl + 4), nI m, nI n, X3, Y3, U3, V3, d1, gw', gr', gt', x3, y3) ∧ JL m Q d1 x3 y3 ∧ MsM (Pc (onK (KX w h ld) Q) (nl + 4) m) fm m n A B gw' gr' gt' ∧ ∀ k, k < nl → LnAt X3 Y3 U3 V3 k (ld k)) := by
  obtain ⟨d1, d2, d3, d4, d5, d6⟩ := id hD
  obtain ⟨X3, Y3, U3, V3, l1, l2⟩ : ∃ X3 Y3 U3 V3 : Nat → Int32, (∀ o : Option (Int32 × Int32 × Int32 × (Nat → Int32) × (Nat → Int32) × (Nat → Int32) × (Nat → Int32) × (Nat → Int64) × (Nat → Int32) × (Nat → Int32) × (Nat → Int32) × (Nat → Int64) × (Nat → Int64)), sX10_draw (nI w) (nI h) (nI nl) li jo pi X' Y' U' V' d gw gr gt x2 y2 = ob (iter (bX10_draw_95 X3 Y3 U3 V3 (nI (nl + 4))) FU (nI 0, nI 0, d, x2, y2)) (fun kt => ex1 kt (fun t => dm5 t (fun (v47 : Int32) (v48 : Int32) (v49 : Nat → Int64) (v50 : Nat → Int64) (v51 : Nat → Int64) => ob (iter (bX10_draw_173 X3 Y3 U3 V3 (nI (nl + 4)) v48 v49 v50 v51) FU ((0 : Int32), (0 : Int32), gr, gt)) (fun kt => ex1 kt (fun t => dm4 t (fun (v60 : Int32) (v61 : Int32) (v62 : Nat → Int32) (v63 : Nat → Int32) => ob (sX10_loosen (nI w) (nI h) v48 v61 v49 gw v62 v63 v50 v51) (fun o => dm1 o (fun (o64 : Nat → Int32) => some (nI (nl + 4), v48, v61, X3, Y3, U3, V3, v49, o64, v62, v63, v50, v51)))))))))) ∧ ∀ k, k < nl + 4 → LnAt X3 Y3 U3 V3 k (KM w h nl ld k) := by
    refine ⟨upd (upd (upd (upd X' nl (nI 0)) (nl + 1) (nI w)) (nl + 2) (nI w)) (nl + 3) (nI 0), upd (upd (upd (upd Y' nl (nI 0)) (nl + 1) (nI 0)) (nl + 2) (nI h)) (nl + 3) (nI h), upd (upd (upd (upd U' nl (nI w)) (nl + 1) (nI w)) (nl + 2) (nI 0)) (nl + 3) (nI 0), upd (upd (upd (upd V' nl (nI 0)) (nl + 1) (nI h)) (nl + 2) (nI h)) (nl + 3) (nI 0), fun _ => ?_, fun k hk => ?_⟩
    · unfold sX10_draw
      simp only [nl_0, nl_1, nl_2, nl_3, nl_4, nI_add]
      rw [mline_ok (by omega)]
      show ob (sX10_line (nI (nl + 1)) (nI w) (nI 0) (nI w) (nI h) _ _ _ _) _ = _
      rw [mline_ok (by omega)]
      show ob (sX10_line (nI (nl + 2)) (nI w) (nI h) (nI 0) (nI h) _ _ _ _) _ = _
      rw [mline_ok (by omega)]
      show ob (sX10_line (nI (nl + 3)) (nI 0) (nI h) (nI 0) (nI 0) _ _ _ _) _ = _
      rw [mline_ok (by omega)]
      rfl
    · obtain ⟨e0, e1, e2, e3⟩ := @KM_s w h nl ld
      by_cases q : k < nl
      · have : KM w h nl ld k = ld k := by unfold KM; rw [if_pos q]
        rw [this]
        exact LnAt_up (LnAt_up (LnAt_up (LnAt_up (hA' k q) (by omega) _ _ _ _) (by omega) _ _ _ _) (by omega) _ _ _ _) (by omega) _ _ _ _
      · have hk4 : k = nl ∨ k = nl + 1 ∨ k = nl + 2 ∨ k = nl + 3 := by omega
        rcases hk4 with rfl | rfl | rfl | rfl
        · rw [e0]; exact LnAt_up (LnAt_up (LnAt_up (LnAt_new _ _ _ _ _ _ _ _ _) (by omega) _ _ _ _) (by omega) _ _ _ _) (by omega) _ _ _ _
        · rw [e1]; exact LnAt_up (LnAt_up (LnAt_new _ _ _ _ _ _ _ _ _) (by omega) _ _ _ _) (by omega) _ _ _ _
        · rw [e2]; exact LnAt_up (LnAt_new _ _ _ _ _ _ _ _ _) (by omega) _ _ _ _
        · rw [e3]; exact LnAt_new _ _ _ _ _ _ _ _ _
  obtain ⟨m, Q, u1, x1, y1, v, dd, x3, y3, j1, j2, j3, j4, j5⟩ := joints_one d2 d4 d5 (fun i hi => (d6 i hi).1) hA l2 tot u x y d x2 y2
  have hJ : Jt w h nl ld m Q := ⟨j4.1, j4.2.1, j4.2.2.2⟩
  obtain ⟨fm, n, F, T, fi, tw, fw', fe', fs', fr', re', to', tn', H', L', p1, p2, p3⟩ := partX_ok hD hJ j3 j4.2.2.1 hA st fw fe fs fr re to tn H L
  have hM := Mx_KM hD hJ.1 hJ.2.1 hJ.2.2
  obtain ⟨n2, A, B, gr', gt', q1, q2, q3, q4, q5⟩ := mparts_ok hM (by omega) (fun k i hk hi => mon_ok (hM.2.1 k hk).1 (hM.2.1 k hk).2 (hJ.1 i hi) (by omega) (by have := hM.1; omega) (j5.2.2.1 i hi) (l2 k hk)) gr gt
  have q2' := PcM_same q2 (fun i j => Pc_MX i j)
  obtain ⟨fm', gw', r1, r2, r3⟩ := mloosen_ok hD hJ j3 j5.2.2.1 q2' q3 q4 q5 gw
  have efm : fm' = fm := Prn_one r2.2.2.2.1 r2.2.2.2.2 p2.2.2.2.1 p2.2.2.2.2
  subst efm
  refine ⟨m, Q, fm', p2, ⟨n, F, T, fi, tw, u1, x1, y1, fw', fe', fs', fr', re', to', tn', H', L', ?_, j4.2.2.1, p3⟩, ⟨n2, A, B, X3, Y3, U3, V3, gw', gr', gt', dd, x3, y3, ?_, j5.2.2.1, ⟨q2', q3, q4, r3, q5⟩, fun k hk => ?_⟩⟩
  · unfold sX6_lay
    rw [ob_s j1]
    show ob (sX8_part st fw fe fs fr (nI m) u1 x1 y1 H L re to tn (nI (nl + 4)) U V X Y) _ = _
    rw [ob_s p1]
    rfl
  · rw [l1 none, ob_s j2]
    show ob (iter (bX10_draw_173 X3 Y3 U3 V3 (nI (nl + 4)) (nI m) dd x3 y3) FU ((0 : Int32), (0 : Int32), gr, gt)) _ = _
    rw [ob_s q1]
    show ob (sX10_loosen (nI w) (nI h) (nI m) (nI n2) dd gw gr' gt' x3 y3) _ = _
    rw [ob_s r1]
    rfl
  · have := l2 k (by omega)
    have e : KM w h nl ld k = ld k := by unfold KM; rw [if_pos hk]
    rw [e] at this
    exact this
