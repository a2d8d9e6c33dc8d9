/-! the reference's joints of a drawing -/
theorem GM_end {T S : Pt3 → Prop} (hT : Cap T) (hS : ∀ q, S q → T q) {n : Nat} {P : Nat → Pt3} {d x y : Nat → Int64} (h : GM S n P d x y) {a b : Nat} (ha : a ≤ 12) (hb : b ≤ 12) : ∃ (m : Nat) (Q : Nat → Pt3) (d' x' y' : Nat → Int64), sX10_joint (nI a).toInt64 (nI b).toInt64 (1 : Int64) (nI n) d x y = some (nI m, d', x', y') ∧ GM (fun q => S q ∨ q = (a, b, 1)) m Q d' x' y' := by
  have hn := GM_le hT hS h
  obtain ⟨m, Q, d', x', y', g1, g2, g3, g4, g5, g6⟩ := mins_ok (by omega) h.1 h.2.1 h.2.2.1 (a := a) (b := b) (c := 1) (by omega) (by omega) (by omega) (by omega)
  refine ⟨m, Q, d', x', y', ?_, g3, g4, g5, fun q => ?_⟩
  · rw [nI_l (by omega), nI_l (by omega)]; exact g1
  · rw [g6 q, h.2.2.2 q, redu_1]
theorem GM_crs {T S : Pt3 → Prop} (hT : Cap T) (hS : ∀ q, S q → T q) {n : Nat} {P : Nat → Pt3} {d x y : Nat → Int64} (h : GM S n P d x y) {X Y U V : Nat → Int32} {i j : Nat} (hi : i < 18) (hj : j < 18) {L M : Ln} (hL : lnOK L) (hM : lnOK M) (aL : LnAt X Y U V i L) (aM : LnAt X Y U V j M) : ∃ (m : Nat) (Q : Nat → Pt3) (d' x' y' : Nat → Int64), sX10_cross (nI i) (nI j) (nI n) X Y U V d x y = some (nI m, d', x', y') ∧ GM (fun q => S q ∨ (crs M L ∧ q = crP M L)) m Q d' x' y' := by
  have hn := GM_le hT hS h
  obtain ⟨m, Q, d', x', y', g1, g2, g3, g4, g5, g6⟩ := mcross_ok (by omega) h.1 h.2.1 h.2.2.1 hi hj hL hM aL aM
  refine ⟨m, Q, d', x', y', g1, g3, g4, g5, fun q => ?_⟩
  rw [g6 q, h.2.2.2 q]
  constructor
  · rintro (a | ⟨a, b⟩)
    · exact Or.inl a
    · exact Or.inr ⟨crs_sym a, by rw [b]; exact (crP_sym a.1).symm⟩
  · rintro (a | ⟨a, b⟩)
    · exact Or.inl a
    · exact Or.inr ⟨crs_sym a, by rw [b]; exact (crP_sym a.1).symm⟩
theorem mdraw_ok {K : Nat → Ln} {N : Nat} (hN : N ≤ 18) (hK : ∀ k, k < N → lnOK (K k)) {X Y U V : Nat → Int32} (hA : ∀ k, k < N → LnAt X Y U V k (K k)) (hT : Cap (allS K N)) (d x y : Nat → Int64) : ∃ (v : Int32) (m : Nat) (Q : Nat → Pt3) (d' x' y' : Nat → Int64), iter (bX10_draw_95 X Y U V (nI N)) FU (nI 0, nI 0, d, x, y) = some (0, (v, nI m, d', x', y')) ∧ GM (allS K N) m Q d' x' y' := by
  have inner : ∀ (k : Nat) (hk : k < N) (n : Nat) (P : Nat → Pt3) (d x y : Nat → Int64), GM (fun q => endS K (k + 1) q ∨ crsS K k q) n P d x y → ∃ (v : Int32) (n' : Nat) (P' : Nat → Pt3) (d' x' y' : Nat → Int64), iter (bX10_draw_143 X Y U V (nI k)) FU (nI 0, nI n, d, x, y) = some (0, (v, nI n', d', x', y')) ∧ GM (allS K (k + 1)) n' P' d' x' y' := by
    intro k hk n P d x y hG
    have L2 := iter_ex0 (B := bX10_draw_143 X Y U V (nI k)) (fun t => ∃ j n P d x y, t = (nI j, nI n, d, x, y) ∧ j ≤ k ∧ GM (fun q => (endS K (k + 1) q ∨ crsS K k q) ∨ ∃ b, b < j ∧ crs (K k) (K b) ∧ q = crP (K k) (K b)) n P d x y) (fun t => k - t.1.toNatClampNeg) (fun t => ∃ j n P d x y, t = (nI j, nI n, d, x, y) ∧ GM (fun q => (endS K (k + 1) q ∨ crsS K k q) ∨ ∃ b, b < k ∧ crs (K k) (K b) ∧ q = crP (K k) (K b)) n P d x y) (fun t ht => by
      obtain ⟨j, n, P, d, x, y, rfl, hj, hG⟩ := ht
      have cj : (nI j).toNatClampNeg = j := nI_clamp (by omega)
      rcases Nat.lt_or_ge j k with h | h
      · obtain ⟨m2, Q2, d2, x2, y2, g2, G2⟩ := GM_crs hT (fun q hq => by
          rcases hq with (⟨i, h3, e⟩ | ⟨a, b, h3, h4, h5⟩) | ⟨b, h3, h4⟩
          · exact Or.inl ⟨i, by omega, e⟩
          · exact Or.inr ⟨a, b, h3, by omega, h5⟩
          · exact Or.inr ⟨k, b, by omega, hk, h4⟩) hG (show j < 18 by omega) (show k < 18 by omega) (hK j (by omega)) (hK k hk) (hA j (by omega)) (hA k hk)
        refine Or.inl ⟨(nI (j + 1), nI m2, d2, x2, y2), ?_, ⟨j + 1, m2, Q2, d2, x2, y2, rfl, by omega, ?_⟩, ?_⟩
        · show (if nI k ≤ nI j then _ else ob (sX10_cross (nI j) (nI k) (nI n) X Y U V d x y) _) = _
          rw [if_neg (nI_ge h (by omega)), ob_s g2]
          show some (0, (nI j + 1, nI m2, d2, x2, y2)) = _
          rw [nI_1]
        · obtain ⟨c1, c2, c3, c4⟩ := G2
          refine ⟨c1, c2, c3, fun q => (c4 q).trans ⟨fun hq => ?_, fun hq => ?_⟩⟩
          · rcases hq with (e | ⟨b, h3, h4⟩) | e
            · exact Or.inl e
            · exact Or.inr ⟨b, by omega, h4⟩
            · exact Or.inr ⟨j, by omega, e⟩
          · rcases hq with e | ⟨b, h3, h4⟩
            · exact Or.inl (Or.inl e)
            · rcases Nat.lt_or_ge b j with h9 | h9
              · exact Or.inl (Or.inr ⟨b, h9, h4⟩)
              · obtain rfl : b = j := by omega
                exact Or.inr h4
        · show k - (nI (j + 1)).toNatClampNeg < k - (nI j).toNatClampNeg
          rw [nI_clamp (by omega), cj]; omega
      · obtain rfl : j = k := by omega
        refine Or.inr ⟨_, ?_, j, n, P, d, x, y, rfl, hG⟩
        show (if nI j ≤ nI j then some (1, _) else _) = _
        rw [if_pos (nI_le (Nat.le_refl _) (by omega))]) (nI 0, nI n, d, x, y) ⟨0, n, P, d, x, y, rfl, by omega, hG.1, hG.2.1, hG.2.2.1, fun q => (hG.2.2.2 q).trans ⟨Or.inl, fun hq => hq.elim id (fun ⟨b, hb, _⟩ => by omega)⟩⟩ FU (FU_lt (by show k - _ < _; omega))
    obtain ⟨t, e1, j, n', P', d', x', y', rfl, G⟩ := L2
    refine ⟨_, n', P', d', x', y', e1, G.1, G.2.1, G.2.2.1, fun q => (G.2.2.2 q).trans ⟨fun hq => ?_, fun hq => ?_⟩⟩
    · rcases hq with (e | ⟨a, b, h3, h4, h5⟩) | ⟨b, h3, h4⟩
      · exact Or.inl e
      · exact Or.inr ⟨a, b, h3, by omega, h5⟩
      · exact Or.inr ⟨k, b, by omega, by omega, h4⟩
    · rcases hq with e | ⟨a, b, h3, h4, h5⟩
      · exact Or.inl (Or.inl e)
      · rcases Nat.lt_or_ge a k with h9 | h9
        · exact Or.inl (Or.inr ⟨a, b, h3, h9, h5⟩)
        · obtain rfl : a = k := by omega
          exact Or.inr ⟨b, h3, h5⟩
  have L3 := iter_ex0 (B := bX10_draw_95 X Y U V (nI N)) (fun t => ∃ k n P d x y, t = (nI k, nI n, d, x, y) ∧ k ≤ N ∧ GM (allS K k) n P d x y) (fun t => N - t.1.toNatClampNeg) (fun t => ∃ k n P d x y, t = (nI k, nI n, d, x, y) ∧ GM (allS K N) n P d x y) (fun t ht => by
    obtain ⟨k, n, P, d, x, y, rfl, hk, hG⟩ := ht
    have ck : (nI k).toNatClampNeg = k := nI_clamp (by omega)
    have up : ∀ q, allS K k q → allS K N q := by
      rintro q (⟨i, hi, e⟩ | ⟨a, b, h3, h4, h5⟩)
      · exact Or.inl ⟨i, by omega, e⟩
      · exact Or.inr ⟨a, b, h3, by omega, h5⟩
    rcases Nat.lt_or_ge k N with h | h
    · obtain ⟨a1, a2, a3, a4⟩ := hA k h
      obtain ⟨o1, o2, o3, o4⟩ := hK k h
      obtain ⟨m1, Q1, d1, x1, y1, g1, G1⟩ := GM_end hT up hG o1 o2
      obtain ⟨m2, Q2, d2, x2, y2, g2, G2⟩ := GM_end hT (fun q hq => hq.elim (up q) (fun e => Or.inl ⟨k, h, Or.inl e⟩)) G1 o3 o4
      have G2' : GM (fun q => endS K (k + 1) q ∨ crsS K k q) m2 Q2 d2 x2 y2 := by
        obtain ⟨c1, c2, c3, c4⟩ := G2
        refine ⟨c1, c2, c3, fun q => (c4 q).trans ⟨fun hq => ?_, fun hq => ?_⟩⟩
        · rcases hq with ((⟨i, hi, e⟩ | e) | e) | e
          · exact Or.inl ⟨i, by omega, e⟩
          · exact Or.inr e
          · exact Or.inl ⟨k, by omega, Or.inl e⟩
          · exact Or.inl ⟨k, by omega, Or.inr e⟩
        · rcases hq with ⟨i, hi, e⟩ | e
          · rcases Nat.lt_or_ge i k with h9 | h9
            · exact Or.inl (Or.inl (Or.inl ⟨i, h9, e⟩))
            · obtain rfl : i = k := by omega
              rcases e with e | e
              · exact Or.inl (Or.inr e)
              · exact Or.inr e
          · exact Or.inl (Or.inl (Or.inr e))
      obtain ⟨v, m3, Q3, d3, x3, y3, g3, G3⟩ := inner k h m2 Q2 d2 x2 y2 G2'
      refine Or.inl ⟨(nI (k + 1), nI m3, d3, x3, y3), ?_, ⟨k + 1, m3, Q3, d3, x3, y3, rfl, by omega, G3⟩, ?_⟩
      · simp only [bX10_draw_95, dm5, gd_t (ix_ok (show k < 18 by omega) (by omega))]
        rw [ck, a1, a2, a3, a4, if_neg (nI_ge h (by omega)), ob_s g1]
        show ob (sX10_joint (nI (K k).2.2.1).toInt64 (nI (K k).2.2.2).toInt64 (1 : Int64) (nI m1) d1 x1 y1) _ = _
        rw [ob_s g2]
        show ob (iter (bX10_draw_143 X Y U V (nI k)) FU (nI 0, nI m2, d2, x2, y2)) _ = _
        rw [ob_s g3]
        show some (0, (nI k + 1, nI m3, d3, x3, y3)) = _
        rw [nI_1]
      · show N - (nI (k + 1)).toNatClampNeg < N - (nI k).toNatClampNeg
        rw [nI_clamp (by omega), ck]; omega
    · obtain rfl : k = N := by omega
      refine Or.inr ⟨_, ?_, k, n, P, d, x, y, rfl, hG⟩
      show (if nI k ≤ nI k then some (1, _) else _) = _
      rw [if_pos (nI_le (Nat.le_refl _) (by omega))]) (nI 0, nI 0, d, x, y) ⟨0, 0, fun _ => (0, 0, 0), d, x, y, rfl, by omega, fun i hi => by omega, fun i j _ hj => by omega, fun i hi => by omega, fun q => ⟨fun ⟨i, hi, _⟩ => by omega, fun hq => hq.elim (fun ⟨i, hi, _⟩ => by omega) (fun ⟨a, b, _, hb, _⟩ => by omega)⟩⟩ FU (FU_lt (by show N - _ < _; omega))
  obtain ⟨t, e1, k, n', P', d', x', y', rfl, G⟩ := L3
  exact ⟨_, n', P', d', x', y', e1, G⟩
