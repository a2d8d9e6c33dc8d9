/-! all joints of a drawing, on both sides: one set of points -/
def GX (S : Pt3 → Prop) (n : Nat) (P : Nat → Pt3) (u x y : Nat → Int32) : Prop := (∀ i, i < n → pOK (P i)) ∧ Srt n P ∧ JR n P u x y ∧ ∀ q, (∃ i, i < n ∧ P i = q) ↔ S q
def GM (S : Pt3 → Prop) (n : Nat) (P : Nat → Pt3) (d x y : Nat → Int64) : Prop := (∀ i, i < n → pOK (P i)) ∧ Srt n P ∧ JL n P d x y ∧ ∀ q, (∃ i, i < n ∧ P i = q) ↔ S q
/-- no more than 123 points fit -/
def Cap (T : Pt3 → Prop) : Prop := ∀ (n : Nat) (P : Nat → Pt3), Srt n P → (∀ i, i < n → T (P i)) → n ≤ 123
theorem redu_1 (a b : Nat) : redu a b 1 = (a, b, 1) := by
  have h := redu_scale (a := a) (b := b) (k := 1) (by omega)
  rw [Nat.mul_one, Nat.mul_one] at h
  exact h
theorem GX_le {T S : Pt3 → Prop} (hT : Cap T) (hS : ∀ q, S q → T q) {n : Nat} {P : Nat → Pt3} {u x y : Nat → Int32} (h : GX S n P u x y) : n ≤ 123 := hT n P h.2.1 (fun i hi => hS _ ((h.2.2.2 (P i)).mp ⟨i, hi, rfl⟩))
theorem GM_le {T S : Pt3 → Prop} (hT : Cap T) (hS : ∀ q, S q → T q) {n : Nat} {P : Nat → Pt3} {d x y : Nat → Int64} (h : GM S n P d x y) : n ≤ 123 := hT n P h.2.1 (fun i hi => hS _ ((h.2.2.2 (P i)).mp ⟨i, hi, rfl⟩))
/-- ends of the first k lines; crossings of pairs -/
def endS (K : Nat → Ln) (k : Nat) (q : Pt3) : Prop := ∃ i, i < k ∧ (q = ((K i).1, (K i).2.1, 1) ∨ q = ((K i).2.2.1, (K i).2.2.2, 1))
def crsS (K : Nat → Ln) (k : Nat) (q : Pt3) : Prop := ∃ i j, j < i ∧ i < k ∧ crs (K i) (K j) ∧ q = crP (K i) (K j)
def allS (K : Nat → Ln) (N : Nat) (q : Pt3) : Prop := endS K N q ∨ crsS K N q
theorem GX_end {T S : Pt3 → Prop} (hT : Cap T) (hS : ∀ q, S q → T q) {n : Nat} {P : Nat → Pt3} {u x y : Nat → Int32} (h : GX S n P u x y) {a b : Nat} (ha : a ≤ 12) (hb : b ≤ 12) : ∃ (m : Nat) (Q : Nat → Pt3) (u' x' y' : Nat → Int32), sX4_insert (nI a) (nI b) (1 : Int32) (nI n) u x y = some (nI m, u', x', y') ∧ GX (fun q => S q ∨ q = (a, b, 1)) m Q u' x' y' := by
  have hn := GX_le hT hS h
  obtain ⟨m, Q, u', x', y', g1, g2, g3, g4, g5, g6⟩ := ins_ok (by omega) h.1 h.2.1 h.2.2.1 (a := a) (b := b) (c := 1) (by omega) (by omega) (by omega) (by omega)
  refine ⟨m, Q, u', x', y', g1, g3, g4, g5, fun q => ?_⟩
  rw [g6 q, h.2.2.2 q, redu_1]
theorem GX_crs {T S : Pt3 → Prop} (hT : Cap T) (hS : ∀ q, S q → T q) {n : Nat} {P : Nat → Pt3} {u x y : Nat → Int32} (h : GX S n P u x y) {X Y U V : Nat → Int32} {i j : Nat} (hi : i < 18) (hj : j < 18) {L M : Ln} (hL : lnOK L) (hM : lnOK M) (aL : LnAt X Y U V i L) (aM : LnAt X Y U V j M) : ∃ (m : Nat) (Q : Nat → Pt3) (u' x' y' : Nat → Int32), sX4_insertCrossing (nI i) (nI j) (nI n) u x y U V X Y = some (nI m, u', x', y') ∧ GX (fun q => S q ∨ (crs L M ∧ q = crP L M)) m Q u' x' y' := by
  have hn := GX_le hT hS h
  obtain ⟨m, Q, u', x', y', g1, g2, g3, g4, g5, g6⟩ := insC_ok (by omega) h.1 h.2.1 h.2.2.1 hi hj hL hM aL aM
  refine ⟨m, Q, u', x', y', g1, g3, g4, g5, fun q => ?_⟩
  rw [g6 q, h.2.2.2 q]
/-- the class's gather -/
theorem gather_ok {K : Nat → Ln} {N : Nat} (hN : N ≤ 18) (hK : ∀ k, k < N → lnOK (K k)) {X Y U V : Nat → Int32} (hA : ∀ k, k < N → LnAt X Y U V k (K k)) (hT : Cap (allS K N)) (tot : Int32) (u x y : Nat → Int32) : ∃ (m : Nat) (Q : Nat → Pt3) (u' x' y' : Nat → Int32), sX4_gather tot u x y (nI N) U V X Y = some (nI m, u', x', y') ∧ GX (allS K N) m Q u' x' y' := by
  -- the ends
  have L1 := iter_ex0 (B := bX4_gather_7 (nI N) U V X Y) (fun t => ∃ k n P u x y, t = (nI k, nI n, u, x, y) ∧ k ≤ N ∧ GX (endS K k) n P u x y) (fun t => N - t.1.toNatClampNeg) (fun t => ∃ k n P u x y, t = (nI k, nI n, u, x, y) ∧ GX (endS K N) n P u x y) (fun t ht => by
    obtain ⟨k, n, P, u, x, y, rfl, hk, hG⟩ := ht
    have ck : (nI k).toNatClampNeg = k := nI_clamp (by omega)
    rcases Nat.lt_or_ge k N with h | h
    · obtain ⟨a1, a2, a3, a4⟩ := hA k h
      obtain ⟨o1, o2, o3, o4⟩ := hK k h
      obtain ⟨m1, Q1, u1, x1, y1, g1, G1⟩ := GX_end hT (fun q hq => Or.inl (by obtain ⟨i, hi, e⟩ := hq; exact ⟨i, by omega, e⟩)) hG o1 o2
      obtain ⟨m2, Q2, u2, x2, y2, g2, G2⟩ := GX_end hT (fun q hq => Or.inl (by
        rcases hq with ⟨i, hi, e⟩ | e
        · exact ⟨i, by omega, e⟩
        · exact ⟨k, h, Or.inl e⟩)) G1 o3 o4
      refine Or.inl ⟨(nI (k + 1), nI m2, u2, x2, y2), ?_, ⟨k + 1, m2, Q2, u2, x2, y2, rfl, by omega, ?_⟩, ?_⟩
      · simp only [bX4_gather_7, dm5, gd_t (ix_ok (show k < 18 by omega) (by omega))]
        rw [ck, a1, a2, a3, a4, if_neg (nI_ge h (by omega)), ob_s g1]
        show ob (sX4_insert (nI (K k).2.2.1) (nI (K k).2.2.2) (1 : Int32) (nI m1) u1 x1 y1) _ = _
        rw [ob_s g2]
        show some (0, (nI k + 1, nI m2, u2, x2, y2)) = _
        rw [nI_1]
      · obtain ⟨c1, c2, c3, c4⟩ := G2
        refine ⟨c1, c2, c3, fun q => (c4 q).trans ⟨fun hq => ?_, fun hq => ?_⟩⟩
        · rcases hq with (⟨i, hi, e⟩ | e) | e
          · exact ⟨i, by omega, e⟩
          · exact ⟨k, by omega, Or.inl e⟩
          · exact ⟨k, by omega, Or.inr e⟩
        · obtain ⟨i, hi, e⟩ := hq
          rcases Nat.lt_or_ge i k with h9 | h9
          · exact Or.inl (Or.inl ⟨i, h9, e⟩)
          · obtain rfl : i = k := by omega
            rcases e with e | e
            · exact Or.inl (Or.inr e)
            · exact Or.inr e
      · show N - (nI (k + 1)).toNatClampNeg < N - (nI k).toNatClampNeg
        rw [nI_clamp (by omega), ck]; omega
    · obtain rfl : k = N := by omega
      refine Or.inr ⟨_, ?_, k, n, P, u, x, y, rfl, hG⟩
      show (if nI k ≤ nI k then some (1, _) else _) = _
      rw [if_pos (nI_le (Nat.le_refl _) (by omega))]) (nI 0, nI 0, u, x, y) ⟨0, 0, fun _ => (0, 0, 0), u, x, y, rfl, by omega, fun i hi => by omega, fun i j _ hj => by omega, fun i hi => by omega, fun q => ⟨fun ⟨i, hi, _⟩ => by omega, fun ⟨i, hi, _⟩ => by omega⟩⟩ FU (FU_lt (by show N - _ < _; omega))
  obtain ⟨t1, h1, k1, n1, P1, u1, x1, y1, rfl, G1⟩ := L1
  -- the crossings
  have inner : ∀ (i : Nat) (hi : i < N) (n : Nat) (P : Nat → Pt3) (u x y : Nat → Int32), GX (fun q => endS K N q ∨ crsS K i q) n P u x y → ∃ (v : Int32) (n' : Nat) (P' : Nat → Pt3) (u' x' y' : Nat → Int32), iter (bX4_gather_67 U V X Y (nI i)) FU (nI 0, nI n, u, x, y) = some (0, (v, nI n', u', x', y')) ∧ GX (fun q => endS K N q ∨ crsS K (i + 1) q) n' P' u' x' y' := by
    intro i hi n P u x y hG
    have L2 := iter_ex0 (B := bX4_gather_67 U V X Y (nI i)) (fun t => ∃ j n P u x y, t = (nI j, nI n, u, x, y) ∧ j ≤ i ∧ GX (fun q => (endS K N q ∨ crsS K i q) ∨ ∃ b, b < j ∧ crs (K i) (K b) ∧ q = crP (K i) (K b)) n P u x y) (fun t => i - t.1.toNatClampNeg) (fun t => ∃ j n P u x y, t = (nI j, nI n, u, x, y) ∧ GX (fun q => (endS K N q ∨ crsS K i q) ∨ ∃ b, b < i ∧ crs (K i) (K b) ∧ q = crP (K i) (K b)) n P u x y) (fun t ht => by
      obtain ⟨j, n, P, u, x, y, rfl, hj, hG⟩ := ht
      have cj : (nI j).toNatClampNeg = j := nI_clamp (by omega)
      rcases Nat.lt_or_ge j i with h | h
      · obtain ⟨m2, Q2, u2, x2, y2, g2, G2⟩ := GX_crs hT (fun q hq => by
          rcases hq with (e | ⟨a, b, h3, h4, h5⟩) | ⟨b, h3, h4⟩
          · exact Or.inl e
          · exact Or.inr ⟨a, b, h3, by omega, h5⟩
          · exact Or.inr ⟨i, b, by omega, hi, h4⟩) hG (show i < 18 by omega) (show j < 18 by omega) (hK i hi) (hK j (by omega)) (hA i hi) (hA j (by omega))
        refine Or.inl ⟨(nI (j + 1), nI m2, u2, x2, y2), ?_, ⟨j + 1, m2, Q2, u2, x2, y2, rfl, by omega, ?_⟩, ?_⟩
        · show (if nI i ≤ nI j then _ else ob (sX4_insertCrossing (nI i) (nI j) (nI n) u x y U V X Y) _) = _
          rw [if_neg (nI_ge h (by omega)), ob_s g2]
          show some (0, (nI j + 1, nI m2, u2, x2, y2)) = _
          rw [nI_1]
        · obtain ⟨c1, c2, c3, c4⟩ := G2
          refine ⟨c1, c2, c3, fun q => (c4 q).trans ⟨fun hq => ?_, fun hq => ?_⟩⟩
          · rcases hq with (e | ⟨b, h3, h4⟩) | e
            · exact Or.inl e
            · exact Or.inr ⟨b, by omega, h4⟩
            · exact Or.inr ⟨j, by omega, e⟩
          · rcases hq with e | ⟨b, h3, h4⟩
            · exact Or.inl (Or.inl e)
            · rcases Nat.lt_or_ge b j with h9 | h9
              · exact Or.inl (Or.inr ⟨b, h9, h4⟩)
              · obtain rfl : b = j := by omega
                exact Or.inr h4
        · show i - (nI (j + 1)).toNatClampNeg < i - (nI j).toNatClampNeg
          rw [nI_clamp (by omega), cj]; omega
      · obtain rfl : j = i := by omega
        refine Or.inr ⟨_, ?_, j, n, P, u, x, y, rfl, hG⟩
        show (if nI j ≤ nI j then some (1, _) else _) = _
        rw [if_pos (nI_le (Nat.le_refl _) (by omega))]) (nI 0, nI n, u, x, y) ⟨0, n, P, u, x, y, rfl, by omega, hG.1, hG.2.1, hG.2.2.1, fun q => (hG.2.2.2 q).trans ⟨Or.inl, fun hq => hq.elim id (fun ⟨b, hb, _⟩ => by omega)⟩⟩ FU (FU_lt (by show i - _ < _; omega))
    obtain ⟨t, e1, j, n', P', u', x', y', rfl, G⟩ := L2
    refine ⟨_, n', P', u', x', y', e1, G.1, G.2.1, G.2.2.1, fun q => (G.2.2.2 q).trans ⟨fun hq => ?_, fun hq => ?_⟩⟩
    · rcases hq with (e | ⟨a, b, h3, h4, h5⟩) | ⟨b, h3, h4⟩
      · exact Or.inl e
      · exact Or.inr ⟨a, b, h3, by omega, h5⟩
      · exact Or.inr ⟨i, b, by omega, by omega, h4⟩
    · rcases hq with e | ⟨a, b, h3, h4, h5⟩
      · exact Or.inl (Or.inl e)
      · rcases Nat.lt_or_ge a i with h9 | h9
        · exact Or.inl (Or.inr ⟨a, b, h3, h9, h5⟩)
        · obtain rfl : a = i := by omega
          exact Or.inr ⟨b, h3, h5⟩
  have L3 := iter_ex0 (B := bX4_gather_57 (nI N) U V X Y) (fun t => ∃ i n P u x y, t = (nI i, nI n, u, x, y) ∧ i ≤ N ∧ GX (fun q => endS K N q ∨ crsS K i q) n P u x y) (fun t => N - t.1.toNatClampNeg) (fun t => ∃ i n P u x y, t = (nI i, nI n, u, x, y) ∧ GX (fun q => endS K N q ∨ crsS K N q) n P u x y) (fun t ht => by
    obtain ⟨i, n, P, u, x, y, rfl, hi, hG⟩ := ht
    have ci : (nI i).toNatClampNeg = i := nI_clamp (by omega)
    rcases Nat.lt_or_ge i N with h | h
    · obtain ⟨v, m2, Q2, u2, x2, y2, g2, G2⟩ := inner i h n P u x y hG
      refine Or.inl ⟨(nI (i + 1), nI m2, u2, x2, y2), ?_, ⟨i + 1, m2, Q2, u2, x2, y2, rfl, by omega, G2⟩, ?_⟩
      · show (if nI N ≤ nI i then _ else ob (iter (bX4_gather_67 U V X Y (nI i)) FU (nI 0, nI n, u, x, y)) _) = _
        rw [if_neg (nI_ge h (by omega)), ob_s g2]
        show some (0, (nI i + 1, nI m2, u2, x2, y2)) = _
        rw [nI_1]
      · show N - (nI (i + 1)).toNatClampNeg < N - (nI i).toNatClampNeg
        rw [nI_clamp (by omega), ci]; omega
    · obtain rfl : i = N := by omega
      refine Or.inr ⟨_, ?_, i, n, P, u, x, y, rfl, hG⟩
      show (if nI i ≤ nI i then some (1, _) else _) = _
      rw [if_pos (nI_le (Nat.le_refl _) (by omega))]) (nI 0, nI n1, u1, x1, y1) ⟨0, n1, P1, u1, x1, y1, rfl, by omega, G1.1, G1.2.1, G1.2.2.1, fun q => (G1.2.2.2 q).trans ⟨Or.inl, fun hq => hq.elim id (fun ⟨a, b, _, hb, _⟩ => by omega)⟩⟩ FU (FU_lt (by show N - _ < _; omega))
  obtain ⟨t3, h3, i3, n3, P3, u3, x3, y3, rfl, G3⟩ := L3
  refine ⟨n3, P3, u3, x3, y3, ?_, G3⟩
  show ob (iter (bX4_gather_7 (nI N) U V X Y) FU (nI 0, nI 0, u, x, y)) _ = _
  rw [ob_s h1]
  show ob (iter (bX4_gather_57 (nI N) U V X Y) FU (nI 0, nI n1, u1, x1, y1)) _ = _
  rw [ob_s h3]
  rfl
