/-! the reference's pieces -/
theorem mpiece_ok {n i j : Nat} {A B : Nat → Nat} {f t : Nat → Int32} (hn : n ≤ 800) (hi : i < 1000) (hj : j < 1000) (hf : hN n f A) (ht : hN n t B) (hA : ∀ s, s < n → A s < 1000) (hB : ∀ s, s < n → B s < 1000) : (∃ k, k < n ∧ ((A k = i ∧ B k = j) ∨ (A k = j ∧ B k = i)) ∧ (∀ l, l < k → ¬ ((A l = i ∧ B l = j) ∨ (A l = j ∧ B l = i))) ∧ sX10_piece (nI i) (nI j) (nI n) f t = some (nI k)) ∨ ((∀ k, k < n → ¬ ((A k = i ∧ B k = j) ∨ (A k = j ∧ B k = i))) ∧ sX10_piece (nI i) (nI j) (nI n) f t = some (-1)) := by
  have main := iter_first (B := bX10_piece_2 (nI i) (nI j) (nI n) f t) n (fun k => (A k = i ∧ B k = j) ∨ (A k = j ∧ B k = i)) 0 (by omega) (by omega) (fun k _ hk => by
    have h1 := hA k hk
    have h2 := hB k hk
    have e : bX10_piece_2 (nI i) (nI j) (nI n) f t (nI k) = if ¬ A k = i then if ¬ A k = j then some (0, nI (k + 1)) else if ¬ B k = i then some (0, nI (k + 1)) else some (1, nI k) else if B k = j then some (1, nI k) else if ¬ A k = j then some (0, nI (k + 1)) else if ¬ B k = i then some (0, nI (k + 1)) else some (1, nI k) := by
      simp (disch := omega) only [bX10_piece_2, dm1, nI_leS, nI_lt0, nI_clampS, false_or, gd_s, hf k hk, ht k hk, nI_eqS, lt, nI_1]
      rw [if_neg (by omega)]
    rw [e]
    by_cases a : A k = i <;> by_cases b : A k = j <;> by_cases c : B k = i <;> by_cases d : B k = j <;> simp only [a, b, c, d] <;> grind) (by
    simp (disch := omega) only [bX10_piece_2, dm1, nI_leS]
    rw [if_pos (by omega)])
  rcases main with ⟨k, -, h1, h2, h3, h4⟩ | ⟨h1, h2⟩
  · refine Or.inl ⟨k, h1, h2, fun l hl => h3 l (by omega) hl, ?_⟩
    unfold sX10_piece
    rw [nl_0, ob_s h4]
    rfl
  · refine Or.inr ⟨fun k hk => h1 k (by omega) hk, ?_⟩
    unfold sX10_piece
    rw [nl_0, ob_s h2]
    rfl
/-- the pieces P of m joints, each once -/
def PcM (P : Nat → Nat → Prop) (m n : Nat) (A B : Nat → Nat) : Prop := (∀ s, s < n → A s < B s ∧ B s < m ∧ P (A s) (B s)) ∧ (∀ s t, s < t → t < n → ¬ (A s = A t ∧ B s = B t)) ∧ ∀ i j, P i j → ∃ s, s < n ∧ A s = i ∧ B s = j
def CapM (m : Nat) (P : Nat → Nat → Prop) : Prop := ∀ (n : Nat) (A B : Nat → Nat), (∀ s, s < n → A s < B s ∧ B s < m ∧ P (A s) (B s)) → (∀ s t, s < t → t < n → ¬ (A s = A t ∧ B s = B t)) → n ≤ 342
theorem PcM_same {P P' : Nat → Nat → Prop} {m n : Nat} {A B : Nat → Nat} (h : PcM P m n A B) (e : ∀ i j, P i j ↔ P' i j) : PcM P' m n A B := ⟨fun s hs => ⟨(h.1 s hs).1, (h.1 s hs).2.1, (e _ _).mp (h.1 s hs).2.2⟩, h.2.1, fun i j hp => h.2.2 i j ((e i j).mpr hp)⟩
theorem PcM_push {P : Nat → Nat → Prop} {m n i j : Nat} {A B : Nat → Nat} (h : PcM P m n A B) (hij : i < j) (hj : j < m) (hn : ∀ s, s < n → ¬ (A s = i ∧ B s = j)) : PcM (fun a b => P a b ∨ (a = i ∧ b = j)) m (n + 1) (up A n i) (up B n j) := by
  obtain ⟨h1, h2, h3⟩ := h
  refine ⟨fun s hs => ?_, fun s t hst ht => ?_, fun a b hab => ?_⟩
  · by_cases q : s = n
    · subst q; rw [up_s, up_s]; exact ⟨hij, hj, Or.inr ⟨rfl, rfl⟩⟩
    · rw [up_n q, up_n q]
      obtain ⟨a1, a2, a3⟩ := h1 s (by omega)
      exact ⟨a1, a2, Or.inl a3⟩
  · rw [up_n (F := A) (show s ≠ n by omega), up_n (F := B) (show s ≠ n by omega)]
    by_cases q : t = n
    · subst q; rw [up_s, up_s]; exact hn s (by omega)
    · rw [up_n q, up_n q]; exact h2 s t hst (by omega)
  · rcases hab with p | ⟨rfl, rfl⟩
    · obtain ⟨s, hs, e1, e2⟩ := h3 a b p
      exact ⟨s, by omega, by rw [up_n (by omega)]; exact e1, by rw [up_n (by omega)]; exact e2⟩
    · exact ⟨n, by omega, up_s _ _ _, up_s _ _ _⟩
theorem mpart_ok {k m : Nat} (hm : m ≤ 128) {on : Nat → Bool} {X Y U V : Nat → Int32} {d x y : Nat → Int64} (hl : ∀ i, i < m → sX10_isOn (nI k) (nI i) X Y U V d x y = some (bI (on i))) {P : Nat → Nat → Prop} (hc : CapM m (fun a b => P a b ∨ cn1 on m a b)) {n : Nat} {A B : Nat → Nat} {f t : Nat → Int32} (hP : PcM P m n A B) (hf : hN n f A) (ht : hN n t B) : ∃ (n' : Nat) (A' B' : Nat → Nat) (f' t' : Nat → Int32), sX10_part (nI k) (nI m) (nI n) X Y U V d f t x y = some (nI n', f', t') ∧ PcM (fun a b => P a b ∨ cn1 on m a b) m n' A' B' ∧ hN n' f' A' ∧ hN n' t' B' := by
  obtain ⟨s, h1, h2⟩ := iter_for (S := Int32 × Nat × (Nat → Nat) × (Nat → Nat) × (Nat → Int32) × (Nat → Int32)) (B := bX10_part_4 (nI k) (nI m) X Y U V d x y) (fun i s => (s.1, nI i, nI s.2.1, s.2.2.2.2.1, s.2.2.2.2.2)) m (fun i s => ((s.1 = (-1 : Int32) ∧ ∀ l, l < i → on l = false) ∨ ∃ c, c < i ∧ s.1 = nI c ∧ on c = true ∧ ∀ l, c < l → l < i → on l = false) ∧ PcM (fun a b => P a b ∨ cn1 on i a b) m s.2.1 s.2.2.1 s.2.2.2.1 ∧ hN s.2.1 s.2.2.2.2.1 s.2.2.1 ∧ hN s.2.1 s.2.2.2.2.2 s.2.2.2.1) 0 ((-1 : Int32), n, A, B, f, t) ⟨Or.inl ⟨rfl, fun l h => by omega⟩, PcM_same hP (fun i j => ⟨Or.inl, fun z => by
      rcases z with z | z
      · exact z
      · exact absurd z.2.1 (by omega)⟩), hf, ht⟩ (by omega) (by omega) (fun i s _ hi hI => by
    obtain ⟨s1, n1, A1, B1, f1, t1⟩ := s
    obtain ⟨hb, hI, g1, g2⟩ := hI
    dsimp only at hb hI g1 g2 ⊢
    have hn1 : n1 ≤ 342 := hc n1 A1 B1 (fun s hs => by
      obtain ⟨a1, a2, a3⟩ := hI.1 s hs
      refine ⟨a1, a2, ?_⟩
      rcases a3 with a3 | a3
      · exact Or.inl a3
      · exact Or.inr ⟨a3.1, by have := a3.2.1; omega, a3.2.2⟩) hI.2.1
    have e0 : bX10_part_4 (nI k) (nI m) X Y U V d x y (s1, nI i, nI n1, f1, t1) = ob (if ¬ bI (on i) = 0 then if s1 < 0 then some (nI i, nI n1, f1, t1) else ob (sX10_piece s1 (nI i) (nI n1) f1 t1) (fun o => dm1 o (fun r12 => if 0 ≤ r12 then some (nI i, nI n1, f1, t1) else some (nI i, nI (n1 + 1), upd f1 n1 s1, upd t1 n1 (nI i)))) else some (s1, nI n1, f1, t1)) (fun t => dm4 t (fun v7 v8 v9 v10 => some (0, (v7, nI (i + 1), v8, v9, v10)))) := by
      simp (disch := omega) only [bX10_part_4, dm5, nI_leS, hl i hi, lt, nI_1, nI_lt0, nI_clampS, false_or, gd_s]
      rw [if_neg (by omega)]
      rfl
    cases ho : on i with
    | false =>
      rw [ho, if_neg (show ¬ ¬ bI false = 0 from fun z => z nI_0)] at e0
      refine ⟨(s1, n1, A1, B1, f1, t1), e0, ?_, PcM_same hI (fun a b => by rw [cn1_no ho]), g1, g2⟩
      rcases hb with ⟨hb1, hb2⟩ | ⟨c, hc, hb1, hb2, hb3⟩
      · refine Or.inl ⟨hb1, fun l hl => ?_⟩
        rcases Nat.lt_or_ge l i with q | q
        · exact hb2 l q
        · obtain rfl : l = i := by omega
          exact ho
      · refine Or.inr ⟨c, by omega, hb1, hb2, fun l h1 h2 => ?_⟩
        rcases Nat.lt_or_ge l i with q | q
        · exact hb3 l h1 q
        · obtain rfl : l = i := by omega
          exact ho
    | true =>
      rw [ho, if_pos (show ¬ bI true = 0 by rw [bI_0']; simp)] at e0
      rcases hb with ⟨hb1, hb2⟩ | ⟨c, hc, hb1, hb2, hb3⟩
      · rw [hb1, if_pos (by decide)] at e0
        rw [hb1]
        exact ⟨(nI i, n1, A1, B1, f1, t1), e0, Or.inr ⟨i, by omega, rfl, ho, fun l h1 h2 => by omega⟩, PcM_same hI (fun a b => by rw [cn1_none hb2]), g1, g2⟩
      · subst hb1
        rw [if_neg (nI_pos (by omega))] at e0
        rcases mpiece_ok (n := n1) (i := c) (j := i) (by omega) (by omega) (by omega) g1 g2 (fun s hs => by have := hI.1 s hs; omega) (fun s hs => by have := hI.1 s hs; omega) with ⟨z, z1, z2, -, z3⟩ | ⟨z1, z2⟩
        · rw [z3] at e0
          simp only [ob, dm1] at e0
          rw [if_pos (nI_pos' (by omega))] at e0
          refine ⟨(nI i, n1, A1, B1, f1, t1), e0, Or.inr ⟨i, by omega, rfl, ho, fun l h1 h2 => by omega⟩, PcM_same hI (fun a b => ?_), g1, g2⟩
          rw [cn1_new hc ho hb2 hb3]
          constructor
          · rintro (w | w)
            · exact Or.inl w
            · exact Or.inr (Or.inl w)
          · rintro (w | w | ⟨rfl, rfl⟩)
            · exact Or.inl w
            · exact Or.inr w
            · obtain ⟨y1, y2, y3⟩ := hI.1 z z1
              rcases z2 with ⟨e1, e2⟩ | ⟨e1, e2⟩
              · rw [e1, e2] at y3; exact y3
              · omega
        · rw [z2] at e0
          simp only [ob, dm1] at e0
          rw [if_neg (by decide)] at e0
          refine ⟨(nI i, n1 + 1, up A1 n1 c, up B1 n1 i, upd f1 n1 (nI c), upd t1 n1 (nI i)), e0, Or.inr ⟨i, by omega, rfl, ho, fun l h1 h2 => by omega⟩, PcM_same (PcM_push hI hc hi (fun s hs z => z1 s hs (Or.inl z))) (fun a b => ?_), hN_push g1 c, hN_push g2 i⟩
          rw [cn1_new hc ho hb2 hb3]
          constructor
          · rintro ((w | w) | w)
            · exact Or.inl w
            · exact Or.inr (Or.inl w)
            · exact Or.inr (Or.inr w)
          · rintro (w | w | w)
            · exact Or.inl (Or.inl w)
            · exact Or.inl (Or.inr w)
            · exact Or.inr w) (fun s _ => by
    simp (disch := omega) only [bX10_part_4, dm5, nI_leS]
    rw [if_pos (by omega)])
  refine ⟨s.2.1, s.2.2.1, s.2.2.2.1, s.2.2.2.2.1, s.2.2.2.2.2, ?_, h2.2.1, h2.2.2.1, h2.2.2.2⟩
  unfold sX10_part
  rw [nl_0, ob_s h1]
  rfl
theorem Cap_M {K : Nat → Ln} {N m : Nat} {Q : Nat → Pt3} (h : Mx K N m Q) {P : Nat → Nat → Prop} (hP : ∀ i j, P i j → Pc (onK K Q) N m i j) : CapM m P := by
  intro n A B hok hd
  have hex : ∀ s, ∃ c, s < n → (c < 342 ∧ cdP K N m Q c (A s) (B s)) := fun s => by
    by_cases hi : s < n
    · obtain ⟨c, c1, c2⟩ := cdP_ex h (hP _ _ (hok s hi).2.2)
      exact ⟨c, fun _ => ⟨c1, c2⟩⟩
    · exact ⟨0, fun z => absurd z hi⟩
  obtain ⟨f, hf⟩ := Classical.axiomOfChoice hex
  refine fb_holes 342 n f (fun i hi => (hf i hi).1) (fun i j hij hj e => ?_)
  have h1 := (hf i (by omega)).2
  have h2 := (hf j hj).2
  rw [← e] at h2
  exact hd i j hij hj (cdP_one h h1 h2)
theorem mparts_ok {K : Nat → Ln} {N m : Nat} {Q : Nat → Pt3} (h : Mx K N m Q) (hm : m ≤ 128) {X Y U V : Nat → Int32} {d x y : Nat → Int64} (hl : ∀ k i, k < N → i < m → sX10_isOn (nI k) (nI i) X Y U V d x y = some (bI (onK K Q k i))) (f t : Nat → Int32) : ∃ (n : Nat) (A B : Nat → Nat) (f' t' : Nat → Int32), iter (bX10_draw_173 X Y U V (nI N) (nI m) d x y) FU ((0 : Int32), (0 : Int32), f, t) = some (0, (nI N, nI n, f', t')) ∧ PcM (Pc (onK K Q) N m) m n A B ∧ hN n f' A ∧ hN n t' B ∧ n ≤ 342 := by
  have hN18 := h.1
  obtain ⟨s, h1, h2⟩ := iter_for (S := Nat × (Nat → Nat) × (Nat → Nat) × (Nat → Int32) × (Nat → Int32)) (B := bX10_draw_173 X Y U V (nI N) (nI m) d x y) (fun i s => (nI i, nI s.1, s.2.2.2.1, s.2.2.2.2)) N (fun i s => PcM (Pc (onK K Q) i m) m s.1 s.2.1 s.2.2.1 ∧ hN s.1 s.2.2.2.1 s.2.1 ∧ hN s.1 s.2.2.2.2 s.2.2.1) 0 (0, fun _ => 0, fun _ => 0, f, t) ⟨⟨fun s hs => absurd hs (Nat.not_lt_zero _), fun s t _ h => absurd h (Nat.not_lt_zero _), fun i j ⟨k, hk, _⟩ => absurd hk (Nat.not_lt_zero _)⟩, fun s hs => absurd hs (Nat.not_lt_zero _), fun s hs => absurd hs (Nat.not_lt_zero _)⟩ (by omega) (by omega) (fun i s _ hi hI => by
    obtain ⟨n1, A1, B1, f1, t1⟩ := s
    obtain ⟨a1, a2, a3⟩ := hI
    dsimp only at a1 a2 a3 ⊢
    have e : ∀ a b, (Pc (onK K Q) i m a b ∨ cn1 (onK K Q i) m a b) ↔ Pc (onK K Q) (i + 1) m a b := by
      intro a b
      constructor
      · rintro (⟨k, hk, z⟩ | z)
        · exact ⟨k, by omega, z⟩
        · exact ⟨i, by omega, z⟩
      · rintro ⟨k, hk, z⟩
        rcases Nat.lt_or_ge k i with q | q
        · exact Or.inl ⟨k, q, z⟩
        · obtain rfl : k = i := by omega
          exact Or.inr z
    obtain ⟨n2, A2, B2, f2, t2, b1, b2, b3, b4⟩ := mpart_ok (k := i) hm (fun j hj => hl i j hi hj) (Cap_M h (fun a b z => by
      obtain ⟨k, hk, z⟩ := (e a b).mp z
      exact ⟨k, by omega, z⟩)) a1 a2 a3
    refine ⟨(n2, A2, B2, f2, t2), ?_, PcM_same b2 e, b3, b4⟩
    simp (disch := omega) only [bX10_draw_173, dm4, nI_leS, b1, ob, dm3, lt, nI_1]
    rw [if_neg (by omega)]) (fun s _ => by
    simp (disch := omega) only [bX10_draw_173, dm4, nI_leS]
    rw [if_pos (by omega)])
  obtain ⟨n1, A1, B1, f1, t1⟩ := s
  obtain ⟨a1, a2, a3⟩ := h2
  exact ⟨n1, A1, B1, f1, t1, h1, a1, a2, a3, Cap_M h (fun _ _ z => z) n1 A1 B1 a1.1 a1.2.1⟩
