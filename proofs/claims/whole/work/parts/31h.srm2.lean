/-! the reference's search as a whole; both are one -/
theorem dm3_e {A1 A2 A3 R : Type} (t : A1 × A2 × A3) (F : A1 → A2 → A3 → Option R) : dm3 t F = F t.1 t.2.1 t.2.2 := rfl
theorem dm4_e {A1 A2 A3 A4 R : Type} (t : A1 × A2 × A3 × A4) (F : A1 → A2 → A3 → A4 → Option R) : dm4 t F = F t.1 t.2.1 t.2.2.1 t.2.2.2 := rfl
theorem ob_x2a {A R : Type} {e : Option (Nat × A)} {a : A} (h : e = some (0, a)) (f g : A → Option R) : ob e (fun kt => ex2 kt f g) = f a := by subst h; rfl
theorem ob_x2b {A R : Type} {e : Option (Nat × A)} {a : A} (h : e = some (1, a)) (f g : A → Option R) : ob e (fun kt => ex2 kt f g) = g a := by subst h; rfl
theorem outM {np P : Nat} (hnp : np ≤ 125) (hP : P ≤ np) (h0 : 0 < P) {ord : Nat → Nat} (ho : ∀ i, i < P → ord i < np) (hinj : ∀ i j, i < j → j < P → ord i < ord j) {tb : Nat → Nat → Bool} {tc : Nat → Int32} (ht : ∀ p q, p < np → q < np → tc (160 * p + q) = bI (tb p q)) {oa : Nat → Int32} (hoa : ∀ i, i < P → oa i = nI (ord i)) {al : Nat → Int32} {tries : Nat} (hl : tries ≤ 100000) (tr : Nat → Int32) : ∃ k t', iter (bX12_search_25 (nI P) al oa tc) FU (nI tries, (0 : Int32), upd tr (ord 0) (-1 : Int32)) = some (k, t') ∧ ((k = 0 ∧ ∃ col, FinS (alB al) tb ord P (0, tries, fun _ => 0) 2 col) ∨ (k = 1 ∧ ∃ col, FinS (alB al) tb ord P (0, tries, fun _ => 0) 1 col ∧ ∀ i, i < P → t'.2.2 (ord i) = nI (col i)) ∨ (k = 2 ∧ ∃ col, FinS (alB al) tb ord P (0, tries, fun _ => 0) 0 col)) := by
  obtain ⟨k, t', h1, h2⟩ := iter_whE (S := Bool × Sc × (Nat → Int32)) (B := bX12_search_25 (nI P) al oa tc) (fun s => (nI s.2.1.2.1, if s.1 = true then (-1 : Int32) else nI s.2.1.1, s.2.2)) (fun s => (s.1 = true → ∃ col, FinS (alB al) tb ord P (0, tries, fun _ => 0) 0 col) ∧ (s.1 = false → s.2.1.1 < P ∧ s.2.1.2.1 ≤ tries ∧ (∀ i, i < s.2.1.1 → s.2.1.2.2 i ≤ 7) ∧ s.2.1.2.2 s.2.1.1 ≤ 8 ∧ (∀ i, i < s.2.1.1 → s.2.2 (ord i) = nI (s.2.1.2.2 i)) ∧ s.2.2 (ord s.2.1.1) + (1 : Int32) = nI (s.2.1.2.2 s.2.1.1) ∧ ∀ r col, FinS (alB al) tb ord P s.2.1 r col → FinS (alB al) tb ord P (0, tries, fun _ => 0) r col)) (fun s => if s.1 = true then 0 else 16 * s.2.1.2.1 + 8 * s.2.1.1 + (9 - s.2.1.2.2 s.2.1.1) + 1) (fun k t' => (k = 0 ∧ ∃ col, FinS (alB al) tb ord P (0, tries, fun _ => 0) 2 col) ∨ (k = 1 ∧ ∃ col, FinS (alB al) tb ord P (0, tries, fun _ => 0) 1 col ∧ ∀ i, i < P → t'.2.2 (ord i) = nI (col i)) ∨ (k = 2 ∧ ∃ col, FinS (alB al) tb ord P (0, tries, fun _ => 0) 0 col)) (fun s hs => by
    obtain ⟨en, ⟨a, l, t⟩, tr⟩ := s
    obtain ⟨s1, s2⟩ := hs
    dsimp only at s1 s2 ⊢
    cases en with
    | true =>
      right
      refine ⟨2, (nI l, (-1 : Int32), tr), ?_, Or.inr (Or.inr ⟨rfl, s1 rfl⟩)⟩
      rw [if_pos rfl]
      unfold bX12_search_25
      rw [dm3_e, if_pos (show (-1 : Int32) < 0 by decide)]
    | false =>
      obtain ⟨q1, q2, q3, q4, q5, q6, q7⟩ := s2 rfl
      rw [if_neg (by simp)]
      have hp := ho a q1
      obtain ⟨ia, ca⟩ := ix_c (i := a) (n := 160) (by omega) (by omega)
      obtain ⟨ib, cb⟩ := ix_c (i := ord a) (n := 160) (by omega) (by omega)
      obtain ⟨k, t', p1, p2⟩ := placeM hnp hP q1 ho hinj ht hoa q3 q4 q5 (al := al) (l := l) (by omega)
      have na : ¬ nI a < 0 := nI_pos (by omega)
      have st : bX12_search_25 (nI P) al oa tc (nI l, nI a, tr) = ob (iter (bX12_search_51 al oa tc (nI a) (nI (ord a))) FU (nI l, (0 : Int32), nI (t a), tr)) (fun kt => ex2 kt (fun t => dm4 t (fun v23 v24 v25 v26 => some (1, (v23, nI a, v26)))) (fun t => dm4 t (fun v27 v28 v29 v30 => if ¬ v28 = 0 then lt (nI a + 1) (fun x31 => if ¬ x31 = nI P then gd (¬ (x31 < 0 ∨ 160 ≤ x31.toNatClampNeg)) (gd (¬ ((oa x31.toNatClampNeg) < 0 ∨ 160 ≤ (oa x31.toNatClampNeg).toNatClampNeg)) (lt (upd v30 (oa x31.toNatClampNeg).toNatClampNeg (-1 : Int32)) (fun f32 => some (0, (v27, x31, f32))))) else some (2, (v27, x31, v30))) else lt (nI a + (-1)) (fun x33 => some (0, (v27, x33, v30)))))) := by
        unfold bX12_search_25
        rw [dm3_e, if_neg na, gd_s ia, ca, hoa a q1, lt_v, gd_s ib, cb, lt_v, q6]
      rcases p2 with ⟨y1, col, y2⟩ | ⟨y1, y2⟩
      · subst y1
        right
        refine ⟨0, (t'.1, nI a, t'.2.2.2), ?_, Or.inl ⟨rfl, col, q7 _ _ y2⟩⟩
        rw [st, ob_x2a p1, dm4_e]
      · subst y1
        rcases y2 with ⟨z1, l', z2, z3, z4, z5⟩ | ⟨z1, l', c, z2, z3, z4, z5, z6, z7, z8⟩
        · by_cases ha : a = 0
          · subst ha
            left
            refine ⟨(true, (0, l', t), t'.2.2.2), ?_, ⟨fun _ => ⟨t, q7 _ _ (z5 _ _ ?_)⟩, fun y => (by cases y)⟩, ?_⟩
            · rw [st, ob_x2b p1, dm4_e, z1, if_neg (by decide), lt_v, z3]
              rfl
            · apply Fin_e
              · unfold stp
                show (if 0 = P then _ else if 8 ≤ upF t 0 8 0 then (if 0 = 0 then none else _) else _) = _
                rw [if_neg (by omega), upF_s, if_pos (by omega), if_pos rfl]
              · unfold cdF
                show (if 0 = P then 1 else if 8 ≤ upF t 0 8 0 then 0 else 2) = 0
                rw [if_neg (by omega), upF_s, if_pos (by omega)]
              · intro z; cases z
            · show (if true = true then 0 else _) < (if false = true then 0 else 16 * l + 8 * 0 + (9 - t 0) + 1)
              rw [if_pos rfl, if_neg (by simp)]; omega
          · left
            have b7 := q3 (a - 1) (by omega)
            refine ⟨(false, (a - 1, l', upF (upF t a 8) (a - 1) (t (a - 1) + 1)), t'.2.2.2), ?_, ⟨fun y => (by cases y), fun _ => ⟨by show a - 1 < P; omega, by show l' ≤ tries; omega, fun i hi => ?_, ?_, fun i hi => ?_, ?_, fun r col hF => ?_⟩⟩, ?_⟩
            · rw [st, ob_x2b p1, dm4_e, z1, if_neg (by decide), lt_v, z3, nI_dec (by omega)]
              rfl
            · have hi' : i < a - 1 := hi
              show upF (upF t a 8) (a - 1) (t (a - 1) + 1) i ≤ 7
              rw [upF_n (by omega), upF_n (by omega)]; exact q3 i (by omega)
            · show upF (upF t a 8) (a - 1) (t (a - 1) + 1) (a - 1) ≤ 8
              rw [upF_s]; omega
            · have hi' : i < a - 1 := hi
              show t'.2.2.2 (ord i) = nI (upF (upF t a 8) (a - 1) (t (a - 1) + 1) i)
              rw [upF_n (by omega), upF_n (by omega)]; exact z4 i (by omega)
            · show t'.2.2.2 (ord (a - 1)) + (1 : Int32) = nI (upF (upF t a 8) (a - 1) (t (a - 1) + 1) (a - 1))
              rw [upF_s, z4 (a - 1) (by omega), nl_1, nI_add]
            · apply q7
              apply z5
              have q : stp (alB al) tb ord P (a, l', upF t a 8) = some (a - 1, l', upF (upF t a 8) (a - 1) (t (a - 1) + 1)) := by
                unfold stp
                show (if a = P then _ else if 8 ≤ upF t a 8 a then (if a = 0 then none else some (a - 1, l', upF (upF t a 8) (a - 1) (upF t a 8 (a - 1) + 1))) else _) = _
                rw [if_neg (by omega), upF_s, if_pos (by omega), if_neg ha, upF_n (show a - 1 ≠ a by omega)]
              exact Fin_b q hF
            · show (if false = true then 0 else 16 * l' + 8 * (a - 1) + (9 - upF (upF t a 8) (a - 1) (t (a - 1) + 1) (a - 1)) + 1) < (if false = true then 0 else 16 * l + 8 * a + (9 - t a) + 1)
              rw [if_neg (by simp), if_neg (by simp), upF_s]; omega
        · by_cases haP : a + 1 = P
          · right
            refine ⟨1, (t'.1, nI (a + 1), t'.2.2.2), ?_, Or.inr (Or.inl ⟨rfl, upF t a c, q7 _ _ (z8 _ _ ?_), fun i hi => ?_⟩)⟩
            · rw [st, ob_x2b p1, dm4_e, z1, if_pos (by decide), lt_v, nl_1, nI_add, if_neg (by rw [haP]; simp)]
            · apply Fin_e
              · unfold stp; rw [if_pos haP]
              · unfold cdF; rw [if_pos haP]
              · intro _ i hi
                show upF (upF t a c) (a + 1) 0 i = upF t a c i
                rw [upF_n (by omega)]
            · show t'.2.2.2 (ord i) = nI (upF t a c i)
              by_cases y : i = a
              · subst y; rw [upF_s]; exact z7
              · rw [upF_n y]; exact z6 i (by omega)
          · left
            have hb := ho (a + 1) (by omega)
            obtain ⟨ic, cc⟩ := ix_c (i := a + 1) (n := 160) (by omega) (by omega)
            obtain ⟨id', cd⟩ := ix_c (i := ord (a + 1)) (n := 160) (by omega) (by omega)
            refine ⟨(false, (a + 1, l', upF (upF t a c) (a + 1) 0), upd t'.2.2.2 (ord (a + 1)) (-1)), ?_, ⟨fun y => (by cases y), fun _ => ⟨by show a + 1 < P; omega, by show l' ≤ tries; omega, fun i hi => ?_, ?_, fun i hi => ?_, ?_, fun r col hF => q7 _ _ (z8 _ _ hF)⟩⟩, ?_⟩
            · rw [st, ob_x2b p1, dm4_e, z1, if_pos (by decide), lt_v, nl_1, nI_add, if_pos (by rw [nI_eqS (by omega) (by omega)]; omega), gd_s ic, cc, hoa (a + 1) (by omega), gd_s id', cd, lt_v, z5]
              rfl
            · have hi' : i < a + 1 := hi
              show upF (upF t a c) (a + 1) 0 i ≤ 7
              rw [upF_n (by omega)]
              by_cases y : i = a
              · subst y; rw [upF_s]; omega
              · rw [upF_n y]; exact q3 i (by omega)
            · show upF (upF t a c) (a + 1) 0 (a + 1) ≤ 8
              rw [upF_s]; omega
            · have hi' : i < a + 1 := hi
              show upd t'.2.2.2 (ord (a + 1)) (-1) (ord i) = nI (upF (upF t a c) (a + 1) 0 i)
              have := hinj i (a + 1) (by omega) (by omega)
              rw [upF_n (by omega), pk_un (by omega)]
              by_cases y : i = a
              · subst y; rw [upF_s]; exact z7
              · rw [upF_n y]; exact z6 i (by omega)
            · show upd t'.2.2.2 (ord (a + 1)) (-1) (ord (a + 1)) + (1 : Int32) = nI (upF (upF t a c) (a + 1) 0 (a + 1))
              rw [upF_s, pk_us]; rfl
            · show (if false = true then 0 else 16 * l' + 8 * (a + 1) + (9 - upF (upF t a c) (a + 1) 0 (a + 1)) + 1) < (if false = true then 0 else 16 * l + 8 * a + (9 - t a) + 1)
              rw [if_neg (by simp), if_neg (by simp), upF_s]; omega) (false, (0, tries, fun _ => 0), upd tr (ord 0) (-1)) ⟨fun y => (by cases y), fun _ => ⟨h0, Nat.le_refl _, fun i hi => absurd hi (Nat.not_lt_zero _), (by show (0 : Nat) ≤ 8; omega), fun i hi => absurd hi (Nat.not_lt_zero _), (by show upd tr (ord 0) (-1) (ord 0) + (1 : Int32) = nI 0; rw [pk_us]; rfl), fun _ _ hF => hF⟩⟩ (by
      show (if false = true then 0 else 16 * tries + 8 * 0 + (9 - 0) + 1) < 999999999
      rw [if_neg (by simp)]; omega)
  refine ⟨k, t', ?_, h2⟩
  have e : (if false = true then (-1 : Int32) else nI 0) = (0 : Int32) := rfl
  rw [← h1]
  rfl
theorem srchM_ok {np tries : Nat} (hnp : np ≤ 125) (htr : tries ≤ 100000) (lf : Nat → Bool) {tb : Nat → Nat → Bool} {tc : Nat → Int32} (ht : ∀ p q, p < np → q < np → tc (160 * p + q) = bI (tb p q)) {oa : Nat → Int32} (hoa : ∀ i, i < (ordF lf np).1 → oa i = nI ((ordF lf np).2 i)) (al tr : Nat → Int32) : ∃ (r : Nat) (col : Nat → Nat) (tr' : Nat → Int32), sX12_search (nI tries) (nI (ordF lf np).1) al oa tc tr = some (rI r, tr') ∧ FinS (alB al) tb (ordF lf np).2 (ordF lf np).1 (0, tries, fun _ => 0) r col ∧ (r = 1 → ∀ i, i < (ordF lf np).1 → tr' ((ordF lf np).2 i) = nI (col i)) := by
  obtain ⟨o1, o2, o3⟩ := ordF_ok lf np
  by_cases h0 : (ordF lf np).1 = 0
  · refine ⟨1, fun _ => 0, tr, ?_, ?_, fun _ i hi => by omega⟩
    · unfold sX12_search
      rw [h0]
      rfl
    · apply Fin_e
      · unfold stp; rw [if_pos h0.symm]
      · unfold cdF; rw [if_pos h0.symm]
      · intro _ i hi; omega
  · have hp := o2 0 (by omega)
    obtain ⟨ib, cb⟩ := ix_c (i := (ordF lf np).2 0) (n := 160) (by omega) (by omega)
    obtain ⟨k, t', f1, f2⟩ := outM hnp o1 (by omega) o2 o3 ht hoa (al := al) htr tr
    have st : sX12_search (nI tries) (nI (ordF lf np).1) al oa tc tr = ob (iter (bX12_search_25 (nI (ordF lf np).1) al oa tc) FU (nI tries, (0 : Int32), upd tr ((ordF lf np).2 0) (-1 : Int32))) (fun kt => ex3 kt (fun t => dm3 t (fun v34 v35 v36 => some ((-6 : Int32), v36))) (fun t => dm3 t (fun v37 v38 v39 => some ((1 : Int32), v39))) (fun t => dm3 t (fun v40 v41 v42 => some ((0 : Int32), v42)))) := by
      unfold sX12_search
      have z0 : ((0 : Int32)).toNatClampNeg = 0 := rfl
      rw [if_pos (by rw [nl_0, nI_eqS (by omega) (by omega)]; exact h0), gd_s (by decide), z0, hoa 0 (by omega), gd_s ib, cb, lt_v]
    rcases f2 with ⟨y1, col, y2⟩ | ⟨y1, col, y2, y4⟩ | ⟨y1, col, y2⟩
    · subst y1
      refine ⟨2, col, t'.2.2, ?_, y2, fun z => by cases z⟩
      rw [st, ob_x3a f1, dm3_e]; rfl
    · subst y1
      refine ⟨1, col, t'.2.2, ?_, y2, fun _ => y4⟩
      rw [st, ob_x3b f1, dm3_e]; rfl
    · subst y1
      refine ⟨0, col, t'.2.2, ?_, y2, fun z => by cases z⟩
      rw [st, ob_x3c f1, dm3_e]; rfl
