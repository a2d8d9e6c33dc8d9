/-! the class: twins, what is reached -/
def adR (ad : Nat → Nat → Bool) (m i j : Nat) : Prop := i < m ∧ j < m ∧ ad i j = true
def symB (ad : Nat → Nat → Bool) (m : Nat) : Prop := ∀ i j, i < m → j < m → ad i j = ad j i
theorem pair_ok {ad : Nat → Nat → Bool} {m n : Nat} {F T fi : Nat → Nat} (h : Stps ad m n F T fi) (hm : m ≤ 128) (hn : n ≤ 768) (hy : symB ad m) {f g t : Nat → Int32} (hg : ∀ i, i ≤ m → g i = nI (fi i)) (hf : hN n f F) (ht : hN n t T) (w : Nat → Int32) : ∃ (w' : Nat → Int32) (tw : Nat → Nat), sX8_pairSteps (nI n) g f t w = some w' ∧ hN n w' tw ∧ ∀ s, s < n → tw s < n ∧ F (tw s) = T s ∧ T (tw s) = F s := by
  obtain ⟨s, h1, h2⟩ := iter_for (S := (Nat → Nat) × (Nat → Int32)) (B := bX8_pairSteps_2 (nI n) g f t) (fun i s => (nI i, s.2)) n (fun i s => hN i s.2 s.1 ∧ ∀ k, k < i → s.1 k < n ∧ F (s.1 k) = T k ∧ T (s.1 k) = F k) 0 (fun _ => 0, w) ⟨fun k hk => absurd hk (Nat.not_lt_zero _), fun k hk => absurd hk (Nat.not_lt_zero _)⟩ (by omega) (by omega) (fun i s _ hi hI => by
    obtain ⟨q1, q2, q3⟩ := h.1 i hi
    have hex : ∃ s', s' < n ∧ F s' = T i ∧ T s' = F i ∧ sX8_stepBetween (nI (T i)) (nI (F i)) g t = some (nI s') := by
      rcases stepB_ok h hm hn hg ht q2 (show F i < 1000 by omega) with z | ⟨z, -⟩
      · exact z
      · rw [hy _ _ q1 q2] at q3
        obtain ⟨s', a1, a2, a3⟩ := h.2.2.1 _ _ q2 q1 q3
        exact absurd ⟨a2, a3⟩ (z s' a1)
    obtain ⟨s', a1, a2, a3, a4⟩ := hex
    refine ⟨(up s.1 i s', upd s.2 i (nI s')), ?_, hN_push hI.1 s', fun k hk => ?_⟩
    · have e : (if nI 0 < nI s' then nI s' else nI 0) = nI s' := by
        simp (disch := omega) only [nI_ltS]
        split
        · rfl
        · congr 1; omega
      simp (disch := omega) only [bX8_pairSteps_2, dm2, nI_leS, nI_lt0, nI_clampS, false_or, gd_s, ht i hi, hf i hi, a4, ob, dm1, lt, nI_1, nl_0, nI_lt0', e]
      rw [if_neg (by omega)]
    · dsimp only
      by_cases q : k = i
      · subst q; rw [up_s]; exact ⟨a1, a2, a3⟩
      · rw [up_n q]; exact hI.2 k (by omega)) (fun s _ => by
    simp (disch := omega) only [bX8_pairSteps_2, dm2, nI_leS]
    rw [if_pos (by omega)])
  refine ⟨s.2, s.1, ?_, h2.1, h2.2⟩
  unfold sX8_pairSteps
  rw [nl_0, ob_s h1]
  rfl
theorem nI1_ne0 : ¬ nI 1 = nI 0 := by rw [nI_eqS (by omega) (by omega)]; omega
theorem reach1_ok {ad : Nat → Nat → Bool} {m n : Nat} {F T : Nat → Nat} (h : okS ad m n F T) (hm : m ≤ 128) (hn : n ≤ 768) {f t : Nat → Int32} (hf : hN n f F) (ht : hN n t T) {a : Nat} {b0 : Nat → Bool} {r : Nat → Int32} (hr : hB m r b0) (h0 : ∀ i, i < m → b0 i = true → Rch (adR ad m) a i) : ∃ (mo : Bool) (b : Nat → Bool) (r' : Nat → Int32), iter (bX8_reachFromSides_57 (nI n) f t) FU ((0 : Int32), (0 : Int32), r) = some (0, (bI mo, nI n, r')) ∧ hB m r' b ∧ (∀ i, i < m → b i = true → Rch (adR ad m) a i) ∧ (∀ i, i < m → b0 i = true → b i = true) ∧ (mo = false → (∀ i, i < m → b i = b0 i) ∧ ∀ s, s < n → b0 (F s) = true → b0 (T s) = true) ∧ (mo = true → cnt m b0 < cnt m b) := by
  obtain ⟨s, h1, h2⟩ := iter_for (S := Bool × (Nat → Bool) × (Nat → Int32)) (B := bX8_reachFromSides_57 (nI n) f t) (fun i s => (bI s.1, nI i, s.2.2)) n (fun i s => hB m s.2.2 s.2.1 ∧ (∀ i, i < m → s.2.1 i = true → Rch (adR ad m) a i) ∧ (∀ i, i < m → b0 i = true → s.2.1 i = true) ∧ (s.1 = false → (∀ i, i < m → s.2.1 i = b0 i) ∧ ∀ k, k < i → b0 (F k) = true → b0 (T k) = true) ∧ (s.1 = true → cnt m b0 < cnt m s.2.1)) 0 (false, b0, r) ⟨hr, h0, fun _ _ z => z, fun _ => ⟨fun _ _ => rfl, fun k hk => absurd hk (Nat.not_lt_zero _)⟩, fun z => by cases z⟩ (by omega) (by omega) (fun i s _ hi hI => by
    obtain ⟨mo, b, r1⟩ := s
    obtain ⟨a1, a2, a3, a4, a5⟩ := hI
    dsimp only at a1 a2 a3 a4 a5 ⊢
    obtain ⟨q1, q2, q3⟩ := h i hi
    have e0 : bX8_reachFromSides_57 (nI n) f t (bI mo, nI i, r1) = ob (if bI (b (F i)) = nI 0 then some (bI mo, r1) else if ¬ bI (b (T i)) = nI 0 then some (bI mo, r1) else some (nI 1, upd r1 (T i) (bI true))) (fun t => dm2 t (fun v14 v15 => some (0, (v14, nI (i + 1), v15)))) := by
      simp (disch := omega) only [bX8_reachFromSides_57, dm3, nI_leS, nI_lt0, nI_clampS, false_or, gd_s, ht i hi, hf i hi, lt, nI_1, a1 (F i) q1, a1 (T i) q2, nar_1]
      rw [if_neg (by omega), nl_0, nl_1]
    simp only [bI_0] at e0
    cases hF : b (F i) with
    | false =>
      rw [hF, if_pos rfl] at e0
      refine ⟨(mo, b, r1), e0, a1, a2, a3, fun z => ⟨(a4 z).1, fun k hk hb => ?_⟩, a5⟩
      by_cases q : k = i
      · subst q; rw [← (a4 z).1 _ q1, hF] at hb; cases hb
      · exact (a4 z).2 k (by omega) hb
    | true =>
      rw [hF, if_neg (by simp)] at e0
      cases hT : b (T i) with
      | true =>
        rw [hT, if_pos (by simp)] at e0
        refine ⟨(mo, b, r1), e0, a1, a2, a3, fun z => ⟨(a4 z).1, fun k hk hb => ?_⟩, a5⟩
        by_cases q : k = i
        · subst q; rw [← (a4 z).1 _ q2]; exact hT
        · exact (a4 z).2 k (by omega) hb
      | false =>
        rw [hT, if_neg (by simp)] at e0
        refine ⟨(true, upB b (T i) true, upd r1 (T i) (bI true)), e0, hB_up a1 true, fun j hj hb => ?_, fun j hj hb => ?_, (by intro z; cases z), fun _ => ?_⟩
        · dsimp only at hb
          by_cases q : j = T i
          · subst q; exact Rch_step (a2 _ q1 hF) ⟨q1, q2, q3⟩
          · rw [upB_n q] at hb; exact a2 j hj hb
        · dsimp only
          by_cases q : j = T i
          · subst q; exact upB_s
          · rw [upB_n q]; exact a3 j hj hb
        · dsimp only
          rw [cnt_up q2 hT]
          have := cnt_mono a3
          omega) (fun s _ => by
    simp (disch := omega) only [bX8_reachFromSides_57, dm3, nI_leS]
    rw [if_pos (by omega)])
  exact ⟨s.1, s.2.1, s.2.2, h1, h2.1, h2.2.1, h2.2.2.1, h2.2.2.2.1, h2.2.2.2.2⟩
theorem reach_ok {ad : Nat → Nat → Bool} {m n : Nat} {F T : Nat → Nat} (h : okS ad m n F T) (hm : m ≤ 128) (hm0 : 0 < m) (hn : n ≤ 768) {f t : Nat → Int32} (hf : hN n f F) (ht : hN n t T) (r : Nat → Int32) : ∃ (b : Nat → Bool) (r' : Nat → Int32), sX8_reachFromSides (nI n) f (nI m) r t = some r' ∧ hB m r' b ∧ b 0 = true ∧ (∀ i, i < m → b i = true → Rch (adR ad m) 0 i) ∧ ∀ s, s < n → b (F s) = true → b (T s) = true := by
  obtain ⟨s0, g1, g2⟩ := iter_for (S := Nat → Int32) (B := bX8_reachFromSides_2 (nI m)) (fun i s => (nI i, s)) m (fun i s => hB i s (fun k => decide (k = 0))) 0 r (fun k hk => absurd hk (Nat.not_lt_zero _)) (by omega) (by omega) (fun i s _ hi hI => by
    have e : (if ¬ nI i = nI 0 then some (nI 0) else some (nI 1)) = some (bI (decide (i = 0))) := by
      simp (disch := omega) only [nI_eqS]
      by_cases q : i = 0
      · subst q; rfl
      · rw [if_pos q, decide_eq_false q]; rfl
    refine ⟨upd s i (bI (decide (i = 0))), ?_, fun k hk => ?_⟩
    · simp (disch := omega) only [bX8_reachFromSides_2, dm2, nI_leS, nl_0, nl_1, e, ob, dm1, nI_lt0', nI_clampS, false_or, gd_s, lt, nar_bb, nI_add]
      rw [if_neg (by omega)]
    · by_cases q : k = i
      · subst q; rw [pk_us]
      · rw [pk_un q]; exact hI k (by omega)) (fun s _ => by
    simp (disch := omega) only [bX8_reachFromSides_2, dm2, nI_leS]
    rw [if_pos (by omega)])
  obtain ⟨k, t', h1, h2⟩ := iter_forE (S := Bool × (Nat → Bool) × (Nat → Int32)) (B := bX8_reachFromSides_38 (nI n) f (nI m) t) (fun i s => (bI s.1, nI i, s.2.2)) m (fun i s => hB m s.2.2 s.2.1 ∧ s.2.1 0 = true ∧ (∀ i, i < m → s.2.1 i = true → Rch (adR ad m) 0 i) ∧ (s.1 = true → i + 1 ≤ cnt m s.2.1) ∧ (s.1 = false → ∀ k, k < n → s.2.1 (F k) = true → s.2.1 (T k) = true)) (fun k t => k = 0 ∧ ∃ b : Nat → Bool, hB m t.2.2 b ∧ b 0 = true ∧ (∀ i, i < m → b i = true → Rch (adR ad m) 0 i) ∧ ∀ s, s < n → b (F s) = true → b (T s) = true) 0 (true, fun k => decide (k = 0), s0) ⟨g2, rfl, fun i hi hb => by
      obtain rfl := of_decide_eq_true hb
      exact Rch_refl _ _, fun _ => cnt_pos hm0 rfl, (by intro z; cases z)⟩ (by omega) (by omega) (fun i s _ hi hI => by
    obtain ⟨mo, b, r1⟩ := s
    obtain ⟨a1, a2, a3, a4, a5⟩ := hI
    dsimp only at a1 a2 a3 a4 a5 ⊢
    cases mo with
    | false =>
      refine Or.inr ⟨0, (nI 0, nI i, r1), ?_, rfl, b, a1, a2, a3, a5 rfl⟩
      simp (disch := omega) only [bX8_reachFromSides_38, dm3, nI_leS, bI_f, nl_0, if_true]
      rw [if_neg (by omega)]
    | true =>
      obtain ⟨mo', b', r', c1, c2, c3, c4, c5, c6⟩ := reach1_ok h hm hn hf ht a1 a3
      refine Or.inl ⟨(mo', b', r'), ?_, c2, c4 0 hm0 a2, c3, fun z => ?_, fun z k hk hb => ?_⟩
      · rw [nl_0] at c1
        simp (disch := omega) only [bX8_reachFromSides_38, dm3, nI_leS, bI_t, nl_0, nI1_ne0, if_false, c1, ob, ex1, lt, nI_1, if_true]
        rw [if_neg (by omega)]
      · have := c6 z
        have := a4 rfl
        dsimp only; omega
      · obtain ⟨d1, d2⟩ := c5 z
        obtain ⟨q1, q2, q3⟩ := h k hk
        dsimp only at hb ⊢
        rw [d1 _ q1] at hb
        rw [d1 _ q2]
        exact d2 k hk hb) (fun s hI => by
    obtain ⟨mo, b, r1⟩ := s
    obtain ⟨a1, a2, a3, a4, a5⟩ := hI
    dsimp only at a1 a2 a3 a4 a5 ⊢
    refine ⟨0, (bI mo, nI m, r1), ?_, rfl, b, a1, a2, a3, a5 ?_⟩
    · simp (disch := omega) only [bX8_reachFromSides_38, dm3, nI_leS]
      rw [if_pos (by omega)]
    · cases mo with
      | false => rfl
      | true =>
        have := a4 rfl
        have := cnt_le m b
        omega)
  obtain ⟨rfl, b, c1, c2, c3, c4⟩ := h2
  refine ⟨b, t'.2.2, ?_, c1, c2, c3, c4⟩
  unfold sX8_reachFromSides
  rw [nl_0, nl_1, ob_s g1]
  have h1' : iter (bX8_reachFromSides_38 (nI n) f (nI m) t) FU (nI 1, nI 0, s0) = some (0, t') := h1
  show ob (iter (bX8_reachFromSides_38 (nI n) f (nI m) t) FU (nI 1, nI 0, s0)) _ = _
  rw [ob_s h1']
  rfl
