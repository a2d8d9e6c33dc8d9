/-! the class: dead ends go -/
theorem cnt_rm {m n : Nat} {F T : Nat → Nat} {fm : Nat → Nat → Bool} {s : Nat} (hs : s < n) (hf : fm (F s) (T s) = true) : cnt n (fun k => rm2 fm (F s) (T s) (F k) (T k)) < cnt n (fun k => fm (F k) (T k)) := by
  have h9 := cnt_dn (b := fun k => fm (F k) (T k)) hs hf
  have h8 : cnt n (fun k => rm2 fm (F s) (T s) (F k) (T k)) ≤ cnt n (upB (fun k => fm (F k) (T k)) s false) := ?_
  · omega
  refine cnt_mono (fun k hk h => ?_)
  by_cases q : k = s
  · subst q; rw [rm2_x (Or.inl ⟨rfl, rfl⟩)] at h; cases h
  · rw [upB_n q]
    by_cases z : (F k = F s ∧ T k = T s) ∨ (F k = T s ∧ T k = F s)
    · rw [rm2_x z] at h; cases h
    · rw [rm2_n z] at h; exact h
theorem dead1_ok {ad : Nat → Nat → Bool} {m n : Nat} {F T tw : Nat → Nat} {b : Nat → Bool} (h : okS ad m n F T) (hm : m ≤ 128) (hn : n ≤ 768) (hi : srtS n F T) (hir : ∀ i, ad i i = false) (hG : ∃ G j, Good ad m b G ∧ G 0 j) {f t z : Nat → Int32} (hf : hN n f F) (ht : hN n t T) (hz : hN n z tw) (htw : ∀ s, s < n → tw s < n ∧ F (tw s) = T s ∧ T (tw s) = F s) {fm0 : Nat → Nat → Bool} {w e : Nat → Int32} (hp : Prn ad m b fm0) (hw : FmX m n F T fm0 w e) : ∃ (mo : Bool) (fm : Nat → Nat → Bool) (w' e' : Nat → Int32), iter (bX8_loosenDeadEnds_20 (nI n) f t z) FU ((0 : Int32), (0 : Int32), w, e) = some (0, (bI mo, nI n, w', e')) ∧ Prn ad m b fm ∧ FmX m n F T fm w' e' ∧ (mo = false → fm = fm0 ∧ ∀ s, s < n → fm0 (F s) (T s) = true → cnt m (fm0 (F s)) ≠ 1) ∧ (mo = true → cnt n (fun k => fm (F k) (T k)) < cnt n (fun k => fm0 (F k) (T k))) := by
  obtain ⟨s, h1, h2⟩ := iter_for (S := Bool × (Nat → Nat → Bool) × (Nat → Int32) × (Nat → Int32)) (B := bX8_loosenDeadEnds_20 (nI n) f t z) (fun i s => (bI s.1, nI i, s.2.2.1, s.2.2.2)) n (fun i s => Prn ad m b s.2.1 ∧ FmX m n F T s.2.1 s.2.2.1 s.2.2.2 ∧ (s.1 = false → s.2.1 = fm0 ∧ ∀ k, k < i → fm0 (F k) (T k) = true → cnt m (fm0 (F k)) ≠ 1) ∧ (s.1 = true → cnt n (fun k => s.2.1 (F k) (T k)) < cnt n (fun k => fm0 (F k) (T k)))) 0 (false, fm0, w, e) ⟨hp, hw, fun _ => ⟨rfl, fun k hk => absurd hk (Nat.not_lt_zero _)⟩, fun z => by cases z⟩ (by omega) (by omega) (fun i s _ hin hI => by
    obtain ⟨mo, fm, w1, e1⟩ := s
    obtain ⟨a1, a2, a3, a4⟩ := hI
    dsimp only at a1 a2 a3 a4 ⊢
    obtain ⟨q1, q2, q3⟩ := h i hin
    have c9 := cnt_le m (fm (F i))
    have e0 : bX8_loosenDeadEnds_20 (nI n) f t z (bI mo, nI i, w1, e1) = ob (if bI (fm (F i) (T i)) = nI 0 then some (bI mo, w1, e1) else if ¬ cnt m (fm (F i)) = 1 then some (bI mo, w1, e1) else ob (sX8_loosen (nI i) w1 e1 f t z) (fun o => dm2 o (fun o13 o14 => some (nI 1, o13, o14)))) (fun t => dm3 t (fun v9 v10 v11 => some (0, (v9, nI (i + 1), v10, v11)))) := by
      simp (disch := omega) only [bX8_loosenDeadEnds_20, dm4, nI_leS, nI_lt0, nI_clampS, false_or, gd_s, hf i hin, a2.1 i hin, a2.2 (F i) q1, lt, nI_1, nl_0, nl_1, nI_lt0', nI_eqS, nI_add]
      rw [if_neg (by omega)]
    simp only [bI_0] at e0
    cases hF : fm (F i) (T i) with
    | false =>
      rw [hF, if_pos rfl] at e0
      refine ⟨(mo, fm, w1, e1), e0, a1, a2, fun y => ⟨(a3 y).1, fun k hk hb => ?_⟩, a4⟩
      by_cases q : k = i
      · subst q; rw [← (a3 y).1, hF] at hb; cases hb
      · exact (a3 y).2 k (by omega) hb
    | true =>
      rw [hF, if_neg (by simp)] at e0
      by_cases hc : cnt m (fm (F i)) = 1
      · rw [if_neg (fun y => y hc)] at e0
        have hne : F i ≠ T i := fun y => by rw [← y, hir] at q3; cases q3
        have h0 : F i ≠ 0 := fun y => by
          obtain ⟨G, j, g1, g2⟩ := hG
          rw [y] at hc
          obtain ⟨-, o2, -, -, -, j', o3, o4⟩ := g1 0 j g2
          obtain ⟨-, o5, -⟩ := g1 0 j' o4
          exact o3 (cnt_one hc o5 o2 (a1.2.2.1 G g1 0 j' o4) (a1.2.2.1 G g1 0 j g2))
        obtain ⟨w2, e2, l1, l2⟩ := loosen_ok h hm hn hi hf ht hz htw a1.2.1 a2 hin hne hF
        rw [l1] at e0
        refine ⟨(true, rm2 fm (F i) (T i), w2, e2), e0, Prn_rm a1 q1 q2 hF hc h0 hne, l2, (by intro y; cases y), fun _ => ?_⟩
        dsimp only
        have l3 := cnt_rm (m := m) hin hF
        cases mo with
        | true => have := a4 rfl; omega
        | false => rw [(a3 rfl).1] at l3 ⊢; exact l3
      · rw [if_pos hc] at e0
        refine ⟨(mo, fm, w1, e1), e0, a1, a2, fun y => ⟨(a3 y).1, fun k hk hb => ?_⟩, a4⟩
        by_cases q : k = i
        · subst q; rw [← (a3 y).1]; exact hc
        · exact (a3 y).2 k (by omega) hb) (fun s _ => by
    simp (disch := omega) only [bX8_loosenDeadEnds_20, dm4, nI_leS]
    rw [if_pos (by omega)])
  exact ⟨s.1, s.2.1, s.2.2.1, s.2.2.2, h1, h2.1, h2.2.1, h2.2.2.1, h2.2.2.2⟩
def NoLf (m : Nat) (fm : Nat → Nat → Bool) : Prop := ∀ i j, fm i j = true → cnt m (fm i) ≠ 1
theorem dead_ok {ad : Nat → Nat → Bool} {m n : Nat} {F T fi tw : Nat → Nat} {b : Nat → Bool} (hS : Stps ad m n F T fi) (hm : m ≤ 128) (hn : n ≤ 768) (hir : ∀ i, ad i i = false) (hG : ∃ G j, Good ad m b G ∧ G 0 j) {f t z : Nat → Int32} (hf : hN n f F) (ht : hN n t T) (hz : hN n z tw) (htw : ∀ s, s < n → tw s < n ∧ F (tw s) = T s ∧ T (tw s) = F s) {fm0 : Nat → Nat → Bool} {w e : Nat → Int32} (hp : Prn ad m b fm0) (hw : FmX m n F T fm0 w e) : ∃ (fm : Nat → Nat → Bool) (w' e' : Nat → Int32), sX8_loosenDeadEnds (nI n) w e f t z = some (w', e') ∧ Prn ad m b fm ∧ NoLf m fm ∧ FmX m n F T fm w' e' := by
  have toN : ∀ fm : Nat → Nat → Bool, Prn ad m b fm → (∀ s, s < n → fm (F s) (T s) = true → cnt m (fm (F s)) ≠ 1) → NoLf m fm := by
    intro fm a1 a2 i j hij
    obtain ⟨c1, c2, c3, -⟩ := a1.1 i j hij
    obtain ⟨s, s1, s2, s3⟩ := hS.2.2.1 i j c1 c2 c3
    have := a2 s s1
    rw [s2, s3] at this
    exact this hij
  obtain ⟨k, t', h1, h2⟩ := iter_forE (S := Bool × (Nat → Nat → Bool) × (Nat → Int32) × (Nat → Int32)) (B := bX8_loosenDeadEnds_4 (nI n) f t z) (fun i s => (bI s.1, nI i, s.2.2.1, s.2.2.2)) n (fun i s => Prn ad m b s.2.1 ∧ FmX m n F T s.2.1 s.2.2.1 s.2.2.2 ∧ (s.1 = true → cnt n (fun k => s.2.1 (F k) (T k)) + i ≤ n) ∧ (s.1 = false → NoLf m s.2.1)) (fun k t => k = 0 ∧ ∃ fm, Prn ad m b fm ∧ NoLf m fm ∧ FmX m n F T fm t.2.2.1 t.2.2.2) 0 (true, fm0, w, e) ⟨hp, hw, fun _ => cnt_le _ _, (by intro z; cases z)⟩ (by omega) (by omega) (fun i s _ hi hI => by
    obtain ⟨mo, fm, w1, e1⟩ := s
    obtain ⟨a1, a2, a3, a4⟩ := hI
    dsimp only at a1 a2 a3 a4 ⊢
    cases mo with
    | false =>
      refine Or.inr ⟨0, (nI 0, nI i, w1, e1), ?_, rfl, fm, a1, a4 rfl, a2⟩
      simp (disch := omega) only [bX8_loosenDeadEnds_4, dm4, nI_leS, bI_f, nl_0, if_true]
      rw [if_neg (by omega)]
    | true =>
      obtain ⟨mo', fm', w', e', c1, c2, c3, c4, c5⟩ := dead1_ok hS.1 hm hn hS.2.1 hir hG hf ht hz htw a1 a2
      refine Or.inl ⟨(mo', fm', w', e'), ?_, c2, c3, fun y => ?_, fun y => ?_⟩
      · rw [nl_0] at c1
        simp (disch := omega) only [bX8_loosenDeadEnds_4, dm4, nI_leS, bI_t, nl_0, nI1_ne0, if_false, c1, ob, ex1, lt, nI_1, if_true]
        rw [if_neg (by omega)]
      · have := c5 y
        have := a3 rfl
        dsimp only; omega
      · obtain ⟨d1, d2⟩ := c4 y
        rw [d1]
        exact toN fm a1 d2) (fun s hI => by
    obtain ⟨mo, fm, w1, e1⟩ := s
    obtain ⟨a1, a2, a3, a4⟩ := hI
    dsimp only at a1 a2 a3 a4 ⊢
    refine ⟨0, (bI mo, nI n, w1, e1), ?_, rfl, fm, a1, ?_, a2⟩
    · simp (disch := omega) only [bX8_loosenDeadEnds_4, dm4, nI_leS]
      rw [if_pos (by omega)]
    · cases mo with
      | false => exact a4 rfl
      | true =>
        refine toN fm a1 (fun s hs hx => ?_)
        have := a3 rfl
        have := cnt_pos (b := fun k => fm (F k) (T k)) hs hx
        omega)
  obtain ⟨rfl, fm, c1, c2, c3⟩ := h2
  refine ⟨fm, t'.2.2.1, t'.2.2.2, ?_, c1, c2, c3⟩
  have h1' : iter (bX8_loosenDeadEnds_4 (nI n) f t z) FU (nI 1, nI 0, w, e) = some (0, t') := h1
  unfold sX8_loosenDeadEnds
  rw [nl_0, nl_1, ob_s h1']
  rfl
/-- what is reached, to begin with -/
theorem Prn_0 {ad : Nat → Nat → Bool} {m n : Nat} {F T fi : Nat → Nat} {b : Nat → Bool} (hS : Stps ad m n F T fi) (hy : symB ad m) (hm0 : 0 < m) (h0 : b 0 = true) (hr : ∀ i, i < m → b i = true → Rch (adR ad m) 0 i) (hc : ∀ s, s < n → b (F s) = true → b (T s) = true) : Prn ad m b (fun i j => decide (i < m) && decide (j < m) && b i && ad i j) := by
  have cl : ∀ i j, i < m → j < m → ad i j = true → b i = true → b j = true := by
    intro i j hi hj ha hb
    obtain ⟨s, s1, s2, s3⟩ := hS.2.2.1 i j hi hj ha
    have := hc s s1
    rw [s2, s3] at this
    exact this hb
  refine ⟨fun i j h => ?_, fun i j => ?_, fun G hG i j hg => ?_, fun i j h => ?_⟩
  · simp only [Bool.and_eq_true, decide_eq_true_eq] at h
    exact ⟨h.1.1.1, h.1.1.2, h.2, h.1.2⟩
  · by_cases q1 : i < m <;> by_cases q2 : j < m
    · simp only [q1, q2, decide_true, Bool.true_and]
      rw [hy i j q1 q2]
      cases ha : ad j i with
      | false => simp
      | true =>
        have e1 := cl j i q2 q1 ha
        have e2 := cl i j q1 q2 (by rw [hy i j q1 q2]; exact ha)
        cases hb : b i <;> cases hb2 : b j <;> simp_all
    · simp [q2]
    · simp [q1]
    · simp [q1, q2]
  · obtain ⟨g1, g2, g3, g4, -⟩ := hG i j hg
    simp [g1, g2, g3, g4]
  · simp only [Bool.and_eq_true, decide_eq_true_eq] at h
    have key := hr i h.1.1.1 h.1.2 (fun v => v < m ∧ b v = true ∧ Rch (fun x y => (decide (x < m) && decide (y < m) && b x && ad x y) = true) 0 v) ⟨hm0, h0, Rch_refl _ _⟩ (fun u v hu hv => by
      obtain ⟨v1, v2, v3⟩ := hv
      refine ⟨v2, cl u v v1 v2 v3 hu.2.1, Rch_step hu.2.2 ?_⟩
      simp [v1, v2, v3, hu.2.1])
    exact key.2.2
