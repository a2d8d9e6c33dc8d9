/-! the reference: reached, firm -/
theorem iter_wh {S T : Type} {B : T → Option (Nat × T)} (mk : S → T) (I : S → Prop) (μ : S → Nat) (E : T → Prop) (h : ∀ s, I s → (∃ s', B (mk s) = some (0, mk s') ∧ I s' ∧ μ s' < μ s) ∨ (∃ t', B (mk s) = some (1, t') ∧ E t')) (s : S) (hI : I s) (hm : μ s < 999999999) : ∃ t', iter B FU (mk s) = some (0, t') ∧ E t' := by
  have key : ∀ (n : Nat) (s : S), I s → μ s < n → ∃ t', iter B n (mk s) = some (0, t') ∧ E t' := by
    intro n
    induction n with
    | zero => intro s _ hm; omega
    | succ n ih =>
      intro s hI hm
      rcases h s hI with ⟨s', hb, hI', hl⟩ | ⟨t', hb, hE⟩
      · obtain ⟨t2, h1, h2⟩ := ih s' hI' (by omega)
        exact ⟨t2, by rw [iter_go hb]; exact h1, h2⟩
      · exact ⟨t', iter_out hb n, hE⟩
  exact key FU s hI (FU_lt (by omega))
theorem bI_eq {a b : Bool} : (bI a = bI b) = (a = b) := by
  have h1 : ¬ nI 1 = nI 0 := nI1_ne0
  have h2 : ¬ nI 0 = nI 1 := fun z => h1 z.symm
  cases a <;> cases b <;> simp [bI, h1, h2]
def PcR (P : Nat → Nat → Prop) (ad : Nat → Nat → Bool) (m : Nat) : Prop := ∀ i j, i < m → j < m → (ad i j = true ↔ (P i j ∨ P j i))
theorem mreach1_ok {P : Nat → Nat → Prop} {ad : Nat → Nat → Bool} {m n : Nat} {A B : Nat → Nat} (h : PcM P m n A B) (hP : PcR P ad m) (hm : m ≤ 128) (hn : n ≤ 800) {f t : Nat → Int32} (hf : hN n f A) (ht : hN n t B) {sd b0 : Nat → Bool} {r : Nat → Int32} (hr : hB m r b0) (h0 : ∀ i, i < m → b0 i = true → ∃ a, a < m ∧ sd a = true ∧ Rch (adR ad m) a i) : ∃ (mo : Bool) (b : Nat → Bool) (r' : Nat → Int32), iter (bX10_loosen_41 (nI m) (nI n) f t) FU ((0 : Int32), (0 : Int32), r) = some (0, (bI mo, nI n, r')) ∧ hB m r' b ∧ (∀ i, i < m → b i = true → ∃ a, a < m ∧ sd a = true ∧ Rch (adR ad m) a i) ∧ (∀ i, i < m → b0 i = true → b i = true) ∧ (mo = false → (∀ i, i < m → b i = b0 i) ∧ ∀ s, s < n → b0 (A s) = b0 (B s)) ∧ (mo = true → cnt m b0 < cnt m b) := by
  obtain ⟨s, h1, h2⟩ := iter_for (S := Bool × (Nat → Bool) × (Nat → Int32)) (B := bX10_loosen_41 (nI m) (nI n) f t) (fun i s => (bI s.1, nI i, s.2.2)) n (fun i s => hB m s.2.2 s.2.1 ∧ (∀ i, i < m → s.2.1 i = true → ∃ a, a < m ∧ sd a = true ∧ Rch (adR ad m) a i) ∧ (∀ i, i < m → b0 i = true → s.2.1 i = true) ∧ (s.1 = false → (∀ i, i < m → s.2.1 i = b0 i) ∧ ∀ k, k < i → b0 (A k) = b0 (B k)) ∧ (s.1 = true → cnt m b0 < cnt m s.2.1)) 0 (false, b0, r) ⟨hr, h0, fun _ _ z => z, fun _ => ⟨fun _ _ => rfl, fun k hk => absurd hk (Nat.not_lt_zero _)⟩, fun z => by cases z⟩ (by omega) (by omega) (fun i s _ hi hI => by
    obtain ⟨mo, b, r1⟩ := s
    obtain ⟨a1, a2, a3, a4, a5⟩ := hI
    dsimp only at a1 a2 a3 a4 a5 ⊢
    obtain ⟨q1, q2, q3⟩ := h.1 i hi
    have q4 : A i < m := by omega
    have e0 : bX10_loosen_41 (nI m) (nI n) f t (bI mo, nI i, r1) = ob (if b (A i) = b (B i) then some (bI mo, r1) else some (nI 1, upd (upd r1 (A i) (bI true)) (B i) (bI true))) (fun t => dm2 t (fun v14 v15 => some (0, (v14, nI (i + 1), v15)))) := by
      simp (disch := omega) only [bX10_loosen_41, dm3, nI_leS, nI_lt0, nI_clampS, false_or, gd_s, ht i hi, hf i hi, lt, nI_1, a1 (A i) q4, a1 (B i) q2, nar_1, bI_eq]
      rw [if_neg (by omega), nl_1]
    by_cases hF : b (A i) = b (B i)
    · rw [if_pos hF] at e0
      refine ⟨(mo, b, r1), e0, a1, a2, a3, fun z => ⟨(a4 z).1, fun k hk => ?_⟩, a5⟩
      by_cases q : k = i
      · subst q; rw [← (a4 z).1 _ q4, ← (a4 z).1 _ q2]; exact hF
      · exact (a4 z).2 k (by omega)
    · rw [if_neg hF] at e0
      refine ⟨(true, upB (upB b (A i) true) (B i) true, upd (upd r1 (A i) (bI true)) (B i) (bI true)), e0, hB_up (hB_up a1 true) true, fun j hj hb => ?_, fun j hj hb => ?_, (by intro z; cases z), fun _ => ?_⟩
      · dsimp only at hb
        have r1 : adR ad m (A i) (B i) := ⟨q4, q2, (hP _ _ q4 q2).mpr (Or.inl q3)⟩
        have r2 : adR ad m (B i) (A i) := ⟨q2, q4, (hP _ _ q2 q4).mpr (Or.inr q3)⟩
        have both : ∃ a, a < m ∧ sd a = true ∧ Rch (adR ad m) a (A i) ∧ Rch (adR ad m) a (B i) := by
          cases hA : b (A i) with
          | true =>
            obtain ⟨a, c1, c2, c3⟩ := a2 _ q4 hA
            exact ⟨a, c1, c2, c3, Rch_step c3 r1⟩
          | false =>
            cases hB : b (B i) with
            | true =>
              obtain ⟨a, c1, c2, c3⟩ := a2 _ q2 hB
              exact ⟨a, c1, c2, Rch_step c3 r2, c3⟩
            | false => exact absurd (hA.trans hB.symm) hF
        obtain ⟨a, c1, c2, c3, c4⟩ := both
        by_cases y1 : j = B i
        · subst y1; exact ⟨a, c1, c2, c4⟩
        · rw [upB_n y1] at hb
          by_cases y2 : j = A i
          · subst y2; exact ⟨a, c1, c2, c3⟩
          · rw [upB_n y2] at hb; exact a2 j hj hb
      · dsimp only
        by_cases y1 : j = B i
        · subst y1; exact upB_s
        · rw [upB_n y1]
          by_cases y2 : j = A i
          · subst y2; exact upB_s
          · rw [upB_n y2]; exact a3 j hj hb
      · dsimp only
        have c0 := cnt_mono a3
        cases hA : b (A i) with
        | false =>
          have c1 := cnt_up q4 hA
          have c2 : cnt m (upB b (A i) true) ≤ cnt m (upB (upB b (A i) true) (B i) true) := cnt_mono (fun k hk hz => by
            by_cases y1 : k = B i
            · subst y1; exact upB_s
            · rw [upB_n y1]; exact hz)
          omega
        | true =>
          have hB : b (B i) = false := by
            cases hz : b (B i) with
            | false => rfl
            | true => exact absurd (hA.trans hz.symm) hF
          have e9 : cnt m (upB b (A i) true) = cnt m b := cnt_congr (fun k hk => by
            by_cases y1 : k = A i
            · subst y1; rw [upB_s, hA]
            · rw [upB_n y1])
          have c1 := cnt_up (b := upB b (A i) true) q2 (by rw [upB_n (by omega)]; exact hB)
          omega) (fun s _ => by
    simp (disch := omega) only [bX10_loosen_41, dm3, nI_leS]
    rw [if_pos (by omega)])
  exact ⟨s.1, s.2.1, s.2.2, h1, h2.1, h2.2.1, h2.2.2.1, h2.2.2.2.1, h2.2.2.2.2⟩
theorem mreach_ok {P : Nat → Nat → Prop} {ad : Nat → Nat → Bool} {m n : Nat} {A B : Nat → Nat} (h : PcM P m n A B) (hP : PcR P ad m) (hm : m ≤ 128) (hn : n ≤ 800) {f t : Nat → Int32} (hf : hN n f A) (ht : hN n t B) {sd : Nat → Bool} {r : Nat → Int32} (hr : hB m r sd) : ∃ (b : Nat → Bool) (r' : Nat → Int32) (v : Int32), iter (bX10_loosen_33 (nI m) (nI n) f t) FU ((1 : Int32), r) = some (0, (v, r')) ∧ hB m r' b ∧ (∀ i, i < m → sd i = true → b i = true) ∧ (∀ i, i < m → b i = true → ∃ a, a < m ∧ sd a = true ∧ Rch (adR ad m) a i) ∧ ∀ s, s < n → b (A s) = b (B s) := by
  obtain ⟨t', h1, b, c1, c2, c3, c4⟩ := iter_wh (S := Bool × (Nat → Bool) × (Nat → Int32)) (B := bX10_loosen_33 (nI m) (nI n) f t) (fun s => (bI s.1, s.2.2)) (fun s => hB m s.2.2 s.2.1 ∧ (∀ i, i < m → sd i = true → s.2.1 i = true) ∧ (∀ i, i < m → s.2.1 i = true → ∃ a, a < m ∧ sd a = true ∧ Rch (adR ad m) a i) ∧ (s.1 = false → ∀ k, k < n → s.2.1 (A k) = s.2.1 (B k))) (fun s => 2 * (m - cnt m s.2.1) + (if s.1 = true then 1 else 0)) (fun t => ∃ b : Nat → Bool, hB m t.2 b ∧ (∀ i, i < m → sd i = true → b i = true) ∧ (∀ i, i < m → b i = true → ∃ a, a < m ∧ sd a = true ∧ Rch (adR ad m) a i) ∧ ∀ s, s < n → b (A s) = b (B s)) (fun s hI => by
    obtain ⟨mo, b, r1⟩ := s
    obtain ⟨a1, a2, a3, a4⟩ := hI
    dsimp only at a1 a2 a3 a4 ⊢
    cases mo with
    | false =>
      refine Or.inr ⟨(nI 0, r1), ?_, b, a1, a2, a3, a4 rfl⟩
      simp only [bX10_loosen_33, dm2, bI_f, nl_0, if_true]
    | true =>
      obtain ⟨mo', b', r', d1, d2, d3, d4, d5, d6⟩ := mreach1_ok h hP hm hn hf ht a1 a3
      refine Or.inl ⟨(mo', b', r'), ?_, ⟨d2, fun i hi hs => d4 i hi (a2 i hi hs), d3, fun y k hk => ?_⟩, ?_⟩
      · rw [nl_0] at d1
        simp only [bX10_loosen_33, dm2, bI_t, nl_0, nI1_ne0, if_false, d1, ob, ex1, if_true, dm3]
      · obtain ⟨y1, y2⟩ := d5 y
        obtain ⟨q1, q2, q3⟩ := h.1 k hk
        dsimp only
        rw [y1 _ (by omega), y1 _ q2]
        exact y2 k hk
      · dsimp only
        have z0 := cnt_le m b
        have z1 := cnt_le m b'
        cases mo' with
        | true =>
          have := d6 rfl
          rw [if_pos rfl]; omega
        | false =>
          have := cnt_congr (d5 rfl).1
          rw [if_neg (by simp), if_pos rfl]; omega) (true, sd, r) ⟨hr, fun _ _ z => z, fun i hi z => ⟨i, hi, z, Rch_refl _ _⟩, (by intro z; cases z)⟩ (by dsimp only; split <;> omega)
  exact ⟨b, t'.2, t'.1, h1, c1, c2, c3, c4⟩
theorem ends_ok {m n : Nat} {A B : Nat → Nat} (hn : n ≤ 800) (hA : ∀ s, s < n → A s < 1000) (hB1 : ∀ s, s < n → B s < 1000) {f t : Nat → Int32} (hf : hN n f A) (ht : hN n t B) {fw : Nat → Bool} {w : Nat → Int32} (hw : hB n w fw) {j : Nat} (hj : j < 1000) (o : Bool) : sX10_ends (nI j) (bI o) (nI n) w f t = some (nI (cnt n (fun k => (decide (A k = j) || decide (B k = j)) && (fw k || !o)))) := by
  obtain ⟨s, h1, h2⟩ := iter_for (S := Unit) (B := bX10_ends_5 (nI j) (bI o) (nI n) w f t) (fun i _ => (nI (cnt i (fun k => (decide (A k = j) || decide (B k = j)) && (fw k || !o))), nI i)) n (fun _ _ => True) 0 () trivial (by omega) (by omega) (fun i s _ hi _ => by
    refine ⟨(), ?_, trivial⟩
    have x1 := hA i hi
    have x2 := hB1 i hi
    have e : bX10_ends_5 (nI j) (bI o) (nI n) w f t (nI (cnt i (fun k => (decide (A k = j) || decide (B k = j)) && (fw k || !o))), nI i) = ob (if A i = j then (if ¬ fw i = false then some (nI 1) else if ¬ o = false then some (nI 0) else some (nI 1)) else (if ¬ B i = j then some (nI 0) else if ¬ fw i = false then some (nI 1) else if ¬ o = false then some (nI 0) else some (nI 1))) (fun t => dm1 t (fun v3 => some (0, (nI (cnt i (fun k => (decide (A k = j) || decide (B k = j)) && (fw k || !o))) + v3, nI (i + 1))))) := by
      simp (disch := omega) only [bX10_ends_5, dm2, nI_leS, nl_0, nl_1, nI_lt0', nI_clampS, false_or, gd_s, hf i hi, ht i hi, hw i hi, nI_eqS, bI_0, lt, nI_add]
      rw [if_neg (by omega)]
    rw [e, cnt_s]
    by_cases a : A i = j <;> by_cases b : B i = j <;> cases hfw : fw i <;> cases ho : o <;> simp [a, b, ob, dm1, nI_add, hfw]) (fun s _ => by
    simp (disch := omega) only [bX10_ends_5, dm2, nI_leS]
    rw [if_pos (by omega)])
  have h1' : iter (bX10_ends_5 (nI j) (bI o) (nI n) w f t) FU (nI 0, nI 0) = some (0, (nI (cnt n (fun k => (decide (A k = j) || decide (B k = j)) && (fw k || !o))), nI n)) := h1
  unfold sX10_ends
  rw [nl_0, ob_s h1']
  rfl
theorem ends_deg {P : Nat → Nat → Prop} {ad fm : Nat → Nat → Bool} {m n : Nat} {A B : Nat → Nat} (h : PcM P m n A B) (hP : PcR P ad m) (hs : ∀ i j, fm i j = fm j i) (ha : ∀ i j, i < m → j < m → fm i j = true → ad i j = true) {j : Nat} (hj : j < m) : cnt n (fun k => (decide (A k = j) || decide (B k = j)) && fm (A k) (B k)) = cnt m (fm j) := by
  refine cnt_bij (fun k => if A k = j then B k else A k) (fun k hk hp => ?_) (fun k l hk hl hp hq e => ?_) (fun i hi hq => ?_)
  · obtain ⟨q1, q2, q3⟩ := h.1 k hk
    simp only [Bool.and_eq_true, Bool.or_eq_true, decide_eq_true_eq] at hp
    by_cases z : A k = j
    · simp only [z, if_true]; rw [z] at hp; exact ⟨q2, hp.2⟩
    · simp only [z, if_false]
      have z2 : B k = j := by omega
      rw [z2, hs] at hp; exact ⟨by omega, hp.2⟩
  · obtain ⟨q1, q2, q3⟩ := h.1 k hk
    obtain ⟨r1, r2, r3⟩ := h.1 l hl
    simp only [Bool.and_eq_true, Bool.or_eq_true, decide_eq_true_eq] at hp hq
    have e2 : A k = A l ∧ B k = B l := by
      by_cases z : A k = j <;> by_cases y : A l = j <;> simp only [z, y, if_true, if_false] at e <;> omega
    rcases Nat.lt_trichotomy k l with x | x | x
    · exact absurd e2 (h.2.1 k l x hl)
    · exact x
    · exact absurd ⟨e2.1.symm, e2.2.symm⟩ (h.2.1 l k x hk)
  · rcases (hP j i hj hi).mp (ha j i hj hi hq) with p | p
    · obtain ⟨k, k1, k2, k3⟩ := h.2.2 j i p
      exact ⟨k, k1, by simp [k2, k3, hq], by simp [k2, k3]⟩
    · obtain ⟨k, k1, k2, k3⟩ := h.2.2 i j p
      have := h.1 k k1
      refine ⟨k, k1, ?_, ?_⟩
      · rw [hs] at hq; simp [k2, k3, hq]
      · rw [if_neg (by omega)]; exact k2
