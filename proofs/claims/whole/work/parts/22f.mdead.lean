/-! the reference: dead ends go -/
theorem nar_0' : vp_nar .boolean (nI 0) = bI false := by decide +kernel
theorem nar_1' : vp_nar .boolean (nI 1) = bI true := by decide +kernel
theorem rm2_c (fm : Nat → Nat → Bool) (x y : Nat) : rm2 fm x y = rm2 fm y x := by
  funext i j
  unfold rm2
  by_cases q : (i = x ∧ j = y) ∨ (i = y ∧ j = x)
  · rw [if_pos q, if_pos (by omega)]
  · rw [if_neg q, if_neg (by omega)]
theorem mdead1_ok {P : Nat → Nat → Prop} {ad : Nat → Nat → Bool} {m n : Nat} {A B : Nat → Nat} {b : Nat → Bool} (h : PcM P m n A B) (hP : PcR P ad m) (hm : m ≤ 128) (hn : n ≤ 800) (hG : ∃ G j, Good ad m b G ∧ G 0 j) {f t : Nat → Int32} (hf : hN n f A) (ht : hN n t B) {fm0 : Nat → Nat → Bool} {w : Nat → Int32} (hp : Prn ad m b fm0) (hw : hB n w (fun k => fm0 (A k) (B k))) : ∃ (mo : Bool) (fm : Nat → Nat → Bool) (w' : Nat → Int32), iter (bX10_loosen_137 (nI n) f t) FU ((0 : Int32), (0 : Int32), w) = some (0, (bI mo, nI n, w')) ∧ Prn ad m b fm ∧ hB n w' (fun k => fm (A k) (B k)) ∧ (mo = false → fm = fm0 ∧ ∀ s, s < n → fm0 (A s) (B s) = true → cnt m (fm0 (A s)) ≠ 1 ∧ cnt m (fm0 (B s)) ≠ 1) ∧ (mo = true → cnt n (fun k => fm (A k) (B k)) < cnt n (fun k => fm0 (A k) (B k))) := by
  obtain ⟨s, h1, h2⟩ := iter_for (S := Bool × (Nat → Nat → Bool) × (Nat → Int32)) (B := bX10_loosen_137 (nI n) f t) (fun i s => (bI s.1, nI i, s.2.2)) n (fun i s => Prn ad m b s.2.1 ∧ hB n s.2.2 (fun k => s.2.1 (A k) (B k)) ∧ (s.1 = false → s.2.1 = fm0 ∧ ∀ k, k < i → fm0 (A k) (B k) = true → cnt m (fm0 (A k)) ≠ 1 ∧ cnt m (fm0 (B k)) ≠ 1) ∧ (s.1 = true → cnt n (fun k => s.2.1 (A k) (B k)) < cnt n (fun k => fm0 (A k) (B k)))) 0 (false, fm0, w) ⟨hp, hw, fun _ => ⟨rfl, fun k hk => absurd hk (Nat.not_lt_zero _)⟩, fun z => by cases z⟩ (by omega) (by omega) (fun i s _ hin hI => by
    obtain ⟨mo, fm, w1⟩ := s
    obtain ⟨a1, a2, a3, a4⟩ := hI
    dsimp only at a1 a2 a3 a4 ⊢
    obtain ⟨q1, q2, q3⟩ := h.1 i hin
    have q4 : A i < m := by omega
    have hA : ∀ s, s < n → A s < 1000 := fun s hs => by have := h.1 s hs; omega
    have hB1 : ∀ s, s < n → B s < 1000 := fun s hs => by have := h.1 s hs; omega
    have eA : sX10_ends (nI (A i)) (bI true) (nI n) w1 f t = some (nI (cnt m (fm (A i)))) := by
      rw [ends_ok (m := m) hn hA hB1 hf ht a2 (by omega) true, ← ends_deg h hP a1.2.1 (fun x y _ _ hz => (a1.1 x y hz).2.2.1) q4]
      simp
    have eB : sX10_ends (nI (B i)) (bI true) (nI n) w1 f t = some (nI (cnt m (fm (B i)))) := by
      rw [ends_ok (m := m) hn hA hB1 hf ht a2 (by omega) true, ← ends_deg h hP a1.2.1 (fun x y _ _ hz => (a1.1 x y hz).2.2.1) q2]
      simp
    have cA := cnt_le m (fm (A i))
    have cB := cnt_le m (fm (B i))
    rw [bI_t] at eA eB
    have e0 : bX10_loosen_137 (nI n) f t (bI mo, nI i, w1) = ob (if fm (A i) (B i) = false then some (bI mo, w1) else if cnt m (fm (A i)) = 1 then some (nI 1, upd w1 i (bI false)) else if ¬ cnt m (fm (B i)) = 1 then some (bI mo, w1) else some (nI 1, upd w1 i (bI false))) (fun t => dm2 t (fun v35 v36 => some (0, (v35, nI (i + 1), v36)))) := by
      have e9 := a2 i hin
      dsimp only at e9
      simp (disch := omega) only [bX10_loosen_137, dm3, nI_leS, nI_lt0, nI_clampS, false_or, gd_s, hf i hin, ht i hin, e9, lt, nI_1, nar_0', nl_0, nl_1, nI_lt0', bI_0, eA, eB, ob, dm1, nI_eqS, nI_add]
      rw [if_neg (by omega)]
    have rm : fm (A i) (B i) = true → cnt m (fm (A i)) = 1 ∨ cnt m (fm (B i)) = 1 → Prn ad m b (rm2 fm (A i) (B i)) ∧ hB n (upd w1 i (bI false)) (fun k => rm2 fm (A i) (B i) (A k) (B k)) := by
      intro hF hc
      have g0 : cnt m (fm 0) ≠ 1 := by
        intro hc0
        obtain ⟨G, j, g1, g2⟩ := hG
        obtain ⟨-, o2, -, -, -, j', o3, o4⟩ := g1 0 j g2
        obtain ⟨-, o5, -⟩ := g1 0 j' o4
        exact o3 (cnt_one hc0 o5 o2 (a1.2.2.1 G g1 0 j' o4) (a1.2.2.1 G g1 0 j g2))
      refine ⟨?_, fun k hk => ?_⟩
      · rcases hc with hc | hc
        · exact Prn_rm a1 q4 q2 hF hc (fun y => by rw [y] at hc; exact g0 hc) (by omega)
        · rw [rm2_c]
          rw [a1.2.1] at hF
          exact Prn_rm a1 q2 q4 hF hc (fun y => by rw [y] at hc; exact g0 hc) (by omega)
      · by_cases y : k = i
        · subst y; rw [pk_us]; dsimp only; rw [rm2_x (Or.inl ⟨rfl, rfl⟩)]
        · rw [pk_un y, a2 k hk]
          dsimp only
          rw [rm2_n]
          obtain ⟨r1, r2, r3⟩ := h.1 k hk
          rintro (⟨e1, e2⟩ | ⟨e1, e2⟩)
          · rcases Nat.lt_trichotomy k i with x | x | x
            · exact h.2.1 k i x hin ⟨e1, e2⟩
            · exact y x
            · exact h.2.1 i k x hk ⟨e1.symm, e2.symm⟩
          · omega
    have dec : fm (A i) (B i) = true → cnt n (fun k => rm2 fm (A i) (B i) (A k) (B k)) < cnt n (fun k => fm0 (A k) (B k)) := by
      intro hF
      have l3 := cnt_rm (m := m) (F := A) (T := B) hin hF
      cases mo with
      | true => have := a4 rfl; omega
      | false => rw [(a3 rfl).1] at l3 ⊢; exact l3
    cases hF : fm (A i) (B i) with
    | false =>
      rw [hF, if_pos rfl] at e0
      refine ⟨(mo, fm, w1), e0, a1, a2, fun y => ⟨(a3 y).1, fun k hk hb => ?_⟩, a4⟩
      by_cases q : k = i
      · subst q; rw [← (a3 y).1, hF] at hb; cases hb
      · exact (a3 y).2 k (by omega) hb
    | true =>
      rw [hF, if_neg (by simp)] at e0
      by_cases hc : cnt m (fm (A i)) = 1
      · rw [if_pos hc] at e0
        obtain ⟨r1, r2⟩ := rm hF (Or.inl hc)
        exact ⟨(true, rm2 fm (A i) (B i), upd w1 i (bI false)), e0, r1, r2, (by intro y; cases y), fun _ => dec hF⟩
      · rw [if_neg hc] at e0
        by_cases hc2 : cnt m (fm (B i)) = 1
        · rw [if_neg (fun y => y hc2)] at e0
          obtain ⟨r1, r2⟩ := rm hF (Or.inr hc2)
          exact ⟨(true, rm2 fm (A i) (B i), upd w1 i (bI false)), e0, r1, r2, (by intro y; cases y), fun _ => dec hF⟩
        · rw [if_pos hc2] at e0
          refine ⟨(mo, fm, w1), e0, a1, a2, fun y => ⟨(a3 y).1, fun k hk hb => ?_⟩, a4⟩
          by_cases q : k = i
          · subst q; rw [← (a3 y).1]; exact ⟨hc, hc2⟩
          · exact (a3 y).2 k (by omega) hb) (fun s _ => by
    simp (disch := omega) only [bX10_loosen_137, dm3, nI_leS]
    rw [if_pos (by omega)])
  exact ⟨s.1, s.2.1, s.2.2, h1, h2.1, h2.2.1, h2.2.2.1, h2.2.2.2⟩
theorem mdead_ok {P : Nat → Nat → Prop} {ad : Nat → Nat → Bool} {m n : Nat} {A B : Nat → Nat} {b : Nat → Bool} (h : PcM P m n A B) (hP : PcR P ad m) (hm : m ≤ 128) (hn : n ≤ 800) (hG : ∃ G j, Good ad m b G ∧ G 0 j) {f t : Nat → Int32} (hf : hN n f A) (ht : hN n t B) {fm0 : Nat → Nat → Bool} {w : Nat → Int32} (hp : Prn ad m b fm0) (hw : hB n w (fun k => fm0 (A k) (B k))) : ∃ (fm : Nat → Nat → Bool) (w' : Nat → Int32) (v : Int32), iter (bX10_loosen_129 (nI n) f t) FU ((1 : Int32), w) = some (0, (v, w')) ∧ Prn ad m b fm ∧ NoLf m fm ∧ hB n w' (fun k => fm (A k) (B k)) := by
  obtain ⟨t', h1, fm, c1, c2, c3⟩ := iter_wh (S := Bool × (Nat → Nat → Bool) × (Nat → Int32)) (B := bX10_loosen_129 (nI n) f t) (fun s => (bI s.1, s.2.2)) (fun s => Prn ad m b s.2.1 ∧ hB n s.2.2 (fun k => s.2.1 (A k) (B k)) ∧ (s.1 = false → NoLf m s.2.1)) (fun s => 2 * cnt n (fun k => s.2.1 (A k) (B k)) + (if s.1 = true then 1 else 0)) (fun t => ∃ fm, Prn ad m b fm ∧ NoLf m fm ∧ hB n t.2 (fun k => fm (A k) (B k))) (fun s hI => by
    obtain ⟨mo, fm, w1⟩ := s
    obtain ⟨a1, a2, a3⟩ := hI
    dsimp only at a1 a2 a3 ⊢
    cases mo with
    | false =>
      refine Or.inr ⟨(nI 0, w1), ?_, fm, a1, a3 rfl, a2⟩
      simp only [bX10_loosen_129, dm2, bI_f, nl_0, if_true]
    | true =>
      obtain ⟨mo', fm', w', d1, d2, d3, d4, d5⟩ := mdead1_ok h hP hm hn hG hf ht a1 a2
      refine Or.inl ⟨(mo', fm', w'), ?_, ⟨d2, d3, fun y i j hij => ?_⟩, ?_⟩
      · rw [nl_0] at d1
        simp only [bX10_loosen_129, dm2, bI_t, nl_0, nI1_ne0, if_false, d1, ob, ex1, if_true, dm3]
      · obtain ⟨y1, y2⟩ := d4 y
        dsimp only at hij ⊢
        obtain ⟨c1, c2, c3, -⟩ := d2.1 i j hij
        rw [y1] at hij ⊢
        rcases (hP i j c1 c2).mp c3 with p | p
        · obtain ⟨k, k1, k2, k3⟩ := h.2.2 i j p
          have := y2 k k1
          rw [k2, k3] at this
          exact (this hij).1
        · obtain ⟨k, k1, k2, k3⟩ := h.2.2 j i p
          have := y2 k k1
          rw [k2, k3] at this
          rw [a1.2.1] at hij
          exact (this hij).2
      · dsimp only
        cases mo' with
        | true =>
          have := d5 rfl
          rw [if_pos rfl]; omega
        | false =>
          rw [(d4 rfl).1, if_neg (by simp), if_pos rfl]; omega) (true, fm0, w) ⟨hp, hw, (by intro z; cases z)⟩ (by
    dsimp only
    have := cnt_le n (fun k => fm0 (A k) (B k))
    split <;> omega)
  exact ⟨fm, t'.2, t'.1, h1, c1, c2, c3⟩
theorem Prn_one {ad : Nat → Nat → Bool} {m : Nat} {b : Nat → Bool} {fm fm' : Nat → Nat → Bool} (h : Prn ad m b fm) (n : NoLf m fm) (h' : Prn ad m b fm') (n' : NoLf m fm') : fm = fm' := by
  have good : ∀ g, Prn ad m b g → NoLf m g → Good ad m b (fun i j => g i j = true) := by
    intro g hg ng i j hij
    obtain ⟨a1, a2, a3, a4⟩ := hg.1 i j hij
    obtain ⟨j', b1, b2, b3⟩ := cnt_two (ng i j hij) a2 hij
    exact ⟨a1, a2, a3, a4, (hg.2.1 j i).trans hij, j', b2, b3⟩
  funext i j
  have k1 := h.2.2.1 _ (good fm' h' n') i j
  have k2 := h'.2.2.1 _ (good fm h n) i j
  cases e1 : fm i j <;> cases e2 : fm' i j
  · rfl
  · rw [k1 e2] at e1; cases e1
  · rw [k2 e1] at e2; cases e2
  · rfl
