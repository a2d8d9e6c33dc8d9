/-! neighbours along a line; the sides hang together and have no dead end -/
theorem succ_ex {on : Nat → Bool} {m i j : Nat} (hi : on i = true) (hj : on j = true) (h : i < j) (hm : j < m) : ∃ s, s ≤ j ∧ cn1 on m i s := by
  obtain ⟨k, ⟨h1, h2⟩, h3⟩ := pk_least (fun k => i < k ∧ on k = true) ⟨j, h, hj⟩
  have hk : k ≤ j := by
    rcases Nat.lt_or_ge j k with q | q
    · exact absurd ⟨h, hj⟩ (h3 j q)
    · exact q
  refine ⟨k, hk, h1, by omega, hi, h2, fun l a b => ?_⟩
  cases e : on l with
  | false => rfl
  | true => exact absurd ⟨a, e⟩ (h3 l b)
theorem pred_ex {on : Nat → Bool} {m i j : Nat} (hi : on i = true) (hj : on j = true) (h : i < j) (hm : j < m) : ∃ p, i ≤ p ∧ cn1 on m p j := by
  obtain ⟨k, ⟨h1, h2⟩, h3⟩ := pk_least (fun k => k < j ∧ on (j - 1 - k) = true) ⟨j - 1 - i, by omega, by rw [show j - 1 - (j - 1 - i) = i by omega]; exact hi⟩
  have hk : k ≤ j - 1 - i := by
    rcases Nat.lt_or_ge (j - 1 - i) k with q | q
    · exact absurd ⟨by omega, by rw [show j - 1 - (j - 1 - i) = i by omega]; exact hi⟩ (h3 (j - 1 - i) q)
    · exact q
  refine ⟨j - 1 - k, by omega, by omega, hm, h2, hj, fun l a b => ?_⟩
  cases e : on l with
  | false => rfl
  | true => exact absurd ⟨by omega, by rw [show j - 1 - (j - 1 - l) = l by omega]; exact e⟩ (h3 (j - 1 - l) (by omega))
noncomputable def adB (K : Nat → Ln) (N m : Nat) (Q : Nat → Pt3) (i j : Nat) : Bool := @decide (Pc (onK K Q) N m i j ∨ Pc (onK K Q) N m j i) (Classical.propDecidable _)
theorem adB_t {K : Nat → Ln} {N m : Nat} {Q : Nat → Pt3} {i j : Nat} : adB K N m Q i j = true ↔ (Pc (onK K Q) N m i j ∨ Pc (onK K Q) N m j i) := @decide_eq_true_iff _ (Classical.propDecidable _)
theorem adB_R (K : Nat → Ln) (N m : Nat) (Q : Nat → Pt3) : PcR (Pc (onK K Q) N m) (adB K N m Q) m := fun _ _ _ _ => adB_t
theorem adB_s (K : Nat → Ln) (N m : Nat) (Q : Nat → Pt3) (i j : Nat) : adB K N m Q i j = adB K N m Q j i := by
  have h1 := @adB_t K N m Q i j
  have h2 := @adB_t K N m Q j i
  cases e1 : adB K N m Q i j <;> cases e2 : adB K N m Q j i
  · rfl
  · rw [h1.mpr (Or.symm (h2.mp e2))] at e1; cases e1
  · rw [h2.mpr (Or.symm (h1.mp e1))] at e2; cases e2
  · rfl
theorem adB_i (K : Nat → Ln) (N m : Nat) (Q : Nat → Pt3) (i : Nat) : adB K N m Q i i = false := by
  cases e : adB K N m Q i i with
  | false => rfl
  | true =>
    rcases adB_t.mp e with ⟨k, -, h⟩ | ⟨k, -, h⟩ <;> exact absurd h.1 (Nat.lt_irrefl _)
theorem Pc_lt {on : Nat → Nat → Bool} {N m i j : Nat} (h : Pc on N m i j) : i < j ∧ j < m := by
  obtain ⟨k, -, h⟩ := h
  exact ⟨h.1, h.2.1⟩
theorem adB_lt {K : Nat → Ln} {N m : Nat} {Q : Nat → Pt3} {i j : Nat} (h : adB K N m Q i j = true) : i < m ∧ j < m := by
  rcases adB_t.mp h with h | h <;> have := Pc_lt h <;> omega
noncomputable def rcB (ad : Nat → Nat → Bool) (m i : Nat) : Bool := @decide (Rch (adR ad m) 0 i) (Classical.propDecidable _)
theorem rcB_t {ad : Nat → Nat → Bool} {m i : Nat} : rcB ad m i = true ↔ Rch (adR ad m) 0 i := @decide_eq_true_iff _ (Classical.propDecidable _)
theorem adR_s {K : Nat → Ln} {N m : Nat} {Q : Nat → Pt3} {i j : Nat} (h : adR (adB K N m Q) m i j) : adR (adB K N m Q) m j i := ⟨h.2.1, h.1, by rw [adB_s]; exact h.2.2⟩
theorem cn1_ad {K : Nat → Ln} {N m : Nat} {Q : Nat → Pt3} {k i j : Nat} (hk : k < N) (h : cn1 (onK K Q k) m i j) : adR (adB K N m Q) m i j := ⟨by have := h.1; have := h.2.1; omega, h.2.1, adB_t.mpr (Or.inl ⟨k, hk, h⟩)⟩
theorem line_conn {K : Nat → Ln} {N m : Nat} {Q : Nat → Pt3} {k : Nat} (hk : k < N) : ∀ b a, a ≤ b → b < m → onK K Q k a = true → onK K Q k b = true → Rch (adR (adB K N m Q) m) a b := by
  intro b
  induction b using Nat.strongRecOn with
  | _ b ih =>
    intro a hab hb ha hob
    rcases Nat.lt_or_ge a b with q | q
    · obtain ⟨p, h1, h2⟩ := pred_ex ha hob q hb
      have h3 := h2.1
      exact Rch_step (ih p h3 a h1 (by omega) ha h2.2.2.1) (cn1_ad hk h2)
    · obtain rfl : a = b := by omega
      exact Rch_refl _ _
theorem line_conn2 {K : Nat → Ln} {N m : Nat} {Q : Nat → Pt3} {k a b : Nat} (hk : k < N) (ha : a < m) (hb : b < m) (oa : onK K Q k a = true) (ob : onK K Q k b = true) : Rch (adR (adB K N m Q) m) a b := by
  rcases Nat.le_total a b with q | q
  · exact line_conn hk b a q hb oa ob
  · exact Rch_sym (fun _ _ => adR_s) (line_conn hk a b q ha ob oa)
def sdG (K : Nat → Ln) (m : Nat) (Q : Nat → Pt3) (i j : Nat) : Prop := ∃ k, k < 4 ∧ (cn1 (onK K Q k) m i j ∨ cn1 (onK K Q k) m j i)
theorem side_reach {w h nl : Nat} {ld : Nat → Ln} (hD : Dr w h nl ld) {m : Nat} {Q : Nat → Pt3} (hJ : Jt w h nl ld m Q) {k i : Nat} (hk : k < 4) (hi : i < m) (ho : onK (KX w h ld) Q k i = true) : Rch (adR (adB (KX w h ld) (nl + 4) m Q) m) 0 i := by
  obtain ⟨d1, d2, d3, d4, d5, d6⟩ := id hD
  obtain ⟨m0, e0⟩ := jt_0 hJ
  obtain ⟨b, hb, eb⟩ := jt_c hJ (q := (w, 0, 1)) (Or.inr (Or.inl rfl))
  obtain ⟨c, hc, ec⟩ := jt_c hJ (q := (0, h, 1)) (Or.inr (Or.inr (Or.inl rfl)))
  have k0 : ∀ j, j < m → (onK (KX w h ld) Q 0 j = true ↔ (Q j).2.1 = 0) := fun j hj => on_0 d1 (in_win hD hJ hj).1
  have k1 : ∀ j, j < m → (onK (KX w h ld) Q 1 j = true ↔ (Q j).1 = w * (Q j).2.2) := fun j hj => on_1 d3 (in_win hD hJ hj).2
  have k2 : ∀ j, j < m → (onK (KX w h ld) Q 2 j = true ↔ (Q j).2.1 = h * (Q j).2.2) := fun j hj => on_2 d1 (in_win hD hJ hj).1
  have k3 : ∀ j, j < m → (onK (KX w h ld) Q 3 j = true ↔ (Q j).1 = 0) := fun j hj => on_3 d3 (in_win hD hJ hj).2
  have hk4 : k = 0 ∨ k = 1 ∨ k = 2 ∨ k = 3 := by omega
  rcases hk4 with rfl | rfl | rfl | rfl
  · exact line_conn2 (k := 0) (by omega) m0 hi ((k0 0 m0).mpr (by rw [e0])) ho
  · refine Rch_trans (line_conn2 (k := 0) (by omega) m0 hb ((k0 0 m0).mpr (by rw [e0])) ((k0 b hb).mpr (by rw [eb]))) ?_
    exact line_conn2 (k := 1) (by omega) hb hi ((k1 b hb).mpr (by rw [eb]; dsimp only; omega)) ho
  · refine Rch_trans (line_conn2 (k := 3) (by omega) m0 hc ((k3 0 m0).mpr (by rw [e0])) ((k3 c hc).mpr (by rw [ec]))) ?_
    exact line_conn2 (k := 2) (by omega) hc hi ((k2 c hc).mpr (by rw [ec]; dsimp only; omega)) ho
  · exact line_conn2 (k := 3) (by omega) m0 hi ((k3 0 m0).mpr (by rw [e0])) ho
theorem sdG_good {w h nl : Nat} {ld : Nat → Ln} (hD : Dr w h nl ld) {m : Nat} {Q : Nat → Pt3} (hJ : Jt w h nl ld m Q) : Good (adB (KX w h ld) (nl + 4) m Q) m (rcB (adB (KX w h ld) (nl + 4) m Q) m) (sdG (KX w h ld) m Q) := by
  have hM := Mx_KX hD hJ.1 hJ.2.1 hJ.2.2
  intro i j hg
  obtain ⟨k, hk, hc⟩ := hg
  have hkN : k < nl + 4 := by omega
  have hij : i < m ∧ j < m ∧ i ≠ j ∧ onK (KX w h ld) Q k i = true ∧ onK (KX w h ld) Q k j = true := by
    rcases hc with c | c
    · exact ⟨by have := c.1; have := c.2.1; omega, c.2.1, by have := c.1; omega, c.2.2.1, c.2.2.2.1⟩
    · exact ⟨c.2.1, by have := c.1; have := c.2.1; omega, by have := c.1; omega, c.2.2.2.1, c.2.2.1⟩
  obtain ⟨hi, hj, hne, oi, oj⟩ := hij
  refine ⟨hi, hj, ?_, rcB_t.mpr (side_reach hD hJ hk hi oi), ⟨k, hk, Or.symm hc⟩, ?_⟩
  · rcases hc with c | c
    · exact (cn1_ad hkN c).2.2
    · rw [adB_s]; exact (cn1_ad hkN c).2.2
  · rcases corner_other hD hJ hk hi oi with ⟨a, b, h1, h2, h3, h4, h5⟩ | ⟨k', hk', hW, o', a, ha, hai, oa⟩
    · obtain ⟨s, s1, s2⟩ := succ_ex oi h5 h2 h3
      obtain ⟨p, p1, p2⟩ := pred_ex h4 oi h1 hi
      rcases hc with c | c
      · exact ⟨p, by have := p2.1; have := c.1; omega, k, hk, Or.inr p2⟩
      · exact ⟨s, by have := s2.1; have := c.1; omega, k, hk, Or.inl s2⟩
    · have hkN' : k' < nl + 4 := by omega
      have ne : ∀ x, x < m → x ≠ i → onK (KX w h ld) Q k' x = true → x ≠ j := by
        intro x hx hxi ox e
        subst e
        exact hxi (Q_inj hJ.2.1 hx hi (onb_one (hJ.1 x hx) (hJ.1 i hi) (hM.2.1 k hkN).2 (hM.2.1 k' hkN').2 hW oj ox oi o'))
      rcases Nat.lt_or_ge a i with q | q
      · obtain ⟨p, p1, p2⟩ := pred_ex oa o' q hi
        exact ⟨p, ne p (by have := p2.1; omega) (by have := p2.1; omega) p2.2.2.1, k', hk', Or.inr p2⟩
      · obtain ⟨s, s1, s2⟩ := succ_ex o' oa (by omega) ha
        exact ⟨s, ne s s2.2.1 (by have := s2.1; omega) s2.2.2.2.1, k', hk', Or.inl s2⟩
theorem sdG_0 {w h nl : Nat} {ld : Nat → Ln} (hD : Dr w h nl ld) {m : Nat} {Q : Nat → Pt3} (hJ : Jt w h nl ld m Q) : ∃ G j, Good (adB (KX w h ld) (nl + 4) m Q) m (rcB (adB (KX w h ld) (nl + 4) m Q) m) G ∧ G 0 j := by
  obtain ⟨d1, d2, d3, d4, d5, d6⟩ := id hD
  obtain ⟨m0, e0⟩ := jt_0 hJ
  obtain ⟨b, hb, eb⟩ := jt_c hJ (q := (w, 0, 1)) (Or.inr (Or.inl rfl))
  have hb0 : 0 < b := by
    rcases Nat.eq_zero_or_pos b with q | q
    · rw [q, e0] at eb
      have := congrArg Prod.fst eb
      dsimp only at this; omega
    · exact q
  obtain ⟨s, s1, s2⟩ := succ_ex (on := onK (KX w h ld) Q 0) ((on_0 d1 (in_win hD hJ m0).1).mpr (by rw [e0])) ((on_0 d1 (in_win hD hJ hb).1).mpr (by rw [eb])) hb0 hb
  exact ⟨sdG (KX w h ld) m Q, s, sdG_good hD hJ, 0, by omega, Or.inl s2⟩
