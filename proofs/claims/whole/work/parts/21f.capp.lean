/-! at most 342 pieces -/
def Mx (K : Nat → Ln) (N m : Nat) (Q : Nat → Pt3) : Prop := N ≤ 18 ∧ (∀ k, k < N → lnOK (K k) ∧ lnN (K k)) ∧ (∀ i, i < m → pOK (Q i)) ∧ Srt m Q ∧ ∀ q, (∃ i, i < m ∧ Q i = q) ↔ allS K N q
def onK (K : Nat → Ln) (Q : Nat → Pt3) (k i : Nat) : Bool := onb (K k) (Q i)
theorem Q_inj {m : Nat} {Q : Nat → Pt3} (h : Srt m Q) {i j : Nat} (hi : i < m) (hj : j < m) (e : Q i = Q j) : i = j := by
  rcases Nat.lt_trichotomy i j with q | q | q
  · have := h i j q hj; rw [e] at this; exact absurd this (plt_irr _)
  · exact q
  · have := h j i q hi; rw [e] at this; exact absurd this (plt_irr _)
theorem jt_line {K : Nat → Ln} {N m : Nat} {Q : Nat → Pt3} (h : Mx K N m Q) {k j : Nat} (hk : k < N) (hj : j < m) : ∃ l, l < N ∧ ((cW (K k) (K l) ≠ 0 ∧ onK K Q l j = true) ∨ (cW (K k) (K l) = 0 ∧ (Q j = ((K l).1, (K l).2.1, 1) ∨ Q j = ((K l).2.2.1, (K l).2.2.2, 1)))) := by
  obtain ⟨h1, h2, h3, h4, h5⟩ := h
  rcases (h5 (Q j)).mp ⟨j, hj, rfl⟩ with ⟨l, hl, e⟩ | ⟨a, b, hba, ha, hc, e⟩
  · refine ⟨l, hl, ?_⟩
    by_cases hW : cW (K k) (K l) = 0
    · exact Or.inr ⟨hW, e⟩
    · refine Or.inl ⟨hW, ?_⟩
      unfold onK
      rcases e with e | e
      · rw [e]; exact onb_A _
      · rw [e]; exact onb_B _
  · by_cases hW : cW (K k) (K a) = 0
    · refine ⟨b, by omega, Or.inl ⟨fun hW2 => hc.1 (cW_par (h2 k hk).2 hW hW2), ?_⟩⟩
      unfold onK
      rw [e, ← crP_sym hc.1]
      exact onb_crP (h2 b (by omega)).1 (h2 b (by omega)).2 (crs_sym hc)
    · refine ⟨a, ha, Or.inl ⟨hW, ?_⟩⟩
      unfold onK
      rw [e]
      exact onb_crP (h2 a ha).1 (h2 a ha).2 hc
theorem cn1_pred {on : Nat → Bool} {m i i' j : Nat} (h1 : cn1 on m i j) (h2 : cn1 on m i' j) : i = i' := by
  rcases Nat.lt_trichotomy i i' with q | q | q
  · have := h1.2.2.2.2 i' q h2.1; rw [h2.2.2.1] at this; cases this
  · exact q
  · have := h2.2.2.2.2 i q h1.1; rw [h1.2.2.1] at this; cases this
/-- on one carrier the piece below a joint is one -/
theorem par_col {K K' : Ln} {p q : Pt3} (hq : 0 < q.2.2) (n' : lnN K') (hn : lnN K) (hW : cW K K' = 0) (c1 : lnU K * ry K q = lnV K * rx K q) (c2 : lnU K' * ry K' q = lnV K' * rx K' q) (c3 : lnU K' * ry K' p = lnV K' * rx K' p) : lnU K * ry K p = lnV K * rx K p := by
  have hq' : (0 : Int) < q.2.2 := by omega
  unfold cW at hW
  unfold rx ry at *
  have key : ∀ t : Int, t ≠ 0 → t * q.2.2 * (lnU K * ((p.2.1 : Int) - K.2.1 * p.2.2)) = t * q.2.2 * (lnV K * ((p.1 : Int) - K.1 * p.2.2)) → lnU K * ((p.2.1 : Int) - K.2.1 * p.2.2) = lnV K * ((p.1 : Int) - K.1 * p.2.2) := by
    intro t ht e
    exact Int.eq_of_mul_eq_mul_left (Int.mul_ne_zero ht (by omega)) e
  rcases n' with h | h
  · apply key (lnU K') h
    grind
  · apply key (lnV K') h
    grind
theorem par_pred {K : Nat → Ln} {N m : Nat} {Q : Nat → Pt3} (h : Mx K N m Q) {k k' i i' j : Nat} (hk : k < N) (hk' : k' < N) (hW : cW (K k) (K k') = 0) (h1 : cn1 (onK K Q k) m i j) (h2 : cn1 (onK K Q k') m i' j) : ¬ i < i' := by
  intro hlt
  obtain ⟨a1, a2, a3, a4, a5⟩ := h
  obtain ⟨b1, b2, b3, b4, b5⟩ := h1
  obtain ⟨c1, c2, c3, c4, c5⟩ := h2
  have oi := a3 i (by omega)
  have oi' := a3 i' (by omega)
  have oj := a3 j (by omega)
  have e1 := ((onb_al (a2 k hk).2 oj.1).mp b4).1
  have e2 := ((onb_al (a2 k' hk').2 oj.1).mp c4).1
  have e3 := ((onb_al (a2 k' hk').2 oi'.1).mp c3).1
  have e4 := par_col oj.1 (a2 k' hk').2 (a2 k hk).2 hW e1 e2 e3
  have := onb_btw oi.1 oj.1 oi'.1 (a2 k hk).2 b3 b4 e4 (a4 i i' hlt (by omega)) (a4 i' j c1 c2)
  have h9 := b5 i' hlt c1
  unfold onK at h9
  rw [this] at h9
  cases h9
def cdP (K : Nat → Ln) (N m : Nat) (Q : Nat → Pt3) (c i j : Nat) : Prop := (∃ k l, k < N ∧ l < N ∧ c = 18 * k + l ∧ cn1 (onK K Q k) m i j ∧ ((cW (K k) (K l) ≠ 0 ∧ onK K Q l j = true) ∨ (cW (K k) (K l) = 0 ∧ Q j = ((K l).1, (K l).2.1, 1)))) ∨ (∃ k l, k < N ∧ l < N ∧ c = 324 + l ∧ cn1 (onK K Q k) m i j ∧ cW (K k) (K l) = 0 ∧ Q j = ((K l).2.2.1, (K l).2.2.2, 1))
theorem cdP_ex {K : Nat → Ln} {N m : Nat} {Q : Nat → Pt3} (h : Mx K N m Q) {i j : Nat} (hp : Pc (onK K Q) N m i j) : ∃ c, c < 342 ∧ cdP K N m Q c i j := by
  obtain ⟨k, hk, hc⟩ := hp
  have hN := h.1
  obtain ⟨l, hl, h1 | ⟨h1, h2 | h2⟩⟩ := jt_line h hk hc.2.1
  · exact ⟨18 * k + l, by omega, Or.inl ⟨k, l, hk, hl, rfl, hc, Or.inl h1⟩⟩
  · exact ⟨18 * k + l, by omega, Or.inl ⟨k, l, hk, hl, rfl, hc, Or.inr ⟨h1, h2⟩⟩⟩
  · exact ⟨324 + l, by omega, Or.inr ⟨k, l, hk, hl, rfl, hc, h1, h2⟩⟩
theorem cdP_one {K : Nat → Ln} {N m : Nat} {Q : Nat → Pt3} (h : Mx K N m Q) {c i j i' j' : Nat} (h1 : cdP K N m Q c i j) (h2 : cdP K N m Q c i' j') : i = i' ∧ j = j' := by
  have hN := h.1
  rcases h1 with ⟨k, l, hk, hl, e, hc, hx⟩ | ⟨k, l, hk, hl, e, hc, hw, hx⟩ <;> rcases h2 with ⟨k', l', hk', hl', e', hc', hx'⟩ | ⟨k', l', hk', hl', e', hc', hw', hx'⟩
  · obtain ⟨rfl, rfl⟩ : k = k' ∧ l = l' := by omega
    have hj : j = j' := by
      refine Q_inj h.2.2.2.1 hc.2.1 hc'.2.1 ?_
      rcases hx with ⟨x1, x2⟩ | ⟨x1, x2⟩ <;> rcases hx' with ⟨y1, y2⟩ | ⟨y1, y2⟩
      · exact onb_one (h.2.2.1 j hc.2.1) (h.2.2.1 j' hc'.2.1) (h.2.1 k hk).2 (h.2.1 l hl).2 x1 hc.2.2.2.1 x2 hc'.2.2.2.1 y2
      · exact absurd y1 x1
      · exact absurd x1 y1
      · rw [x2, y2]
    subst hj
    exact ⟨cn1_pred hc hc', rfl⟩
  · omega
  · omega
  · obtain rfl : l = l' := by omega
    have hj : j = j' := Q_inj h.2.2.2.1 hc.2.1 hc'.2.1 (by rw [hx, hx'])
    subst hj
    refine ⟨?_, rfl⟩
    have w1 : cW (K l) (K k) = 0 := by rw [cW_sym, hw]; rfl
    have w2 : cW (K l) (K k') = 0 := by rw [cW_sym, hw']; rfl
    have w3 := cW_par (h.2.1 l hl).2 w1 w2
    have w4 : cW (K k') (K k) = 0 := by rw [cW_sym, w3]; rfl
    have z1 := par_pred h hk hk' w3 hc hc'
    have z2 := par_pred h hk' hk w4 hc' hc
    omega
theorem Cap_Pc {K : Nat → Ln} {N m : Nat} {Q : Nat → Pt3} (h : Mx K N m Q) {ad : Nat → Nat → Bool} (ha : ∀ a b, a < m → b < m → ad a b = true → (Pc (onK K Q) N m a b ∨ Pc (onK K Q) N m b a)) : CapS ad m := by
  intro n F T hok hs
  have hex : ∀ s, ∃ c, s < n → (c < 684 ∧ ((F s < T s ∧ ∃ e, c = 2 * e ∧ cdP K N m Q e (F s) (T s)) ∨ (T s < F s ∧ ∃ e, c = 2 * e + 1 ∧ cdP K N m Q e (T s) (F s)))) := fun s => by
    by_cases hi : s < n
    · obtain ⟨o1, o2, o3⟩ := hok s hi
      rcases ha _ _ o1 o2 o3 with p | p
      · obtain ⟨c, c1, c2⟩ := cdP_ex h p
        obtain ⟨k, -, p⟩ := p
        exact ⟨2 * c, fun _ => ⟨by omega, Or.inl ⟨p.1, c, rfl, c2⟩⟩⟩
      · obtain ⟨c, c1, c2⟩ := cdP_ex h p
        obtain ⟨k, -, p⟩ := p
        exact ⟨2 * c + 1, fun _ => ⟨by omega, Or.inr ⟨p.1, c, rfl, c2⟩⟩⟩
    · exact ⟨0, fun z => absurd z hi⟩
  obtain ⟨f, hf⟩ := Classical.axiomOfChoice hex
  refine fb_holes 684 n f (fun i hi => (hf i hi).1) (fun i j hij hj e => ?_)
  have z := hs i j hij hj
  rcases (hf i (by omega)).2 with ⟨x1, c, x2, x3⟩ | ⟨x1, c, x2, x3⟩ <;> rcases (hf j hj).2 with ⟨y1, d, y2, y3⟩ | ⟨y1, d, y2, y3⟩
  · obtain rfl : c = d := by omega
    have := cdP_one h x3 y3; omega
  · omega
  · omega
  · obtain rfl : c = d := by omega
    have := cdP_one h x3 y3; omega
