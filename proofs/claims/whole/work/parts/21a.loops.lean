/-! loops over a count, rows to evaluate shadows -/
theorem iter_for {S T : Type} {B : T → Option (Nat × T)} (mk : Nat → S → T) (n : Nat) (I : Nat → S → Prop) (i0 : Nat) (s0 : S) (h0 : I i0 s0) (hi : i0 ≤ n) (hn : n < 999999999) (step : ∀ i s, i0 ≤ i → i < n → I i s → ∃ s', B (mk i s) = some (0, mk (i + 1) s') ∧ I (i + 1) s') (out : ∀ s, I n s → B (mk n s) = some (1, mk n s)) : ∃ s, iter B FU (mk i0 s0) = some (0, mk n s) ∧ I n s := by
  have key : ∀ (d i : Nat) (s : S) (f : Nat), i0 ≤ i → i + d = n → d < f → I i s → ∃ s', iter B f (mk i s) = some (0, mk n s') ∧ I n s' := by
    intro d
    induction d with
    | zero =>
      intro i s f h1 h2 h3 h4
      obtain rfl : i = n := by omega
      obtain ⟨f, rfl⟩ : ∃ g, f = g + 1 := ⟨f - 1, by omega⟩
      exact ⟨s, iter_out (out s h4) f, h4⟩
    | succ d ih =>
      intro i s f h1 h2 h3 h4
      obtain ⟨f, rfl⟩ : ∃ g, f = g + 1 := ⟨f - 1, by omega⟩
      obtain ⟨s1, e1, h5⟩ := step i s h1 (by omega) h4
      rw [iter_go e1]
      exact ih (i + 1) s1 f (by omega) (by omega) (by omega) h5
  exact key (n - i0) i0 s0 FU (Nat.le_refl _) (by omega) (FU_lt (by omega)) h0
/-- a loop that ends early or at its count -/
theorem iter_forE {S T : Type} {B : T → Option (Nat × T)} (mk : Nat → S → T) (n : Nat) (I : Nat → S → Prop) (E : Nat → T → Prop) (i0 : Nat) (s0 : S) (h0 : I i0 s0) (hi : i0 ≤ n) (hn : n < 999999999) (step : ∀ i s, i0 ≤ i → i < n → I i s → (∃ s', B (mk i s) = some (0, mk (i + 1) s') ∧ I (i + 1) s') ∨ (∃ k t, B (mk i s) = some (k + 1, t) ∧ E k t)) (out : ∀ s, I n s → ∃ k t, B (mk n s) = some (k + 1, t) ∧ E k t) : ∃ k t, iter B FU (mk i0 s0) = some (k, t) ∧ E k t := by
  have key : ∀ (d i : Nat) (s : S) (f : Nat), i0 ≤ i → i + d = n → d < f → I i s → ∃ k t, iter B f (mk i s) = some (k, t) ∧ E k t := by
    intro d
    induction d with
    | zero =>
      intro i s f h1 h2 h3 h4
      obtain rfl : i = n := by omega
      obtain ⟨f, rfl⟩ : ∃ g, f = g + 1 := ⟨f - 1, by omega⟩
      obtain ⟨k, t, e, h5⟩ := out s h4
      exact ⟨k, t, iter_out e f, h5⟩
    | succ d ih =>
      intro i s f h1 h2 h3 h4
      obtain ⟨f, rfl⟩ : ∃ g, f = g + 1 := ⟨f - 1, by omega⟩
      rcases step i s h1 (by omega) h4 with ⟨s1, e1, h5⟩ | ⟨k, t, e, h5⟩
      · rw [iter_go e1]
        exact ih (i + 1) s1 f (by omega) (by omega) (by omega) h5
      · exact ⟨k, t, iter_out e f, h5⟩
  exact key (n - i0) i0 s0 FU (Nat.le_refl _) (by omega) (FU_lt (by omega)) h0
/-- the first place with a property -/
theorem iter_first {B : Int32 → Option (Nat × Int32)} (n : Nat) (P : Nat → Prop) (i0 : Nat) (hi : i0 ≤ n) (hn : n < 999999999) (step : ∀ i, i0 ≤ i → i < n → (¬ P i ∧ B (nI i) = some (0, nI (i + 1))) ∨ (P i ∧ B (nI i) = some (1, nI i))) (out : B (nI n) = some (2, nI n)) : (∃ i, i0 ≤ i ∧ i < n ∧ P i ∧ (∀ j, i0 ≤ j → j < i → ¬ P j) ∧ iter B FU (nI i0) = some (0, nI i)) ∨ ((∀ j, i0 ≤ j → j < n → ¬ P j) ∧ iter B FU (nI i0) = some (1, nI n)) := by
  obtain ⟨k, t, h1, h2⟩ := iter_forE (S := Unit) (B := B) (fun i _ => nI i) n (fun i _ => ∀ j, i0 ≤ j → j < i → ¬ P j) (fun k t => (k = 0 ∧ ∃ i, i0 ≤ i ∧ i < n ∧ P i ∧ (∀ j, i0 ≤ j → j < i → ¬ P j) ∧ t = nI i) ∨ (k = 1 ∧ (∀ j, i0 ≤ j → j < n → ¬ P j) ∧ t = nI n)) i0 () (fun j h1 h2 => by omega) hi hn (fun i _ h1 h2 h3 => by
    rcases step i h1 h2 with ⟨p, e⟩ | ⟨p, e⟩
    · refine Or.inl ⟨(), e, fun j a b => ?_⟩
      rcases Nat.lt_or_ge j i with q | q
      · exact h3 j a q
      · obtain rfl : j = i := by omega
        exact p
    · exact Or.inr ⟨0, _, e, Or.inl ⟨rfl, i, h1, h2, p, h3, rfl⟩⟩) (fun _ h => ⟨1, _, out, Or.inr ⟨rfl, h, rfl⟩⟩)
  rcases h2 with ⟨rfl, i, a, b, c, d, rfl⟩ | ⟨rfl, a, rfl⟩
  · exact Or.inl ⟨i, a, b, c, d, h1⟩
  · exact Or.inr ⟨a, h1⟩
theorem gd_s {α : Type} {c : Prop} [Decidable c] {o : Option α} (h : c) : gd c o = o := if_pos h
theorem nI_lt0 {n : Nat} (h : n < 2147483648) : (nI n < 0) = False := eq_false (nI_pos h)
theorem nI_lt0' {n : Nat} (h : n < 2147483648) : (nI n < nI 0) = False := eq_false (nI_pos h)
theorem nI_clampS {n : Nat} (h : n < 2147483648) : (nI n).toNatClampNeg = n := nI_clamp h
theorem nI_addS (a b : Nat) : nI a + nI b = nI (a + b) := nI_add a b
theorem nI_leS {a b : Nat} (ha : a < 2147483648) (hb : b < 2147483648) : (nI a ≤ nI b) = (a ≤ b) := propext (nI_leI ha hb)
theorem nI_ltS {a b : Nat} (ha : a < 2147483648) (hb : b < 2147483648) : (nI a < nI b) = (a < b) := propext (nI_ltI ha hb)
theorem nI_eqS {a b : Nat} (ha : a < 2147483648) (hb : b < 2147483648) : (nI a = nI b) = (a = b) := propext (nI_eq ha hb)
theorem nl_0 : (0 : Int32) = nI 0 := by decide
theorem nl_1 : (1 : Int32) = nI 1 := by decide
theorem nl_2 : (2 : Int32) = nI 2 := by decide
theorem nl_64 : (64 : Int32) = nI 64 := by decide
theorem nl_768 : (768 : Int32) = nI 768 := by decide
theorem nm_1 : (-1 : Int32) = iz (-1) := by decide
theorem btw_ok {a b c : Nat} (ha : a < 1000000) (hb : b < 1000000) (hc : c < 1000000) : sX4_isBetween (nI a) (nI b) (nI c) = some (if min b c ≤ a ∧ a ≤ max b c then nI 1 else nI 0) := by
  have e1 : (if nI c < nI b then nI c else nI b) = nI (min b c) := by
    simp (disch := omega) only [nI_ltS]
    split <;> congr 1 <;> omega
  have e2 : (if nI b < nI c then nI c else nI b) = nI (max b c) := by
    simp (disch := omega) only [nI_ltS]
    split <;> congr 1 <;> omega
  unfold sX4_isBetween
  rw [e1, e2, nl_0, nl_1]
  simp (disch := omega) only [nI_ltS]
  by_cases h1 : a < min b c
  · rw [if_pos h1, if_neg (by omega)]
  · rw [if_neg h1]
    by_cases h2 : max b c < a
    · rw [if_pos h2, if_neg (by omega)]
    · rw [if_neg h2, if_pos (by omega)]
