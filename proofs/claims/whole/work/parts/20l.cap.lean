/-! at most 123 joints; fb_holes is the kit's own row (laws/COUNTS.to-paste) -/
theorem fb_holes : ∀ (m n : Nat) (f : Nat → Nat), (∀ i, i < n → f i < m) → (∀ i j, i < j → j < n → f i ≠ f j) → n ≤ m := by
  intro m
  induction m with
  | zero =>
    intro n f h1 _
    rcases Nat.eq_zero_or_pos n with h | h
    · omega
    · exact absurd (h1 0 h) (Nat.not_lt_zero _)
  | succ m ih =>
    intro n f h1 h2
    by_cases hx : ∃ i, i < n ∧ f i = m
    · obtain ⟨a, ha, hfa⟩ := hx
      have hg := ih (n - 1) (fun i => if i < a then f i else f (i + 1)) (by
        intro i hi
        by_cases q : i < a
        · simp only [if_pos q]
          have b1 := h1 i (by omega)
          have b2 := h2 i a q ha
          omega
        · simp only [if_neg q]
          have b1 := h1 (i + 1) (by omega)
          have b2 := h2 a (i + 1) (by omega) (by omega)
          omega) (by
        intro i j hij hj
        by_cases q : i < a
        · by_cases r : j < a
          · simp only [if_pos q, if_pos r]
            exact h2 i j hij (by omega)
          · simp only [if_pos q, if_neg r]
            exact h2 i (j + 1) (by omega) (by omega)
        · have r : ¬ j < a := by omega
          simp only [if_neg q, if_neg r]
          exact h2 (i + 1) (j + 1) (by omega) (by omega))
      omega
    · have hg := ih n f (fun i hi => by
        have b1 := h1 i hi
        have b2 : f i ≠ m := fun e => hx ⟨i, hi, e⟩
        omega) h2
      omega
/-- two of them in one place -/

def tri : Nat → Nat
  | 0 => 0
  | n + 1 => tri n + n
theorem tri_lt {a : Nat} : ∀ {b : Nat}, a < b → tri a + a ≤ tri b
  | 0, h => absurd h (Nat.not_lt_zero _)
  | b + 1, h => by
    rcases Nat.lt_or_ge a b with q | q
    · have := tri_lt q
      show tri a + a ≤ tri b + b
      omega
    · obtain rfl : a = b := by omega
      exact Nat.le_refl _
theorem tri_one {i j a b : Nat} (hj : j < i) (hb : b < a) (e : tri i + j = tri a + b) : i = a ∧ j = b := by
  rcases Nat.lt_trichotomy i a with h | h | h
  · have := tri_lt h; omega
  · subst h; omega
  · have := tri_lt h; omega
theorem tri_14 {i j : Nat} (hi : i < 14) (hj : j < i) : tri i + j < 91 := by
  have h1 : tri i + i ≤ tri 14 := tri_lt hi
  have h2 : tri 14 = 91 := by decide
  omega
/-- a number for each point that may be a joint -/
def cod (w h nl : Nat) (ld : Nat → Ln) (c : Nat) (q : Pt3) : Prop := (c = 0 ∧ q = (0, 0, 1)) ∨ (c = 1 ∧ q = (w, 0, 1)) ∨ (c = 2 ∧ q = (0, h, 1)) ∨ (c = 3 ∧ q = (w, h, 1)) ∨ (∃ i, i < nl ∧ c = 4 + 2 * i ∧ q = ((ld i).1, (ld i).2.1, 1)) ∨ (∃ i, i < nl ∧ c = 5 + 2 * i ∧ q = ((ld i).2.2.1, (ld i).2.2.2, 1)) ∨ (∃ i j, j < i ∧ i < nl ∧ c = 32 + (tri i + j) ∧ q = crP (ld i) (ld j))
theorem cod_ex {w h nl : Nat} {ld : Nat → Ln} (hn : nl ≤ 14) {q : Pt3} (hq : TS w h nl ld q) : ∃ c, c < 123 ∧ cod w h nl ld c q := by
  rcases hq with (e | e | e | e) | ⟨i, hi, e | e⟩ | ⟨i, j, hj, hi, -, e⟩
  · exact ⟨0, by omega, Or.inl ⟨rfl, e⟩⟩
  · exact ⟨1, by omega, Or.inr (Or.inl ⟨rfl, e⟩)⟩
  · exact ⟨2, by omega, Or.inr (Or.inr (Or.inl ⟨rfl, e⟩))⟩
  · exact ⟨3, by omega, Or.inr (Or.inr (Or.inr (Or.inl ⟨rfl, e⟩)))⟩
  · exact ⟨4 + 2 * i, by omega, Or.inr (Or.inr (Or.inr (Or.inr (Or.inl ⟨i, hi, rfl, e⟩))))⟩
  · exact ⟨5 + 2 * i, by omega, Or.inr (Or.inr (Or.inr (Or.inr (Or.inr (Or.inl ⟨i, hi, rfl, e⟩)))))⟩
  · have := tri_14 (i := i) (j := j) (by omega) hj
    exact ⟨32 + (tri i + j), by omega, Or.inr (Or.inr (Or.inr (Or.inr (Or.inr (Or.inr ⟨i, j, hj, hi, rfl, e⟩)))))⟩
theorem cod_one {w h nl : Nat} {ld : Nat → Ln} (hn : nl ≤ 14) {c : Nat} {q q' : Pt3} (h1 : cod w h nl ld c q) (h2 : cod w h nl ld c q') : q = q' := by
  rcases h1 with ⟨a, e⟩ | ⟨a, e⟩ | ⟨a, e⟩ | ⟨a, e⟩ | ⟨i, hi, a, e⟩ | ⟨i, hi, a, e⟩ | ⟨i, j, hj, hi, a, e⟩ <;> rcases h2 with ⟨b, f⟩ | ⟨b, f⟩ | ⟨b, f⟩ | ⟨b, f⟩ | ⟨k, hk, b, f⟩ | ⟨k, hk, b, f⟩ | ⟨k, l, hl, hk, b, f⟩ <;> first
    | (exfalso; omega)
    | (exact e.trans f.symm)
    | (obtain ⟨rfl, rfl⟩ := tri_one hj hl (by omega)
       rw [e, f])
    | (obtain rfl : i = k := by omega
       rw [e, f])
theorem Cap_TS {w h nl : Nat} {ld : Nat → Ln} (hn : nl ≤ 14) : Cap (TS w h nl ld) := by
  intro n P sP hT
  have hex : ∀ i, ∃ c, i < n → (c < 123 ∧ cod w h nl ld c (P i)) := fun i => by
    by_cases hi : i < n
    · obtain ⟨c, h1, h2⟩ := cod_ex hn (hT i hi)
      exact ⟨c, fun _ => ⟨h1, h2⟩⟩
    · exact ⟨0, fun z => absurd z hi⟩
  have hch := Classical.axiomOfChoice hex
  obtain ⟨f, hf⟩ := hch
  refine fb_holes 123 n f (fun i hi => (hf i hi).1) (fun i j hij hj e => ?_)
  have h1 := (hf i (by omega)).2
  have h2 := (hf j hj).2
  rw [← e] at h2
  have h3 := sP i j hij hj
  rw [cod_one hn h1 h2] at h3
  exact plt_irr _ h3
theorem Cap_of {w h nl s N : Nat} {ld K : Nat → Ln} (hn : nl ≤ 14) (hF : Fam w h nl s N ld K) : Cap (allS K N) := fun n P sP hT => Cap_TS (w := w) (h := h) (ld := ld) hn n P sP (fun i hi => (allS_TS hF _).mp (hT i hi))
