/-! a sum over a row of pairs -/
theorem sm_pt {m a0 : Nat} (h : a0 < m) (f : Nat → Int) : sm m (fun a => if a0 = a then f a else 0) = f a0 := by
  rw [← sm_one h f]
  apply sm_congr
  intro i _
  by_cases z : i = a0
  · rw [if_pos z, if_pos z.symm]
  · rw [if_neg z, if_neg (fun y => z y.symm)]
theorem enum_sm {m n : Nat} {F T : Nat → Nat} {ad : Nat → Nat → Bool} (h1 : ∀ s, s < n → F s < m ∧ T s < m ∧ ad (F s) (T s) = true) (h2 : ∀ s t, s < t → t < n → ¬ (F s = F t ∧ T s = T t)) (h3 : ∀ a b, a < m → b < m → ad a b = true → ∃ s, s < n ∧ F s = a ∧ T s = b) (g : Nat → Nat → Int) : sm n (fun s => g (F s) (T s)) = sm m (fun a => sm m (fun b => if ad a b = true then g a b else 0)) := by
  have e1 : sm n (fun s => g (F s) (T s)) = sm n (fun s => sm m (fun a => sm m (fun b => if F s = a ∧ T s = b then g a b else 0))) := by
    apply sm_congr
    intro s hs
    obtain ⟨a1, a2, -⟩ := h1 s hs
    rw [← sm_pt a1 (fun a => g a (T s))]
    apply sm_congr
    intro a _
    by_cases z : F s = a
    · rw [if_pos z, ← sm_pt a2 (fun b => g a b)]
      apply sm_congr
      intro b _
      by_cases y : T s = b
      · rw [if_pos y, if_pos ⟨z, y⟩]
      · rw [if_neg y, if_neg (fun x => y x.2)]
    · rw [if_neg z]
      exact (sm_0 (fun b _ => if_neg (fun x => z x.1))).symm
  rw [e1, sm_swap]
  apply sm_congr
  intro a ha
  rw [sm_swap]
  apply sm_congr
  intro b hb
  cases z : ad a b with
  | false =>
    rw [if_neg (by decide)]
    exact sm_0 (fun s hs => if_neg (fun x => by
      have := (h1 s hs).2.2
      rw [x.1, x.2, z] at this
      cases this))
  | true =>
    rw [if_pos rfl]
    obtain ⟨s0, k1, k2, k3⟩ := h3 a b ha hb z
    refine Eq.trans (sm_congr (g := fun i => if i = s0 then g a b else 0) ?_) (sm_one k1 (fun _ => g a b))
    intro s hs
    by_cases y : s = s0
    · subst y; rw [if_pos rfl, if_pos ⟨k2, k3⟩]
    · rw [if_neg y, if_neg]
      intro x
      rcases Nat.lt_or_gt_of_ne y with q | q
      · exact h2 s s0 q k1 ⟨by rw [x.1, k2], by rw [x.2, k3]⟩
      · exact h2 s0 s q hs ⟨by rw [x.1, k2], by rw [x.2, k3]⟩
theorem enum_one {m n n' : Nat} {F T F' T' : Nat → Nat} {ad : Nat → Nat → Bool} (h1 : ∀ s, s < n → F s < m ∧ T s < m ∧ ad (F s) (T s) = true) (h2 : ∀ s t, s < t → t < n → ¬ (F s = F t ∧ T s = T t)) (h3 : ∀ a b, a < m → b < m → ad a b = true → ∃ s, s < n ∧ F s = a ∧ T s = b) (h1' : ∀ s, s < n' → F' s < m ∧ T' s < m ∧ ad (F' s) (T' s) = true) (h2' : ∀ s t, s < t → t < n' → ¬ (F' s = F' t ∧ T' s = T' t)) (h3' : ∀ a b, a < m → b < m → ad a b = true → ∃ s, s < n' ∧ F' s = a ∧ T' s = b) (g : Nat → Nat → Int) : sm n (fun s => g (F s) (T s)) = sm n' (fun s => g (F' s) (T' s)) := by
  rw [enum_sm h1 h2 h3, enum_sm h1' h2' h3']
theorem sm_two (n : Nat) (f : Nat → Int) : sm (2 * n) f = sm n (fun k => f (2 * k) + f (2 * k + 1)) := by
  induction n with
  | zero => rfl
  | succ n ih => rw [show 2 * (n + 1) = 2 * n + 1 + 1 by omega, sm_s, sm_s, ih, sm_s]; omega
