/-! sets of boxes as bits -/
theorem bs_and : ∀ a, a < 64 → ∀ b, b < 64 → (nI a &&& nI b) = nI (a &&& b) := by
  have h : ∀ a : Fin 64, ∀ b : Fin 64, (nI a.val &&& nI b.val) = nI (a.val &&& b.val) := by decide +kernel
  exact fun a ha b hb => h ⟨a, ha⟩ ⟨b, hb⟩
theorem bs_xor : ∀ a, a < 64 → ∀ b, b < 64 → (nI a ^^^ nI b) = nI (a ^^^ b) := by
  have h : ∀ a : Fin 64, ∀ b : Fin 64, (nI a.val ^^^ nI b.val) = nI (a.val ^^^ b.val) := by decide +kernel
  exact fun a ha b hb => h ⟨a, ha⟩ ⟨b, hb⟩
theorem bs_not : ∀ a, a < 64 → ∀ b, b < 64 → a &&& b = a → (nI b &&& (nI a ^^^ (-1 : Int32))) = nI (b ^^^ a) := by
  have h : ∀ a : Fin 64, ∀ b : Fin 64, a.val &&& b.val = a.val → (nI b.val &&& (nI a.val ^^^ (-1 : Int32))) = nI (b.val ^^^ a.val) := by decide +kernel
  exact fun a ha b hb => h ⟨a, ha⟩ ⟨b, hb⟩
theorem bs_sub : ∀ a, a < 64 → ∀ b, b < 64 → a &&& b = a → b ^^^ a ≤ b ∧ (b ^^^ a) &&& b = b ^^^ a ∧ (a ≠ 0 → b ^^^ a < b) ∧ (a ≠ b → b ^^^ a ≠ 0) ∧ a ≤ b ∧ b ^^^ (b ^^^ a) = a := by
  have h : ∀ a : Fin 64, ∀ b : Fin 64, a.val &&& b.val = a.val → b.val ^^^ a.val ≤ b.val ∧ (b.val ^^^ a.val) &&& b.val = b.val ^^^ a.val ∧ (a.val ≠ 0 → b.val ^^^ a.val < b.val) ∧ (a.val ≠ b.val → b.val ^^^ a.val ≠ 0) ∧ a.val ≤ b.val ∧ b.val ^^^ (b.val ^^^ a.val) = a.val := by decide +kernel
  exact fun a ha b hb => h ⟨a, ha⟩ ⟨b, hb⟩
theorem bs_sh : ∀ k, k < 7 → ((1 : Int32) <<< (nI k &&& 31)) = nI (2 ^ k) := by
  have h : ∀ k : Fin 7, ((1 : Int32) <<< (nI k.val &&& 31)) = nI (2 ^ k.val) := by decide +kernel
  exact fun k hk => h ⟨k, hk⟩
theorem bs_p2 : ∀ k, k < 7 → 1 ≤ 2 ^ k ∧ 2 ^ k ≤ 64 ∧ (k < 6 → 2 ^ k < 64) := by
  have h : ∀ k : Fin 7, 1 ≤ 2 ^ k.val ∧ 2 ^ k.val ≤ 64 ∧ (k.val < 6 → 2 ^ k.val < 64) := by decide +kernel
  exact fun k hk => h ⟨k, hk⟩
theorem bs_p2m : ∀ c, c < 7 → ∀ k, k < c → 2 ^ k < 2 ^ c := fun c _ k hk => Nat.pow_lt_pow_right (by omega) hk
theorem bs_p2i : ∀ j, j < 6 → ∀ k, k < 6 → 2 ^ j = 2 ^ k → j = k := by
  have h : ∀ j : Fin 6, ∀ k : Fin 6, 2 ^ j.val = 2 ^ k.val → j.val = k.val := by decide +kernel
  exact fun j hj k hk => h ⟨j, hj⟩ ⟨k, hk⟩
theorem bs_one : ∀ a, a < 64 → 1 ≤ a → ((nI a &&& (nI a - (1 : Int32))) = 0 ↔ ∃ k, k < 6 ∧ a = 2 ^ k) := by
  have h : ∀ a : Fin 64, 1 ≤ a.val → ((nI a.val &&& (nI a.val - (1 : Int32))) = 0 ↔ ∃ k : Fin 6, a.val = 2 ^ k.val) := by decide +kernel
  intro a ha h1
  rw [h ⟨a, ha⟩ h1]
  exact ⟨fun ⟨k, e⟩ => ⟨k.val, k.isLt, e⟩, fun ⟨k, hk, e⟩ => ⟨⟨k, hk⟩, e⟩⟩
theorem bs_lt : ∀ c, c < 7 → ∀ k, k < 6 → 2 ^ k < 2 ^ c → k < c := fun c _ k _ h => (Nat.pow_lt_pow_iff_right (by omega)).mp h
theorem bs_single : ∀ k, k < 6 → ∀ a, a < 64 → a &&& 2 ^ k = a → a = 0 ∨ a = 2 ^ k := by
  have h : ∀ k : Fin 6, ∀ a : Fin 64, a.val &&& 2 ^ k.val = a.val → a.val = 0 ∨ a.val = 2 ^ k.val := by decide +kernel
  exact fun k hk a ha => h ⟨k, hk⟩ ⟨a, ha⟩
theorem bs_next : ∀ s, s < 64 → ∀ v, v < 64 → 1 ≤ v → ((nI v - (1 : Int32)) &&& nI s) = nI ((v - 1) &&& s) ∧ (v - 1) &&& s < v ∧ ((v - 1) &&& s) &&& s = (v - 1) &&& s := by
  have h : ∀ s : Fin 64, ∀ v : Fin 64, 1 ≤ v.val → ((nI v.val - (1 : Int32)) &&& nI s.val) = nI ((v.val - 1) &&& s.val) ∧ (v.val - 1) &&& s.val < v.val ∧ ((v.val - 1) &&& s.val) &&& s.val = (v.val - 1) &&& s.val := by decide +kernel
  exact fun s hs v hv => h ⟨s, hs⟩ ⟨v, hv⟩
theorem bs_gap : ∀ s, s < 64 → ∀ v, v < 64 → 1 ≤ v → v &&& s = v → ∀ t, t < 64 → t &&& s = t → t < v → t ≤ (v - 1) &&& s := by
  have h : ∀ s : Fin 64, ∀ v : Fin 64, 1 ≤ v.val → v.val &&& s.val = v.val → ∀ t : Fin 64, t.val &&& s.val = t.val → t.val < v.val → t.val ≤ (v.val - 1) &&& s.val := by decide +kernel
  exact fun s hs v hv h1 h2 t ht => h ⟨s, hs⟩ ⟨v, hv⟩ h1 h2 ⟨t, ht⟩
theorem bs_cap : ∀ s, s < 64 → ∀ o, o < 64 → o &&& s = o → ∀ t, t < 64 → t &&& s = t → (t &&& o) &&& o = t &&& o ∧ (t &&& o) &&& t = t &&& o ∧ (t ^^^ (t &&& o)) &&& (s ^^^ o) = t ^^^ (t &&& o) := by
  have h : ∀ s : Fin 64, ∀ o : Fin 64, o.val &&& s.val = o.val → ∀ t : Fin 64, t.val &&& s.val = t.val → (t.val &&& o.val) &&& o.val = t.val &&& o.val ∧ (t.val &&& o.val) &&& t.val = t.val &&& o.val ∧ (t.val ^^^ (t.val &&& o.val)) &&& (s.val ^^^ o.val) = t.val ^^^ (t.val &&& o.val) := by decide +kernel
  exact fun s hs o ho h1 t ht => h ⟨s, hs⟩ ⟨o, ho⟩ h1 ⟨t, ht⟩
theorem bs_self (a : Nat) : a &&& a = a := Nat.and_self a
theorem bs_0 (a : Nat) : 0 &&& a = 0 := Nat.zero_and a
theorem bs_x0 (a : Nat) : a ^^^ 0 = a := Nat.xor_zero a
theorem bs_xx (a : Nat) : a ^^^ a = 0 := Nat.xor_self a
theorem bs_low : ∀ s, s < 64 → 1 ≤ s → ∃ k, k < 6 ∧ 2 ^ k &&& s = 2 ^ k := by
  have h : ∀ s : Fin 64, 1 ≤ s.val → ∃ k : Fin 6, 2 ^ k.val &&& s.val = 2 ^ k.val := by decide +kernel
  exact fun s hs h1 => by obtain ⟨k, e⟩ := h ⟨s, hs⟩ h1; exact ⟨k.val, k.isLt, e⟩
