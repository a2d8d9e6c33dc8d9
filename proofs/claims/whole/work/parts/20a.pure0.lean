/-! PURE LAYER, first rows: loops, whole numbers, greatest common divisors -/
theorem iter_go {T : Type} {B : T → Option (Nat × T)} {t t1 : T} (h : B t = some (0, t1)) (n : Nat) : iter B (n + 1) t = iter B n t1 := by
  show (match B t with | none => none | some (0, t1) => iter B n t1 | some (k + 1, t1) => some (k, t1)) = _
  rw [h]
theorem iter_out {T : Type} {B : T → Option (Nat × T)} {t t1 : T} {k : Nat} (h : B t = some (k + 1, t1)) (n : Nat) : iter B (n + 1) t = some (k, t1) := by
  show (match B t with | none => none | some (0, t1) => iter B n t1 | some (k + 1, t1) => some (k, t1)) = _
  rw [h]
/-- a loop with an invariant and a measure -/
theorem iter_ex {T : Type} {B : T → Option (Nat × T)} (I : T → Prop) (μ : T → Nat) (E : Nat → T → Prop) (h : ∀ t, I t → (∃ t', B t = some (0, t') ∧ I t' ∧ μ t' < μ t) ∨ (∃ k t', B t = some (k + 1, t') ∧ E k t')) : ∀ (n : Nat) (t : T), I t → μ t < n → ∃ k t', iter B n t = some (k, t') ∧ E k t' := by
  intro n
  induction n with
  | zero => intro t _ hm; omega
  | succ n ih =>
    intro t hI hm
    rcases h t hI with ⟨t', hb, hI', hl⟩ | ⟨k, t', hb, hE⟩
    · obtain ⟨k, t2, h1, h2⟩ := ih t' hI' (by omega)
      exact ⟨k, t2, by rw [iter_go hb]; exact h1, h2⟩
    · exact ⟨k, t', iter_out hb n, hE⟩
/-- the same for loops of one way out -/
theorem iter_ex0 {T : Type} {B : T → Option (Nat × T)} (I : T → Prop) (μ : T → Nat) (E : T → Prop) (h : ∀ t, I t → (∃ t', B t = some (0, t') ∧ I t' ∧ μ t' < μ t) ∨ (∃ t', B t = some (1, t') ∧ E t')) (t : T) (hI : I t) (n : Nat) (hm : μ t < n) : ∃ t', iter B n t = some (0, t') ∧ E t' := by
  obtain ⟨k, t', h1, h2⟩ := iter_ex I μ (fun k t => k = 0 ∧ E t) (fun t ht => by
    rcases h t ht with h | ⟨t', a, b⟩
    · exact Or.inl h
    · exact Or.inr ⟨0, t', a, rfl, b⟩) n t hI hm
  obtain ⟨rfl, h2⟩ := h2
  exact ⟨t', h1, h2⟩
theorem FU_lt {n : Nat} (h : n < 1000000000) : n < FU := h
theorem gd_t {α : Type} {c : Prop} [Decidable c] {o : Option α} (h : c) : gd c o = o := if_pos h
theorem ob_s {α β : Type} {o : Option α} {a : α} {f : α → Option β} (h : o = some a) : ob o f = f a := by rw [h]; rfl
theorem ex1_0 {T R : Type} {t : T} {f : T → Option R} : ex1 (0, t) f = f t := rfl
theorem ex2_0 {T R : Type} {t : T} {f g : T → Option R} : ex2 (0, t) f g = f t := rfl
theorem ex2_1 {T R : Type} {t : T} {f g : T → Option R} : ex2 (1, t) f g = g t := rfl
theorem ix_ok {i n : Nat} (h : i < n) (hn : n < 2 ^ 31) : ¬ (nI i < 0 ∨ n ≤ (nI i).toNatClampNeg) := nI_in h hn
-- whole numbers, signed
def iz (z : Int) : Int32 := Int32.ofInt z
def lz (z : Int) : Int64 := Int64.ofInt z
theorem iz_n (n : Nat) : iz n = nI n := by unfold iz nI; first | rfl | simp
theorem lz_n (n : Nat) : lz n = lN n := by unfold lz lN; first | rfl | simp
theorem iz_toInt {z : Int} (h1 : -2147483648 ≤ z) (h2 : z < 2147483648) : (iz z).toInt = z := Int32.toInt_ofInt_of_le (by omega) (by omega)
theorem lz_toInt {z : Int} (h1 : -9223372036854775808 ≤ z) (h2 : z < 9223372036854775808) : (lz z).toInt = z := Int64.toInt_ofInt_of_le (by omega) (by omega)
theorem iz_add (a b : Int) : iz a + iz b = iz (a + b) := (Int32.ofInt_add a b).symm
theorem iz_sub (a b : Int) : iz a - iz b = iz (a - b) := (Int32.ofInt_sub a b).symm
theorem iz_mul (a b : Int) : iz a * iz b = iz (a * b) := (Int32.ofInt_mul a b).symm
theorem iz_neg (a : Int) : -iz a = iz (-a) := (Int32.ofInt_neg a).symm
theorem lz_add (a b : Int) : lz a + lz b = lz (a + b) := (Int64.ofInt_add a b).symm
theorem lz_sub (a b : Int) : lz a - lz b = lz (a - b) := (Int64.ofInt_sub a b).symm
theorem lz_mul (a b : Int) : lz a * lz b = lz (a * b) := (Int64.ofInt_mul a b).symm
theorem lz_neg (a : Int) : -lz a = lz (-a) := (Int64.ofInt_neg a).symm
theorem iz_lt {a b : Int} (a1 : -2147483648 ≤ a) (a2 : a < 2147483648) (b1 : -2147483648 ≤ b) (b2 : b < 2147483648) : iz a < iz b ↔ a < b := by rw [Int32.lt_iff_toInt_lt, iz_toInt a1 a2, iz_toInt b1 b2]
theorem iz_le {a b : Int} (a1 : -2147483648 ≤ a) (a2 : a < 2147483648) (b1 : -2147483648 ≤ b) (b2 : b < 2147483648) : iz a ≤ iz b ↔ a ≤ b := by rw [Int32.le_iff_toInt_le, iz_toInt a1 a2, iz_toInt b1 b2]
theorem iz_eq {a b : Int} (a1 : -2147483648 ≤ a) (a2 : a < 2147483648) (b1 : -2147483648 ≤ b) (b2 : b < 2147483648) : iz a = iz b ↔ a = b := by rw [← Int32.toInt_inj, iz_toInt a1 a2, iz_toInt b1 b2]
theorem lz_lt {a b : Int} (a1 : -9223372036854775808 ≤ a) (a2 : a < 9223372036854775808) (b1 : -9223372036854775808 ≤ b) (b2 : b < 9223372036854775808) : lz a < lz b ↔ a < b := by rw [Int64.lt_iff_toInt_lt, lz_toInt a1 a2, lz_toInt b1 b2]
theorem lz_le {a b : Int} (a1 : -9223372036854775808 ≤ a) (a2 : a < 9223372036854775808) (b1 : -9223372036854775808 ≤ b) (b2 : b < 9223372036854775808) : lz a ≤ lz b ↔ a ≤ b := by rw [Int64.le_iff_toInt_le, lz_toInt a1 a2, lz_toInt b1 b2]
theorem lz_eq {a b : Int} (a1 : -9223372036854775808 ≤ a) (a2 : a < 9223372036854775808) (b1 : -9223372036854775808 ≤ b) (b2 : b < 9223372036854775808) : lz a = lz b ↔ a = b := by rw [← Int64.toInt_inj, lz_toInt a1 a2, lz_toInt b1 b2]
theorem iz_l {a : Int} (a1 : -2147483648 ≤ a) (a2 : a < 2147483648) : (iz a).toInt64 = lz a := by
  rw [← Int64.toInt_inj, Int32.toInt_toInt64, iz_toInt a1 a2, lz_toInt (by omega) (by omega)]
theorem lz_i (a : Int) : (lz a).toInt32 = iz a := Int64.toInt32_ofInt
-- greatest common divisors
theorem gc_0 {a u : Nat} : bX9_greatestCommon_7 (nI a, nI 0, nI u) = some (1, (nI a, nI 0, nI u)) := by
  show (if (50 : Int32) ≤ nI u then some (1, (nI a, nI 0, nI u)) else if nI 0 = 0 then some (1, (nI a, nI 0, nI u)) else _) = _
  by_cases h : (50 : Int32) ≤ nI u
  · rw [if_pos h]
  · rw [if_neg h, if_pos nI_0]
theorem gc_1 {a b u : Nat} (ha : a < 2 ^ 31) (h0 : 0 < b) (hb : b < 2 ^ 31) (hu : u < 50) : bX9_greatestCommon_7 (nI a, nI b, nI u) = some (0, (nI b, nI (a % b), nI (u + 1))) := by
  show (if nI 50 ≤ nI u then _ else if nI b = 0 then _ else gd (¬ nI b = 0) (some (0, (nI b, nI a - nI a / nI b * nI b, nI u + 1)))) = _
  rw [if_neg (nI_ge hu (by omega)), if_neg (nI_ne0 h0 hb), gd_t (nI_ne0 h0 hb), pk_rem ha h0 hb, nI_1]
theorem gc_loop : ∀ (k a b u n : Nat), a < 2 ^ 31 → b < 2 ^ 31 → b < 2 ^ k → u + 2 * k + 1 ≤ 50 → 2 * k + 1 < n → ∃ z w : Int32, iter bX9_greatestCommon_7 n (nI a, nI b, nI u) = some (0, (nI (Nat.gcd a b), z, w)) := by
  intro k
  induction k with
  | zero =>
    intro a b u n ha hb hk hu hn
    obtain rfl : b = 0 := by omega
    obtain ⟨n, rfl⟩ : ∃ m, n = m + 1 := ⟨n - 1, by omega⟩
    exact ⟨_, _, by rw [iter_out gc_0, Nat.gcd_zero_right]⟩
  | succ k ih =>
    intro a b u n ha hb hk hu hn
    obtain ⟨n, rfl⟩ : ∃ m, n = m + 2 := ⟨n - 2, by omega⟩
    rcases Nat.eq_zero_or_pos b with rfl | h0
    · exact ⟨_, _, by rw [iter_out gc_0, Nat.gcd_zero_right]⟩
    · have hc : a % b < b := Nat.mod_lt _ h0
      rw [iter_go (gc_1 ha h0 hb (by omega))]
      have hg : Nat.gcd a b = Nat.gcd b (a % b) := by rw [Nat.gcd_comm a b, Nat.gcd_rec b a, Nat.gcd_comm]
      rcases Nat.eq_zero_or_pos (a % b) with hz | h1
      · rw [hg, hz]
        exact ⟨_, _, by rw [iter_out gc_0, Nat.gcd_zero_right]⟩
      · rw [iter_go (gc_1 hb h1 (by omega) (by omega))]
        have hd : b % (a % b) < a % b := Nat.mod_lt _ h1
        have hg2 : Nat.gcd b (a % b) = Nat.gcd (a % b) (b % (a % b)) := by rw [Nat.gcd_comm b, Nat.gcd_rec (a % b) b, Nat.gcd_comm]
        rw [hg, hg2]
        have hh : b % (a % b) < 2 ^ k := by
          have h3 : a % b + b % (a % b) ≤ b := by
            have := Nat.div_add_mod b (a % b)
            have h4 : 1 ≤ b / (a % b) := (Nat.one_le_div_iff h1).mpr (by omega)
            have h5 : a % b ≤ (a % b) * (b / (a % b)) := Nat.le_mul_of_pos_right _ h4
            omega
          have h6 : (2 : Nat) ^ (k + 1) = 2 * 2 ^ k := by rw [Nat.pow_succ]; omega
          omega
        exact ih _ _ _ _ (by omega) (by omega) hh (by omega) (by omega)
theorem gc_ok {a b : Nat} (ha : a < 2 ^ 31) (hb : b < 2 ^ 24) : sX9_greatestCommon (nI a) (nI b) = some (nI (Nat.gcd a b)) := by
  obtain ⟨z, w, h⟩ := gc_loop 24 a b 0 FU ha (by omega) hb (by omega) (FU_lt (by omega))
  show ob (iter bX9_greatestCommon_7 FU (nI a, nI b, nI 0)) _ = _
  rw [ob_s h]
  rfl
