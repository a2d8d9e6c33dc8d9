/-! counting; rows of truths -/
def cnt : Nat → (Nat → Bool) → Nat
  | 0, _ => 0
  | n + 1, b => cnt n b + (if b n = true then 1 else 0)
theorem cnt_s (n : Nat) (b : Nat → Bool) : cnt (n + 1) b = cnt n b + (if b n = true then 1 else 0) := rfl
theorem cnt_le (n : Nat) (b : Nat → Bool) : cnt n b ≤ n := by
  induction n with
  | zero => exact Nat.le_refl _
  | succ n ih => rw [cnt_s]; split <;> omega
theorem cnt_congr {n : Nat} {b c : Nat → Bool} (h : ∀ i, i < n → b i = c i) : cnt n b = cnt n c := by
  induction n with
  | zero => rfl
  | succ n ih => rw [cnt_s, cnt_s, h n (by omega), ih (fun i hi => h i (by omega))]
def upB (b : Nat → Bool) (k : Nat) (v : Bool) : Nat → Bool := fun i => if i = k then v else b i
theorem upB_s {b : Nat → Bool} {k : Nat} {v : Bool} : upB b k v k = v := if_pos rfl
theorem upB_n {b : Nat → Bool} {k i : Nat} {v : Bool} (h : i ≠ k) : upB b k v i = b i := if_neg h
theorem cnt_up {n k : Nat} {b : Nat → Bool} (hk : k < n) (h : b k = false) : cnt n (upB b k true) = cnt n b + 1 := by
  induction n with
  | zero => omega
  | succ n ih =>
    rw [cnt_s, cnt_s]
    by_cases q : k = n
    · subst q
      rw [upB_s, h, cnt_congr (c := b) (fun i hi => upB_n (by omega))]
      simp
    · rw [upB_n (by omega), ih (by omega)]; omega
theorem cnt_dn {n k : Nat} {b : Nat → Bool} (hk : k < n) (h : b k = true) : cnt n (upB b k false) + 1 = cnt n b := by
  induction n with
  | zero => omega
  | succ n ih =>
    rw [cnt_s, cnt_s]
    by_cases q : k = n
    · subst q
      rw [upB_s, h, cnt_congr (c := b) (fun i hi => upB_n (by omega))]
      simp
    · rw [upB_n (by omega), ← ih (by omega)]; omega
theorem cnt_mono {n : Nat} {b c : Nat → Bool} (h : ∀ i, i < n → b i = true → c i = true) : cnt n b ≤ cnt n c := by
  induction n with
  | zero => exact Nat.le_refl _
  | succ n ih =>
    rw [cnt_s, cnt_s]
    have := ih (fun i hi => h i (by omega))
    have h2 := h n (by omega)
    by_cases q : b n = true
    · rw [if_pos q, if_pos (h2 q)]; omega
    · rw [if_neg q]; omega
theorem cnt_pos {n k : Nat} {b : Nat → Bool} (hk : k < n) (h : b k = true) : 0 < cnt n b := by have := cnt_dn hk h; omega
theorem cnt_0 {n : Nat} {b : Nat → Bool} (h : ∀ i, i < n → b i = false) : cnt n b = 0 := by
  induction n with
  | zero => rfl
  | succ n ih => rw [cnt_s, ih (fun i hi => h i (by omega)), h n (by omega)]; simp
theorem cnt_ex {n : Nat} {b : Nat → Bool} (h : 0 < cnt n b) : ∃ i, i < n ∧ b i = true := by
  induction n with
  | zero => exact absurd h (Nat.lt_irrefl _)
  | succ n ih =>
    by_cases q : b n = true
    · exact ⟨n, by omega, q⟩
    · rw [cnt_s, if_neg q] at h
      obtain ⟨i, h1, h2⟩ := ih h
      exact ⟨i, by omega, h2⟩
/-- one and no other -/
theorem cnt_one {n i j : Nat} {b : Nat → Bool} (h : cnt n b = 1) (hi : i < n) (hj : j < n) (bi : b i = true) (bj : b j = true) : i = j := by
  rcases Nat.decEq i j with q | q
  · have h1 := cnt_dn hi bi
    have h2 := cnt_pos (b := upB b i false) hj (by rw [upB_n (fun z => q z.symm)]; exact bj)
    omega
  · exact q
theorem cnt_two {n i : Nat} {b : Nat → Bool} (h : cnt n b ≠ 1) (hi : i < n) (bi : b i = true) : ∃ j, j < n ∧ j ≠ i ∧ b j = true := by
  have h1 := cnt_dn hi bi
  obtain ⟨j, h2, h3⟩ := cnt_ex (n := n) (b := upB b i false) (by omega)
  refine ⟨j, h2, fun z => ?_, ?_⟩
  · rw [z, upB_s] at h3; cases h3
  · by_cases z : j = i
    · rw [z, upB_s] at h3; cases h3
    · rw [upB_n z] at h3; exact h3
theorem cnt_bij {n m : Nat} {p q : Nat → Bool} (f : Nat → Nat) (h1 : ∀ k, k < n → p k = true → f k < m ∧ q (f k) = true) (h2 : ∀ k l, k < n → l < n → p k = true → p l = true → f k = f l → k = l) (h3 : ∀ j, j < m → q j = true → ∃ k, k < n ∧ p k = true ∧ f k = j) : cnt n p = cnt m q := by
  induction n generalizing q with
  | zero =>
    symm
    refine cnt_0 (fun i hi => ?_)
    cases hq : q i with
    | false => rfl
    | true => obtain ⟨k, hk, -⟩ := h3 i hi hq; omega
  | succ n ih =>
    rw [cnt_s]
    by_cases hp : p n = true
    · rw [if_pos hp]
      obtain ⟨a1, a2⟩ := h1 n (by omega) hp
      rw [← cnt_dn a1 a2]
      congr 1
      refine ih (fun k hk hpk => ?_) (fun k l hk hl => h2 k l (by omega) (by omega)) (fun j hj hq => ?_)
      · obtain ⟨b1, b2⟩ := h1 k (by omega) hpk
        refine ⟨b1, ?_⟩
        rw [upB_n (fun z => ?_)]
        · exact b2
        · have := h2 k n (by omega) (by omega) hpk hp z; omega
      · by_cases z : j = f n
        · rw [z, upB_s] at hq; cases hq
        · rw [upB_n z] at hq
          obtain ⟨k, hk, c1, c2⟩ := h3 j hj hq
          refine ⟨k, ?_, c1, c2⟩
          rcases Nat.lt_or_ge k n with w | w
          · exact w
          · obtain rfl : k = n := by omega
            exact absurd c2.symm z
    · rw [if_neg hp, Nat.add_zero]
      refine ih (fun k hk => h1 k (by omega)) (fun k l hk hl => h2 k l (by omega) (by omega)) (fun j hj hq => ?_)
      obtain ⟨k, hk, c1, c2⟩ := h3 j hj hq
      refine ⟨k, ?_, c1, c2⟩
      rcases Nat.lt_or_ge k n with w | w
      · exact w
      · obtain rfl : k = n := by omega
        exact absurd c1 hp
theorem cnt_Ico {n a b : Nat} (h1 : a ≤ b) (h2 : b ≤ n) : cnt n (fun s => decide (a ≤ s ∧ s < b)) = b - a := by
  induction n generalizing b with
  | zero => rw [show cnt 0 _ = 0 from rfl]; omega
  | succ n ih =>
    rw [cnt_s]
    by_cases q : b = n + 1
    · subst q
      by_cases w : a = n + 1
      · subst w
        rw [if_neg (by simp), cnt_0 (fun i hi => decide_eq_false (by omega))]; omega
      · rw [if_pos (decide_eq_true ⟨by omega, by omega⟩)]
        have := ih (b := n) (by omega) (Nat.le_refl _)
        rw [cnt_congr (c := fun s => decide (a ≤ s ∧ s < n)) (fun i hi => by rw [decide_eq_decide]; omega), this]
        omega
    · rw [if_neg (fun z => by have := of_decide_eq_true z; omega), ih h1 (by omega)]; omega
def hB (n : Nat) (f : Nat → Int32) (b : Nat → Bool) : Prop := ∀ s, s < n → f s = bI (b s)
theorem nar_bb (b : Bool) : vp_nar .boolean (bI b) = bI b := by cases b <;> decide +kernel
theorem nar_1 : vp_nar .boolean (1 : Int32) = bI true := by decide +kernel
theorem nar_0 : vp_nar .boolean (0 : Int32) = bI false := by decide +kernel
theorem hB_up {n k : Nat} {f : Nat → Int32} {b : Nat → Bool} (h : hB n f b) (v : Bool) : hB n (upd f k (bI v)) (upB b k v) := by
  intro s hs
  by_cases q : s = k
  · subst q; rw [pk_us, upB_s]
  · rw [pk_un q, upB_n q]; exact h s hs
/-- b is reached from a -/
def Rch (R : Nat → Nat → Prop) (a b : Nat) : Prop := ∀ S : Nat → Prop, S a → (∀ i j, S i → R i j → S j) → S b
theorem Rch_refl (R : Nat → Nat → Prop) (a : Nat) : Rch R a a := fun _ h _ => h
theorem Rch_step {R : Nat → Nat → Prop} {a b c : Nat} (h : Rch R a b) (r : R b c) : Rch R a c := fun S h0 hs => hs b c (h S h0 hs) r
theorem Rch_trans {R : Nat → Nat → Prop} {a b c : Nat} (h : Rch R a b) (h2 : Rch R b c) : Rch R a c := fun S h0 hs => h2 S (h S h0 hs) hs
theorem Rch_sym {R : Nat → Nat → Prop} (hR : ∀ i j, R i j → R j i) {a b : Nat} (h : Rch R a b) : Rch R b a := h (fun x => Rch R x a) (Rch_refl R a) (fun i j hi hr => Rch_trans (Rch_step (Rch_refl R j) (hR i j hr)) hi)
/-- the step between two joints -/
theorem fi_mono {ad : Nat → Nat → Bool} {m n : Nat} {F T fi : Nat → Nat} (h : Stps ad m n F T fi) {i : Nat} (hi : i < m) : fi i ≤ fi (i + 1) := by
  obtain ⟨h1, h2, h3, h4⟩ := h
  rcases Nat.lt_or_ge (fi (i + 1)) (fi i) with q | q
  · have a := h4 i (by omega)
    have b := h4 (i + 1) (by omega)
    have c := (a.2 (fi (i + 1)) (by omega)).mpr q
    have d := (b.2 (fi (i + 1)) (by omega)).mp (by omega)
    omega
  · exact q
theorem fi_in {ad : Nat → Nat → Bool} {m n : Nat} {F T fi : Nat → Nat} (h : Stps ad m n F T fi) {i s : Nat} (hi : i < m) : (fi i ≤ s ∧ s < fi (i + 1)) ↔ (s < n ∧ F s = i) := by
  obtain ⟨h1, h2, h3, h4⟩ := h
  have a := h4 i (by omega)
  have b := h4 (i + 1) (by omega)
  constructor
  · rintro ⟨c, d⟩
    have hs : s < n := by omega
    have e := a.2 s hs
    have f := b.2 s hs
    omega
  · rintro ⟨hs, e⟩
    have e2 := a.2 s hs
    have f := b.2 s hs
    omega
theorem stepB_ok {ad : Nat → Nat → Bool} {m n : Nat} {F T fi : Nat → Nat} (h : Stps ad m n F T fi) (hm : m ≤ 128) (hn : n ≤ 768) {g t : Nat → Int32} (hg : ∀ i, i ≤ m → g i = nI (fi i)) (ht : hN n t T) {i j : Nat} (hi : i < m) (hj : j < 1000) : (∃ s, s < n ∧ F s = i ∧ T s = j ∧ sX8_stepBetween (nI i) (nI j) g t = some (nI s)) ∨ ((∀ s, s < n → ¬ (F s = i ∧ T s = j)) ∧ sX8_stepBetween (nI i) (nI j) g t = some (-1)) := by
  have f1 := fi_mono h hi
  have f2 := (h.2.2.2 (i + 1) (by omega)).1
  have main := iter_first (B := bX8_stepBetween_7 (nI i) (nI j) g t) (fi (i + 1)) (fun s => T s = j) (fi i) f1 (by omega) (fun s h1 h2 => by
    obtain ⟨q1, q2⟩ := (fi_in h hi).mp ⟨h1, h2⟩
    have q3 := h.1 s q1
    have e : bX8_stepBetween_7 (nI i) (nI j) g t (nI s) = if ¬ T s = j then some (0, nI (s + 1)) else some (1, nI s) := by
      simp (disch := omega) only [bX8_stepBetween_7, dm1, nl_1, nI_add, nI_lt0, nI_clampS, false_or, gd_s, hg (i + 1) (by omega), nI_leS, ht s q1, nI_eqS, lt]
      rw [if_neg (by omega)]
    rw [e]
    by_cases q : T s = j
    · exact Or.inr ⟨q, by rw [if_neg (fun z => z q)]⟩
    · exact Or.inl ⟨q, by rw [if_pos q]⟩) (by
    simp (disch := omega) only [bX8_stepBetween_7, dm1, nl_1, nI_add, nI_lt0, nI_clampS, false_or, gd_s, hg (i + 1) (by omega), nI_leS]
    rw [if_pos (by omega)])
  have e0 : sX8_stepBetween (nI i) (nI j) g t = ob (iter (bX8_stepBetween_7 (nI i) (nI j) g t) FU (nI (fi i))) (fun kt => ex2 kt (fun t => dm1 t (fun (v4 : Int32) => some v4)) (fun t => dm1 t (fun (v5 : Int32) => some (-1 : Int32)))) := by
    simp (disch := omega) only [sX8_stepBetween, nI_lt0, nI_clampS, false_or, gd_s, lt, hg i (by omega)]
  rw [e0]
  rcases main with ⟨s, h1, h2, h3, -, h4⟩ | ⟨h1, h2⟩
  · obtain ⟨q1, q2⟩ := (fi_in h hi).mp ⟨h1, h2⟩
    exact Or.inl ⟨s, q1, q2, h3, by rw [ob_s h4]; rfl⟩
  · refine Or.inr ⟨fun s hs z => ?_, by rw [ob_s h2]; rfl⟩
    obtain ⟨q1, q2⟩ := (fi_in h hi).mpr ⟨hs, z.1⟩
    exact h1 s q1 q2 z.2
