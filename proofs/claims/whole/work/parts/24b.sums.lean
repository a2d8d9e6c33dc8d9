/-! sums; what crosses a cut -/
def sm : Nat → (Nat → Int) → Int
  | 0, _ => 0
  | n + 1, f => sm n f + f n
theorem sm_s (n : Nat) (f : Nat → Int) : sm (n + 1) f = sm n f + f n := rfl
theorem sm_congr {n : Nat} {f g : Nat → Int} (h : ∀ i, i < n → f i = g i) : sm n f = sm n g := by
  induction n with
  | zero => rfl
  | succ n ih => rw [sm_s, sm_s, h n (by omega), ih (fun i hi => h i (by omega))]
theorem sm_0 {n : Nat} {f : Nat → Int} (h : ∀ i, i < n → f i = 0) : sm n f = 0 := by
  induction n with
  | zero => rfl
  | succ n ih => rw [sm_s, h n (by omega), ih (fun i hi => h i (by omega))]; rfl
theorem sm_add (n : Nat) (f g : Nat → Int) : sm n (fun i => f i + g i) = sm n f + sm n g := by
  induction n with
  | zero => rfl
  | succ n ih => rw [sm_s, sm_s, sm_s, ih]; omega
theorem sm_sub (n : Nat) (f g : Nat → Int) : sm n (fun i => f i - g i) = sm n f - sm n g := by
  induction n with
  | zero => rfl
  | succ n ih => rw [sm_s, sm_s, sm_s, ih]; omega
theorem sm_neg (n : Nat) (f : Nat → Int) : sm n (fun i => - f i) = - sm n f := by
  induction n with
  | zero => rfl
  | succ n ih => rw [sm_s, sm_s, ih]; omega
theorem sm_mul (n : Nat) (k : Int) (f : Nat → Int) : sm n (fun i => k * f i) = k * sm n f := by
  induction n with
  | zero => rw [show sm 0 _ = 0 from rfl, show sm 0 f = 0 from rfl, Int.mul_zero]
  | succ n ih => rw [sm_s, sm_s, ih, Int.mul_add]
theorem sm_swap (n k : Nat) (f : Nat → Nat → Int) : sm n (fun i => sm k (fun j => f i j)) = sm k (fun j => sm n (fun i => f i j)) := by
  induction n with
  | zero => rw [show sm 0 _ = 0 from rfl]; exact (sm_0 (fun _ _ => rfl)).symm
  | succ n ih => rw [sm_s, ih, ← sm_add]; rfl
theorem sm_nn {n : Nat} {f : Nat → Int} (h : ∀ i, i < n → 0 ≤ f i) : 0 ≤ sm n f := by
  induction n with
  | zero => exact Int.le_refl _
  | succ n ih => rw [sm_s]; have := h n (by omega); have := ih (fun i hi => h i (by omega)); omega
theorem sm_le {n : Nat} {f g : Nat → Int} (h : ∀ i, i < n → f i ≤ g i) : sm n f ≤ sm n g := by
  induction n with
  | zero => exact Int.le_refl _
  | succ n ih => rw [sm_s, sm_s]; have := h n (by omega); have := ih (fun i hi => h i (by omega)); omega
theorem sm_one {n k : Nat} (hk : k < n) (f : Nat → Int) : sm n (fun i => if i = k then f i else 0) = f k := by
  induction n with
  | zero => omega
  | succ n ih =>
    rw [sm_s]
    by_cases q : k = n
    · subst q
      rw [if_pos rfl, sm_0 (fun i hi => if_neg (by omega))]; omega
    · rw [ih (by omega), if_neg (by omega)]; omega
def ib (b : Bool) : Int := if b = true then 1 else 0
theorem ib_t : ib true = 1 := rfl
theorem ib_f : ib false = 0 := rfl
theorem sm_cnt (n : Nat) (b : Nat → Bool) : sm n (fun i => ib (b i)) = cnt n b := by
  induction n with
  | zero => rfl
  | succ n ih =>
    rw [sm_s, cnt_s, ih]
    cases b n <;> simp [ib]
/-- a double sum that its turning round takes away -/
theorem sm_anti {m : Nat} {g : Nat → Nat → Int} (h : ∀ c d, c < m → d < m → g c d + g d c = 0) : sm m (fun c => sm m (fun d => g c d)) = 0 := by
  have e1 := sm_swap m m g
  have e2 : sm m (fun c => sm m (fun d => g c d)) + sm m (fun c => sm m (fun d => g d c)) = 0 := by
    rw [← sm_add]
    refine sm_0 (fun c hc => ?_)
    rw [← sm_add]
    exact sm_0 (fun d hd => h c d hc hd)
  omega
def SS (m : Nat) (f : Nat → Nat → Int) (lo : Nat → Bool) (P : Nat → Nat → Bool) : Int := sm m (fun c => sm m (fun d => if (lo c && !lo d && P c d) = true then f c d else 0))
theorem ib_if (b : Bool) (x : Int) : (if b = true then x else 0) = ib b * x := by cases b <;> simp [ib]
theorem cut_b : ∀ x1 x2 x3 x4 p p' rc rd : Bool, (x1 = true → x2 = true) → (x3 = true → x4 = true) → (x2 = true → x1 = false → x4 = false → p = rc) → (x1 = true → x4 = true → x3 = false → p = rd) → (x2 = true → x1 = false → x4 = true → x3 = false → rc = rd) → (x4 = true → x3 = false → x2 = false → p' = rd) → (x3 = true → x2 = true → x1 = false → p' = rc) → ib (x2 && !x4 && p) - ib (x1 && !x3 && p) - ib (x2 && !x1 && rc) = ib (x4 && !x2 && p') - ib (x3 && !x1 && p') - ib (x4 && !x3 && rd) := by
  intro x1 x2 x3 x4 p p' rc rd
  cases x1 <;> cases x2 <;> cases x3 <;> cases x4 <;> cases p <;> cases p' <;> cases rc <;> cases rd <;> simp [ib]
theorem cut_eq {m : Nat} {f : Nat → Nat → Int} (ha : ∀ c d, c < m → d < m → f c d = - f d c) (hc : ∀ v, v < m → sm m (fun d => f v d) = 0) {lo1 lo2 r : Nat → Bool} {P : Nat → Nat → Bool} (hl : ∀ v, v < m → lo1 v = true → lo2 v = true) (h1 : ∀ c d, c < m → d < m → f c d ≠ 0 → lo2 c = true → lo1 c = false → lo2 d = false → P c d = r c) (h2 : ∀ c d, c < m → d < m → f c d ≠ 0 → lo1 c = true → lo2 d = true → lo1 d = false → P c d = r d) (h3 : ∀ c d, c < m → d < m → f c d ≠ 0 → lo2 c = true → lo1 c = false → lo2 d = true → lo1 d = false → r c = r d) : SS m f lo1 P = SS m f lo2 P := by
  have hT : sm m (fun c => sm m (fun d => if (lo2 c && !lo1 c && r c) = true then f c d else 0)) = 0 := by
    refine sm_0 (fun c hcm => ?_)
    cases hb : (lo2 c && !lo1 c && r c) with
    | false => exact sm_0 (fun d _ => by simp)
    | true => simp only [if_true]; exact hc c hcm
  have key : sm m (fun c => sm m (fun d => ((if (lo2 c && !lo2 d && P c d) = true then f c d else 0) - (if (lo1 c && !lo1 d && P c d) = true then f c d else 0)) - (if (lo2 c && !lo1 c && r c) = true then f c d else 0))) = 0 := by
    refine sm_anti (fun c d hcm hdm => ?_)
    have e := ha d c hdm hcm
    rw [e]
    by_cases z : f c d = 0
    · rw [z]; simp
    · have z2 : f d c ≠ 0 := by omega
      have K := cut_b (lo1 c) (lo2 c) (lo1 d) (lo2 d) (P c d) (P d c) (r c) (r d) (hl c hcm) (hl d hdm) (h1 c d hcm hdm z) (h2 c d hcm hdm z) (h3 c d hcm hdm z) (h1 d c hdm hcm z2) (h2 d c hdm hcm z2)
      rw [ib_if, ib_if, ib_if, ib_if, ib_if, ib_if]
      generalize ib (lo2 c && !lo2 d && P c d) = a1 at *
      generalize ib (lo1 c && !lo1 d && P c d) = a2 at *
      generalize ib (lo2 c && !lo1 c && r c) = a3 at *
      generalize ib (lo2 d && !lo2 c && P d c) = b1 at *
      generalize ib (lo1 d && !lo1 c && P d c) = b2 at *
      generalize ib (lo2 d && !lo1 d && r d) = b3 at *
      generalize f c d = x at *
      have : a1 * x - a2 * x - a3 * x + (b1 * -x - b2 * -x - b3 * -x) = ((a1 - a2 - a3) - (b1 - b2 - b3)) * x := by grind
      rw [this, K, Int.sub_self, Int.zero_mul]
  have e : sm m (fun c => sm m (fun d => ((if (lo2 c && !lo2 d && P c d) = true then f c d else 0) - (if (lo1 c && !lo1 d && P c d) = true then f c d else 0)) - (if (lo2 c && !lo1 c && r c) = true then f c d else 0))) = SS m f lo2 P - SS m f lo1 P - sm m (fun c => sm m (fun d => if (lo2 c && !lo1 c && r c) = true then f c d else 0)) := by
    unfold SS
    rw [← sm_sub, ← sm_sub]
    refine sm_congr (fun c _ => ?_)
    rw [← sm_sub, ← sm_sub]
  rw [e, hT] at key
  omega
