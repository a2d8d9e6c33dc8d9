/-! the reference's joints: a point put in -/
def cp3 (A B : Nat) : Int32 := if A < B then -1 else if A = B then 0 else 1
theorem cmp_ok {A B : Nat} (hA : A < 2 ^ 63) (hB : B < 2 ^ 63) : sJ13_compare_74951 (lN A) (lN B) = some (cp3 A B) := by
  show (if 0 ≤ lg_cmp (lN A) (lN B) then if ¬ lg_cmp (lN A) (lN B) = 0 then some (1 : Int32) else some (0 : Int32) else some (-1 : Int32)) = _
  unfold cp3
  by_cases h : A < B
  · have h1 : lg_cmp (lN A) (lN B) < 0 := (lg_cmp_lt _ _).mpr ((pk_lLT hA hB).mpr h)
    rw [if_neg (Int32.not_le.mpr h1), if_pos h]
  · have h1 : ¬ lg_cmp (lN A) (lN B) < 0 := fun z => h ((pk_lLT hA hB).mp ((lg_cmp_lt _ _).mp z))
    rw [if_pos (Int32.not_lt.mp h1), if_neg h]
    by_cases h2 : A = B
    · rw [if_neg (fun z => z ((lg_cmp_eq _ _).mpr (by rw [h2]))), if_pos h2]
    · rw [if_pos (fun z => h2 ((pk_lEQ hA hB).mp ((lg_cmp_eq _ _).mp z))), if_neg h2]
/-- the reference's order of a point and joint k -/
def sg3 (p q : Pt3) : Int32 := if cp3 (p.2.1 * q.2.2) (q.2.1 * p.2.2) = 0 then cp3 (p.1 * q.2.2) (q.1 * p.2.2) else cp3 (p.2.1 * q.2.2) (q.2.1 * p.2.2)
theorem cp3_0 {A B : Nat} : cp3 A B = 0 ↔ A = B := by
  unfold cp3
  by_cases h : A < B
  · rw [if_pos h]; constructor
    · intro z; exact absurd z (by decide)
    · intro z; omega
  · rw [if_neg h]
    by_cases h2 : A = B
    · rw [if_pos h2]; exact ⟨fun _ => h2, fun _ => rfl⟩
    · rw [if_neg h2]; constructor
      · intro z; exact absurd z (by decide)
      · intro z; exact absurd z h2
theorem cp3_p {A B : Nat} : 0 < cp3 A B ↔ B < A := by
  unfold cp3
  by_cases h : A < B
  · rw [if_pos h]; constructor
    · intro z; exact absurd z (by decide)
    · intro z; omega
  · rw [if_neg h]
    by_cases h2 : A = B
    · rw [if_pos h2]; constructor
      · intro z; exact absurd z (by decide)
      · intro z; omega
    · rw [if_neg h2]; constructor
      · intro _; omega
      · intro _; decide
theorem sg3_0 {p q : Pt3} : sg3 p q = 0 ↔ pcmp p q = 0 := by
  unfold sg3 pcmp pY pX
  generalize p.2.1 * q.2.2 = a
  generalize q.2.1 * p.2.2 = b
  generalize p.1 * q.2.2 = c
  generalize q.1 * p.2.2 = d
  by_cases h : a = b
  · rw [if_pos (cp3_0.mpr h), if_pos (by omega), cp3_0]; omega
  · rw [if_neg (fun z => h (cp3_0.mp z)), if_neg (by omega), cp3_0]; omega
theorem sg3_p {p q : Pt3} : 0 < sg3 p q ↔ plt q p := by
  rw [← pcmp_gt]
  unfold sg3 pcmp pY pX
  generalize p.2.1 * q.2.2 = a
  generalize q.2.1 * p.2.2 = b
  generalize p.1 * q.2.2 = c
  generalize q.1 * p.2.2 = d
  by_cases h : a = b
  · rw [if_pos (cp3_0.mpr h), if_pos (by omega), cp3_p]; omega
  · rw [if_neg (fun z => h (cp3_0.mp z)), if_neg (by omega), cp3_p]; omega
def At3L (d x y : Nat → Int64) (i : Nat) (p : Pt3) : Prop := x i = lN p.1 ∧ y i = lN p.2.1 ∧ d i = lN p.2.2
def JL (n : Nat) (P : Nat → Pt3) (d x y : Nat → Int64) : Prop := ∀ i, i < n → At3L d x y i (P i)
theorem mord_ok {p q : Pt3} (hp : pOK p) (hq : pOK q) {k : Nat} (hk : k < 240) {d x y : Nat → Int64} (b : At3L d x y k q) : sX10_order (lN p.1) (lN p.2.1) (lN p.2.2) (nI k) d x y = some (sg3 p q) := by
  obtain ⟨b1, b2, b3⟩ := b
  obtain ⟨p0, p1, p2, p3, -⟩ := hp
  obtain ⟨q0, q1, q2, q3, -⟩ := hq
  have ck : (nI k).toNatClampNeg = k := nI_clamp (by omega)
  have h1 : p.2.1 * q.2.2 ≤ 3456 * 288 := Nat.mul_le_mul (by omega) (by omega)
  have h2 : q.2.1 * p.2.2 ≤ 3456 * 288 := Nat.mul_le_mul (by omega) (by omega)
  have h3 : p.1 * q.2.2 ≤ 3456 * 288 := Nat.mul_le_mul (by omega) (by omega)
  have h4 : q.1 * p.2.2 ≤ 3456 * 288 := Nat.mul_le_mul (by omega) (by omega)
  simp only [sX10_order, gd_t (ix_ok hk (by omega))]
  rw [ck, b1, b2, b3, lN_mul, lN_mul, lN_mul, lN_mul]
  rw [ob_s (cmp_ok (by omega) (by omega))]
  show (if cp3 (p.2.1 * q.2.2) (q.2.1 * p.2.2) = 0 then ob (sJ13_compare_74951 (lN (p.1 * q.2.2)) (lN (q.1 * p.2.2))) _ else some (cp3 (p.2.1 * q.2.2) (q.2.1 * p.2.2))) = _
  unfold sg3
  by_cases h : cp3 (p.2.1 * q.2.2) (q.2.1 * p.2.2) = 0
  · rw [if_pos h, if_pos h, ob_s (cmp_ok (by omega) (by omega))]; rfl
  · rw [if_neg h, if_neg h]
theorem mg_0 {a : Nat} : bX12_gcd_12 (lN a, lN 0) = some (1, (lN a, lN 0)) := by
  have h : lg_cmp (lN 0) (0 : Int64) = 0 := (lg_cmp_eq _ _).mpr rfl
  simp only [bX12_gcd_12, dm2]
  rw [if_pos h]
theorem mg_1 {a b : Nat} (ha : a < 2 ^ 63) (h0 : 0 < b) (hb : b < 2 ^ 63) : bX12_gcd_12 (lN a, lN b) = some (0, (lN b, lN (a % b))) := by
  have ne : ¬ lN b = 0 := fun z => by
    have := (pk_lEQ (b := 0) hb (by omega)).mp z
    omega
  show (if lg_cmp (lN b) 0 = 0 then _ else gd (¬ lN b = 0) (some (0, (lN b, lN a - lN a / lN b * lN b)))) = _
  rw [if_neg (fun z => ne ((lg_cmp_eq _ _).mp z)), gd_t ne, pk_lRem ha h0 hb]
theorem mg_loop : ∀ (b a n : Nat), a < 2 ^ 63 → b < 2 ^ 63 → b + 1 < n → ∃ z : Int64, iter bX12_gcd_12 n (lN a, lN b) = some (0, (lN (Nat.gcd a b), z)) := by
  intro b
  induction b using Nat.strongRecOn with
  | _ b ih =>
    intro a n ha hb hn
    obtain ⟨n, rfl⟩ : ∃ m, n = m + 1 := ⟨n - 1, by omega⟩
    rcases Nat.eq_zero_or_pos b with rfl | h0
    · exact ⟨_, by rw [iter_out mg_0, Nat.gcd_zero_right]⟩
    · have hc : a % b < b := Nat.mod_lt _ h0
      have hg : Nat.gcd a b = Nat.gcd b (a % b) := by rw [Nat.gcd_comm a b, Nat.gcd_rec b a, Nat.gcd_comm]
      rw [iter_go (mg_1 ha h0 hb), hg]
      exact ih (a % b) hc b n hb (by omega) (by omega)
theorem mabs_n {a : Nat} (ha : a < 2 ^ 63) : (if 0 < lN a then lN a else -lN a) = lN a := by
  rcases Nat.eq_zero_or_pos a with rfl | h
  · rw [if_neg (fun z => by
      have := (pk_lLT (a := 0) (b := 0) (by omega) (by omega)).mp z
      omega)]
    rfl
  · have h2 : (0 : Int64) < lN a := (pk_lLT (a := 0) (by omega) ha).mpr h
    rw [if_pos h2]
theorem mgcd_ok {a b : Nat} (ha : a < 2 ^ 63) (hb : b < 100000000) : sX12_gcd (lN a) (lN b) = some (lN (Nat.gcd a b)) := by
  obtain ⟨z, h⟩ := mg_loop b a FU ha (by omega) (FU_lt (by omega))
  show ob (iter bX12_gcd_12 FU (if 0 < lN a then lN a else -lN a, if 0 < lN b then lN b else -lN b)) _ = _
  rw [mabs_n ha, mabs_n (by omega), ob_s h]
  rfl
/-- where the reference finds the place, from above: either the point is there, or this is its place -/
theorem mfind_ok {n : Nat} (hn : n < 240) {P : Nat → Pt3} {p : Pt3} (hP : ∀ i, i < n → pOK (P i)) (hp : pOK p) {d x y : Nat → Int64} (hJ : JL n P d x y) : (∃ k v, k < n ∧ pcmp p (P k) = 0 ∧ iter (bX10_joint_52 d x y (lN p.1) (lN p.2.1) (lN p.2.2)) FU (nI n) = some (0, v)) ∨ (∃ k, k ≤ n ∧ (∀ i, k ≤ i → i < n → plt p (P i)) ∧ (0 < k → plt (P (k - 1)) p) ∧ iter (bX10_joint_52 d x y (lN p.1) (lN p.2.1) (lN p.2.2)) FU (nI n) = some (1, nI k)) := by
  have main := iter_ex (B := bX10_joint_52 d x y (lN p.1) (lN p.2.1) (lN p.2.2)) (fun t => ∃ k, t = nI k ∧ k ≤ n ∧ ∀ i, k ≤ i → i < n → plt p (P i)) (fun t => t.toNatClampNeg) (fun j t => (j = 0 ∧ ∃ k, k < n ∧ pcmp p (P k) = 0) ∨ (j = 1 ∧ ∃ k, t = nI k ∧ k ≤ n ∧ (∀ i, k ≤ i → i < n → plt p (P i)) ∧ (0 < k → plt (P (k - 1)) p))) (fun t ht => by
    obtain ⟨k, rfl, hk, hlt⟩ := ht
    rcases Nat.eq_zero_or_pos k with rfl | h0
    · refine Or.inr ⟨1, nI 0, ?_, Or.inr ⟨rfl, 0, rfl, by omega, hlt, fun z => by omega⟩⟩
      have h9 : nI 0 ≤ 0 := by rw [nI_0]; exact Int32.le_refl 0
      simp only [bX10_joint_52, dm1]
      rw [if_pos h9]
    · obtain ⟨k, rfl⟩ : ∃ m, k = m + 1 := ⟨k - 1, by omega⟩
      have e1 : nI (k + 1) - (1 : Int32) = nI k := nI_pred k
      have e2 : nI (k + 1) + (-1 : Int32) = nI k := pk_m1 k
      have ho : sX10_order (lN p.1) (lN p.2.1) (lN p.2.2) (nI (k + 1) - (1 : Int32)) d x y = some (sg3 p (P k)) := by rw [e1]; exact mord_ok hp (hP k (by omega)) (by omega) (hJ k (by omega))
      have hb : bX10_joint_52 d x y (lN p.1) (lN p.2.1) (lN p.2.2) (nI (k + 1)) = if 0 < sg3 p (P k) then some (2, nI (k + 1)) else if ¬ sg3 p (P k) = 0 then some (0, nI (k + 1) + (-1 : Int32)) else some (1, nI (k + 1)) := by
        show (if nI (k + 1) ≤ 0 then _ else ob (sX10_order (lN p.1) (lN p.2.1) (lN p.2.2) (nI (k + 1) - (1 : Int32)) d x y) _) = _
        rw [if_neg (nI_nle (by omega) (by omega)), ob_s ho]
        show (if 0 < sg3 p (P k) then _ else ob (sX10_order (lN p.1) (lN p.2.1) (lN p.2.2) (nI (k + 1) - (1 : Int32)) d x y) _) = _
        rw [ob_s ho]
        rfl
      by_cases c1 : plt (P k) p
      · refine Or.inr ⟨1, nI (k + 1), by rw [hb, if_pos (sg3_p.mpr c1)], Or.inr ⟨rfl, k + 1, rfl, hk, hlt, fun _ => c1⟩⟩
      · by_cases c2 : pcmp p (P k) = 0
        · refine Or.inr ⟨0, nI (k + 1), ?_, Or.inl ⟨rfl, k, by omega, c2⟩⟩
          rw [hb, if_neg (fun z => c1 (sg3_p.mp z)), if_neg (fun z => z (sg3_0.mpr c2))]
        · refine Or.inl ⟨nI k, ?_, ⟨k, rfl, by omega, fun i h1 h2 => ?_⟩, ?_⟩
          · rw [hb, if_neg (fun z => c1 (sg3_p.mp z)), if_pos (fun z => c2 (sg3_0.mp z)), e2]
          · rcases Nat.lt_or_ge k i with h9 | h9
            · exact hlt i (by omega) h2
            · obtain rfl : i = k := by omega
              rw [← pcmp_gt] at c1
              unfold plt
              omega
          · show (nI k).toNatClampNeg < (nI (k + 1)).toNatClampNeg
            rw [nI_clamp (by omega), nI_clamp (by omega)]; omega) FU (nI n) ⟨n, rfl, Nat.le_refl _, fun i h1 h2 => by omega⟩ (FU_lt (by show (nI n).toNatClampNeg < _; rw [nI_clamp (by omega)]; omega))
  obtain ⟨j, t, h1, h2⟩ := main
  rcases h2 with ⟨rfl, k, h3, h4⟩ | ⟨rfl, k, rfl, h3, h4, h5⟩
  · exact Or.inl ⟨k, t, h3, h4, h1⟩
  · exact Or.inr ⟨k, h3, h4, h5, h1⟩
def shfL (k n : Nat) (f : Nat → Int64) : Nat → Int64 := fun j => if k < j ∧ j ≤ n then f (j - 1) else f j
theorem shfL_0 (n : Nat) (f : Nat → Int64) : shfL n n f = f := by
  funext j
  unfold shfL
  rw [if_neg (by omega)]
theorem shfL_1 {k n : Nat} (h : k + 1 ≤ n) (f : Nat → Int64) : vp_updL (shfL (k + 1) n f) (k + 1) (shfL (k + 1) n f k) = shfL k n f := by
  funext j
  unfold vp_updL shfL
  by_cases hj : j = k + 1
  · rw [if_pos hj, if_neg (by omega), if_pos (by omega), hj]; rfl
  · rw [if_neg hj]
    by_cases h2 : k + 1 < j ∧ j ≤ n
    · rw [if_pos h2, if_pos (by omega)]
    · rw [if_neg h2, if_neg (by omega)]
theorem mshift_ok {n k : Nat} (hn : n < 240) (hk : k ≤ n) (d x y : Nat → Int64) : iter (bX10_joint_104 (nI k)) FU (nI n, d, x, y) = some (0, (nI k, shfL k n d, shfL k n x, shfL k n y)) := by
  have main := iter_ex0 (B := bX10_joint_104 (nI k)) (fun t => ∃ i, k ≤ i ∧ i ≤ n ∧ t = (nI i, shfL i n d, shfL i n x, shfL i n y)) (fun t => t.1.toNatClampNeg) (fun t => t = (nI k, shfL k n d, shfL k n x, shfL k n y)) (fun t ht => by
    obtain ⟨i, h1, h2, rfl⟩ := ht
    rcases Nat.lt_or_ge k i with h | h
    · obtain ⟨i, rfl⟩ : ∃ m, i = m + 1 := ⟨i - 1, by omega⟩
      refine Or.inl ⟨(nI i, shfL i n d, shfL i n x, shfL i n y), ?_, ⟨i, by omega, by omega, rfl⟩, ?_⟩
      · have e1 : nI (i + 1) - (1 : Int32) = nI i := nI_pred i
        have e2 : nI (i + 1) + (-1 : Int32) = nI i := pk_m1 i
        have c1 : (nI i).toNatClampNeg = i := nI_clamp (by omega)
        have c2 : (nI (i + 1)).toNatClampNeg = i + 1 := nI_clamp (by omega)
        simp only [bX10_joint_104, dm4, lt, e1, e2, gd_t (ix_ok (show i < 240 by omega) (by omega)), gd_t (ix_ok (show i + 1 < 240 by omega) (by omega))]
        rw [c1, c2, if_neg (nI_ge (by omega) (by omega)), shfL_1 h2, shfL_1 h2, shfL_1 h2]
      · show (nI i).toNatClampNeg < (nI (i + 1)).toNatClampNeg
        rw [nI_clamp (by omega), nI_clamp (by omega)]; omega
    · obtain rfl : i = k := by omega
      refine Or.inr ⟨_, ?_, rfl⟩
      show (if nI i ≤ nI i then some (1, _) else _) = _
      rw [if_pos (nI_le (Nat.le_refl _) (by omega))]) (nI n, d, x, y) ⟨n, hk, Nat.le_refl _, by rw [shfL_0, shfL_0, shfL_0]⟩ FU (FU_lt (by show (nI n).toNatClampNeg < _; rw [nI_clamp (by omega)]; omega))
  obtain ⟨t, h1, rfl⟩ := main
  exact h1
/-- the reference's joint -/
theorem mins_ok {n : Nat} (hn : n < 239) {P : Nat → Pt3} (hP : ∀ i, i < n → pOK (P i)) (sP : Srt n P) {d x y : Nat → Int64} (hJ : JL n P d x y) {a b c : Nat} (h0 : 0 < c) (hc : c ≤ 288) (ha : a ≤ 12 * c) (hb : b ≤ 12 * c) : ∃ (m : Nat) (Q : Nat → Pt3) (d' x' y' : Nat → Int64), sX10_joint (lN a) (lN b) (lN c) (nI n) d x y = some (nI m, d', x', y') ∧ m ≤ n + 1 ∧ (∀ i, i < m → pOK (Q i)) ∧ Srt m Q ∧ JL m Q d' x' y' ∧ ∀ q, (∃ i, i < m ∧ Q i = q) ↔ ((∃ i, i < n ∧ P i = q) ∨ q = redu a b c) := by
  have hp := redu_ok h0 hc ha hb
  obtain ⟨p, ep⟩ : ∃ p, p = redu a b c := ⟨_, rfl⟩
  obtain ⟨g, eg⟩ : ∃ g, g = Nat.gcd (Nat.gcd a b) c := ⟨_, rfl⟩
  have hg0 : 0 < g := by rw [eg]; exact Nat.gcd_pos_of_pos_right _ h0
  have hg1 : g ≤ c := by rw [eg]; exact Nat.le_of_dvd h0 (Nat.gcd_dvd_right _ _)
  have hgab : Nat.gcd a b < 2 ^ 63 := by
    rcases Nat.eq_zero_or_pos a with h | h
    · rw [h, Nat.gcd_zero_left]; omega
    · have := Nat.le_of_dvd h (Nat.gcd_dvd_left a b); omega
  have g1 : sX12_gcd (lN a) (lN b) = some (lN (Nat.gcd a b)) := mgcd_ok (by omega) (by omega)
  have g2 : sX12_gcd (lN (Nat.gcd a b)) (lN c) = some (lN g) := by rw [eg]; exact mgcd_ok hgab (by omega)
  have ne : ¬ lN g = 0 := fun z => by
    have := (pk_lEQ (b := 0) (by omega) (by omega)).mp z
    omega
  have hs : 0 ≤ lg_cmp (lN c) (0 : Int64) := Int32.not_lt.mp (fun z => by
    have := (pk_lLT (b := 0) (by omega) (by omega)).mp ((lg_cmp_lt _ _).mp z)
    omega)
  have e1 : lN g * (1 : Int64) = lN g := by
    show lN g * lN 1 = lN g
    rw [lN_mul, Nat.mul_one]
  have d1 : lN a / lN g = lN p.1 := by rw [pk_lDiv (by omega) hg0 (by omega), ep, eg]; rfl
  have d2 : lN b / lN g = lN p.2.1 := by rw [pk_lDiv (by omega) hg0 (by omega), ep, eg]; rfl
  have d3 : lN c / lN g = lN p.2.2 := by rw [pk_lDiv (by omega) hg0 (by omega), ep, eg]; rfl
  rw [← ep] at hp ⊢
  have start : sX10_joint (lN a) (lN b) (lN c) (nI n) d x y = ob (iter (bX10_joint_52 d x y (lN p.1) (lN p.2.1) (lN p.2.2)) FU (nI n)) (fun kt => ex2 kt (fun t => some (nI n, d, x, y)) (fun t => ob (iter (bX10_joint_104 t) FU (nI n, d, x, y)) (fun kt => ex1 kt (fun w => gd (¬ (t < 0 ∨ 240 ≤ t.toNatClampNeg)) (gd (¬ (t < 0 ∨ 240 ≤ t.toNatClampNeg)) (gd (¬ (t < 0 ∨ 240 ≤ t.toNatClampNeg)) (some (nI n + (1 : Int32), vp_updL w.2.1 t.toNatClampNeg (lN p.2.2), vp_updL w.2.2.1 t.toNatClampNeg (lN p.1), vp_updL w.2.2.2 t.toNatClampNeg (lN p.2.1))))))))) := by
    show ob (sX12_gcd (lN a) (lN b)) _ = _
    rw [ob_s g1]
    show ob (sX12_gcd (lN (Nat.gcd a b)) (lN c)) _ = _
    rw [ob_s g2]
    show ob (if 0 ≤ lg_cmp (lN c) (0 : Int64) then some (1 : Int64) else some (-1 : Int64)) _ = _
    rw [if_pos hs]
    show gd (¬ lN g * (1 : Int64) = 0) (gd (¬ lN g * (1 : Int64) = 0) (gd (¬ lN g * (1 : Int64) = 0) (ob (iter (bX10_joint_52 d x y (lN a / (lN g * (1 : Int64))) (lN b / (lN g * (1 : Int64))) (lN c / (lN g * (1 : Int64)))) FU (nI n)) _))) = _
    rw [e1, gd_t ne, gd_t ne, gd_t ne, d1, d2, d3]
    rfl
  rcases mfind_ok (by omega) hP hp hJ with ⟨k, v, h1, h2, hf⟩ | ⟨k, hk, h1, h2, hf⟩
  · rw [ob_s hf] at start
    refine ⟨n, P, d, x, y, start, by omega, hP, sP, hJ, fun q => ⟨fun hh => Or.inl hh, fun hh => ?_⟩⟩
    rcases hh with hh | hh
    · exact hh
    · exact ⟨k, h1, by rw [hh]; exact (pcmp_eq hp (hP k h1) h2).symm⟩
  · have ck : (nI k).toNatClampNeg = k := nI_clamp (by omega)
    have hin := ix_ok (show k < 240 by omega) (by omega)
    rw [ob_s hf] at start
    have fin2 : ob (iter (bX10_joint_104 (nI k)) FU (nI n, d, x, y)) (fun kt => ex1 kt (fun w => gd (¬ (nI k < 0 ∨ 240 ≤ (nI k).toNatClampNeg)) (gd (¬ (nI k < 0 ∨ 240 ≤ (nI k).toNatClampNeg)) (gd (¬ (nI k < 0 ∨ 240 ≤ (nI k).toNatClampNeg)) (some (nI n + (1 : Int32), vp_updL w.2.1 (nI k).toNatClampNeg (lN p.2.2), vp_updL w.2.2.1 (nI k).toNatClampNeg (lN p.1), vp_updL w.2.2.2 (nI k).toNatClampNeg (lN p.2.1))))))) = some (nI (n + 1), vp_updL (shfL k n d) k (lN p.2.2), vp_updL (shfL k n x) k (lN p.1), vp_updL (shfL k n y) k (lN p.2.1)) := by
      rw [ob_s (mshift_ok (by omega) hk d x y)]
      show gd _ (gd _ (gd _ (some (nI n + (1 : Int32), _, _, _)))) = _
      rw [gd_t hin, gd_t hin, gd_t hin, nI_1, ck]
    have hlow : ∀ i, i < k → plt (P i) p := by
      intro i hi
      have hk1 := h2 (by omega)
      rcases Nat.lt_or_ge i (k - 1) with h9 | h9
      · exact plt_trans (hP i (by omega)).1 (hP (k - 1) (by omega)).1 hp.1 (sP i (k - 1) h9 (by omega)) hk1
      · obtain rfl : i = k - 1 := by omega
        exact hk1
    refine ⟨n + 1, insAt P k p, _, _, _, start.trans fin2, Nat.le_refl _, insAt_ok hk hP hp, insAt_srt hk hP hp sP hlow (fun h => h1 k (Nat.le_refl _) h), ?_, insAt_set hk⟩
    intro i hi
    have sh : ∀ (f : Nat → Int64) (v : Int64), vp_updL (shfL k n f) k v i = if i < k then f i else if i = k then v else f (i - 1) := by
      intro f v
      unfold vp_updL shfL
      by_cases h1 : i < k
      · rw [if_neg (by omega), if_neg (by omega), if_pos h1]
      · rw [if_neg h1]
        by_cases h2 : i = k
        · rw [if_pos h2, if_pos h2]
        · rw [if_neg h2, if_neg h2, if_pos (by omega)]
    unfold At3L
    rw [sh, sh, sh]
    unfold insAt
    by_cases h1 : i < k
    · rw [if_pos h1, if_pos h1, if_pos h1, if_pos h1]; exact hJ i (by omega)
    · rw [if_neg h1, if_neg h1, if_neg h1, if_neg h1]
      by_cases h2 : i = k
      · rw [if_pos h2, if_pos h2, if_pos h2, if_pos h2]; exact ⟨rfl, rfl, rfl⟩
      · rw [if_neg h2, if_neg h2, if_neg h2, if_neg h2]; exact hJ (i - 1) (by omega)
