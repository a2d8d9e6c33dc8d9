/-! the class's exact sum -/
theorem lz_neg_iff {z : Int} (h1 : -9223372036854775808 ≤ z) (h2 : z < 9223372036854775808) : (lz z).toBitVec.msb = decide (z < 0) := by
  rw [BitVec.msb_eq_toInt]
  show decide ((lz z).toInt < 0) = _
  rw [lz_toInt h1 h2]
theorem xor_ge0 {a b : Int} (a1 : -9223372036854775808 ≤ a) (a2 : a < 9223372036854775808) (b1 : 0 < b) (b2 : b < 9223372036854775808) : (0 ≤ lg_cmp (lz a ^^^ lz b) (0 : Int64)) ↔ 0 ≤ a := by
  have hm : (lz a ^^^ lz b).toBitVec.msb = decide (a < 0) := by
    show ((lz a).toBitVec ^^^ (lz b).toBitVec).msb = _
    have : ((lz a).toBitVec ^^^ (lz b).toBitVec).msb = ((lz a).toBitVec.msb ^^ (lz b).toBitVec.msb) := by simp
    rw [this, lz_neg_iff a1 a2, lz_neg_iff (by omega) (by omega), decide_eq_false (p := b < 0) (by omega)]
    simp
  have hlt : (lz a ^^^ lz b) < 0 ↔ a < 0 := by
    rw [Int64.lt_iff_toInt_lt]
    show (lz a ^^^ lz b).toBitVec.toInt < (0 : Int64).toInt ↔ _
    rw [show (0 : Int64).toInt = 0 from rfl]
    rw [BitVec.msb_eq_toInt] at hm
    have := decide_eq_decide.mp hm
    exact this
  have h := lg_cmp_lt (lz a ^^^ lz b) 0
  rw [hlt] at h
  constructor
  · intro q
    rcases Int.lt_or_le a 0 with w | w
    · exact absurd (h.mpr w) (Int32.not_lt.mpr q)
    · exact w
  · intro q
    exact Int32.not_lt.mp (fun w => by have := h.mp w; omega)
theorem lz_div {a b : Int} (a1 : -4611686018427387904 < a) (a2 : a < 4611686018427387904) (b1 : 0 < b) (b2 : b < 4611686018427387904) : lz a / lz b = lz (a.tdiv b) := by
  have hq : -4611686018427387904 ≤ a.tdiv b ∧ a.tdiv b ≤ 4611686018427387904 := by
    rcases Int.le_total 0 a with h | h
    · rw [Int.tdiv_eq_ediv_of_nonneg h]
      have := Int.ediv_le_self b h
      have := Int.ediv_nonneg h (show 0 ≤ b by omega)
      omega
    · have e : a.tdiv b = -((-a).tdiv b) := by rw [Int.neg_tdiv, Int.neg_neg]
      rw [e, Int.tdiv_eq_ediv_of_nonneg (show 0 ≤ -a by omega)]
      have := Int.ediv_le_self b (show 0 ≤ -a by omega)
      have := Int.ediv_nonneg (show 0 ≤ -a by omega) (show 0 ≤ b by omega)
      omega
  apply Int64.toInt_inj.mp
  rw [Int64.toInt_div, lz_toInt (by omega) (by omega), lz_toInt (by omega) (by omega), lz_toInt (by omega) (by omega)]
  exact Int.bmod_eq_of_le (by omega) (by omega)
theorem lz_ne0 {b : Int} (b1 : 0 < b) (b2 : b < 4611686018427387904) : ¬ lz b = 0 := by
  rw [show (0 : Int64) = lz 0 from rfl, lz_eq (by omega) (by omega) (by omega) (by omega)]; omega
theorem tdiv_neg_floor {a b : Int} (ha : a < 0) (hb : 0 < b) : (a.tdiv b * b = a → a / b = a.tdiv b) ∧ (a.tdiv b * b ≠ a → a / b = a.tdiv b - 1) := by
  have e : a.tdiv b = -((-a) / b) := by
    rw [← Int.tdiv_eq_ediv_of_nonneg (show 0 ≤ -a by omega), Int.neg_tdiv, Int.neg_neg]
  rw [e]
  have h1 := Int.mul_ediv_add_emod (-a) b
  have h2 := Int.emod_nonneg (-a) (show b ≠ 0 by omega)
  have h3 := Int.emod_lt_of_pos (-a) hb
  have h4 := Int.mul_ediv_add_emod a b
  have h5 := Int.emod_nonneg a (show b ≠ 0 by omega)
  have h6 := Int.emod_lt_of_pos a hb
  generalize (-a) / b = q at *
  generalize a / b = q' at *
  generalize (-a) % b = r at *
  generalize a % b = r' at *
  have key : b * (q + q') = - (r + r') := by rw [Int.mul_add]; omega
  constructor
  · intro hz
    have r0 : r = 0 := by have : b * q = -a := by rw [← Int.neg_inj, ← hz]; grind
                          omega
    have : q + q' = 0 := by
      rcases Int.lt_trichotomy (q + q') 0 with z | z | z
      · have := Int.mul_le_mul_of_nonneg_left (show q + q' ≤ -1 by omega) (show 0 ≤ b by omega); omega
      · exact z
      · have := m_pp hb z; omega
    omega
  · intro hz
    have r0 : r ≠ 0 := fun z => hz (by have : b * q = -a := by omega
                                       rw [← Int.neg_inj, ← this]; grind)
    have : q + q' = -1 := by
      rcases Int.lt_trichotomy (q + q') (-1) with z | z | z
      · have := Int.mul_le_mul_of_nonneg_left (show q + q' ≤ -2 by omega) (show 0 ≤ b by omega); omega
      · exact z
      · have := m_pp0 hb (show 0 ≤ q + q' by omega); omega
    omega
theorem fdiv_ok {a b : Int} (a1 : -1000000000000000 < a) (a2 : a < 1000000000000000) (b1 : 0 < b) (b2 : b < 1000000000) : sJ9_floorDiv_f86c9 (lz a) (lz b) = some (lz (a / b)) := by
  have hx := xor_ge0 (a := a) (b := b) (by omega) (by omega) b1 (by omega)
  unfold sJ9_floorDiv_f86c9 lt
  rw [gd_s (lz_ne0 b1 (by omega)), lz_div (by omega) (by omega) b1 (by omega)]
  dsimp only
  by_cases h : 0 ≤ a
  · rw [if_pos (hx.mpr h), Int.tdiv_eq_ediv_of_nonneg h]
  · rw [if_neg (fun z => h (hx.mp z))]
    obtain ⟨t1, t2⟩ := tdiv_neg_floor (show a < 0 by omega) b1
    have e : a.tdiv b = -((-a) / b) := by
      rw [← Int.tdiv_eq_ediv_of_nonneg (show 0 ≤ -a by omega), Int.neg_tdiv, Int.neg_neg]
    have h1 := Int.mul_ediv_add_emod (-a) b
    have h2 := Int.emod_nonneg (-a) (show b ≠ 0 by omega)
    have h3 := Int.emod_lt_of_pos (-a) b1
    have bd : -1000000000000000 < a.tdiv b * b ∧ a.tdiv b * b ≤ 0 := by
      have : a.tdiv b * b = -(b * (-a / b)) := by rw [e]; grind
      have h0 := Int.mul_nonneg (show 0 ≤ b by omega) (Int.ediv_nonneg (show 0 ≤ -a by omega) (show 0 ≤ b by omega))
      omega
    rw [lz_mul]
    have c : (lg_cmp (lz (a.tdiv b * b)) (lz a) = 0) ↔ a.tdiv b * b = a := (lg_cmp_eq _ _).trans (lz_eq (by omega) (by omega) (by omega) (by omega))
    by_cases h2 : a.tdiv b * b = a
    · rw [if_pos (c.mpr h2), t1 h2]
    · rw [if_neg (fun z => h2 (c.mp z)), show (1 : Int64) = lz 1 from rfl, lz_sub, t2 h2]
theorem fmod_ok {a b : Int} (a1 : -1000000000000000 < a) (a2 : a < 1000000000000000) (b1 : 0 < b) (b2 : b < 1000000000) : sJ9_floorMod_f86c9 (lz a) (lz b) = some (lz (a % b)) := by
  have hx := xor_ge0 (a := a) (b := b) (by omega) (by omega) b1 (by omega)
  have h4 := Int.mul_ediv_add_emod a b
  unfold sJ9_floorMod_f86c9 lt
  rw [gd_s (lz_ne0 b1 (by omega)), lz_div (by omega) (by omega) b1 (by omega), lz_mul, lz_sub]
  dsimp only
  by_cases h : 0 ≤ a
  · rw [if_pos (hx.mpr h), Int.tdiv_eq_ediv_of_nonneg h]
    congr 2
    rw [Int.mul_comm]; omega
  · rw [if_neg (fun z => h (hx.mp z))]
    obtain ⟨t1, t2⟩ := tdiv_neg_floor (show a < 0 by omega) b1
    have h5 := Int.emod_nonneg a (show b ≠ 0 by omega)
    have h6 := Int.emod_lt_of_pos a b1
    by_cases h2 : a.tdiv b * b = a
    · have z : a - a.tdiv b * b = 0 := by omega
      rw [z, if_pos ((lg_cmp_eq (lz 0) 0).mpr rfl)]
      have := t1 h2
      rw [← this, Int.mul_comm] at h2
      congr 2; omega
    · have e := t2 h2
      have k : a - a.tdiv b * b = a % b - b := by
        rw [e] at h4
        have : b * (a.tdiv b - 1) = a.tdiv b * b - b := by grind
        omega
      rw [k]
      have c : (lg_cmp (lz (a % b - b)) 0 = 0) ↔ a % b - b = 0 := (lg_cmp_eq _ _).trans (lz_eq (b := 0) (by omega) (by omega) (by omega) (by omega))
      rw [if_neg (fun z => by have := c.mp z; omega), lz_add]
      congr 2; omega
/-- the binary places of r / b, in groups of thirty -/
def dig (b : Int) : Nat → Int → Int
  | 0, r => r * 1073741824 / b
  | i + 1, r => dig b i (r * 1073741824 % b)
def rst (b : Int) : Nat → Int → Int
  | 0, r => r
  | i + 1, r => rst b i r * 1073741824 % b
theorem rst_bd {b r : Int} (hb : 0 < b) (h0 : 0 ≤ r) (h1 : r < b) : ∀ i, 0 ≤ rst b i r ∧ rst b i r < b := by
  intro i
  induction i with
  | zero => exact ⟨h0, h1⟩
  | succ i ih => exact ⟨Int.emod_nonneg _ (by omega), Int.emod_lt_of_pos _ hb⟩
def qst (b r : Int) (i : Nat) : Int := rst b i r * 1073741824 / b
theorem qst_bd {b r : Int} (hb : 0 < b) (h0 : 0 ≤ r) (h1 : r < b) (i : Nat) : 0 ≤ qst b r i ∧ qst b r i < 1073741824 := by
  obtain ⟨x, y⟩ := rst_bd hb h0 h1 i
  unfold qst
  refine ⟨Int.ediv_nonneg (by omega) (by omega), Int.ediv_lt_of_lt_mul hb ?_⟩
  have := Int.mul_lt_mul_of_pos_right y (show (0 : Int) < 1073741824 by omega)
  rw [Int.mul_comm b] at this
  exact this
/-- n groups as one number -/
def gv (g : Nat → Int) : Nat → Int
  | 0 => 0
  | n + 1 => gv g n * 1073741824 + g n
def BB : Nat → Int
  | 0 => 1
  | n + 1 => BB n * 1073741824
theorem BB_pos : ∀ n, 0 < BB n := by
  intro n
  induction n with
  | zero => decide
  | succ n ih => show 0 < BB n * 1073741824; omega
theorem gv_qst {b r : Int} (hb : 0 < b) : ∀ n, r * BB n = b * gv (qst b r) n + rst b n r := by
  intro n
  induction n with
  | zero => show r * 1 = b * 0 + r; omega
  | succ n ih =>
    show r * (BB n * 1073741824) = b * (gv (qst b r) n * 1073741824 + qst b r n) + rst b n r * 1073741824 % b
    have h := Int.mul_ediv_add_emod (rst b n r * 1073741824) b
    unfold qst at *
    grind
theorem gv_add (g h : Nat → Int) : ∀ n, gv (fun i => g i + h i) n = gv g n + gv h n := by
  intro n
  induction n with
  | zero => rfl
  | succ n ih =>
    show gv (fun i => g i + h i) n * 1073741824 + (g n + h n) = (gv g n * 1073741824 + g n) + (gv h n * 1073741824 + h n)
    rw [ih]; omega
/-- carries from the last group to the first -/
def cry (g : Nat → Int) (c : Int) : Nat → Int
  | 0 => c
  | n + 1 => cry g ((g n + c) / 1073741824) n
theorem cry_ok (g : Nat → Int) : ∀ (n : Nat) (c : Int), cry g c n = (gv g n + c) / BB n := by
  intro n
  induction n with
  | zero => intro c; show c = (0 + c) / 1; rw [Int.ediv_one]; omega
  | succ n ih =>
    intro c
    show cry g ((g n + c) / 1073741824) n = (gv g n * 1073741824 + g n + c) / (BB n * 1073741824)
    rw [ih, Int.mul_comm (BB n), ← Int.ediv_ediv_of_nonneg (by omega)]
    congr 1
    have : gv g n * 1073741824 + g n + c = (g n + c) + gv g n * 1073741824 := by omega
    rw [this, Int.add_mul_ediv_right _ _ (by omega)]
    omega
