/-! a joint on a line: class and reference ask the same -/
def bI (b : Bool) : Int32 := if b = true then nI 1 else nI 0
theorem bI_0 {b : Bool} : (bI b = nI 0) = (b = false) := by cases b <;> simp [bI, nI_eqS]
theorem bI_0' {b : Bool} : (bI b = 0) = (b = false) := by rw [nl_0]; exact bI_0
theorem bI_t : bI true = nI 1 := rfl
theorem bI_f : bI false = nI 0 := rfl
/-- p is on the line L -/
def onb (L : Ln) (p : Pt3) : Bool := decide (lnU L * ((p.2.1 : Int) - L.2.1 * p.2.2) = lnV L * ((p.1 : Int) - L.1 * p.2.2) ∧ (min (L.1 * p.2.2) (L.2.2.1 * p.2.2) ≤ p.1 ∧ p.1 ≤ max (L.1 * p.2.2) (L.2.2.1 * p.2.2)) ∧ (min (L.2.1 * p.2.2) (L.2.2.2 * p.2.2) ≤ p.2.1 ∧ p.2.1 ≤ max (L.2.1 * p.2.2) (L.2.2.2 * p.2.2)))
theorem m12 {a d : Nat} (ha : a ≤ 12) (hd : d ≤ 288) : a * d ≤ 3456 := Nat.le_trans (Nat.mul_le_mul ha hd) (by decide)
theorem lies_ok {L : Ln} {p : Pt3} (hL : lnOK L) (hp : pOK p) {i k : Nat} (hi : i < 129) (hk : k < 18) {u x y X Y U V : Nat → Int32} (a : At3 u x y i p) (b : LnAt X Y U V k L) : sX4_liesOn (nI i) (nI k) u x y U V X Y = some (bI (onb L p)) := by
  obtain ⟨a1, a2, a3⟩ := a
  obtain ⟨b1, b2, b3, b4⟩ := b
  have hu := lnU_bd hL
  have hv := lnV_bd hL
  obtain ⟨l1, l2, l3, l4⟩ := hL
  obtain ⟨p1, p2, p3, p4, -⟩ := hp
  have m1 := m12 l1 p2
  have m2 := m12 l2 p2
  have m3 := m12 l3 p2
  have m4 := m12 l4 p2
  simp (disch := omega) only [sX4_liesOn, lt, nI_lt0, nI_clampS, false_or, gd_s, a1, a2, a3, b1, b2, b3, b4, pk_mul]
  rw [nsub, nsub, nsub, nsub]
  rw [show ((L.2.2.1 : Int) - (L.1 : Int)) = lnU L from rfl, show ((L.2.2.2 : Int) - (L.2.1 : Int)) = lnV L from rfl, iz_mul, iz_mul]
  have z1 := mul_bd (A := 12) (B := 3456) (a := lnU L) (b := (p.2.1 : Int) - ((L.2.1 * p.2.2 : Nat) : Int)) hu.1 hu.2 (by omega) (by omega) (by omega) (by omega)
  have z2 := mul_bd (A := 12) (B := 3456) (a := lnV L) (b := (p.1 : Int) - ((L.1 * p.2.2 : Nat) : Int)) hv.1 hv.2 (by omega) (by omega) (by omega) (by omega)
  have hq := iz_eq (a := lnU L * ((p.2.1 : Int) - ((L.2.1 * p.2.2 : Nat) : Int))) (b := lnV L * ((p.1 : Int) - ((L.1 * p.2.2 : Nat) : Int))) (by omega) (by omega) (by omega) (by omega)
  rw [btw_ok (by omega) (by omega) (by omega), btw_ok (by omega) (by omega) (by omega)]
  simp only [hq, ob, dm1]
  unfold onb
  simp only [Int.natCast_mul]
  by_cases h1 : lnU L * ((p.2.1 : Int) - (L.2.1 : Int) * (p.2.2 : Int)) = lnV L * ((p.1 : Int) - (L.1 : Int) * (p.2.2 : Int))
  · rw [if_neg (by simpa using h1)]
    by_cases h2 : min (L.1 * p.2.2) (L.2.2.1 * p.2.2) ≤ p.1 ∧ p.1 ≤ max (L.1 * p.2.2) (L.2.2.1 * p.2.2)
    · rw [if_pos h2, if_neg (by rw [nl_0]; simp [nI_eqS])]
      by_cases h3 : min (L.2.1 * p.2.2) (L.2.2.2 * p.2.2) ≤ p.2.1 ∧ p.2.1 ≤ max (L.2.1 * p.2.2) (L.2.2.2 * p.2.2)
      · rw [if_pos h3, if_neg (by rw [nl_0]; simp [nI_eqS]), decide_eq_true ⟨h1, h2, h3⟩]; rfl
      · rw [if_neg h3, if_pos nI_0, decide_eq_false (fun z => h3 z.2.2)]; rfl
    · rw [if_neg h2, if_pos nI_0, decide_eq_false (fun z => h2 z.2.1)]; rfl
  · rw [if_pos (by simpa using h1), decide_eq_false (fun z => h1 z.1)]; rfl
theorem sq_nn (a : Int) : 0 ≤ a * a := by
  rcases Int.le_total 0 a with h | h
  · exact Int.mul_nonneg h h
  · exact Int.mul_nonneg_of_nonpos_of_nonpos h h
/-- the way of the point, along the line -/
theorem on_alg {u v a b d : Int} (hd : 0 < d) (hn : u ≠ 0 ∨ v ≠ 0) (hc : a * v = b * u) : (0 ≤ a * u + b * v ∧ a * u + b * v ≤ (u * u + v * v) * d) ↔ ((min 0 (u * d) ≤ a ∧ a ≤ max 0 (u * d)) ∧ (min 0 (v * d) ≤ b ∧ b ≤ max 0 (v * d))) := by
  have hs : 0 < u * u + v * v := by
    rcases hn with h | h
    · have h1 : 0 < u * u := by
        rcases Int.lt_trichotomy u 0 with q | q | q
        · exact Int.mul_pos_of_neg_of_neg q q
        · exact absurd q h
        · exact Int.mul_pos q q
      have h2 : 0 ≤ v * v := sq_nn v
      omega
    · have h1 : 0 < v * v := by
        rcases Int.lt_trichotomy v 0 with q | q | q
        · exact Int.mul_pos_of_neg_of_neg q q
        · exact absurd q h
        · exact Int.mul_pos q q
      have h2 : 0 ≤ u * u := sq_nn u
      omega
  have e1 : (u * u + v * v) * a = (a * u + b * v) * u := by grind
  have e2 : (u * u + v * v) * b = (a * u + b * v) * v := by grind
  have half : ∀ (x t : Int), (u * u + v * v) * t = (a * u + b * v) * x → 0 ≤ a * u + b * v → a * u + b * v ≤ (u * u + v * v) * d → min 0 (x * d) ≤ t ∧ t ≤ max 0 (x * d) := by
    intro x t e h1 h2
    generalize a * u + b * v = g at *
    generalize u * u + v * v = s at *
    rcases Int.le_total 0 x with q | q
    · have h3 : 0 ≤ g * x := Int.mul_nonneg h1 q
      have h4 : g * x ≤ s * d * x := Int.mul_le_mul_of_nonneg_right h2 q
      have h5 : 0 ≤ t := by
        rcases Int.lt_or_le t 0 with z | z
        · have := Int.mul_neg_of_pos_of_neg hs z; omega
        · exact z
      have h6 : t ≤ x * d := by
        rcases Int.lt_or_le (x * d) t with z | z
        · have h7 := Int.mul_lt_mul_of_pos_left z hs
          have e3 : s * (x * d) = s * d * x := by grind
          omega
        · exact z
      omega
    · have h3 : g * x ≤ 0 := Int.mul_nonpos_of_nonneg_of_nonpos h1 q
      have h4 : s * d * x ≤ g * x := Int.mul_le_mul_of_nonpos_right h2 q
      have h5 : t ≤ 0 := by
        rcases Int.lt_or_le 0 t with z | z
        · have := Int.mul_pos hs z; omega
        · exact z
      have h6 : x * d ≤ t := by
        rcases Int.lt_or_le t (x * d) with z | z
        · have h7 := Int.mul_lt_mul_of_pos_left z hs
          have e3 : s * (x * d) = s * d * x := by grind
          omega
        · exact z
      omega
  have back : ∀ (x t : Int), min 0 (x * d) ≤ t → t ≤ max 0 (x * d) → 0 ≤ t * x ∧ t * x ≤ x * x * d := by
    intro x t h1 h2
    rcases Int.le_total 0 x with q | q
    · have h3 : 0 ≤ x * d := Int.mul_nonneg q (by omega)
      have h4 : t * x ≤ x * d * x := Int.mul_le_mul_of_nonneg_right (by omega) q
      exact ⟨Int.mul_nonneg (by omega) q, by grind⟩
    · have h3 : x * d ≤ 0 := Int.mul_nonpos_of_nonpos_of_nonneg q (by omega)
      have h4 : t * x ≤ x * d * x := Int.mul_le_mul_of_nonpos_right (by omega) q
      exact ⟨Int.mul_nonneg_of_nonpos_of_nonpos (by omega) q, by grind⟩
  constructor
  · rintro ⟨h1, h2⟩
    exact ⟨half u a e1 h1 h2, half v b e2 h1 h2⟩
  · rintro ⟨⟨h1, h2⟩, h3, h4⟩
    have h5 := back u a h1 h2
    have h6 := back v b h3 h4
    have e3 : (u * u + v * v) * d = u * u * d + v * v * d := by grind
    omega
def lnN (L : Ln) : Prop := lnU L ≠ 0 ∨ lnV L ≠ 0
theorem nmin_bd {x a u d : Nat} : (min (a * d) (u * d) ≤ x ∧ x ≤ max (a * d) (u * d)) ↔ (min 0 (((u : Int) - a) * d) ≤ (x : Int) - a * d ∧ (x : Int) - a * d ≤ max 0 (((u : Int) - a) * d)) := by
  have e : ((u : Int) - a) * d = ((u * d : Nat) : Int) - ((a * d : Nat) : Int) := by grind
  have e2 : (a : Int) * d = ((a * d : Nat) : Int) := by grind
  rw [e, e2]
  omega
theorem mon_ok {L : Ln} {p : Pt3} (hL : lnOK L) (hn : lnN L) (hp : pOK p) {i k : Nat} (hi : i < 240) (hk : k < 18) {d x y : Nat → Int64} {X Y U V : Nat → Int32} (a : At3L d x y i p) (b : LnAt X Y U V k L) : sX10_isOn (nI k) (nI i) X Y U V d x y = some (bI (onb L p)) := by
  obtain ⟨a1, a2, a3⟩ := a
  obtain ⟨b1, b2, b3, b4⟩ := b
  have hu := lnU_bd hL
  have hv := lnV_bd hL
  obtain ⟨l1, l2, l3, l4⟩ := hL
  obtain ⟨p1, p2, p3, p4, -⟩ := hp
  have m1 := m12 l1 p2
  have m2 := m12 l2 p2
  have f1 : lN p.1 - (nI L.1).toInt64 * lN p.2.2 = lz ((p.1 : Int) - L.1 * p.2.2) := by
    rw [nI_l (by omega), ← lz_n, ← lz_n, ← lz_n, lz_mul, lz_sub]
  have f2 : lN p.2.1 - (nI L.2.1).toInt64 * lN p.2.2 = lz ((p.2.1 : Int) - L.2.1 * p.2.2) := by
    rw [nI_l (by omega), ← lz_n, ← lz_n, ← lz_n, lz_mul, lz_sub]
  have f3 : (nI L.2.2.1 - nI L.1).toInt64 = lz (lnU L) := by
    rw [nsub]
    exact iz_l (by unfold lnU at hu; omega) (by unfold lnU at hu; omega)
  have f4 : (nI L.2.2.2 - nI L.2.1).toInt64 = lz (lnV L) := by
    rw [nsub]
    exact iz_l (by unfold lnV at hv; omega) (by unfold lnV at hv; omega)
  simp (disch := omega) only [sX10_isOn, lt, nI_lt0, nI_clampS, false_or, gd_s, a1, a2, a3, b1, b2, b3, b4, f1, f2, f3, f4]
  have g1 : -3456 ≤ (p.1 : Int) - L.1 * p.2.2 ∧ (p.1 : Int) - L.1 * p.2.2 ≤ 3456 := by
    have : (L.1 : Int) * p.2.2 = ((L.1 * p.2.2 : Nat) : Int) := by grind
    omega
  have g2 : -3456 ≤ (p.2.1 : Int) - L.2.1 * p.2.2 ∧ (p.2.1 : Int) - L.2.1 * p.2.2 ≤ 3456 := by
    have : (L.2.1 : Int) * p.2.2 = ((L.2.1 * p.2.2 : Nat) : Int) := by grind
    omega
  have hdec : onb L p = decide (((p.1 : Int) - L.1 * p.2.2) * lnV L = ((p.2.1 : Int) - L.2.1 * p.2.2) * lnU L ∧ 0 ≤ ((p.1 : Int) - L.1 * p.2.2) * lnU L + ((p.2.1 : Int) - L.2.1 * p.2.2) * lnV L ∧ ((p.1 : Int) - L.1 * p.2.2) * lnU L + ((p.2.1 : Int) - L.2.1 * p.2.2) * lnV L ≤ (lnU L * lnU L + lnV L * lnV L) * (p.2.2 : Int)) := by
    unfold onb
    rw [decide_eq_decide]
    constructor
    · rintro ⟨h1, h2, h3⟩
      have hc : ((p.1 : Int) - L.1 * p.2.2) * lnV L = ((p.2.1 : Int) - L.2.1 * p.2.2) * lnU L := by rw [Int.mul_comm _ (lnV L), Int.mul_comm _ (lnU L)]; exact h1.symm
      exact ⟨hc, (on_alg (by omega) hn hc).mpr ⟨nmin_bd.mp h2, nmin_bd.mp h3⟩⟩
    · rintro ⟨hc, h2⟩
      have h3 := (on_alg (by omega) hn hc).mp h2
      exact ⟨by rw [Int.mul_comm (lnU L), Int.mul_comm (lnV L)]; exact hc.symm, nmin_bd.mpr h3.1, nmin_bd.mpr h3.2⟩
  rw [hdec]
  generalize (p.1 : Int) - L.1 * p.2.2 = px at *
  generalize (p.2.1 : Int) - L.2.1 * p.2.2 = py at *
  have u1 := mul_bd (A := 3456) (B := 12) g1.1 g1.2 hu.1 hu.2 (by omega) (by omega)
  have u2 := mul_bd (A := 3456) (B := 12) g2.1 g2.2 hv.1 hv.2 (by omega) (by omega)
  have u3 := mul_bd (A := 3456) (B := 12) g1.1 g1.2 hv.1 hv.2 (by omega) (by omega)
  have u4 := mul_bd (A := 3456) (B := 12) g2.1 g2.2 hu.1 hu.2 (by omega) (by omega)
  have u5 := mul_bd (A := 12) (B := 12) hu.1 hu.2 hu.1 hu.2 (by omega) (by omega)
  have u6 := mul_bd (A := 12) (B := 12) hv.1 hv.2 hv.1 hv.2 (by omega) (by omega)
  have u7 := mul_bd (A := 288) (B := 288) (a := lnU L * lnU L + lnV L * lnV L) (b := (p.2.2 : Int)) (by omega) (by omega) (by omega) (by omega) (by omega) (by omega)
  rw [← lz_n p.2.2, lz_mul, lz_mul, lz_mul, lz_mul, lz_mul, lz_mul, lz_add, lz_add, lz_mul, show (0 : Int64) = lz 0 from rfl]
  have c1 := lgz_eq (a := px * lnV L) (b := py * lnU L) (by omega) (by omega) (by omega) (by omega)
  have c2 := lgz_lt (a := px * lnU L + py * lnV L) (b := 0) (by omega) (by omega) (by omega) (by omega)
  have c3 := lgz_gt (a := px * lnU L + py * lnV L) (b := (lnU L * lnU L + lnV L * lnV L) * (p.2.2 : Int)) (by omega) (by omega) (by omega) (by omega)
  simp only [c1, c2, c3]
  by_cases h1 : px * lnV L = py * lnU L
  · rw [if_neg (by simpa using h1)]
    by_cases h2 : px * lnU L + py * lnV L < 0
    · rw [if_pos h2, decide_eq_false (by omega)]; rfl
    · rw [if_neg h2]
      by_cases h3 : (lnU L * lnU L + lnV L * lnV L) * (p.2.2 : Int) < px * lnU L + py * lnV L
      · rw [if_pos h3, decide_eq_false (by omega)]; rfl
      · rw [if_neg h3, decide_eq_true ⟨h1, by omega, by omega⟩]; rfl
  · rw [if_pos (by simpa using h1), decide_eq_false (fun z => h1 z.1)]; rfl
