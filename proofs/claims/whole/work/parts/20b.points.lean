/-! points x / u, y / u in lowest terms, by y, then by x -/
abbrev Pt3 : Type := Nat × Nat × Nat
def pOK (p : Pt3) : Prop := 0 < p.2.2 ∧ p.2.2 ≤ 288 ∧ p.1 ≤ 12 * p.2.2 ∧ p.2.1 ≤ 12 * p.2.2 ∧ Nat.gcd (Nat.gcd p.1 p.2.1) p.2.2 = 1
def pY (p q : Pt3) : Int := ((p.2.1 * q.2.2 : Nat) : Int) - ((q.2.1 * p.2.2 : Nat) : Int)
def pX (p q : Pt3) : Int := ((p.1 * q.2.2 : Nat) : Int) - ((q.1 * p.2.2 : Nat) : Int)
def pcmp (p q : Pt3) : Int := if pY p q = 0 then pX p q else pY p q
def plt (p q : Pt3) : Prop := pcmp p q < 0
theorem plt_iff {p q : Pt3} : plt p q ↔ p.2.1 * q.2.2 < q.2.1 * p.2.2 ∨ (p.2.1 * q.2.2 = q.2.1 * p.2.2 ∧ p.1 * q.2.2 < q.1 * p.2.2) := by
  unfold plt pcmp pY pX
  generalize p.2.1 * q.2.2 = a
  generalize q.2.1 * p.2.2 = b
  generalize p.1 * q.2.2 = c
  generalize q.1 * p.2.2 = d
  by_cases h : (a : Int) - b = 0
  · rw [if_pos h]; omega
  · rw [if_neg h]; omega
theorem pcmp_0 {p q : Pt3} (h : pcmp p q = 0) : p.2.1 * q.2.2 = q.2.1 * p.2.2 ∧ p.1 * q.2.2 = q.1 * p.2.2 := by
  revert h
  unfold pcmp pY pX
  generalize p.2.1 * q.2.2 = a
  generalize q.2.1 * p.2.2 = b
  generalize p.1 * q.2.2 = c
  generalize q.1 * p.2.2 = d
  intro h
  by_cases h0 : (a : Int) - b = 0
  · rw [if_pos h0] at h; omega
  · rw [if_neg h0] at h; omega
theorem pcmp_self (p : Pt3) : pcmp p p = 0 := by
  unfold pcmp pY pX
  rw [if_pos (by omega)]
  omega
theorem pcmp_gt {p q : Pt3} : 0 < pcmp p q ↔ plt q p := by
  rw [plt_iff]
  unfold pcmp pY pX
  generalize p.2.1 * q.2.2 = a
  generalize q.2.1 * p.2.2 = b
  generalize p.1 * q.2.2 = c
  generalize q.1 * p.2.2 = d
  by_cases h : (a : Int) - b = 0
  · rw [if_pos h]; omega
  · rw [if_neg h]; omega
theorem pcmp_eq {p q : Pt3} (hp : pOK p) (hq : pOK q) (h : pcmp p q = 0) : p = q := by
  obtain ⟨hy, hx⟩ := pcmp_0 h
  obtain ⟨px, py, pu⟩ := p
  obtain ⟨qx, qy, qu⟩ := q
  obtain ⟨p0, -, -, -, pg⟩ := hp
  obtain ⟨q0, -, -, -, qg⟩ := hq
  dsimp only at hy hx p0 q0 pg qg
  have e1 : Nat.gcd (Nat.gcd (px * qu) (py * qu)) (pu * qu) = qu := by rw [Nat.gcd_mul_right, Nat.gcd_mul_right, pg, Nat.one_mul]
  have e2 : Nat.gcd (Nat.gcd (qx * pu) (qy * pu)) (qu * pu) = pu := by rw [Nat.gcd_mul_right, Nat.gcd_mul_right, qg, Nat.one_mul]
  have e3 : qu = pu := by rw [← e1, hx, hy, Nat.mul_comm pu qu, e2]
  subst e3
  have hx' : px = qx := Nat.eq_of_mul_eq_mul_right q0 hx
  have hy' : py = qy := Nat.eq_of_mul_eq_mul_right q0 hy
  rw [hx', hy']
theorem cq_lt {a b c d e f : Nat} (hf : 0 < f) (h1 : a * d < c * b) (h2 : c * f ≤ e * d) : a * f < e * b := by
  have h3 : a * d * f < c * b * f := Nat.mul_lt_mul_of_pos_right h1 hf
  have h4 : c * f * b ≤ e * d * b := Nat.mul_le_mul_right b h2
  have h5 : d * (a * f) < d * (e * b) := by
    have e1 : d * (a * f) = a * d * f := by rw [Nat.mul_comm d, Nat.mul_assoc, Nat.mul_comm f d, ← Nat.mul_assoc]
    have e2 : d * (e * b) = e * d * b := by rw [← Nat.mul_assoc, Nat.mul_comm d e]
    have e3 : c * b * f = c * f * b := by rw [Nat.mul_assoc, Nat.mul_comm b f, ← Nat.mul_assoc]
    omega
  exact Nat.lt_of_mul_lt_mul_left h5
theorem cq_lt' {a b c d e f : Nat} (hb : 0 < b) (h1 : a * d ≤ c * b) (h2 : c * f < e * d) : a * f < e * b := by
  have h3 : a * d * f ≤ c * b * f := Nat.mul_le_mul_right f h1
  have h4 : c * f * b < e * d * b := Nat.mul_lt_mul_of_pos_right h2 hb
  have h5 : d * (a * f) < d * (e * b) := by
    have e1 : d * (a * f) = a * d * f := by rw [Nat.mul_comm d, Nat.mul_assoc, Nat.mul_comm f d, ← Nat.mul_assoc]
    have e2 : d * (e * b) = e * d * b := by rw [← Nat.mul_assoc, Nat.mul_comm d e]
    have e3 : c * b * f = c * f * b := by rw [Nat.mul_assoc, Nat.mul_comm b f, ← Nat.mul_assoc]
    omega
  exact Nat.lt_of_mul_lt_mul_left h5
theorem cq_eq {a b c d e f : Nat} (hd : 0 < d) (h1 : a * d = c * b) (h2 : c * f = e * d) : a * f = e * b := by
  have e1 : d * (a * f) = d * (e * b) := by
    have e1 : d * (a * f) = a * d * f := by rw [Nat.mul_comm d, Nat.mul_assoc, Nat.mul_comm f d, ← Nat.mul_assoc]
    have e2 : d * (e * b) = e * d * b := by rw [← Nat.mul_assoc, Nat.mul_comm d e]
    have e3 : c * b * f = c * f * b := by rw [Nat.mul_assoc, Nat.mul_comm b f, ← Nat.mul_assoc]
    rw [e1, e2, h1, e3, h2]
  exact Nat.eq_of_mul_eq_mul_left hd e1
theorem plt_trans {p q r : Pt3} (hp : 0 < p.2.2) (hq : 0 < q.2.2) (hr : 0 < r.2.2) (h1 : plt p q) (h2 : plt q r) : plt p r := by
  rw [plt_iff] at h1 h2 ⊢
  rcases h1 with h1 | ⟨h1, h1'⟩
  · rcases h2 with h2 | ⟨h2, h2'⟩
    · exact Or.inl (cq_lt hr h1 (Nat.le_of_lt h2))
    · exact Or.inl (cq_lt hr h1 (Nat.le_of_eq h2))
  · rcases h2 with h2 | ⟨h2, h2'⟩
    · exact Or.inl (cq_lt' hp (Nat.le_of_eq h1) h2)
    · exact Or.inr ⟨cq_eq hq h1 h2, cq_lt hr h1' (Nat.le_of_lt h2')⟩
theorem plt_irr (p : Pt3) : ¬ plt p p := by unfold plt; rw [pcmp_self]; omega
/-- n points in strict order -/
def Srt (n : Nat) (P : Nat → Pt3) : Prop := ∀ i j, i < j → j < n → plt (P i) (P j)
/-- two such rows of the same points are one -/
theorem Srt_one : ∀ (n m : Nat) (P Q : Nat → Pt3), (∀ i, i < n → pOK (P i)) → (∀ i, i < m → pOK (Q i)) → Srt n P → Srt m Q → (∀ q, (∃ i, i < n ∧ P i = q) ↔ (∃ i, i < m ∧ Q i = q)) → n = m ∧ ∀ i, i < n → P i = Q i := by
  have key : ∀ (n m : Nat) (P Q : Nat → Pt3), (∀ i, i < n → pOK (P i)) → (∀ i, i < m → pOK (Q i)) → Srt n P → Srt m Q → (∀ q, (∃ i, i < n ∧ P i = q) ↔ (∃ i, i < m ∧ Q i = q)) → ∀ i, i < n → i < m ∧ P i = Q i := by
    intro n m P Q hP hQ sP sQ hS i
    induction i using Nat.strongRecOn with
    | _ i ih =>
      intro hi
      obtain ⟨j, hj, ej⟩ := (hS (P i)).mp ⟨i, hi, rfl⟩
      have hji : i ≤ j := by
        rcases Nat.lt_or_ge j i with h | h
        · have := (ih j h (by omega)).2
          have h2 := sP j i h hi
          rw [this, ej] at h2
          exact absurd h2 (plt_irr _)
        · exact h
      rcases Nat.lt_or_ge i j with h | h
      · exfalso
        obtain ⟨k, hk, ek⟩ := (hS (Q i)).mpr ⟨i, by omega, rfl⟩
        rcases Nat.lt_trichotomy k i with h3 | h3 | h3
        · have := (ih k h3 hk).2
          have h4 := sQ k i h3 (by omega)
          rw [← this, ek] at h4
          exact plt_irr _ h4
        · subst h3
          have h4 := sQ k j h hj
          rw [← ek, ej] at h4
          exact plt_irr _ h4
        · have h4 := sQ i j h hj
          have h5 := sP i k h3 hk
          rw [ej] at h4
          rw [ek] at h5
          exact plt_irr _ (plt_trans (hQ i (by omega)).1 (hP i hi).1 (hQ i (by omega)).1 h4 h5)
      · obtain rfl : i = j := by omega
        exact ⟨hj, ej.symm⟩
  intro n m P Q hP hQ sP sQ hS
  have k1 := key n m P Q hP hQ sP sQ hS
  have k2 := key m n Q P hQ hP sQ sP (fun q => (hS q).symm)
  refine ⟨?_, fun i hi => (k1 i hi).2⟩
  rcases Nat.lt_trichotomy n m with h | h | h
  · have := (k2 n h).1; omega
  · exact h
  · have := (k1 m h).1; omega
/-- a point put into its place -/
def insAt (P : Nat → Pt3) (k : Nat) (p : Pt3) : Nat → Pt3 := fun i => if i < k then P i else if i = k then p else P (i - 1)
theorem insAt_set {n k : Nat} {P : Nat → Pt3} {p : Pt3} (hk : k ≤ n) (q : Pt3) : (∃ i, i < n + 1 ∧ insAt P k p i = q) ↔ ((∃ i, i < n ∧ P i = q) ∨ q = p) := by
  constructor
  · rintro ⟨i, hi, e⟩
    unfold insAt at e
    by_cases h1 : i < k
    · rw [if_pos h1] at e; exact Or.inl ⟨i, by omega, e⟩
    · rw [if_neg h1] at e
      by_cases h2 : i = k
      · rw [if_pos h2] at e; exact Or.inr e.symm
      · rw [if_neg h2] at e; exact Or.inl ⟨i - 1, by omega, e⟩
  · rintro (⟨i, hi, e⟩ | e)
    · by_cases h1 : i < k
      · exact ⟨i, by omega, by unfold insAt; rw [if_pos h1]; exact e⟩
      · exact ⟨i + 1, by omega, by unfold insAt; rw [if_neg (by omega), if_neg (by omega)]; exact e⟩
    · exact ⟨k, by omega, by unfold insAt; rw [if_neg (by omega), if_pos rfl]; exact e.symm⟩
theorem insAt_srt {n k : Nat} {P : Nat → Pt3} {p : Pt3} (hk : k ≤ n) (hP : ∀ i, i < n → pOK (P i)) (hp : pOK p) (sP : Srt n P) (h1 : ∀ i, i < k → plt (P i) p) (h2 : k < n → plt p (P k)) : Srt (n + 1) (insAt P k p) := by
  have h2' : ∀ i, k ≤ i → i < n → plt p (P i) := by
    intro i hi hn
    rcases Nat.lt_or_ge k i with h | h
    · exact plt_trans hp.1 (hP k (by omega)).1 (hP i hn).1 (h2 (by omega)) (sP k i h hn)
    · obtain rfl : k = i := by omega
      exact h2 hn
  intro i j hij hj
  unfold insAt
  by_cases a1 : j < k
  · rw [if_pos (by omega : i < k), if_pos a1]; exact sP i j hij (by omega)
  · rw [if_neg a1]
    by_cases a2 : j = k
    · rw [if_pos a2, if_pos (by omega : i < k)]; exact h1 i (by omega)
    · rw [if_neg a2]
      by_cases b1 : i < k
      · rw [if_pos b1]; exact sP i (j - 1) (by omega) (by omega)
      · rw [if_neg b1]
        by_cases b2 : i = k
        · rw [if_pos b2]; exact h2' (j - 1) (by omega) (by omega)
        · rw [if_neg b2]; exact sP (i - 1) (j - 1) (by omega) (by omega)
theorem insAt_ok {n k : Nat} {P : Nat → Pt3} {p : Pt3} (hk : k ≤ n) (hP : ∀ i, i < n → pOK (P i)) (hp : pOK p) : ∀ i, i < n + 1 → pOK (insAt P k p i) := by
  intro i hi
  unfold insAt
  by_cases h1 : i < k
  · rw [if_pos h1]; exact hP i (by omega)
  · rw [if_neg h1]
    by_cases h2 : i = k
    · rw [if_pos h2]; exact hp
    · rw [if_neg h2]; exact hP (i - 1) (by omega)
/-- to lowest terms -/
def redu (a b c : Nat) : Pt3 := (a / Nat.gcd (Nat.gcd a b) c, b / Nat.gcd (Nat.gcd a b) c, c / Nat.gcd (Nat.gcd a b) c)
theorem redu_ok {a b c : Nat} (h0 : 0 < c) (hc : c ≤ 288) (ha : a ≤ 12 * c) (hb : b ≤ 12 * c) : pOK (redu a b c) := by
  have hg : 0 < Nat.gcd (Nat.gcd a b) c := Nat.gcd_pos_of_pos_right _ h0
  have da : Nat.gcd (Nat.gcd a b) c ∣ a := Nat.dvd_trans (Nat.gcd_dvd_left _ _) (Nat.gcd_dvd_left _ _)
  have db : Nat.gcd (Nat.gcd a b) c ∣ b := Nat.dvd_trans (Nat.gcd_dvd_left _ _) (Nat.gcd_dvd_right _ _)
  have dc : Nat.gcd (Nat.gcd a b) c ∣ c := Nat.gcd_dvd_right _ _
  have key : Nat.gcd (Nat.gcd (a / Nat.gcd (Nat.gcd a b) c) (b / Nat.gcd (Nat.gcd a b) c)) (c / Nat.gcd (Nat.gcd a b) c) = 1 := by
    refine Nat.eq_of_mul_eq_mul_right hg ?_
    rw [← Nat.gcd_mul_right, ← Nat.gcd_mul_right, Nat.div_mul_cancel da, Nat.div_mul_cancel db, Nat.div_mul_cancel dc, Nat.one_mul]
  have hle : ∀ {z : Nat}, Nat.gcd (Nat.gcd a b) c ∣ z → z ≤ 12 * c → z / Nat.gcd (Nat.gcd a b) c ≤ 12 * (c / Nat.gcd (Nat.gcd a b) c) := by
    intro z dz hz
    rw [Nat.div_le_iff_le_mul_add_pred hg]
    have e : Nat.gcd (Nat.gcd a b) c * (12 * (c / Nat.gcd (Nat.gcd a b) c)) = 12 * c := by
      rw [← Nat.mul_assoc, Nat.mul_comm _ 12, Nat.mul_assoc, Nat.mul_div_cancel' dc]
    omega
  exact ⟨Nat.div_pos (Nat.le_of_dvd h0 dc) hg, Nat.le_trans (Nat.div_le_self _ _) hc, hle da ha, hle db hb, key⟩
