/-! a pane's area is not below 0 and not above that of the window -/
/-- joints' places as whole numbers over one denominator L -/
def sX (Q : Nat → Pt3) (L : Nat) (i : Nat) : Int := (Q i).1 * ((L / (Q i).2.2 : Nat) : Int)
def sY (Q : Nat → Pt3) (L : Nat) (i : Nat) : Int := (Q i).2.1 * ((L / (Q i).2.2 : Nat) : Int)
def gX (Q : Nat → Pt3) (L : Nat) (s : St) : Int := sX Q L s.1 * sY Q L s.2 - sX Q L s.2 * sY Q L s.1
def dvL (L : Nat) : Prop := 0 < L ∧ ∀ d, 0 < d → d ≤ 288 → d ∣ L
theorem tele (φ : Nat → Int) {c d : Nat} : ∀ n, c ≤ d → d ≤ n → sm n (fun k => if c ≤ k ∧ k < d then φ (k + 1) - φ k else 0) = φ d - φ c := by
  intro n
  induction n generalizing d with
  | zero => intro h1 h2; obtain rfl : c = d := by omega
            rw [show sm 0 _ = 0 from rfl]; omega
  | succ n ih =>
    intro h1 h2
    rw [sm_s]
    by_cases q : d = n + 1
    · subst q
      by_cases z : c = n + 1
      · subst z
        rw [if_neg (by omega), sm_0 (fun i hi => if_neg (by omega))]; omega
      · rw [if_pos ⟨by omega, by omega⟩]
        have e := ih (d := n) (by omega) (Nat.le_refl _)
        rw [sm_congr (g := fun k => if c ≤ k ∧ k < n then φ (k + 1) - φ k else 0) (fun i hi => if_iff (by omega) _ _), e]
        omega
    · rw [if_neg (by omega), ih h1 (by omega)]; omega
theorem layer {ξ : Int} (h0 : 0 ≤ ξ) : ∀ M : Nat, sm M (fun t => if (t : Int) < ξ then 1 else 0) = min ξ M := by
  intro M
  induction M with
  | zero => rw [show sm 0 _ = 0 from rfl]; omega
  | succ M ih =>
    rw [sm_s, ih]
    split <;> omega
theorem fact_ex : ∀ n : Nat, ∃ Ω : Nat, 0 < Ω ∧ ∀ j, 0 < j → j ≤ n → j ∣ Ω := by
  intro n
  induction n with
  | zero => exact ⟨1, by omega, fun j h1 h2 => by omega⟩
  | succ n ih =>
    obtain ⟨Ω, h1, h2⟩ := ih
    refine ⟨Ω * (n + 1), Nat.mul_pos h1 (by omega), fun j a b => ?_⟩
    by_cases q : j = n + 1
    · rw [q]; exact Nat.dvd_mul_left _ _
    · exact Nat.dvd_trans (h2 j a (by omega)) (Nat.dvd_mul_right _ _)
theorem sc_facts {Q : Nat → Pt3} {L : Nat} (hL : dvL L) {i : Nat} (hi : pB (Q i)) : 0 ≤ sX Q L i ∧ sX Q L i ≤ 12 * L ∧ 0 ≤ sY Q L i ∧ sY Q L i ≤ 12 * L ∧ sX Q L i * (Q i).2.2 = (Q i).1 * L ∧ sY Q L i * (Q i).2.2 = (Q i).2.1 * L := by
  obtain ⟨d0, d1, d2, d3⟩ := hi
  obtain ⟨e, he⟩ := hL.2 _ d0 d1
  have ee : L / (Q i).2.2 = e := by rw [he, Nat.mul_div_cancel_left _ d0]
  unfold sX sY
  rw [ee]
  have hL' : (L : Int) = (Q i).2.2 * e := by rw [he, Int.natCast_mul]
  have m1 := Nat.mul_le_mul_right e d2
  have m2 := Nat.mul_le_mul_right e d3
  have x1 : (Q i).1 * e ≤ 12 * L := by rw [he]; have : 12 * (Q i).2.2 * e = 12 * ((Q i).2.2 * e) := by grind
                                       omega
  have x2 : (Q i).2.1 * e ≤ 12 * L := by rw [he]; have : 12 * (Q i).2.2 * e = 12 * ((Q i).2.2 * e) := by grind
                                         omega
  refine ⟨?_, ?_, ?_, ?_, by rw [hL']; grind, by rw [hL']; grind⟩
  · rw [← Int.natCast_mul]; omega
  · rw [← Int.natCast_mul]; omega
  · rw [← Int.natCast_mul]; omega
  · rw [← Int.natCast_mul]; omega
def Y1 (p q : Pt3) : Int := Hf 1 0 p q
theorem Y1_sc {Q : Nat → Pt3} {L : Nat} (hL : dvL L) {c d : Nat} (hc : pB (Q c)) (hd : pB (Q d)) : (L : Int) * Hf 1 0 (Q c) (Q d) = (Q c).2.2 * (Q d).2.2 * (sY Q L d - sY Q L c) := by
  obtain ⟨-, -, -, -, -, e1⟩ := sc_facts hL hc
  obtain ⟨-, -, -, -, -, e2⟩ := sc_facts hL hd
  unfold Hf
  grind
/-- the sheer order of two pieces at the middle of a strip -/
theorem mid_sc {Q : Nat → Pt3} {L : Nat} (hL : dvL L) {c d k k' : Nat} (hc : pB (Q c)) (hd : pB (Q d)) (hk : pB (Q k)) (hk' : pB (Q k')) : (L : Int) * L * dtp (Q c) (Q d) (cmb (Q k').2.2 (Q k).2.2 (Q k) (Q k')) = (Q c).2.2 * (Q d).2.2 * ((Q k).2.2 * (Q k').2.2) * ((sX Q L d - sX Q L c) * (sY Q L k + sY Q L k' - 2 * sY Q L c) - (sY Q L d - sY Q L c) * (sX Q L k + sX Q L k' - 2 * sX Q L c)) := by
  obtain ⟨-, -, -, -, a1, a2⟩ := sc_facts hL hc
  obtain ⟨-, -, -, -, b1, b2⟩ := sc_facts hL hd
  obtain ⟨-, -, -, -, c1, c2⟩ := sc_facts hL hk
  obtain ⟨-, -, -, -, d1, d2⟩ := sc_facts hL hk'
  unfold cmb dtp
  dsimp only
  simp only [Int.natCast_add, Int.natCast_mul]
  generalize sX Q L c = xc at *
  generalize sY Q L c = yc at *
  generalize sX Q L d = xd at *
  generalize sY Q L d = yd at *
  generalize sX Q L k = xk at *
  generalize sY Q L k = yk at *
  generalize sX Q L k' = xl at *
  generalize sY Q L k' = yl at *
  generalize ((Q c).1 : Int) = Xc at *
  generalize ((Q c).2.1 : Int) = Yc at *
  generalize ((Q c).2.2 : Int) = Dc at *
  generalize ((Q d).1 : Int) = Xd at *
  generalize ((Q d).2.1 : Int) = Yd at *
  generalize ((Q d).2.2 : Int) = Dd at *
  generalize ((Q k).1 : Int) = Xk at *
  generalize ((Q k).2.1 : Int) = Yk at *
  generalize ((Q k).2.2 : Int) = Dk at *
  generalize ((Q k').1 : Int) = Xl at *
  generalize ((Q k').2.1 : Int) = Yl at *
  generalize ((Q k').2.2 : Int) = Dl at *
  generalize (L : Int) = M at *
  -- cross products of scaled points
  have cd : M * M * (Xc * Yd - Xd * Yc) = Dc * Dd * (xc * yd - xd * yc) * 1 := by grind
  have e1 : M * M * (Xc * (Yd * (Dl * Dk + Dk * Dl) - (Dl * Yk + Dk * Yl) * Dd) - Yc * (Xd * (Dl * Dk + Dk * Dl) - (Dl * Xk + Dk * Xl) * Dd) + Dc * (Xd * (Dl * Yk + Dk * Yl) - (Dl * Xk + Dk * Xl) * Yd)) = (M * Xc) * (M * Yd) * (2 * (Dk * Dl)) - (M * Xc) * Dd * (Dl * (M * Yk) + Dk * (M * Yl)) - (M * Yc) * (M * Xd) * (2 * (Dk * Dl)) + (M * Yc) * Dd * (Dl * (M * Xk) + Dk * (M * Xl)) + Dc * ((M * Xd) * (Dl * (M * Yk) + Dk * (M * Yl)) - (Dl * (M * Xk) + Dk * (M * Xl)) * (M * Yd)) := by grind
  rw [e1]
  have f1 : M * Xc = xc * Dc := by rw [a1, Int.mul_comm]
  have f2 : M * Yc = yc * Dc := by rw [a2, Int.mul_comm]
  have f3 : M * Xd = xd * Dd := by rw [b1, Int.mul_comm]
  have f4 : M * Yd = yd * Dd := by rw [b2, Int.mul_comm]
  have f5 : M * Xk = xk * Dk := by rw [c1, Int.mul_comm]
  have f6 : M * Yk = yk * Dk := by rw [c2, Int.mul_comm]
  have f7 : M * Xl = xl * Dl := by rw [d1, Int.mul_comm]
  have f8 : M * Yl = yl * Dl := by rw [d2, Int.mul_comm]
  rw [f1, f2, f3, f4, f5, f6, f7, f8]
  clear cd e1 f1 f2 f3 f4 f5 f6 f7 f8 a1 a2 b1 b2 c1 c2 d1 d2
  grind
