/-! turning a window: points -/
abbrev T4 : Type := Nat × Nat × Nat × Nat
def trn : Nat → T4 → T4
  | 0, s => s
  | q + 1, s => ((trn q s).2.2.2 - (trn q s).2.1, (trn q s).1, (trn q s).2.2.2, (trn q s).2.2.1)
def wq (w h q : Nat) : Nat := if q % 2 = 0 then w else h
def im (w h q : Nat) (o : Bool) (p : Pt3) : Pt3 := ((if o = true then (trn q (p.1, p.2.1, w * p.2.2, h * p.2.2)).2.2.1 - (trn q (p.1, p.2.1, w * p.2.2, h * p.2.2)).1 else (trn q (p.1, p.2.1, w * p.2.2, h * p.2.2)).1), (trn q (p.1, p.2.1, w * p.2.2, h * p.2.2)).2.1, p.2.2)
theorem gcd_less {a b d k : Nat} (h : a ≤ k * d) : Nat.gcd (Nat.gcd (k * d - a) b) d = Nat.gcd (Nat.gcd a b) d := by
  rw [Nat.gcd_assoc, Nat.gcd_assoc, Nat.gcd_comm b d, ← Nat.gcd_assoc, ← Nat.gcd_assoc]
  congr 1
  have e : k * d - a + a = k * d := by omega
  apply Nat.dvd_antisymm
  · apply Nat.dvd_gcd
    · have h1 : Nat.gcd (k * d - a) d ∣ k * d := Nat.dvd_trans (Nat.gcd_dvd_right _ _) (Nat.dvd_mul_left _ _)
      have h2 : Nat.gcd (k * d - a) d ∣ k * d - a := Nat.gcd_dvd_left _ _
      exact (Nat.dvd_add_right h2).mp (by rw [e]; exact h1)
    · exact Nat.gcd_dvd_right _ _
  · apply Nat.dvd_gcd
    · have h1 : Nat.gcd a d ∣ k * d := Nat.dvd_trans (Nat.gcd_dvd_right _ _) (Nat.dvd_mul_left _ _)
      have h2 : Nat.gcd a d ∣ a := Nat.gcd_dvd_left _ _
      exact (Nat.dvd_add_left h2).mp (by rw [e]; exact h1)
    · exact Nat.gcd_dvd_right _ _
theorem trn_ok {w h : Nat} {p : Pt3} (h1 : p.1 ≤ w * p.2.2) (h2 : p.2.1 ≤ h * p.2.2) : ∀ q, (trn q (p.1, p.2.1, w * p.2.2, h * p.2.2)).2.2 = (wq w h q * p.2.2, wq h w q * p.2.2) ∧ (trn q (p.1, p.2.1, w * p.2.2, h * p.2.2)).1 ≤ wq w h q * p.2.2 ∧ (trn q (p.1, p.2.1, w * p.2.2, h * p.2.2)).2.1 ≤ wq h w q * p.2.2 ∧ Nat.gcd (Nat.gcd (trn q (p.1, p.2.1, w * p.2.2, h * p.2.2)).1 (trn q (p.1, p.2.1, w * p.2.2, h * p.2.2)).2.1) p.2.2 = Nat.gcd (Nat.gcd p.1 p.2.1) p.2.2 := by
  intro q
  induction q with
  | zero => exact ⟨rfl, h1, h2, rfl⟩
  | succ q ih =>
    generalize e : trn q (p.1, p.2.1, w * p.2.2, h * p.2.2) = s at ih
    obtain ⟨x, y, W, H⟩ := s
    obtain ⟨i1, i2, i3, i4⟩ := ih
    dsimp only at i1 i2 i3 i4
    have e1 : W = wq w h q * p.2.2 := congrArg Prod.fst i1
    have e2 : H = wq h w q * p.2.2 := congrArg Prod.snd i1
    have s1 : wq w h (q + 1) = wq h w q := by
      unfold wq
      by_cases z : q % 2 = 0
      · rw [if_pos z, if_neg (by omega)]
      · rw [if_neg z, if_pos (by omega)]
    have s2 : wq h w (q + 1) = wq w h q := by
      unfold wq
      by_cases z : q % 2 = 0
      · rw [if_pos z, if_neg (by omega)]
      · rw [if_neg z, if_pos (by omega)]
    have et : trn (q + 1) (p.1, p.2.1, w * p.2.2, h * p.2.2) = (H - y, x, H, W) := by
      show ((trn q _).2.2.2 - (trn q _).2.1, (trn q _).1, (trn q _).2.2.2, (trn q _).2.2.1) = _
      rw [e]
    rw [et, s1, s2]
    refine ⟨by rw [e1, e2], ?_, ?_, ?_⟩
    · show H - y ≤ _; omega
    · show x ≤ _; omega
    · show Nat.gcd (Nat.gcd (H - y) x) p.2.2 = _
      rw [e2, gcd_less i3, Nat.gcd_comm y x]
      exact i4
theorem wq_le {w h q : Nat} (h1 : w ≤ 12) (h2 : h ≤ 12) : wq w h q ≤ 12 := by unfold wq; split <;> omega
theorem im_ok {w h : Nat} (hw : w ≤ 12) (hh : h ≤ 12) {p : Pt3} (hp : pOK p) (h1 : p.1 ≤ w * p.2.2) (h2 : p.2.1 ≤ h * p.2.2) (q : Nat) (o : Bool) : pOK (im w h q o p) := by
  obtain ⟨t1, t2, t3, t4⟩ := trn_ok h1 h2 q
  obtain ⟨p1, p2, p3, p4, p5⟩ := hp
  have l1 : wq w h q * p.2.2 ≤ 12 * p.2.2 := Nat.mul_le_mul_right _ (wq_le hw hh)
  have l2 : wq h w q * p.2.2 ≤ 12 * p.2.2 := Nat.mul_le_mul_right _ (wq_le hh hw)
  have e1 : (trn q (p.1, p.2.1, w * p.2.2, h * p.2.2)).2.2.1 = wq w h q * p.2.2 := congrArg Prod.fst t1
  unfold im
  refine ⟨p1, p2, ?_, ?_, ?_⟩
  · show (if o = true then (trn q (p.1, p.2.1, w * p.2.2, h * p.2.2)).2.2.1 - (trn q (p.1, p.2.1, w * p.2.2, h * p.2.2)).1 else (trn q (p.1, p.2.1, w * p.2.2, h * p.2.2)).1) ≤ 12 * p.2.2
    split
    · rw [e1]; omega
    · omega
  · show (trn q (p.1, p.2.1, w * p.2.2, h * p.2.2)).2.1 ≤ 12 * p.2.2
    omega
  · show Nat.gcd (Nat.gcd (if o = true then _ else _) _) _ = 1
    split
    · rw [e1, gcd_less t2, t4]; exact p5
    · rw [t4]; exact p5
theorem ob_x5s {A1 A2 A3 A4 A5 R : Type} {e : Option (Nat × A1 × A2 × A3 × A4 × A5)} {a : A1} {b : A2} {c : A3} {d : A4} {v : A5} (h : e = some (0, (a, b, c, d, v))) (F : A1 → A2 → A3 → A4 → A5 → Option R) : ob e (fun kt => ex1 kt (fun t => dm5 t F)) = F a b c d v := by subst h; rfl
theorem trnX {w h q : Nat} (hw : w ≤ 12) (hh : h ≤ 12) (hq : q ≤ 4) {p : Pt3} (hp : pOK p) (h1 : p.1 ≤ w * p.2.2) (h2 : p.2.1 ≤ h * p.2.2) : iter (bX5_imageOf_63 (nI q)) FU (nI p.1, nI p.2.1, nI (w * p.2.2), nI (h * p.2.2), (0 : Int32)) = some (0, (nI (trn q (p.1, p.2.1, w * p.2.2, h * p.2.2)).1, nI (trn q (p.1, p.2.1, w * p.2.2, h * p.2.2)).2.1, nI (trn q (p.1, p.2.1, w * p.2.2, h * p.2.2)).2.2.1, nI (trn q (p.1, p.2.1, w * p.2.2, h * p.2.2)).2.2.2, nI q)) := by
  obtain ⟨s, e1, _⟩ := iter_for (S := Unit) (B := bX5_imageOf_63 (nI q)) (fun i _ => (nI (trn i (p.1, p.2.1, w * p.2.2, h * p.2.2)).1, nI (trn i (p.1, p.2.1, w * p.2.2, h * p.2.2)).2.1, nI (trn i (p.1, p.2.1, w * p.2.2, h * p.2.2)).2.2.1, nI (trn i (p.1, p.2.1, w * p.2.2, h * p.2.2)).2.2.2, nI i)) q (fun _ _ => True) 0 () trivial (by omega) (by omega) (fun i _ _ hi _ => by
    refine ⟨(), ?_, trivial⟩
    obtain ⟨t1, t2, t3, t4⟩ := trn_ok h1 h2 i
    have e2 : (trn i (p.1, p.2.1, w * p.2.2, h * p.2.2)).2.2.2 = wq h w i * p.2.2 := congrArg Prod.snd t1
    unfold bX5_imageOf_63
    simp only [dm5]
    rw [if_neg (by rw [nI_leS (by omega) (by omega)]; omega), lt_v, lt_v, pk_sub (by rw [e2]; exact t3), nI_1]
    rfl) (fun _ _ => by
    unfold bX5_imageOf_63
    simp only [dm5]
    rw [if_pos (by rw [nI_leS (by omega) (by omega)]; omega)])
  exact e1
theorem idx_ok {m : Nat} (hm : m ≤ 128) {Q : Nat → Pt3} (hQ : ∀ i, i < m → pOK (Q i)) {u x y : Nat → Int32} (hJ : JR m Q u x y) {p : Pt3} (hp : pOK p) : (∃ j, j < m ∧ Q j = p ∧ (∀ k, k < j → ¬ Q k = p) ∧ sX4_indexOf (nI p.1) (nI p.2.1) (nI p.2.2) (nI m) u x y = some (nI j)) ∨ ((∀ k, k < m → ¬ Q k = p) ∧ sX4_indexOf (nI p.1) (nI p.2.1) (nI p.2.2) (nI m) u x y = some (-1)) := by
  obtain ⟨p1, p2, p3, p4, p5⟩ := hp
  rcases iter_first (B := bX4_indexOf_3 (nI p.1) (nI p.2.1) (nI p.2.2) (nI m) u x y) m (fun k => Q k = p) 0 (by omega) (by omega) (fun k _ k2 => by
    obtain ⟨ia, ca⟩ := ix_c (i := k) (n := 129) (by omega) (by omega)
    obtain ⟨j1, j2, j3⟩ := hJ k k2
    obtain ⟨q1, q2, q3, q4, q5⟩ := hQ k k2
    have st : bX4_indexOf_3 (nI p.1) (nI p.2.1) (nI p.2.2) (nI m) u x y (nI k) = (if ¬ (Q k).1 = p.1 then some (0, nI (k + 1)) else if ¬ (Q k).2.1 = p.2.1 then some (0, nI (k + 1)) else if ¬ (Q k).2.2 = p.2.2 then some (0, nI (k + 1)) else some (1, nI k)) := by
      unfold bX4_indexOf_3
      rw [dm1, if_neg (by rw [nI_leS (by omega) (by omega)]; omega)]
      simp only [gd_s ia]
      simp (disch := omega) only [ca, j1, j2, j3, nI_eqS, lt, nI_1]
    rw [st]
    by_cases z1 : (Q k).1 = p.1
    · rw [if_neg (fun z => z z1)]
      by_cases z2 : (Q k).2.1 = p.2.1
      · rw [if_neg (fun z => z z2)]
        by_cases z3 : (Q k).2.2 = p.2.2
        · right
          exact ⟨Prod.ext z1 (Prod.ext z2 z3), by rw [if_neg (fun z => z z3)]⟩
        · left
          exact ⟨fun z => z3 (by rw [z]), by rw [if_pos z3]⟩
      · left
        exact ⟨fun z => z2 (by rw [z]), by rw [if_pos z2]⟩
    · left
      exact ⟨fun z => z1 (by rw [z]), by rw [if_pos z1]⟩) (by
    unfold bX4_indexOf_3
    rw [dm1, if_pos (by rw [nI_leS (by omega) (by omega)]; omega)]) with ⟨k, _, k2, k3, k4, k5⟩ | ⟨k1, k2⟩
  · left
    refine ⟨k, k2, k3, fun j hj => k4 j (Nat.zero_le _) hj, ?_⟩
    unfold sX4_indexOf
    rw [show (0 : Int32) = nI 0 from rfl, ob_x2a k5]; rfl
  · right
    refine ⟨fun j hj => k1 j (Nat.zero_le _) hj, ?_⟩
    unfold sX4_indexOf
    rw [show (0 : Int32) = nI 0 from rfl, ob_x2b k2]; rfl
theorem fnd_ok {m : Nat} (hm : m ≤ 128) {Q : Nat → Pt3} (hQ : ∀ i, i < m → pOK (Q i)) {d x y : Nat → Int64} (hJ : JL m Q d x y) {p : Pt3} (hp : pOK p) : (∃ j, j < m ∧ Q j = p ∧ (∀ k, k < j → ¬ Q k = p) ∧ sX10_find (lN p.1) (lN p.2.1) (lN p.2.2) (nI m) d x y = some (nI j)) ∨ ((∀ k, k < m → ¬ Q k = p) ∧ sX10_find (lN p.1) (lN p.2.1) (lN p.2.2) (nI m) d x y = some (-1)) := by
  rcases iter_first (B := bX10_find_3 (lN p.1) (lN p.2.1) (lN p.2.2) (nI m) d x y) m (fun k => Q k = p) 0 (by omega) (by omega) (fun k _ k2 => by
    have od := mord_ok hp (hQ k k2) (k := k) (by omega) (hJ k k2)
    unfold bX10_find_3
    rw [dm1, if_neg (by rw [nI_leS (by omega) (by omega)]; omega), ob_d1 od]
    by_cases z : sg3 p (Q k) = 0
    · right
      refine ⟨(pcmp_eq hp (hQ k k2) (sg3_0.mp z)).symm, by rw [if_neg (fun y => y z)]⟩
    · left
      refine ⟨fun y => z (sg3_0.mpr (by rw [y]; exact pcmp_self p)), by rw [if_pos z, lt_v, nI_1]⟩) (by
    unfold bX10_find_3
    rw [dm1, if_pos (by rw [nI_leS (by omega) (by omega)]; omega)]) with ⟨k, _, k2, k3, k4, k5⟩ | ⟨k1, k2⟩
  · left
    refine ⟨k, k2, k3, fun j hj => k4 j (Nat.zero_le _) hj, ?_⟩
    unfold sX10_find
    rw [show (0 : Int32) = nI 0 from rfl, ob_x2a k5]; rfl
  · right
    refine ⟨fun j hj => k1 j (Nat.zero_le _) hj, ?_⟩
    unfold sX10_find
    rw [show (0 : Int32) = nI 0 from rfl, ob_x2b k2]; rfl
