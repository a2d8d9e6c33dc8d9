/-! what lies on the right: the same at both ends of a piece -/
def Flow (m : Nat) (fm : Nat → Nat → Bool) (f : Nat → Nat → Int) : Prop := (∀ c d, f c d = - f d c) ∧ (∀ v, v < m → sm m (fun d => f v d) = 0) ∧ ∀ c d, f c d ≠ 0 → fm c d = true
def REb (Q : Nat → Pt3) (a b c d : Nat) : Bool := if c < a then decide (0 < dtp (Q c) (Q d) (Q a)) else if c = a then decide (d = b ∨ dtp (Q a) (Q b) (Q d) < 0) else decide (dtp (Q a) (Q b) (Q c) < 0)
def RR (Q : Nat → Pt3) (m : Nat) (f : Nat → Nat → Int) (v : Nat) : Int := sm m (fun c => sm m (fun d => if c < v ∧ v < d ∧ 0 < dtp (Q c) (Q d) (Q v) then f c d else 0))
def UU (Q : Nat → Pt3) (m : Nat) (f : Nat → Nat → Int) (a b : Nat) : Int := sm m (fun d => if a < d ∧ (d = b ∨ dtp (Q a) (Q b) (Q d) < 0) then f a d else 0)
def DD (Q : Nat → Pt3) (m : Nat) (f : Nat → Nat → Int) (b a : Nat) : Int := sm m (fun c => if c < b ∧ (c = a ∨ dtp (Q a) (Q b) (Q c) < 0) then f c b else 0)
theorem if_iff {p q : Prop} [Decidable p] [Decidable q] (h : p ↔ q) (x y : Int) : (if p then x else y) = if q then x else y := by
  by_cases hp : p
  · rw [if_pos hp, if_pos (h.mp hp)]
  · rw [if_neg hp, if_neg (fun z => hp (h.mpr z))]
/-- a summand that is 0 where its condition is doubtful -/
theorem if_nz {p q : Prop} [Decidable p] [Decidable q] {x : Int} (h : x ≠ 0 → (p ↔ q)) : (if p then x else 0) = if q then x else 0 := by
  by_cases hx : x = 0
  · rw [hx]; split <;> split <;> rfl
  · exact if_iff (h hx) x 0
theorem om_cut {w h nl : Nat} {ld : Nat → Ln} {m : Nat} {Q : Nat → Pt3} {fm : Nat → Nat → Bool} (hM : Mesh w h nl ld m Q fm) {f : Nat → Nat → Int} (hf : Flow m fm f) {a b : Nat} (hab : a < b) (he : fm a b = true) {lo1 lo2 : Nat → Bool} (c1 : ∀ v, v ≤ a → lo1 v = true) (c2 : ∀ v, lo1 v = true → lo2 v = true) (c3 : ∀ v, lo2 v = true → v < b) (c4 : ∀ u v, u ≤ v → lo1 v = true → lo1 u = true) (c5 : ∀ u v, u ≤ v → lo2 v = true → lo2 u = true) : SS m f lo1 (REb Q a b) = SS m f lo2 (REb Q a b) := by
  have hX := Mesh_Mx hM
  have pab := (fm_ad hM he).2.2.2.2.1 hab
  refine cut_eq (r := fun v => decide (dtp (Q a) (Q b) (Q v) < 0)) (fun c d _ _ => hf.1 c d) hf.2.1 (fun v _ => c2 v) (fun c d _ _ nz l1 l2 l3 => ?_) (fun c d _ _ nz l1 l2 l3 => ?_) (fun c d _ _ nz l1 l2 l3 l4 => ?_)
  · have ca : ¬ c ≤ a := fun z => by rw [c1 c z] at l2; cases l2
    unfold REb
    rw [if_neg (by omega), if_neg (by omega)]
  · have fcd := hf.2.2 c d nz
    have da : ¬ d ≤ a := fun z => by rw [c1 d z] at l3; cases l3
    have db := c3 d l2
    have cd : c < d := by
      rcases Nat.lt_or_ge c d with z | z
      · exact z
      · rw [c4 d c z l1] at l3; cases l3
    have pcd := (fm_ad hM fcd).2.2.2.2.1 cd
    unfold REb
    by_cases q : c < a
    · rw [if_pos q, decide_eq_decide]
      have n1 := pl_in hX pcd q (show a < d by omega)
      have n2 := pl_in hX pab (v := d) (by omega) db
      have k := pl_n2 hX pcd pab q (by omega) db
      omega
    · rw [if_neg q]
      by_cases q2 : c = a
      · rw [if_pos q2, decide_eq_decide]
        constructor
        · rintro (z | z)
          · omega
          · exact z
        · exact Or.inr
      · -- c is above a and below the first cut
        rw [if_neg q2, decide_eq_decide]
        exact pl_n1 hX pab pcd (by omega) db
  · have fcd := hf.2.2 c d nz
    have ca : ¬ c ≤ a := fun z => by rw [c1 c z] at l2; cases l2
    have da : ¬ d ≤ a := fun z => by rw [c1 d z] at l4; cases l4
    have cb := c3 c l1
    have db := c3 d l3
    obtain ⟨-, -, ne, -, k1, k2⟩ := fm_ad hM fcd
    rw [decide_eq_decide]
    rcases Nat.lt_or_gt_of_ne ne with z | z
    · exact pl_n1 hX pab (k1 z) (by omega) db
    · exact (pl_n1 hX pab (k2 z) (by omega) cb).symm
theorem om_low {w h nl : Nat} {ld : Nat → Ln} {m : Nat} {Q : Nat → Pt3} {fm : Nat → Nat → Bool} (hM : Mesh w h nl ld m Q fm) {f : Nat → Nat → Int} {a b : Nat} (ha : a < m) : SS m f (fun v => decide (v ≤ a)) (REb Q a b) = RR Q m f a + UU Q m f a b := by
  have e : ∀ c, c < m → sm m (fun d => if (decide (c ≤ a) && !decide (d ≤ a) && REb Q a b c d) = true then f c d else 0) = sm m (fun d => if c < a ∧ a < d ∧ 0 < dtp (Q c) (Q d) (Q a) then f c d else 0) + (if c = a then UU Q m f a b else 0) := by
    intro c hc
    by_cases q : c = a
    · subst q
      rw [if_pos rfl, sm_0 (f := fun d => if c < c ∧ c < d ∧ 0 < dtp (Q c) (Q d) (Q c) then f c d else 0) (fun d _ => if_neg (by omega)), Int.zero_add]
      unfold UU REb
      refine sm_congr (fun d _ => if_iff ?_ _ _)
      simp
    · rw [if_neg q, Int.add_zero]
      refine sm_congr (fun d _ => if_iff ?_ _ _)
      unfold REb
      by_cases z : c < a
      · simp [z, Nat.le_of_lt z]
      · simp; omega
  unfold SS
  rw [sm_congr e, sm_add, sm_one ha (fun _ => UU Q m f a b)]
  rfl
theorem om_high {w h nl : Nat} {ld : Nat → Ln} {m : Nat} {Q : Nat → Pt3} {fm : Nat → Nat → Bool} (hM : Mesh w h nl ld m Q fm) {f : Nat → Nat → Int} (hf : Flow m fm f) {a b : Nat} (hab : a < b) (he : fm a b = true) : SS m f (fun v => decide (v < b)) (REb Q a b) = RR Q m f b + DD Q m f b a := by
  have hX := Mesh_Mx hM
  obtain ⟨ha, hb, -, -, k1, -⟩ := fm_ad hM he
  have pab := k1 hab
  have e : ∀ c d, c < m → d < m → (if (decide (c < b) && !decide (d < b) && REb Q a b c d) = true then f c d else 0) = (if c < b ∧ b < d ∧ 0 < dtp (Q c) (Q d) (Q b) then f c d else 0) + (if d = b then (if c < b ∧ (c = a ∨ dtp (Q a) (Q b) (Q c) < 0) then f c d else 0) else 0) := by
    intro c d hc hd
    by_cases q : d = b
    · subst q
      rw [if_pos rfl, if_neg (c := c < d ∧ d < d ∧ 0 < dtp (Q c) (Q d) (Q d)) (by omega), Int.zero_add]
      refine if_iff ?_ _ _
      unfold REb
      by_cases z : c < a
      · rw [if_pos z]
        have : dtp (Q c) (Q d) (Q a) = - dtp (Q a) (Q d) (Q c) := by unfold dtp; grind
        simp only [Bool.and_eq_true, decide_eq_true_eq, Bool.not_eq_true', decide_eq_false_iff_not]
        omega
      · rw [if_neg z]
        by_cases z2 : c = a
        · rw [if_pos z2]; simp [z2]
        · rw [if_neg z2]; simp [z2]
    · rw [if_neg q, Int.add_zero]
      refine if_nz (fun nz => ?_)
      simp only [Bool.and_eq_true, decide_eq_true_eq, Bool.not_eq_true', decide_eq_false_iff_not]
      have fcd := hf.2.2 c d nz
      by_cases cb : c < b ∧ b < d
      · have pcd := (fm_ad hM fcd).2.2.2.2.1 (by omega)
        have key : REb Q a b c d = true ↔ 0 < dtp (Q c) (Q d) (Q b) := by
          unfold REb
          by_cases z : c < a
          · rw [if_pos z, decide_eq_true_iff]
            have n1 := pl_in hX pcd z (show a < d by omega)
            have n2 := pl_in hX pcd (v := b) cb.1 cb.2
            have k := pl_n1 hX pcd pab z cb.2
            omega
          · rw [if_neg z]
            by_cases z2 : c = a
            · subst z2
              rw [if_pos rfl, decide_eq_true_iff, dtp_sw2]
              omega
            · rw [if_neg z2, decide_eq_true_iff]
              exact pl_n2 hX pab pcd (by omega) cb.1 cb.2
        rw [key]
        omega
      · omega
  unfold SS
  rw [sm_congr (fun c hc => sm_congr (fun d hd => e c d hc hd))]
  rw [sm_congr (fun c _ => sm_add m _ _), sm_add]
  congr 1
  unfold DD
  exact sm_congr (fun c _ => sm_one hb (fun d => if c < b ∧ (c = a ∨ dtp (Q a) (Q b) (Q c) < 0) then f c d else 0))
theorem om_key {w h nl : Nat} {ld : Nat → Ln} {m : Nat} {Q : Nat → Pt3} {fm : Nat → Nat → Bool} (hM : Mesh w h nl ld m Q fm) {f : Nat → Nat → Int} (hf : Flow m fm f) {a b : Nat} (hab : a < b) (he : fm a b = true) : RR Q m f a + UU Q m f a b = RR Q m f b + DD Q m f b a := by
  have ha := (fm_ad hM he).1
  rw [← om_low hM ha, ← om_high hM hf hab he]
  refine om_cut hM hf hab he (fun v hv => decide_eq_true hv) (fun v hv => ?_) (fun v hv => of_decide_eq_true hv) (fun u v huv hv => ?_) (fun u v huv hv => ?_)
  · have := of_decide_eq_true hv
    exact decide_eq_true (by omega)
  · have := of_decide_eq_true hv
    exact decide_eq_true (by omega)
  · have := of_decide_eq_true hv
    exact decide_eq_true (by omega)
