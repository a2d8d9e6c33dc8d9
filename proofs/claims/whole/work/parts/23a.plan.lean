/-! pieces don't cross -/
def dtp (p q r : Pt3) : Int := (p.1 : Int) * (q.2.1 * r.2.2 - r.2.1 * q.2.2) - p.2.1 * (q.1 * r.2.2 - r.1 * q.2.2) + p.2.2 * (q.1 * r.2.1 - r.1 * q.2.1)
def hz (p : Pt3) : Int := 1000000 * (p.2.1 : Int) + p.1
def hh (p q : Pt3) : Int := hz q * p.2.2 - hz p * q.2.2
def pB (p : Pt3) : Prop := 0 < p.2.2 ∧ p.2.2 ≤ 288 ∧ p.1 ≤ 12 * p.2.2 ∧ p.2.1 ≤ 12 * p.2.2
theorem pB_of {p : Pt3} (h : pOK p) : pB p := ⟨h.1, h.2.1, h.2.2.1, h.2.2.2.1⟩
theorem hh_neg (p q : Pt3) : hh q p = - hh p q := by unfold hh; grind
theorem hh_pos {p q : Pt3} (hp : pB p) (hq : pB q) : 0 < hh p q ↔ plt p q := by
  obtain ⟨p1, p2, p3, p4⟩ := hp
  obtain ⟨q1, q2, q3, q4⟩ := hq
  rw [plt_iff]
  have e : hh p q = 1000000 * (((q.2.1 * p.2.2 : Nat) : Int) - ((p.2.1 * q.2.2 : Nat) : Int)) + (((q.1 * p.2.2 : Nat) : Int) - ((p.1 * q.2.2 : Nat) : Int)) := by unfold hh hz; grind
  have h1 : p.1 * q.2.2 ≤ 3456 * 288 := Nat.mul_le_mul (by omega) (by omega)
  have h2 : q.1 * p.2.2 ≤ 3456 * 288 := Nat.mul_le_mul (by omega) (by omega)
  rw [e]
  omega
theorem dtp_cyc (p q r : Pt3) : dtp q r p = dtp p q r := by unfold dtp; grind
theorem dtp_sw (p q r : Pt3) : dtp q p r = - dtp p q r := by unfold dtp; grind
theorem dtp_sw2 (p q r : Pt3) : dtp p r q = - dtp p q r := by unfold dtp; grind
theorem hh3 (y u v w : Pt3) : hh y u * dtp y v w - hh y v * dtp y u w + hh y w * dtp y u v = 0 := by unfold hh hz dtp; grind
theorem grX (a b c d : Pt3) : - dtp b c d * (a.1 : Int) + dtp a c d * b.1 = dtp a b d * c.1 - dtp a b c * d.1 := by unfold dtp; grind
theorem grY (a b c d : Pt3) : - dtp b c d * (a.2.1 : Int) + dtp a c d * b.2.1 = dtp a b d * c.2.1 - dtp a b c * d.2.1 := by unfold dtp; grind
theorem grD (a b c d : Pt3) : - dtp b c d * (a.2.2 : Int) + dtp a c d * b.2.2 = dtp a b d * c.2.2 - dtp a b c * d.2.2 := by unfold dtp; grind
/-- the point that p and q make with weights -/
def cmb (s t : Nat) (p q : Pt3) : Pt3 := (s * p.1 + t * q.1, s * p.2.1 + t * q.2.1, s * p.2.2 + t * q.2.2)
theorem plt_cmb {p q : Pt3} {s t : Nat} (hs : 0 < s) (ht : 0 < t) (h : plt p q) : plt p (cmb s t p q) ∧ plt (cmb s t p q) q := by
  rw [plt_iff] at h
  rw [plt_iff, plt_iff]
  unfold cmb
  dsimp only
  have e1 : p.2.1 * (s * p.2.2 + t * q.2.2) = s * (p.2.1 * p.2.2) + t * (p.2.1 * q.2.2) := by grind
  have e2 : (s * p.2.1 + t * q.2.1) * p.2.2 = s * (p.2.1 * p.2.2) + t * (q.2.1 * p.2.2) := by grind
  have e3 : p.1 * (s * p.2.2 + t * q.2.2) = s * (p.1 * p.2.2) + t * (p.1 * q.2.2) := by grind
  have e4 : (s * p.1 + t * q.1) * p.2.2 = s * (p.1 * p.2.2) + t * (q.1 * p.2.2) := by grind
  have e5 : (s * p.2.1 + t * q.2.1) * q.2.2 = s * (p.2.1 * q.2.2) + t * (q.2.1 * q.2.2) := by grind
  have e6 : q.2.1 * (s * p.2.2 + t * q.2.2) = s * (q.2.1 * p.2.2) + t * (q.2.1 * q.2.2) := by grind
  have e7 : (s * p.1 + t * q.1) * q.2.2 = s * (p.1 * q.2.2) + t * (q.1 * q.2.2) := by grind
  have e8 : q.1 * (s * p.2.2 + t * q.2.2) = s * (q.1 * p.2.2) + t * (q.1 * q.2.2) := by grind
  rw [e1, e2, e3, e4, e5, e6, e7, e8]
  rcases h with h | ⟨h, h'⟩
  · have a1 := Nat.mul_lt_mul_of_pos_left h hs
    have a2 := Nat.mul_lt_mul_of_pos_left h ht
    omega
  · have a1 := Nat.mul_lt_mul_of_pos_left h' hs
    have a2 := Nat.mul_lt_mul_of_pos_left h' ht
    rw [h]
    omega
theorem col_cmb {L : Ln} {p q : Pt3} (s t : Nat) (h1 : lnU L * ry L p = lnV L * rx L p) (h2 : lnU L * ry L q = lnV L * rx L q) : lnU L * ry L (cmb s t p q) = lnV L * rx L (cmb s t p q) := by
  unfold rx ry cmb at *
  dsimp only
  grind
theorem crs_half {L M : Ln} {z : Pt3} (nL : lnN L) (nM : lnN M) (hz : 0 < z.2.2) (hW : cW L M ≠ 0) (h1 : onb L z = true) (h2 : onb M z = true) : 0 ≤ cS L M * cA L M ∧ cS L M * cA L M ≤ cS L M * cW L M := by
  obtain ⟨c1, a1, b1⟩ := (onb_al nL hz).mp h1
  obtain ⟨c2, -, -⟩ := (onb_al nM hz).mp h2
  have hS := lS_pos nL
  have hd : (0 : Int) < lS L * z.2.2 := Int.mul_pos hS (by omega)
  have hWp := cSW_pos hW
  have key : (lS L * z.2.2) * cA L M = al L z * cW L M := by
    unfold lS al cA cW
    unfold rx ry at *
    grind
  have key2 : (lS L * z.2.2) * (cS L M * cA L M) = al L z * (cS L M * cW L M) := by grind
  generalize cS L M * cA L M = A at *
  generalize cS L M * cW L M = W at *
  generalize lS L * (z.2.2 : Int) = S at *
  generalize al L z = l at *
  constructor
  · rcases Int.lt_or_le A 0 with q | q
    · have := Int.mul_neg_of_pos_of_neg hd q
      have := Int.mul_nonneg a1 (show 0 ≤ W by omega)
      omega
    · exact q
  · rcases Int.lt_or_le W A with q | q
    · have x1 := Int.mul_lt_mul_of_pos_left q hd
      have x2 := Int.mul_le_mul_of_nonneg_right b1 (show 0 ≤ W by omega)
      omega
    · exact q
theorem crs_of {L M : Ln} {z : Pt3} (nL : lnN L) (nM : lnN M) (hz : 0 < z.2.2) (hW : cW L M ≠ 0) (h1 : onb L z = true) (h2 : onb M z = true) : crs L M := by
  have hW2 : cW M L ≠ 0 := by rw [cW_sym]; omega
  have a := crs_half nL nM hz hW h1 h2
  have b := crs_half nM nL hz hW2 h2 h1
  rw [cS_sym hW, cA_sym, cW_sym] at b
  rw [Int.neg_mul_neg, Int.neg_mul_neg] at b
  exact ⟨hW, a.1, a.2, b.1, b.2⟩
theorem one_pt {L M : Ln} {z q : Pt3} (hW : cW L M ≠ 0) (a1 : lnU L * ry L z = lnV L * rx L z) (a2 : lnU M * ry M z = lnV M * rx M z) (a3 : lnU L * ry L q = lnV L * rx L q) (a4 : lnU M * ry M q = lnV M * rx M q) : z.1 * q.2.2 = q.1 * z.2.2 ∧ z.2.1 * q.2.2 = q.2.1 * z.2.2 := by
  unfold rx ry at a1 a2 a3 a4
  have ex : cW L M * ((z.1 : Int) * q.2.2 - q.1 * z.2.2) = 0 := by unfold cW; grind
  have ey : cW L M * ((z.2.1 : Int) * q.2.2 - q.2.1 * z.2.2) = 0 := by unfold cW; grind
  have ex' : (z.1 : Int) * q.2.2 - q.1 * z.2.2 = 0 := by
    rcases Int.mul_eq_zero.mp ex with x | x
    · exact absurd x hW
    · exact x
  have ey' : (z.2.1 : Int) * q.2.2 - q.2.1 * z.2.2 = 0 := by
    rcases Int.mul_eq_zero.mp ey with x | x
    · exact absurd x hW
    · exact x
  constructor
  · have : ((z.1 * q.2.2 : Nat) : Int) = ((q.1 * z.2.2 : Nat) : Int) := by grind
    omega
  · have : ((z.2.1 * q.2.2 : Nat) : Int) = ((q.2.1 * z.2.2 : Nat) : Int) := by grind
    omega
/-- pieces of two lines with a point inside both: there is none -/
theorem noX {K : Nat → Ln} {N m : Nat} {Q : Nat → Pt3} (h : Mx K N m Q) {k1 k2 a b c d : Nat} (hk1 : k1 < N) (hk2 : k2 < N) (h1 : cn1 (onK K Q k1) m a b) (h2 : cn1 (onK K Q k2) m c d) (hd : dtp (Q a) (Q b) (Q c) ≠ 0) {s t s' t' : Nat} (hs : 0 < s) (ht : 0 < t) (hs' : 0 < s') (ht' : 0 < t') (e : cmb s t (Q a) (Q b) = cmb s' t' (Q c) (Q d)) : False := by
  obtain ⟨hN, hK, hQ, hS, hall⟩ := id h
  obtain ⟨a1, a2, a3, a4, a5⟩ := h1
  obtain ⟨b1, b2, b3, b4, b5⟩ := h2
  have oa := hQ a (by omega)
  have ob := hQ b (by omega)
  have oc := hQ c (by omega)
  have od := hQ d (by omega)
  have n1 := (hK k1 hk1).2
  have n2 := (hK k2 hk2).2
  have cola := ((onb_al n1 oa.1).mp a3).1
  have colb := ((onb_al n1 ob.1).mp a4).1
  have colc := ((onb_al n2 oc.1).mp b3).1
  have cold := ((onb_al n2 od.1).mp b4).1
  have zpos : 0 < (cmb s t (Q a) (Q b)).2.2 := by
    have := Nat.mul_pos hs oa.1
    unfold cmb; dsimp only; omega
  have p1 := plt_cmb hs ht (hS a b a1 a2)
  have p2 := plt_cmb hs' ht' (hS c d b1 b2)
  have z1 : onb (K k1) (cmb s t (Q a) (Q b)) = true := onb_btw oa.1 ob.1 zpos n1 a3 a4 (col_cmb s t cola colb) p1.1 p1.2
  have z2 : onb (K k2) (cmb s t (Q a) (Q b)) = true := by
    have z3 : 0 < (cmb s' t' (Q c) (Q d)).2.2 := by rw [← e]; exact zpos
    rw [e]
    exact onb_btw oc.1 od.1 z3 n2 b3 b4 (col_cmb s' t' colc cold) p2.1 p2.2
  by_cases hW : cW (K k1) (K k2) = 0
  · -- on one carrier
    have cz1 := ((onb_al n1 zpos).mp z1).1
    have cz2 := ((onb_al n2 zpos).mp z2).1
    have cc := par_col (K := K k1) (K' := K k2) (p := Q c) zpos n2 n1 hW cz1 cz2 colc
    apply hd
    have o1 : (0 : Int) < (Q a).2.2 := by have := oa.1; omega
    unfold rx ry at cola colb cc
    have k1' : lnU (K k1) * dtp (Q a) (Q b) (Q c) = 0 := by unfold dtp; grind
    have k2' : lnV (K k1) * dtp (Q a) (Q b) (Q c) = 0 := by unfold dtp; grind
    rcases n1 with n1 | n1
    · rcases Int.mul_eq_zero.mp k1' with x | x
      · exact absurd x n1
      · exact x
    · rcases Int.mul_eq_zero.mp k2' with x | x
      · exact absurd x n1
      · exact x
  · have hc := crs_of n1 n2 zpos hW z1 z2
    have hex : ∃ v, v < m ∧ Q v = crP (K k1) (K k2) := by
      refine (hall _).mpr (Or.inr ?_)
      rcases Nat.lt_trichotomy k1 k2 with q | q | q
      · exact ⟨k2, k1, q, hk2, crs_sym hc, (crP_sym hW).symm⟩
      · subst q; exact absurd (by unfold cW; grind) hW
      · exact ⟨k1, k2, q, hk1, hc, rfl⟩
    obtain ⟨v, hv, ev⟩ := hex
    have v1 : onb (K k1) (Q v) = true := by rw [ev]; exact onb_crP (hK k1 hk1).1 n1 hc
    have v2 : onb (K k2) (Q v) = true := by rw [ev, ← crP_sym hW]; exact onb_crP (hK k2 hk2).1 n2 (crs_sym hc)
    have ov := hQ v hv
    -- v is the point z
    have ex : (cmb s t (Q a) (Q b)).1 * (Q v).2.2 = (Q v).1 * (cmb s t (Q a) (Q b)).2.2 ∧ (cmb s t (Q a) (Q b)).2.1 * (Q v).2.2 = (Q v).2.1 * (cmb s t (Q a) (Q b)).2.2 := by
      exact one_pt hW ((onb_al n1 zpos).mp z1).1 ((onb_al n2 zpos).mp z2).1 ((onb_al n1 ov.1).mp v1).1 ((onb_al n2 ov.1).mp v2).1
    have lt1 : plt (Q a) (Q v) := by
      have := p1.1
      rw [plt_iff] at this ⊢
      rcases this with x | ⟨x, x'⟩
      · exact Or.inl (cq_lt ov.1 x (Nat.le_of_eq ex.2))
      · exact Or.inr ⟨cq_eq zpos x ex.2, cq_lt ov.1 x' (Nat.le_of_eq ex.1)⟩
    have lt2 : plt (Q v) (Q b) := by
      have := p1.2
      rw [plt_iff] at this ⊢
      rcases this with x | ⟨x, x'⟩
      · exact Or.inl (cq_lt' ov.1 (Nat.le_of_eq ex.2.symm) x)
      · exact Or.inr ⟨cq_eq zpos ex.2.symm x, cq_lt' ov.1 (Nat.le_of_eq ex.1.symm) x'⟩
    have i1 := (ix_lt hQ hS (by omega) hv).mp lt1
    have i2 := (ix_lt hQ hS hv (by omega)).mp lt2
    have := a5 v i1 i2
    unfold onK at this
    rw [v1] at this
    cases this
