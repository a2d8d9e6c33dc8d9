/-! the four sides -/
def Dr (w h nl : Nat) (ld : Nat → Ln) : Prop := 1 ≤ w ∧ w ≤ 12 ∧ 1 ≤ h ∧ h ≤ 12 ∧ nl ≤ 14 ∧ ∀ i, i < nl → inW w h (ld i) ∧ lnN (ld i)
theorem KX_0 (w h : Nat) (ld : Nat → Ln) : KX w h ld 0 = (0, 0, w, 0) := rfl
theorem KX_1 (w h : Nat) (ld : Nat → Ln) : KX w h ld 1 = (w, 0, w, h) := rfl
theorem KX_2 (w h : Nat) (ld : Nat → Ln) : KX w h ld 2 = (0, h, w, h) := rfl
theorem KX_3 (w h : Nat) (ld : Nat → Ln) : KX w h ld 3 = (0, 0, 0, h) := rfl
theorem KX_4 (w h : Nat) (ld : Nat → Ln) (i : Nat) : KX w h ld (i + 4) = ld i := by
  unfold KX
  rw [if_neg (by omega), if_neg (by omega), if_neg (by omega), if_neg (by omega), Nat.add_sub_cancel]
theorem sd_N {w h : Nat} (hw : 1 ≤ w) (hh : 1 ≤ h) {M : Ln} (e : M = (0, 0, w, 0) ∨ M = (w, 0, w, h) ∨ M = (0, h, w, h) ∨ M = (0, 0, 0, h) ∨ M = (w, h, 0, h) ∨ M = (0, h, 0, 0)) : lnN M := by
  unfold lnN lnU lnV
  rcases e with rfl | rfl | rfl | rfl | rfl | rfl <;> dsimp only <;> omega
theorem Mx_KX {w h nl : Nat} {ld : Nat → Ln} (hD : Dr w h nl ld) {m : Nat} {Q : Nat → Pt3} (h1 : ∀ i, i < m → pOK (Q i)) (h2 : Srt m Q) (h3 : ∀ q, (∃ i, i < m ∧ Q i = q) ↔ TS w h nl ld q) : Mx (KX w h ld) (nl + 4) m Q := by
  obtain ⟨d1, d2, d3, d4, d5, d6⟩ := hD
  have fX := Fam_KX (w := w) (h := h) (fun i hi => (d6 i hi).1)
  refine ⟨by omega, fun k hk => ⟨inW_ok d2 d4 (fX.2.1 k hk), ?_⟩, h1, h2, fun q => (h3 q).trans (allS_TS fX q).symm⟩
  by_cases q : k < 4
  · have hk4 : k = 0 ∨ k = 1 ∨ k = 2 ∨ k = 3 := by omega
    rcases hk4 with rfl | rfl | rfl | rfl
    · exact sd_N d1 d3 (Or.inl rfl)
    · exact sd_N d1 d3 (Or.inr (Or.inl rfl))
    · exact sd_N d1 d3 (Or.inr (Or.inr (Or.inl rfl)))
    · exact sd_N d1 d3 (Or.inr (Or.inr (Or.inr (Or.inl rfl))))
  · obtain ⟨i, rfl⟩ : ∃ i, k = i + 4 := ⟨k - 4, by omega⟩
    rw [KX_4]; exact (d6 i (by omega)).2
theorem Mx_KM {w h nl : Nat} {ld : Nat → Ln} (hD : Dr w h nl ld) {m : Nat} {Q : Nat → Pt3} (h1 : ∀ i, i < m → pOK (Q i)) (h2 : Srt m Q) (h3 : ∀ q, (∃ i, i < m ∧ Q i = q) ↔ TS w h nl ld q) : Mx (KM w h nl ld) (nl + 4) m Q := by
  obtain ⟨d1, d2, d3, d4, d5, d6⟩ := hD
  have fM := Fam_KM (w := w) (h := h) (fun i hi => (d6 i hi).1)
  obtain ⟨e0, e1, e2, e3⟩ := @KM_s w h nl ld
  refine ⟨by omega, fun k hk => ⟨inW_ok d2 d4 (fM.2.1 k hk), ?_⟩, h1, h2, fun q => (h3 q).trans (allS_TS fM q).symm⟩
  by_cases q : k < nl
  · have := fM.2.2.1 k q
    rw [Nat.add_zero] at this
    rw [this]; exact (d6 k q).2
  · have hk4 : k = nl ∨ k = nl + 1 ∨ k = nl + 2 ∨ k = nl + 3 := by omega
    rcases hk4 with rfl | rfl | rfl | rfl
    · rw [e0]; exact sd_N d1 d3 (Or.inl rfl)
    · rw [e1]; exact sd_N d1 d3 (Or.inr (Or.inl rfl))
    · rw [e2]; exact sd_N d1 d3 (Or.inr (Or.inr (Or.inr (Or.inr (Or.inl rfl)))))
    · rw [e3]; exact sd_N d1 d3 (Or.inr (Or.inr (Or.inr (Or.inr (Or.inr rfl)))))
theorem onb_R (L : Ln) (p : Pt3) : onb (lnR L) p = onb L p := by
  unfold onb
  rw [decide_eq_decide, lnU_R, lnV_R]
  unfold lnR
  dsimp only
  rw [Nat.min_comm (L.2.2.1 * p.2.2), Nat.max_comm (L.2.2.1 * p.2.2), Nat.min_comm (L.2.2.2 * p.2.2), Nat.max_comm (L.2.2.2 * p.2.2)]
  constructor
  · rintro ⟨a, b⟩
    refine ⟨?_, b⟩
    unfold lnU lnV at *
    grind
  · rintro ⟨a, b⟩
    refine ⟨?_, b⟩
    unfold lnU lnV at *
    grind
theorem Pc_MX {w h nl : Nat} {ld : Nat → Ln} {m : Nat} {Q : Nat → Pt3} (i j : Nat) : Pc (onK (KM w h nl ld) Q) (nl + 4) m i j ↔ Pc (onK (KX w h ld) Q) (nl + 4) m i j := by
  obtain ⟨e0, e1, e2, e3⟩ := @KM_s w h nl ld
  have kl : ∀ k, k < nl → KM w h nl ld k = ld k := fun k hk => by unfold KM; rw [if_pos hk]
  have f0 : onK (KM w h nl ld) Q nl = onK (KX w h ld) Q 0 := by funext i; unfold onK; rw [e0, KX_0]
  have f1 : onK (KM w h nl ld) Q (nl + 1) = onK (KX w h ld) Q 1 := by funext i; unfold onK; rw [e1, KX_1]
  have f2 : onK (KM w h nl ld) Q (nl + 2) = onK (KX w h ld) Q 2 := by funext i; unfold onK; rw [e2, KX_2, ← onb_R]; rfl
  have f3 : onK (KM w h nl ld) Q (nl + 3) = onK (KX w h ld) Q 3 := by funext i; unfold onK; rw [e3, KX_3, ← onb_R]; rfl
  have fl : ∀ k, k < nl → onK (KM w h nl ld) Q k = onK (KX w h ld) Q (k + 4) := fun k hk => by funext i; unfold onK; rw [kl k hk, KX_4]
  constructor
  · rintro ⟨k, hk, hc⟩
    by_cases q : k < nl
    · rw [fl k q] at hc; exact ⟨k + 4, by omega, hc⟩
    · have hk4 : k = nl ∨ k = nl + 1 ∨ k = nl + 2 ∨ k = nl + 3 := by omega
      rcases hk4 with rfl | rfl | rfl | rfl
      · rw [f0] at hc; exact ⟨0, by omega, hc⟩
      · rw [f1] at hc; exact ⟨1, by omega, hc⟩
      · rw [f2] at hc; exact ⟨2, by omega, hc⟩
      · rw [f3] at hc; exact ⟨3, by omega, hc⟩
  · rintro ⟨k, hk, hc⟩
    by_cases q : k < 4
    · have hk4 : k = 0 ∨ k = 1 ∨ k = 2 ∨ k = 3 := by omega
      rcases hk4 with rfl | rfl | rfl | rfl
      · rw [← f0] at hc; exact ⟨nl, by omega, hc⟩
      · rw [← f1] at hc; exact ⟨nl + 1, by omega, hc⟩
      · rw [← f2] at hc; exact ⟨nl + 2, by omega, hc⟩
      · rw [← f3] at hc; exact ⟨nl + 3, by omega, hc⟩
    · obtain ⟨i, rfl⟩ : ∃ i, k = i + 4 := ⟨k - 4, by omega⟩
      rw [← fl i (by omega)] at hc
      exact ⟨i, by omega, hc⟩
/-- all joints lie in the window -/
def Jt (w h nl : Nat) (ld : Nat → Ln) (m : Nat) (Q : Nat → Pt3) : Prop := (∀ i, i < m → pOK (Q i)) ∧ Srt m Q ∧ ∀ q, (∃ i, i < m ∧ Q i = q) ↔ TS w h nl ld q
theorem onb_box {w h : Nat} {L : Ln} {p : Pt3} (hL : inW w h L) (hp : onb L p = true) : p.1 ≤ w * p.2.2 ∧ p.2.1 ≤ h * p.2.2 := by
  unfold onb at hp
  obtain ⟨-, ⟨-, h1⟩, -, h2⟩ := of_decide_eq_true hp
  obtain ⟨a1, a2, a3, a4⟩ := hL
  have b1 := Nat.mul_le_mul_right p.2.2 a1
  have b2 := Nat.mul_le_mul_right p.2.2 a2
  have b3 := Nat.mul_le_mul_right p.2.2 a3
  have b4 := Nat.mul_le_mul_right p.2.2 a4
  omega
theorem in_win {w h nl : Nat} {ld : Nat → Ln} (hD : Dr w h nl ld) {m : Nat} {Q : Nat → Pt3} (hJ : Jt w h nl ld m Q) {i : Nat} (hi : i < m) : (Q i).1 ≤ w * (Q i).2.2 ∧ (Q i).2.1 ≤ h * (Q i).2.2 := by
  have hM := Mx_KX hD hJ.1 hJ.2.1 hJ.2.2
  have fX := Fam_KX (w := w) (h := h) (fun i hi => (hD.2.2.2.2.2 i hi).1)
  obtain ⟨l, hl, hx⟩ := jt_line hM (k := 0) (by omega) hi
  have on : onb (KX w h ld l) (Q i) = true := by
    rcases hx with ⟨-, hx⟩ | ⟨-, hx | hx⟩
    · exact hx
    · rw [hx]; exact onb_A _
    · rw [hx]; exact onb_B _
  exact onb_box (fX.2.1 l hl) on
theorem on_0 {w h : Nat} {ld : Nat → Ln} {p : Pt3} (hw : 1 ≤ w) (h1 : p.1 ≤ w * p.2.2) : onb (KX w h ld 0) p = true ↔ p.2.1 = 0 := by
  rw [KX_0]
  unfold onb lnU lnV
  rw [decide_eq_true_iff]
  dsimp only
  constructor
  · rintro ⟨-, -, h3⟩; omega
  · intro e; rw [e]; refine ⟨by grind, by omega, by omega⟩
theorem on_3 {w h : Nat} {ld : Nat → Ln} {p : Pt3} (hh : 1 ≤ h) (h1 : p.2.1 ≤ h * p.2.2) : onb (KX w h ld 3) p = true ↔ p.1 = 0 := by
  rw [KX_3]
  unfold onb lnU lnV
  rw [decide_eq_true_iff]
  dsimp only
  constructor
  · rintro ⟨-, h3, -⟩; omega
  · intro e; rw [e]; refine ⟨by grind, by omega, by omega⟩
theorem on_1 {w h : Nat} {ld : Nat → Ln} {p : Pt3} (hh : 1 ≤ h) (h1 : p.2.1 ≤ h * p.2.2) : onb (KX w h ld 1) p = true ↔ p.1 = w * p.2.2 := by
  rw [KX_1]
  unfold onb lnU lnV
  rw [decide_eq_true_iff]
  dsimp only
  constructor
  · rintro ⟨-, h3, -⟩; omega
  · intro e; rw [e]; refine ⟨by grind, by omega, by omega⟩
theorem on_2 {w h : Nat} {ld : Nat → Ln} {p : Pt3} (hw : 1 ≤ w) (h1 : p.1 ≤ w * p.2.2) : onb (KX w h ld 2) p = true ↔ p.2.1 = h * p.2.2 := by
  rw [KX_2]
  unfold onb lnU lnV
  rw [decide_eq_true_iff]
  dsimp only
  constructor
  · rintro ⟨-, -, h3⟩; omega
  · intro e; rw [e]; refine ⟨by grind, by omega, by omega⟩
theorem ix_lt {m : Nat} {Q : Nat → Pt3} (hQ : ∀ i, i < m → pOK (Q i)) (h : Srt m Q) {i j : Nat} (hi : i < m) (hj : j < m) : plt (Q i) (Q j) ↔ i < j := by
  constructor
  · intro hp
    rcases Nat.lt_trichotomy i j with q | q | q
    · exact q
    · subst q; exact absurd hp (plt_irr _)
    · exact absurd (plt_trans (hQ i hi).1 (hQ j hj).1 (hQ i hi).1 hp (h j i q hi)) (plt_irr _)
  · exact fun q => h i j q hj
theorem jt_0 {w h nl : Nat} {ld : Nat → Ln} {m : Nat} {Q : Nat → Pt3} (hJ : Jt w h nl ld m Q) : 0 < m ∧ Q 0 = (0, 0, 1) := by
  obtain ⟨i, hi, e⟩ := (hJ.2.2 (0, 0, 1)).mpr (Or.inl (Or.inl rfl))
  refine ⟨by omega, ?_⟩
  rcases Nat.eq_zero_or_pos i with q | q
  · rw [q] at e; exact e
  · have := hJ.2.1 0 i q hi
    rw [e, plt_iff] at this
    dsimp only at this
    omega
theorem jt_c {w h nl : Nat} {ld : Nat → Ln} {m : Nat} {Q : Nat → Pt3} (hJ : Jt w h nl ld m Q) {q : Pt3} (hq : cornP w h q) : ∃ i, i < m ∧ Q i = q := (hJ.2.2 q).mpr (Or.inl hq)
/-- a joint on a side has two ways along the sides -/
theorem corner_other {w h nl : Nat} {ld : Nat → Ln} (hD : Dr w h nl ld) {m : Nat} {Q : Nat → Pt3} (hJ : Jt w h nl ld m Q) {k i : Nat} (hk : k < 4) (hi : i < m) (ho : onK (KX w h ld) Q k i = true) : (∃ a b, a < i ∧ i < b ∧ b < m ∧ onK (KX w h ld) Q k a = true ∧ onK (KX w h ld) Q k b = true) ∨ (∃ k', k' < 4 ∧ cW (KX w h ld k) (KX w h ld k') ≠ 0 ∧ onK (KX w h ld) Q k' i = true ∧ ∃ a, a < m ∧ a ≠ i ∧ onK (KX w h ld) Q k' a = true) := by
  obtain ⟨d1, d2, d3, d4, d5, d6⟩ := id hD
  obtain ⟨w1, w2⟩ := in_win hD hJ hi
  have oi := hJ.1 i hi
  obtain ⟨a, ha, ea⟩ := jt_c hJ (q := (0, 0, 1)) (Or.inl rfl)
  obtain ⟨b, hb, eb⟩ := jt_c hJ (q := (w, 0, 1)) (Or.inr (Or.inl rfl))
  obtain ⟨c, hc, ec⟩ := jt_c hJ (q := (0, h, 1)) (Or.inr (Or.inr (Or.inl rfl)))
  obtain ⟨d, hd, ed⟩ := jt_c hJ (q := (w, h, 1)) (Or.inr (Or.inr (Or.inr rfl)))
  have k0 : ∀ j, j < m → (onK (KX w h ld) Q 0 j = true ↔ (Q j).2.1 = 0) := fun j hj => on_0 d1 (in_win hD hJ hj).1
  have k1 : ∀ j, j < m → (onK (KX w h ld) Q 1 j = true ↔ (Q j).1 = w * (Q j).2.2) := fun j hj => on_1 d3 (in_win hD hJ hj).2
  have k2 : ∀ j, j < m → (onK (KX w h ld) Q 2 j = true ↔ (Q j).2.1 = h * (Q j).2.2) := fun j hj => on_2 d1 (in_win hD hJ hj).1
  have k3 : ∀ j, j < m → (onK (KX w h ld) Q 3 j = true ↔ (Q j).1 = 0) := fun j hj => on_3 d3 (in_win hD hJ hj).2
  have lt : ∀ {x y : Nat}, x < m → y < m → plt (Q x) (Q y) → x < y := fun hx hy => (ix_lt hJ.1 hJ.2.1 hx hy).mp
  have cw : cW (KX w h ld 0) (KX w h ld 3) ≠ 0 ∧ cW (KX w h ld 0) (KX w h ld 1) ≠ 0 ∧ cW (KX w h ld 1) (KX w h ld 0) ≠ 0 ∧ cW (KX w h ld 1) (KX w h ld 2) ≠ 0 ∧ cW (KX w h ld 2) (KX w h ld 3) ≠ 0 ∧ cW (KX w h ld 2) (KX w h ld 1) ≠ 0 ∧ cW (KX w h ld 3) (KX w h ld 0) ≠ 0 ∧ cW (KX w h ld 3) (KX w h ld 2) ≠ 0 := by
    have hwh : (w : Int) * h ≠ 0 := Int.mul_ne_zero (by omega) (by omega)
    rw [KX_0, KX_1, KX_2, KX_3]
    unfold cW lnU lnV
    dsimp only
    refine ⟨?_, ?_, ?_, ?_, ?_, ?_, ?_, ?_⟩ <;> intro z <;> apply hwh <;> grind
  have p0 := oi.1
  have hwd : 1 * (Q i).2.2 ≤ w * (Q i).2.2 := Nat.mul_le_mul_right _ d1
  have hhd : 1 * (Q i).2.2 ≤ h * (Q i).2.2 := Nat.mul_le_mul_right _ d3
  have hk4 : k = 0 ∨ k = 1 ∨ k = 2 ∨ k = 3 := by omega
  rcases hk4 with rfl | rfl | rfl | rfl
  · have e := (k0 i hi).mp ho
    by_cases q1 : (Q i).1 = 0
    · refine Or.inr ⟨3, by omega, cw.1, (k3 i hi).mpr q1, c, hc, fun z => ?_, (k3 c hc).mpr (by rw [ec])⟩
      rw [← z, ec] at e; dsimp only at e; omega
    · by_cases q2 : (Q i).1 = w * (Q i).2.2
      · refine Or.inr ⟨1, by omega, cw.2.1, (k1 i hi).mpr q2, d, hd, fun z => ?_, (k1 d hd).mpr (by rw [ed]; dsimp only; omega)⟩
        rw [← z, ed] at e; dsimp only at e; omega
      · refine Or.inl ⟨a, b, lt ha hi ?_, lt hi hb ?_, hb, (k0 a ha).mpr (by rw [ea]), (k0 b hb).mpr (by rw [eb])⟩
        · rw [ea, plt_iff]; dsimp only; omega
        · rw [eb, plt_iff]; dsimp only; omega
  · have e := (k1 i hi).mp ho
    by_cases q1 : (Q i).2.1 = 0
    · refine Or.inr ⟨0, by omega, cw.2.2.1, (k0 i hi).mpr q1, a, ha, fun z => ?_, (k0 a ha).mpr (by rw [ea])⟩
      rw [← z, ea] at e; dsimp only at e; omega
    · by_cases q2 : (Q i).2.1 = h * (Q i).2.2
      · refine Or.inr ⟨2, by omega, cw.2.2.2.1, (k2 i hi).mpr q2, c, hc, fun z => ?_, (k2 c hc).mpr (by rw [ec]; dsimp only; omega)⟩
        rw [← z, ec] at e; dsimp only at e; omega
      · refine Or.inl ⟨b, d, lt hb hi ?_, lt hi hd ?_, hd, (k1 b hb).mpr (by rw [eb]; dsimp only; omega), (k1 d hd).mpr (by rw [ed]; dsimp only; omega)⟩
        · rw [eb, plt_iff]; dsimp only; omega
        · rw [ed, plt_iff]; dsimp only; omega
  · have e := (k2 i hi).mp ho
    by_cases q1 : (Q i).1 = 0
    · refine Or.inr ⟨3, by omega, cw.2.2.2.2.1, (k3 i hi).mpr q1, a, ha, fun z => ?_, (k3 a ha).mpr (by rw [ea])⟩
      rw [← z, ea] at e; dsimp only at e; omega
    · by_cases q2 : (Q i).1 = w * (Q i).2.2
      · refine Or.inr ⟨1, by omega, cw.2.2.2.2.2.1, (k1 i hi).mpr q2, b, hb, fun z => ?_, (k1 b hb).mpr (by rw [eb]; dsimp only; omega)⟩
        rw [← z, eb] at e; dsimp only at e; omega
      · refine Or.inl ⟨c, d, lt hc hi ?_, lt hi hd ?_, hd, (k2 c hc).mpr (by rw [ec]; dsimp only; omega), (k2 d hd).mpr (by rw [ed]; dsimp only; omega)⟩
        · rw [ec, plt_iff]; dsimp only; omega
        · rw [ed, plt_iff]; dsimp only; omega
  · have e := (k3 i hi).mp ho
    by_cases q1 : (Q i).2.1 = 0
    · refine Or.inr ⟨0, by omega, cw.2.2.2.2.2.2.1, (k0 i hi).mpr q1, b, hb, fun z => ?_, (k0 b hb).mpr (by rw [eb])⟩
      rw [← z, eb] at e; dsimp only at e; omega
    · by_cases q2 : (Q i).2.1 = h * (Q i).2.2
      · refine Or.inr ⟨2, by omega, cw.2.2.2.2.2.2.2, (k2 i hi).mpr q2, d, hd, fun z => ?_, (k2 d hd).mpr (by rw [ed]; dsimp only; omega)⟩
        rw [← z, ed] at e; dsimp only at e; omega
      · refine Or.inl ⟨a, c, lt ha hi ?_, lt hi hc ?_, hc, (k3 a ha).mpr (by rw [ea]), (k3 c hc).mpr (by rw [ec])⟩
        · rw [ea, plt_iff]; dsimp only; omega
        · rw [ec, plt_iff]; dsimp only; omega
