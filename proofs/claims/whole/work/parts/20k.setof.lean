/-! the set of joints in one form for both orders of the lines -/
def inW (w h : Nat) (L : Ln) : Prop := L.1 ≤ w ∧ L.2.1 ≤ h ∧ L.2.2.1 ≤ w ∧ L.2.2.2 ≤ h
def cornP (w h : Nat) (q : Pt3) : Prop := q = (0, 0, 1) ∨ q = (w, 0, 1) ∨ q = (0, h, 1) ∨ q = (w, h, 1)
def isSd (w h : Nat) (M : Ln) : Prop := ((lnV M = 0 ∧ (M.2.1 = 0 ∨ M.2.1 = h)) ∨ (lnU M = 0 ∧ (M.1 = 0 ∨ M.1 = w))) ∧ cornP w h (M.1, M.2.1, 1) ∧ cornP w h (M.2.2.1, M.2.2.2, 1)
theorem side_end {w h : Nat} {L M : Ln} (hL : inW w h L) (hM : isSd w h M) (hc : crs L M) : crP L M = (L.1, L.2.1, 1) ∨ crP L M = (L.2.2.1, L.2.2.2, 1) := by
  obtain ⟨a1, a2, a3, a4⟩ := hL
  rcases hM.1 with ⟨e, q | q⟩ | ⟨e, q | q⟩
  · exact cr_level hc e (Or.inl (by omega))
  · exact cr_level hc e (Or.inr (by omega))
  · exact cr_upright hc e (Or.inl (by omega))
  · exact cr_upright hc e (Or.inr (by omega))
/-- corners, ends of leads, crossings of leads -/
def TS (w h nl : Nat) (ld : Nat → Ln) (q : Pt3) : Prop := cornP w h q ∨ (∃ i, i < nl ∧ (q = ((ld i).1, (ld i).2.1, 1) ∨ q = ((ld i).2.2.1, (ld i).2.2.2, 1))) ∨ ∃ i j, j < i ∧ i < nl ∧ crs (ld i) (ld j) ∧ q = crP (ld i) (ld j)
/-- the leads stand from place s on, all other lines are sides -/
def Fam (w h nl s N : Nat) (ld K : Nat → Ln) : Prop := s + nl ≤ N ∧ (∀ k, k < N → inW w h (K k)) ∧ (∀ i, i < nl → K (i + s) = ld i) ∧ (∀ k, k < N → (k < s ∨ s + nl ≤ k) → isSd w h (K k)) ∧ ∀ q, cornP w h q → ∃ k, k < N ∧ (q = ((K k).1, (K k).2.1, 1) ∨ q = ((K k).2.2.1, (K k).2.2.2, 1))
theorem Fam_end {w h nl s N : Nat} {ld K : Nat → Ln} (hF : Fam w h nl s N ld K) {k : Nat} (hk : k < N) {q : Pt3} (e : q = ((K k).1, (K k).2.1, 1) ∨ q = ((K k).2.2.1, (K k).2.2.2, 1)) : TS w h nl ld q := by
  obtain ⟨f1, f2, f3, f4, f5⟩ := hF
  by_cases hs : k < s ∨ s + nl ≤ k
  · obtain ⟨-, c1, c2⟩ := f4 k hk hs
    rcases e with e | e
    · rw [e]; exact Or.inl c1
    · rw [e]; exact Or.inl c2
  · have hk2 := f3 (k - s) (by omega)
    rw [show k - s + s = k by omega] at hk2
    rw [hk2] at e
    exact Or.inr (Or.inl ⟨k - s, by omega, e⟩)
theorem allS_TS {w h nl s N : Nat} {ld K : Nat → Ln} (hF : Fam w h nl s N ld K) (q : Pt3) : allS K N q ↔ TS w h nl ld q := by
  constructor
  · rintro (⟨k, hk, e⟩ | ⟨a, b, hba, haN, hc, e⟩)
    · exact Fam_end hF hk e
    · obtain ⟨f1, f2, f3, f4, f5⟩ := id hF
      by_cases hb : b < s ∨ s + nl ≤ b
      · have := side_end (f2 a haN) (f4 b (by omega) hb) hc
        rw [← e] at this
        exact Fam_end hF haN this
      · by_cases ha : a < s ∨ s + nl ≤ a
        · have := side_end (f2 b (by omega)) (f4 a haN ha) (crs_sym hc)
          rw [crP_sym hc.1, ← e] at this
          exact Fam_end hF (show b < N by omega) this
        · have ea := f3 (a - s) (by omega)
          have eb := f3 (b - s) (by omega)
          rw [show a - s + s = a by omega] at ea
          rw [show b - s + s = b by omega] at eb
          rw [ea, eb] at hc e
          exact Or.inr (Or.inr ⟨a - s, b - s, by omega, by omega, hc, e⟩)
  · obtain ⟨f1, f2, f3, f4, f5⟩ := hF
    rintro (hq | ⟨i, hi, e⟩ | ⟨i, j, hji, hi, hc, e⟩)
    · obtain ⟨k, hk, e⟩ := f5 q hq
      exact Or.inl ⟨k, hk, e⟩
    · exact Or.inl ⟨i + s, by omega, by rw [f3 i hi]; exact e⟩
    · exact Or.inr ⟨i + s, j + s, by omega, by omega, by rw [f3 i hi, f3 j (by omega)]; exact hc, by rw [f3 i hi, f3 j (by omega)]; exact e⟩
/-- the class's order of the lines, and the reference's -/
def KX (w h : Nat) (ld : Nat → Ln) : Nat → Ln := fun k => if k = 0 then (0, 0, w, 0) else if k = 1 then (w, 0, w, h) else if k = 2 then (0, h, w, h) else if k = 3 then (0, 0, 0, h) else ld (k - 4)
def KM (w h nl : Nat) (ld : Nat → Ln) : Nat → Ln := fun k => if k < nl then ld k else if k = nl then (0, 0, w, 0) else if k = nl + 1 then (w, 0, w, h) else if k = nl + 2 then (w, h, 0, h) else (0, h, 0, 0)
theorem sd_0 (w h : Nat) : isSd w h (0, 0, w, 0) := ⟨Or.inl ⟨by unfold lnV; dsimp only; omega, Or.inl rfl⟩, Or.inl rfl, Or.inr (Or.inl rfl)⟩
theorem sd_1 (w h : Nat) : isSd w h (w, 0, w, h) := ⟨Or.inr ⟨by unfold lnU; dsimp only; omega, Or.inr rfl⟩, Or.inr (Or.inl rfl), Or.inr (Or.inr (Or.inr rfl))⟩
theorem sd_2 (w h : Nat) : isSd w h (0, h, w, h) := ⟨Or.inl ⟨by unfold lnV; dsimp only; omega, Or.inr rfl⟩, Or.inr (Or.inr (Or.inl rfl)), Or.inr (Or.inr (Or.inr rfl))⟩
theorem sd_3 (w h : Nat) : isSd w h (0, 0, 0, h) := ⟨Or.inr ⟨by unfold lnU; dsimp only; omega, Or.inl rfl⟩, Or.inl rfl, Or.inr (Or.inr (Or.inl rfl))⟩
theorem sd_4 (w h : Nat) : isSd w h (w, h, 0, h) := ⟨Or.inl ⟨by unfold lnV; dsimp only; omega, Or.inr rfl⟩, Or.inr (Or.inr (Or.inr rfl)), Or.inr (Or.inr (Or.inl rfl))⟩
theorem sd_5 (w h : Nat) : isSd w h (0, h, 0, 0) := ⟨Or.inr ⟨by unfold lnU; dsimp only; omega, Or.inl rfl⟩, Or.inr (Or.inr (Or.inl rfl)), Or.inl rfl⟩
theorem Fam_KX {w h nl : Nat} {ld : Nat → Ln} (hl : ∀ i, i < nl → inW w h (ld i)) : Fam w h nl 4 (nl + 4) ld (KX w h ld) := by
  refine ⟨by omega, fun k hk => ?_, fun i hi => ?_, fun k hk hs => ?_, fun q hq => ?_⟩
  · unfold KX
    by_cases h0 : k = 0
    · rw [if_pos h0]; exact ⟨Nat.zero_le _, Nat.zero_le _, Nat.le_refl _, Nat.zero_le _⟩
    · rw [if_neg h0]
      by_cases h1 : k = 1
      · rw [if_pos h1]; exact ⟨Nat.le_refl _, Nat.zero_le _, Nat.le_refl _, Nat.le_refl _⟩
      · rw [if_neg h1]
        by_cases h2 : k = 2
        · rw [if_pos h2]; exact ⟨Nat.zero_le _, Nat.le_refl _, Nat.le_refl _, Nat.le_refl _⟩
        · rw [if_neg h2]
          by_cases h3 : k = 3
          · rw [if_pos h3]; exact ⟨Nat.zero_le _, Nat.zero_le _, Nat.zero_le _, Nat.le_refl _⟩
          · rw [if_neg h3]; exact hl (k - 4) (by omega)
  · unfold KX
    rw [if_neg (by omega), if_neg (by omega), if_neg (by omega), if_neg (by omega), Nat.add_sub_cancel]
  · have hk4 : k = 0 ∨ k = 1 ∨ k = 2 ∨ k = 3 := by omega
    rcases hk4 with rfl | rfl | rfl | rfl
    · exact sd_0 w h
    · exact sd_1 w h
    · exact sd_2 w h
    · exact sd_3 w h
  · rcases hq with rfl | rfl | rfl | rfl
    · exact ⟨0, by omega, Or.inl rfl⟩
    · exact ⟨0, by omega, Or.inr rfl⟩
    · exact ⟨2, by omega, Or.inl rfl⟩
    · exact ⟨2, by omega, Or.inr rfl⟩
theorem KM_s {w h nl : Nat} {ld : Nat → Ln} : KM w h nl ld nl = (0, 0, w, 0) ∧ KM w h nl ld (nl + 1) = (w, 0, w, h) ∧ KM w h nl ld (nl + 2) = (w, h, 0, h) ∧ KM w h nl ld (nl + 3) = (0, h, 0, 0) := by
  unfold KM
  refine ⟨?_, ?_, ?_, ?_⟩
  · rw [if_neg (by omega), if_pos rfl]
  · rw [if_neg (by omega), if_neg (by omega), if_pos rfl]
  · rw [if_neg (by omega), if_neg (by omega), if_neg (by omega), if_pos rfl]
  · rw [if_neg (by omega), if_neg (by omega), if_neg (by omega), if_neg (by omega)]
theorem Fam_KM {w h nl : Nat} {ld : Nat → Ln} (hl : ∀ i, i < nl → inW w h (ld i)) : Fam w h nl 0 (nl + 4) ld (KM w h nl ld) := by
  obtain ⟨e0, e1, e2, e3⟩ := @KM_s w h nl ld
  have kl : ∀ k, k < nl → KM w h nl ld k = ld k := fun k hk => by unfold KM; rw [if_pos hk]
  refine ⟨by omega, fun k hk => ?_, fun i hi => by rw [Nat.add_zero]; exact kl i hi, fun k hk hs => ?_, fun q hq => ?_⟩
  · rcases Nat.lt_or_ge k nl with q | q
    · rw [kl k q]; exact hl k q
    · have hk4 : k = nl ∨ k = nl + 1 ∨ k = nl + 2 ∨ k = nl + 3 := by omega
      rcases hk4 with rfl | rfl | rfl | rfl
      · rw [e0]; exact ⟨Nat.zero_le _, Nat.zero_le _, Nat.le_refl _, Nat.zero_le _⟩
      · rw [e1]; exact ⟨Nat.le_refl _, Nat.zero_le _, Nat.le_refl _, Nat.le_refl _⟩
      · rw [e2]; exact ⟨Nat.le_refl _, Nat.le_refl _, Nat.zero_le _, Nat.le_refl _⟩
      · rw [e3]; exact ⟨Nat.zero_le _, Nat.le_refl _, Nat.zero_le _, Nat.zero_le _⟩
  · have hk4 : k = nl ∨ k = nl + 1 ∨ k = nl + 2 ∨ k = nl + 3 := by omega
    rcases hk4 with rfl | rfl | rfl | rfl
    · rw [e0]; exact sd_0 w h
    · rw [e1]; exact sd_1 w h
    · rw [e2]; exact sd_4 w h
    · rw [e3]; exact sd_5 w h
  · rcases hq with rfl | rfl | rfl | rfl
    · exact ⟨nl, by omega, by rw [e0]; exact Or.inl rfl⟩
    · exact ⟨nl, by omega, by rw [e0]; exact Or.inr rfl⟩
    · exact ⟨nl + 2, by omega, by rw [e2]; exact Or.inr rfl⟩
    · exact ⟨nl + 2, by omega, by rw [e2]; exact Or.inl rfl⟩
