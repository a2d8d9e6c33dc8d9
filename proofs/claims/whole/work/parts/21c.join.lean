/-! the class's pieces as bits -/
def bt (H L : Nat → Int64) (i j : Nat) : Bool := if j < 64 then (L i).toBitVec.getLsbD j else (H i).toBitVec.getLsbD (j - 64)
theorem sh1 : ∀ j, j < 64 → ((1 : Int64) <<< ((nI j).toInt64 &&& 63)).toBitVec = BitVec.twoPow 64 j := by
  have h : ∀ j : Fin 64, ((1 : Int64) <<< ((nI j.val).toInt64 &&& 63)).toBitVec = BitVec.twoPow 64 j.val := by decide +kernel
  exact fun j hj => h ⟨j, hj⟩
theorem sh2 : ∀ j, j < 128 → ((nI j - nI j / nI 64 * nI 64).toInt64.toUInt64 &&& Int64.toUInt64 63).toNat = j % 64 := by
  have h : ∀ j : Fin 128, ((nI j.val - nI j.val / nI 64 * nI 64).toInt64.toUInt64 &&& Int64.toUInt64 63).toNat = j.val % 64 := by decide +kernel
  exact fun j hj => h ⟨j, hj⟩
theorem or_bit {w m : Int64} {j b : Nat} (hb : b < 64) (hm : m.toBitVec = BitVec.twoPow 64 j) : (w ||| m).toBitVec.getLsbD b = (w.toBitVec.getLsbD b || decide (b = j)) := by
  rw [Int64.toBitVec_or, BitVec.getLsbD_or, hm, BitVec.getLsbD_twoPow]
  congr 1
  by_cases h : j = b
  · subst h; simp [hb]
  · simp [h, Ne.symm h]
theorem bit_at {w : Int64} {s : UInt64} {j : Nat} (hj : j < 64) (hs : s.toNat = j) : ((w.toUInt64 >>> s).toInt64 &&& 1) = 0 ↔ w.toBitVec.getLsbD j = false := by
  have e : ((w.toUInt64 >>> s).toInt64 &&& 1).toBitVec = (w.toBitVec >>> j) &&& 1#64 := by
    show (w.toBitVec >>> (s.toBitVec % 64)) &&& 1#64 = _
    congr 1
    have : (s.toBitVec % 64).toNat = j := by
      rw [BitVec.toNat_umod]
      show s.toNat % 64 = j
      omega
    show w.toBitVec >>> (s.toBitVec % 64).toNat = _
    rw [this]
  rw [← Int64.toBitVec_inj, e]
  show _ = 0#64 ↔ _
  constructor
  · intro h
    have h2 : ((w.toBitVec >>> j) &&& 1#64).getLsbD 0 = false := by rw [h]; simp
    simpa using h2
  · intro h
    apply BitVec.eq_of_getLsbD_eq
    intro i hi
    rw [BitVec.getLsbD_and, BitVec.getLsbD_ushiftRight, BitVec.getLsbD_one]
    by_cases h0 : i = 0
    · subst h0; simp [h]
    · simp [h0]
theorem join_ok {i j : Nat} (hi : i < 128) (hj : j < 128) (H L : Nat → Int64) : ∃ H' L' : Nat → Int64, sX8_join (nI i) (nI j) H L = some (H', L') ∧ ∀ a b, b < 128 → bt H' L' a b = (bt H L a b || (decide (a = i) && decide (b = j))) := by
  unfold sX8_join
  rw [nl_64]
  by_cases h : 64 ≤ j
  · refine ⟨vp_updL H i (H i ||| 1 <<< ((nI j - nI 64).toInt64 &&& 63)), L, by simp (disch := omega) only [lt, nI_leS, h, if_true, nI_lt0, nI_clampS, false_or, gd_s], fun a b hb => ?_⟩
    rw [pk_sub h]
    unfold bt
    by_cases hb2 : b < 64
    · rw [if_pos hb2, if_pos hb2, decide_eq_false (p := b = j) (by omega)]; simp
    · rw [if_neg hb2, if_neg hb2]
      by_cases ha : a = i
      · subst ha
        rw [pk_uLs, or_bit (by omega) (sh1 _ (by omega))]
        congr 1
        simp
        omega
      · rw [pk_uLn ha]; simp [ha]
  · refine ⟨H, vp_updL L i (L i ||| 1 <<< ((nI j).toInt64 &&& 63)), by simp (disch := omega) only [lt, nI_leS, h, if_false, nI_lt0, nI_clampS, false_or, gd_s], fun a b hb => ?_⟩
    unfold bt
    by_cases hb2 : b < 64
    · rw [if_pos hb2, if_pos hb2]
      by_cases ha : a = i
      · subst ha
        rw [pk_uLs, or_bit (by omega) (sh1 _ (by omega))]
        simp
      · rw [pk_uLn ha]; simp [ha]
    · rw [if_neg hb2, if_neg hb2, decide_eq_false (p := b = j) (by omega)]; simp
theorem areJ_ok {i j : Nat} (hi : i < 128) (hj : j < 128) (H L : Nat → Int64) : sX8_areJoined (nI i) (nI j) H L = some (bI (bt H L i j)) := by
  have key : ∀ w : Int64, (if (lg_cmp (((w.toUInt64 >>> ((nI j - nI j / nI 64 * nI 64).toInt64.toUInt64 &&& Int64.toUInt64 63)).toInt64) &&& (1 : Int64)) (0 : Int64)) = 0 then some (0 : Int32) else some (1 : Int32)) = some (bI (w.toBitVec.getLsbD (j % 64))) := by
    intro w
    have h1 := bit_at (w := w) (j := j % 64) (by omega) (sh2 j hj)
    cases hb : w.toBitVec.getLsbD (j % 64) with
    | false => rw [if_pos ((lg_cmp_eq _ _).mpr (h1.mpr hb))]; rfl
    | true => rw [if_neg (fun z => by rw [lg_cmp_eq, h1, hb] at z; cases z)]; rfl
  unfold sX8_areJoined
  rw [nl_64]
  by_cases h : 64 ≤ j
  · simp (disch := omega) only [lt, nI_leS, h, if_true, nI_lt0, nI_clampS, false_or, gd_s, ob, dm1]
    rw [gd_s (by rw [nl_0]; decide), key, show j % 64 = j - 64 by omega]
    unfold bt
    rw [if_neg (by omega)]
  · simp (disch := omega) only [lt, nI_leS, h, if_false, nI_lt0, nI_clampS, false_or, gd_s, ob, dm1]
    rw [gd_s (by rw [nl_0]; decide), key, show j % 64 = j by omega]
    unfold bt
    rw [if_pos (by omega)]
/-- neighbours on one line -/
def cn1 (on : Nat → Bool) (m i j : Nat) : Prop := i < j ∧ j < m ∧ on i = true ∧ on j = true ∧ ∀ l, i < l → l < j → on l = false
theorem cn1_no {on : Nat → Bool} {i a b : Nat} (h : on i = false) : cn1 on (i + 1) a b ↔ cn1 on i a b := by
  constructor
  · rintro ⟨h1, h2, h3, h4, h5⟩
    refine ⟨h1, ?_, h3, h4, h5⟩
    rcases Nat.lt_or_ge b i with q | q
    · exact q
    · obtain rfl : b = i := by omega
      rw [h] at h4; cases h4
  · rintro ⟨h1, h2, h3⟩
    exact ⟨h1, by omega, h3⟩
theorem cn1_new {on : Nat → Bool} {i c a b : Nat} (hc : c < i) (h : on i = true) (h2 : on c = true) (h3 : ∀ l, c < l → l < i → on l = false) : cn1 on (i + 1) a b ↔ (cn1 on i a b ∨ (a = c ∧ b = i)) := by
  constructor
  · rintro ⟨h4, h5, h6, h7, h8⟩
    rcases Nat.lt_or_ge b i with q | q
    · exact Or.inl ⟨h4, q, h6, h7, h8⟩
    · obtain rfl : b = i := by omega
      refine Or.inr ⟨?_, rfl⟩
      rcases Nat.lt_trichotomy a c with q1 | q1 | q1
      · have := h8 c q1 hc; rw [h2] at this; cases this
      · exact q1
      · have := h3 a q1 h4; rw [h6] at this; cases this
  · rintro (⟨h4, h5, h6⟩ | ⟨rfl, rfl⟩)
    · exact ⟨h4, by omega, h6⟩
    · exact ⟨hc, by omega, h2, h, h3⟩
theorem cn1_none {on : Nat → Bool} {i a b : Nat} (h : ∀ l, l < i → on l = false) : cn1 on (i + 1) a b ↔ cn1 on i a b := by
  constructor
  · rintro ⟨h4, h5, h6, h7, h8⟩
    have := h a (by omega); rw [h6] at this; cases this
  · rintro ⟨h4, h5, h6⟩
    exact ⟨h4, by omega, h6⟩
theorem joinA_ok {k m : Nat} (hm : m ≤ 128) {on : Nat → Bool} {u x y X Y U V : Nat → Int32} (hl : ∀ i, i < m → sX4_liesOn (nI i) (nI k) u x y U V X Y = some (bI (on i))) (H L : Nat → Int64) : ∃ H' L' : Nat → Int64, sX8_joinAlong (nI k) (nI m) u x y H L U V X Y = some (H', L') ∧ ∀ a b, b < 128 → (bt H' L' a b = true ↔ (bt H L a b = true ∨ cn1 on m a b ∨ cn1 on m b a)) := by
  obtain ⟨s, h1, h2⟩ := iter_for (S := Int32 × (Nat → Int64) × (Nat → Int64)) (B := bX8_joinAlong_5 (nI k) (nI m) u x y U V X Y) (fun i s => (s.1, nI i, s.2.1, s.2.2)) m (fun i s => ((s.1 = (-1 : Int32) ∧ ∀ l, l < i → on l = false) ∨ ∃ c, c < i ∧ s.1 = nI c ∧ on c = true ∧ ∀ l, c < l → l < i → on l = false) ∧ ∀ a b, b < 128 → (bt s.2.1 s.2.2 a b = true ↔ (bt H L a b = true ∨ cn1 on i a b ∨ cn1 on i b a))) 0 ((-1 : Int32), H, L) ⟨Or.inl ⟨rfl, fun l h => by omega⟩, fun a b hb => ⟨Or.inl, fun z => by
      rcases z with z | z | z
      · exact z
      · exact absurd z.2.1 (by omega)
      · exact absurd z.2.1 (by omega)⟩⟩ (by omega) (by omega) (fun i s _ hi hI => by
    obtain ⟨s1, s2, s3⟩ := s
    obtain ⟨hb, hI⟩ := hI
    dsimp only at hb hI ⊢
    have e0 : bX8_joinAlong_5 (nI k) (nI m) u x y U V X Y (s1, nI i, s2, s3) = ob (if bI (on i) = 0 then some (s1, s2, s3) else if s1 < 0 then some (nI i, s2, s3) else ob (sX8_join s1 (nI i) s2 s3) (fun o => dm2 o (fun o10 o11 => ob (sX8_join (nI i) s1 o10 o11) (fun o => dm2 o (fun o12 o13 => some (nI i, o12, o13)))))) (fun t => dm3 t (fun v6 v7 v8 => some (0, (v6, nI (i + 1), v7, v8)))) := by
      simp (disch := omega) only [bX8_joinAlong_5, dm4, nI_leS, hl i hi, lt, nI_1]
      rw [if_neg (by omega)]
      rfl
    cases ho : on i with
    | false =>
      rw [ho, if_pos (show bI false = 0 from nI_0)] at e0
      refine ⟨(s1, s2, s3), e0, ?_, ?_⟩
      · rcases hb with ⟨hb1, hb2⟩ | ⟨c, hc, hb1, hb2, hb3⟩
        · refine Or.inl ⟨hb1, fun l hl => ?_⟩
          rcases Nat.lt_or_ge l i with q | q
          · exact hb2 l q
          · obtain rfl : l = i := by omega
            exact ho
        · refine Or.inr ⟨c, by omega, hb1, hb2, fun l h1 h2 => ?_⟩
          rcases Nat.lt_or_ge l i with q | q
          · exact hb3 l h1 q
          · obtain rfl : l = i := by omega
            exact ho
      · intro a b hb4
        rw [cn1_no ho, cn1_no ho]
        exact hI a b hb4
    | true =>
      rw [ho, if_neg (show ¬ bI true = 0 by rw [bI_0']; simp)] at e0
      rcases hb with ⟨hb1, hb2⟩ | ⟨c, hc, hb1, hb2, hb3⟩
      · rw [hb1, if_pos (by decide)] at e0
        rw [hb1]
        refine ⟨(nI i, s2, s3), e0, Or.inr ⟨i, by omega, rfl, ho, fun l h1 h2 => by omega⟩, fun a b hb4 => ?_⟩
        rw [cn1_none hb2, cn1_none hb2]
        exact hI a b hb4
      · subst hb1
        obtain ⟨H1, L1, j1, j2⟩ := join_ok (i := c) (j := i) (by omega) (by omega) s2 s3
        obtain ⟨H2, L2, j3, j4⟩ := join_ok (i := i) (j := c) (by omega) (by omega) H1 L1
        rw [if_neg (nI_pos (by omega)), j1] at e0
        simp only [ob, dm2, j3, dm3] at e0
        refine ⟨(nI i, H2, L2), e0, Or.inr ⟨i, by omega, rfl, ho, fun l h1 h2 => by omega⟩, fun a b hb4 => ?_⟩
        rw [cn1_new hc ho hb2 hb3, cn1_new hc ho hb2 hb3, j4 a b hb4, j2 a b hb4]
        simp only [Bool.or_eq_true, Bool.and_eq_true, decide_eq_true_eq, hI a b hb4]
        grind) (fun s _ => by
    simp (disch := omega) only [bX8_joinAlong_5, dm4, nI_leS]
    rw [if_pos (by omega)])
  refine ⟨s.2.1, s.2.2, ?_, h2.2⟩
  unfold sX8_joinAlong
  rw [nl_0, ob_s h1]
  rfl
