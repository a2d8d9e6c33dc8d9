/-! the class: next allowed colour, differs, paint, unpaint -/
def alB (al : Nat → Int32) (p j : Nat) : Bool := decide (¬ ((al p >>> (nI j &&& 31)) &&& (1 : Int32)) = 0)
theorem nextA_ok {p c0 : Nat} (hp : p < 128) (hc : c0 ≤ 8) (al : Nat → Int32) : ∃ c, c0 ≤ c ∧ c ≤ 8 ∧ (∀ j, c0 ≤ j → j < c → alB al p j = false) ∧ (c < 8 → alB al p c = true) ∧ sX3_nextAllowed (nI p) (nI c0) al = some (nI c) := by
  obtain ⟨ia, ca⟩ := ix_c (i := p) (n := 128) hp (by omega)
  have h8 : (8 : Int32) = nI 8 := rfl
  rcases iter_first (B := bX3_nextAllowed_2 (nI p) al) 8 (fun j => alB al p j = true) c0 hc (by omega) (fun i h1 h2 => by
    unfold bX3_nextAllowed_2
    simp only [dm1]
    rw [if_neg (by rw [h8, nI_leS (by omega) (by omega)]; omega), gd_s ia, ca]
    cases z : alB al p i with
    | false =>
      left
      refine ⟨by simp, ?_⟩
      unfold alB at z
      have z' : ((al p >>> (nI i &&& 31)) &&& (1 : Int32)) = 0 := by
        have := of_decide_eq_false z
        exact Decidable.not_not.mp this
      rw [if_pos z']
      simp only [lt, nl_1, nI_add]
    | true =>
      right
      refine ⟨rfl, ?_⟩
      unfold alB at z
      rw [if_neg (of_decide_eq_true z)]) (by
    unfold bX3_nextAllowed_2
    simp only [dm1]
    rw [if_pos (by rw [h8, nI_leS (by omega) (by omega)]; omega)]) with ⟨i, h1, h2, h3, h4, h5⟩ | ⟨h1, h2⟩
  · refine ⟨i, h1, by omega, fun j a b => by have := h4 j a b; cases z : alB al p j; rfl; exact absurd z this, fun _ => h3, ?_⟩
    unfold sX3_nextAllowed
    rw [ob_s h5]
    rfl
  · refine ⟨8, hc, by omega, fun j a b => by have := h1 j a b; cases z : alB al p j; rfl; exact absurd z this, fun z => by omega, ?_⟩
    unfold sX3_nextAllowed
    rw [ob_s h2]
    rfl
theorem bit_and {w v : Int64} {b : Nat} : (w &&& v).toBitVec.getLsbD b = (w.toBitVec.getLsbD b && v.toBitVec.getLsbD b) := by
  rw [Int64.toBitVec_and, BitVec.getLsbD_and]
theorem bit_or {w v : Int64} {b : Nat} : (w ||| v).toBitVec.getLsbD b = (w.toBitVec.getLsbD b || v.toBitVec.getLsbD b) := by
  rw [Int64.toBitVec_or, BitVec.getLsbD_or]
theorem i64_0 {w : Int64} : w = 0 ↔ ∀ b, b < 64 → w.toBitVec.getLsbD b = false := by
  constructor
  · intro e b _
    rw [e]; simp
  · intro h
    apply Int64.toBitVec_inj.mp
    apply BitVec.eq_of_getLsbD_eq
    intro i hi
    rw [h i hi]
    simp
theorem dif_ok {p c : Nat} (hp : p < 128) (hc : c < 8) (nH nL PH PL : Nat → Int64) : ∃ b : Bool, sX3_differs (nI p) (nI c) nH nL PH PL = some (bI b) ∧ (b = true ↔ ∀ q, q < 128 → ¬ (bt nH nL p q = true ∧ bt PH PL c q = true)) := by
  obtain ⟨ia, ca⟩ := ix_c (i := p) (n := 128) hp (by omega)
  obtain ⟨ib, cb⟩ := ix_c (i := c) (n := 8) hc (by omega)
  have key : ((nL p &&& PL c) ||| (nH p &&& PH c)) = 0 ↔ ∀ q, q < 128 → ¬ (bt nH nL p q = true ∧ bt PH PL c q = true) := by
    rw [i64_0]
    constructor
    · intro h q hq z
      unfold bt at z
      by_cases y : q < 64
      · rw [if_pos y, if_pos y] at z
        have := h q y
        rw [bit_or, bit_and, bit_and, z.1, z.2] at this
        simp at this
      · rw [if_neg y, if_neg y] at z
        have := h (q - 64) (by omega)
        rw [bit_or, bit_and, bit_and, z.1, z.2] at this
        simp at this
    · intro h b hb
      rw [bit_or, bit_and, bit_and]
      have h1 := h b (by omega)
      have h2 := h (b + 64) (by omega)
      unfold bt at h1 h2
      rw [if_pos hb, if_pos hb] at h1
      rw [if_neg (by omega), if_neg (by omega), show b + 64 - 64 = b by omega] at h2
      cases z1 : (nL p).toBitVec.getLsbD b <;> cases z2 : (PL c).toBitVec.getLsbD b <;> cases z3 : (nH p).toBitVec.getLsbD b <;> cases z4 : (PH c).toBitVec.getLsbD b <;> simp_all
  refine ⟨decide (((nL p &&& PL c) ||| (nH p &&& PH c)) = 0), ?_, by rw [decide_eq_true_iff]; exact key⟩
  unfold sX3_differs
  rw [gd_s ia, gd_s ib, gd_s ia, gd_s ib, ca, cb]
  by_cases z : ((nL p &&& PL c) ||| (nH p &&& PH c)) = 0
  · rw [if_neg (fun y => y ((lg_cmp_eq _ _).mpr z)), decide_eq_true z]; rfl
  · rw [if_pos (fun y => z ((lg_cmp_eq _ _).mp y)), decide_eq_false z]; rfl
theorem paint_ok {p c : Nat} (hp : p < 128) (hc : c < 8) (pt : Nat → Int32) (H L : Nat → Int64) : ∃ H' L' : Nat → Int64, sX3_paint (nI p) (nI c) pt H L = some (upd pt p (nI c), H', L') ∧ ∀ a b, b < 128 → bt H' L' a b = (bt H L a b || (decide (a = c) && decide (b = p))) := by
  unfold sX3_paint
  rw [nl_64]
  by_cases h : 64 ≤ p
  · refine ⟨vp_updL H c (H c ||| 1 <<< ((nI p - nI 64).toInt64 &&& 63)), L, by simp (disch := omega) only [lt, nI_leS, h, if_true, nI_lt0, nI_clampS, false_or, gd_s], fun a b hb => ?_⟩
    rw [pk_sub h]
    unfold bt
    by_cases hb2 : b < 64
    · rw [if_pos hb2, if_pos hb2, decide_eq_false (p := b = p) (by omega)]; simp
    · rw [if_neg hb2, if_neg hb2]
      by_cases ha : a = c
      · subst ha
        rw [pk_uLs, or_bit (by omega) (sh1 _ (by omega))]
        congr 1
        simp
        omega
      · rw [pk_uLn ha]; simp [ha]
  · refine ⟨H, vp_updL L c (L c ||| 1 <<< ((nI p).toInt64 &&& 63)), by simp (disch := omega) only [lt, nI_leS, h, if_false, nI_lt0, nI_clampS, false_or, gd_s], fun a b hb => ?_⟩
    unfold bt
    by_cases hb2 : b < 64
    · rw [if_pos hb2, if_pos hb2]
      by_cases ha : a = c
      · subst ha
        rw [pk_uLs, or_bit (by omega) (sh1 _ (by omega))]
        simp
      · rw [pk_uLn ha]; simp [ha]
    · rw [if_neg hb2, if_neg hb2, decide_eq_false (p := b = p) (by omega)]; simp
theorem and_bit {w m : Int64} {j b : Nat} (hb : b < 64) (hm : m.toBitVec = BitVec.twoPow 64 j) : (w &&& (m ^^^ (-1 : Int64))).toBitVec.getLsbD b = (w.toBitVec.getLsbD b && !decide (b = j)) := by
  have e1 : (-1 : Int64).toBitVec = BitVec.allOnes 64 := by decide
  rw [bit_and, Int64.toBitVec_xor, BitVec.getLsbD_xor, hm, e1, BitVec.getLsbD_twoPow, BitVec.getLsbD_allOnes]
  by_cases h : j = b
  · subst h; simp [hb]
  · simp [h, Ne.symm h, hb]
theorem unp_ok {p c : Nat} (hp : p < 128) (hc : c < 8) {pt : Nat → Int32} (hpt : pt p = nI c) (H L : Nat → Int64) : ∃ H' L' : Nat → Int64, sX3_unpaint (nI p) pt H L = some (H', L') ∧ ∀ a b, b < 128 → bt H' L' a b = (bt H L a b && !(decide (a = c) && decide (b = p))) := by
  obtain ⟨ia, ca⟩ := ix_c (i := p) (n := 128) hp (by omega)
  unfold sX3_unpaint
  rw [nl_64, gd_s ia, ca, hpt]
  by_cases h : 64 ≤ p
  · refine ⟨vp_updL H c (H c &&& ((1 <<< ((nI p - nI 64).toInt64 &&& 63)) ^^^ (-1 : Int64))), L, by simp (disch := omega) only [lt, nI_leS, h, if_true, nI_lt0, nI_clampS, false_or, gd_s], fun a b hb => ?_⟩
    rw [pk_sub h]
    unfold bt
    by_cases hb2 : b < 64
    · rw [if_pos hb2, if_pos hb2, decide_eq_false (p := b = p) (by omega)]; simp
    · rw [if_neg hb2, if_neg hb2]
      by_cases ha : a = c
      · subst ha
        rw [pk_uLs, and_bit (by omega) (sh1 _ (by omega))]
        congr 1
        simp
        omega
      · rw [pk_uLn ha]; simp [ha]
  · refine ⟨H, vp_updL L c (L c &&& ((1 <<< ((nI p).toInt64 &&& 63)) ^^^ (-1 : Int64))), by simp (disch := omega) only [lt, nI_leS, h, if_false, nI_lt0, nI_clampS, false_or, gd_s], fun a b hb => ?_⟩
    unfold bt
    by_cases hb2 : b < 64
    · rw [if_pos hb2, if_pos hb2]
      by_cases ha : a = c
      · subst ha
        rw [pk_uLs, and_bit (by omega) (sh1 _ (by omega))]
        simp
      · rw [pk_uLn ha]; simp [ha]
    · rw [if_neg hb2, if_neg hb2, decide_eq_false (p := b = p) (by omega)]; simp
