/-! small answers: tell / answer, count, joint, piece -/
def cf (c : Nat) (f : Nat → Int32) : Nat → Int32 := upd f c (f c + (1 : Int32))
theorem tell1 (f : Nat → Int32) : sX9_tell (-1) f = some (-1, cf 1 f) ∧ sX12_answer (-1) f = some (-1, cf 1 f) := by constructor <;> rfl
theorem tell2 (f : Nat → Int32) : sX9_tell (-2) f = some (-2, cf 2 f) ∧ sX12_answer (-2) f = some (-2, cf 2 f) := by constructor <;> rfl
theorem tell3 (f : Nat → Int32) : sX9_tell (-3) f = some (-3, cf 3 f) ∧ sX12_answer (-3) f = some (-3, cf 3 f) := by constructor <;> rfl
theorem tell4 (f : Nat → Int32) : sX9_tell (-4) f = some (-4, cf 4 f) ∧ sX12_answer (-4) f = some (-4, cf 4 f) := by constructor <;> rfl
theorem tell5 (f : Nat → Int32) : sX9_tell (-5) f = some (-5, cf 5 f) ∧ sX12_answer (-5) f = some (-5, cf 5 f) := by constructor <;> rfl
theorem tell6 (f : Nat → Int32) : sX9_tell (-6) f = some (-6, cf 6 f) ∧ sX12_answer (-6) f = some (-6, cf 6 f) := by constructor <;> rfl
theorem tell7 (f : Nat → Int32) : sX9_tell (-7) f = some (-7, cf 7 f) ∧ sX12_answer (-7) f = some (-7, cf 7 f) := by constructor <;> rfl
theorem there0 : sX1_isThere (0 : Int32) = some 0 := rfl
theorem there1 {w : Nat} (h1 : 1 ≤ w) (h2 : w ≤ 12) : sX1_isThere (nI w) = some 1 := by
  unfold sX1_isThere
  rw [if_neg (by rw [nl_0, nI_leS (by omega) (by omega)]; omega)]
/-- an int is a natural below n, or it isn't one -/
theorem nI_or (a : Int32) (n : Nat) (hn : n < 2147483648) : (∃ i, i < n ∧ a = nI i) ∨ (a < 0 ∨ nI n ≤ a) := by
  by_cases h : a < 0
  · exact Or.inr (Or.inl h)
  · by_cases h2 : nI n ≤ a
    · exact Or.inr (Or.inr h2)
    · left
      obtain ⟨j, hj, e⟩ := nI_of h
      subst e
      rw [nI_leS hn (by omega)] at h2
      exact ⟨j, by omega, rfl⟩
theorem ne_out {a : Int32} {n k : Nat} (h : a < 0 ∨ nI n ≤ a) (hk : k < n) (hn : n < 2147483648) {b : Int32} (e : b = nI k) : ¬ a = b := by
  intro z
  rw [z, e] at h
  rcases h with h | h
  · exact nI_pos (by omega) h
  · rw [nI_leS hn (by omega)] at h; omega
theorem le_out {a : Int32} {n k : Nat} (h : a < 0 ∨ nI n ≤ a) (h0 : ¬ a < 0) (hk : k < n) (hn : n < 2147483648) {b : Int32} (e : b = nI k) : ¬ a ≤ b := by
  intro z
  obtain ⟨j, hj, e2⟩ := nI_of h0
  rw [e2, e, nI_leS (by omega) (by omega)] at z
  rcases h with h | h
  · exact h0 h
  · rw [e2, nI_leS hn (by omega)] at h; omega
theorem hasJ {i m : Nat} (hm : m < 2147483648) (h : i < m) : sX9_hasJoint (nI i) (nI m) = some 1 ∧ sX12_isJoint (nI i) (nI m) = some 1 ∧ sX9_hasPane (nI i) (nI m) = some 1 ∧ sX12_isPane (nI i) (nI m) = some 1 := by
  have h1 : ¬ nI i < 0 := nI_pos (by omega)
  have h2 : ¬ nI m ≤ nI i := by rw [nI_leS hm (by omega)]; omega
  unfold sX9_hasJoint sX12_isJoint sX9_hasPane sX12_isPane
  rw [if_neg h1, if_neg h2]
  exact ⟨rfl, rfl, rfl, rfl⟩
theorem hasN {a : Int32} {m : Nat} (h : a < 0 ∨ nI m ≤ a) : sX9_hasJoint a (nI m) = some 0 ∧ sX12_isJoint a (nI m) = some 0 ∧ sX9_hasPane a (nI m) = some 0 ∧ sX12_isPane a (nI m) = some 0 := by
  unfold sX9_hasJoint sX12_isJoint sX9_hasPane sX12_isPane
  by_cases h1 : a < 0
  · rw [if_pos h1]; exact ⟨rfl, rfl, rfl, rfl⟩
  · rw [if_neg h1, if_pos (h.resolve_left h1)]; exact ⟨rfl, rfl, rfl, rfl⟩
theorem count_q {w h nl : Nat} {ld : Nat → Ln} {m : Nat} {Q : Nat → Pt3} {fm : Nat → Nat → Bool} {nv : Nat → Nat → Nat} {a np : Nat} {gs : Nat → St} {pn : Nat → Nat → Option Nat} {n : Nat} {u x y fw fe fs fr to tn pa sa wa : Nat → Int32} {n' : Nat} {d x2 y2 : Nat → Int64} {gw gr gt pb fa : Nat → Int32} (hw : Wd w h nl ld m Q fm nv a np gs pn) (hx : SdX w h nl ld m Q fm nv a np gs pn n u x y fw fe fs fr to tn pa sa wa) (hm : SdM w h nl ld m Q fm nv a np gs pn n' d x2 y2 gw gr gt pb fa) (c : Nat) (f : Nat → Int32) (a1 : Int32) : ∃ r g, sX9_count a1 (nI c) f (nI w) (nI h) (nI (nl + 4)) (nI m) (nI n) fw (nI np) = some (r, g) ∧ sX12_count a1 1 (nI np) (nI c) f (nI w) (nI h) (nI nl) (nI m) (nI n') gw = some (r, g) := by
  obtain ⟨F, T, fi, tw, st, wk, x1, x2, x3, x4⟩ := hx
  obtain ⟨A, B, cs, m1, m2, m3, m4⟩ := hm
  obtain ⟨w1, w2, w3, w4, w5, w6⟩ := hw
  have dr := w1.1
  have th := there1 dr.1 dr.2.1
  have n2 : n = 2 * n' := steps_two x2.1 m2.1 (adB_R _ _ _ _)
  have n3 := m2.2.2.2.2
  rcases nI_or a1 8 (by omega) with ⟨i, hi, e⟩ | ho
  · subst e
    have : i = 0 ∨ i = 1 ∨ i = 2 ∨ i = 3 ∨ i = 4 ∨ i = 5 ∨ i = 6 ∨ i = 7 := by omega
    unfold sX9_count
    rw [ob_s th]
    rcases this with e | e | e | e | e | e | e | e <;> subst e
    · exact ⟨_, _, rfl, rfl⟩
    · exact ⟨_, _, rfl, rfl⟩
    · refine ⟨nI nl, f, ?_, rfl⟩
      show some (nI (nl + 4) - nI 4, f) = _
      rw [pk_sub (by omega)]
      rfl
    · exact ⟨_, _, rfl, rfl⟩
    · refine ⟨nI n', f, ?_, rfl⟩
      show some (nI n / nI 2, f) = _
      rw [pk_div (by omega) (by omega) (by omega), n2]
      congr 3; omega
    · have l1 := looseX (fw := fw) (F := F) (T := T) (fm := fm) (n := n) (by omega) x2.2.2.2.2.2.2.1.1
      have l2 := looseM (gw := gw) (A := A) (B := B) (fm := fm) (n := n') (by omega) m2.2.2.2.1
      have l3 := loose_one x2.1 m2.1 (adB_R _ _ _ _) w1.2.2.2.1.2.1
      have l4 := cnt_le n' (fun k => !fm (A k) (B k))
      refine ⟨nI (cnt n' (fun k => !fm (A k) (B k))), f, ?_, ?_⟩
      · show ob (sX8_looseSteps (nI n) fw) (fun o => dm1 o (fun r3 => gd (¬ (2 : Int32) = 0) (some ((r3 / nI 2), f)))) = _
        rw [ob_s l1, l3]
        show some (nI (2 * cnt n' (fun k => !fm (A k) (B k))) / nI 2, f) = _
        rw [pk_div (by omega) (by omega) (by omega)]
        congr 3; omega
      · show ob (iter (bX12_count_44 (nI n') gw) FU ((0 : Int32), (0 : Int32))) (fun kt => ex1 kt (fun t => dm2 t (fun v14 v15 => some (v14, f)))) = _
        rw [ob_s l2]
        rfl
    · exact ⟨_, _, rfl, rfl⟩
    · exact ⟨_, _, rfl, rfl⟩
  · refine ⟨-1, cf 1 f, ?_, ?_⟩
    · unfold sX9_count
      rw [ob_s th]
      show (if a1 = 0 then _ else if a1 = 1 then _ else if a1 = 2 then _ else if a1 = 3 then _ else if a1 = 4 then _ else if a1 = 5 then _ else if a1 = 6 then _ else if a1 = 7 then _ else _) = _
      rw [if_neg (ne_out ho (k := 0) (b := 0) (by omega) (by omega) rfl), if_neg (ne_out ho (k := 1) (b := 1) (by omega) (by omega) rfl), if_neg (ne_out ho (k := 2) (b := 2) (by omega) (by omega) rfl), if_neg (ne_out ho (k := 3) (b := 3) (by omega) (by omega) rfl), if_neg (ne_out ho (k := 4) (b := 4) (by omega) (by omega) rfl), if_neg (ne_out ho (k := 5) (b := 5) (by omega) (by omega) rfl), if_neg (ne_out ho (k := 6) (b := 6) (by omega) (by omega) rfl), if_neg (ne_out ho (k := 7) (b := 7) (by omega) (by omega) rfl)]
      rfl
    · unfold sX12_count
      rw [if_neg (by decide)]
      by_cases z : a1 < 0
      · rw [if_pos z]; rfl
      · rw [if_neg z, if_neg (le_out ho z (k := 7) (b := 7) (by omega) (by omega) rfl)]; rfl
theorem frac_q {a b : Nat} (h0 : 0 < b) (h1 : b ≤ 288) (h2 : a ≤ 12 * b) : ∃ g, 0 < g ∧ sX4_above (nI a) (nI b) = some (nI (a / g)) ∧ sX4_below (nI a) (nI b) = some (nI (b / g)) ∧ sX12_gcd (lN a) (lN b) = some (lN g) ∧ ¬ lN g = 0 ∧ (lN a / lN g).toInt32 = nI (a / g) ∧ (lN b / lN g).toInt32 = nI (b / g) := by
  have g0 : 0 < Nat.gcd a b := Nat.gcd_pos_of_pos_right _ h0
  have gl : Nat.gcd a b ≤ b := Nat.gcd_le_right _ h0
  have gc := gc_ok (a := a) (b := b) (by omega) (by omega)
  have z : ¬ nI (Nat.gcd a b) = 0 := by rw [nl_0, nI_eqS (by omega) (by omega)]; omega
  have z1 : (1 : Int32) ≤ nI (Nat.gcd a b) := by rw [nl_1, nI_leS (by omega) (by omega)]; omega
  have t32 : ∀ c : Nat, (lN c).toInt32 = nI c := fun c => by
    have := lz_i (c : Int)
    rw [iz_n] at this
    rw [← this]
    rfl
  refine ⟨Nat.gcd a b, g0, ?_, ?_, mgcd_ok (by omega) (by omega), ?_, ?_, ?_⟩
  · unfold sX4_above
    rw [ob_s gc]
    show (if (1 : Int32) ≤ nI (Nat.gcd a b) then gd (¬ nI (Nat.gcd a b) = 0) (some (nI a / nI (Nat.gcd a b))) else _) = _
    rw [if_pos z1, gd_s z, pk_div (by omega) g0 (by omega)]
  · unfold sX4_below
    rw [ob_s gc]
    show (if (1 : Int32) ≤ nI (Nat.gcd a b) then gd (¬ nI (Nat.gcd a b) = 0) (some (nI b / nI (Nat.gcd a b))) else _) = _
    rw [if_pos z1, gd_s z, pk_div (by omega) g0 (by omega)]
  · intro y
    have := (pk_lEQ (a := Nat.gcd a b) (b := 0) (by omega) (by omega)).mp y
    omega
  · rw [pk_lDiv (by omega) g0 (by omega), t32]
  · rw [pk_lDiv (by omega) g0 (by omega), t32]
