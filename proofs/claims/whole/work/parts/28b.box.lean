/-! boxes of a pane -/
def mnF (f : Nat → Nat) : Nat → Nat
  | 0 => 12
  | k + 1 => if f k < mnF f k then f k else mnF f k
def mxF (f : Nat → Nat) : Nat → Nat
  | 0 => 0
  | k + 1 => if mxF f k < f k then f k else mxF f k
theorem mnF_le (f : Nat → Nat) : ∀ k, mnF f k ≤ 12 := by
  intro k
  induction k with
  | zero => exact Nat.le_refl _
  | succ k ih => show (if f k < mnF f k then f k else mnF f k) ≤ 12; split <;> omega
theorem mxF_le {f : Nat → Nat} : ∀ k, (∀ i, i < k → f i ≤ 12) → mxF f k ≤ 12 := by
  intro k
  induction k with
  | zero => intro _; exact Nat.zero_le _
  | succ k ih =>
    intro h
    have h1 := ih (fun i hi => h i (by omega))
    have h2 := h k (by omega)
    show (if mxF f k < f k then f k else mxF f k) ≤ 12
    split <;> omega
theorem if_nI {c : Prop} [Decidable c] (a b : Nat) : (if c then nI a else nI b) = nI (if c then a else b) := by split <;> rfl
theorem ceil12 {a b : Nat} (h : a ≤ 12 * b) (hb : 0 < b) : (a + b - 1) / b ≤ 12 := by
  have : a + b - 1 < 13 * b := by omega
  have := (Nat.div_lt_iff_lt_mul hb).mpr this
  omega
theorem flr12 {a b : Nat} (h : a ≤ 12 * b) (hb : 0 < b) : a / b ≤ 12 := by
  have : a < 13 * b := by omega
  have := (Nat.div_lt_iff_lt_mul hb).mpr this
  omega
theorem wbX {a b : Nat} (hb : 0 < b) (h1 : b < 100000) (h2 : a < 100000) : sX7_wholeBelow (nI a) (nI b) = some (nI (a / b)) := by
  have z : ¬ nI b = 0 := by rw [nl_0, nI_eqS (by omega) (by omega)]; omega
  simp (disch := omega) only [sX7_wholeBelow, nl_1, nI_leS]
  rw [if_pos (by omega), gd_s z, pk_div (by omega) hb (by omega)]
theorem waX {a b : Nat} (hb : 0 < b) (h1 : b < 100000) (h2 : a < 100000) : sX7_wholeAbove (nI a) (nI b) = some (nI ((a + b - 1) / b)) := by
  have z : ¬ nI b = 0 := by rw [nl_0, nI_eqS (by omega) (by omega)]; omega
  simp (disch := omega) only [sX7_wholeAbove, nl_1, nI_leS, nI_add]
  rw [if_pos (by omega), gd_s z, pk_sub (by omega), pk_div (by omega) hb (by omega)]
theorem boxLX {nv : Nat → Nat → Nat} {n : Nat} {F T : Nat → Nat} (hn : n ≤ 684) {np : Nat} (hnp : np ≤ 125) {gs : Nat → St} {st wk : Nat → Nat} {sa wa fr : Nat → Int32} (hf : hN n fr F) (hW : WaX nv n F T np gs st wk sa wa) {p : Nat} (hp : p < np) {K : Nat} (hK : Per nv (gs p) K) (hK6 : K ≤ 684) {u xa : Nat → Int32} {X D : Nat → Nat} (hj : ∀ k, k < K → (itr nv k (gs p)).1 < 129 ∧ xa (itr nv k (gs p)).1 = nI (X (itr nv k (gs p)).1) ∧ u (itr nv k (gs p)).1 = nI (D (itr nv k (gs p)).1) ∧ 0 < D (itr nv k (gs p)).1 ∧ D (itr nv k (gs p)).1 ≤ 288 ∧ X (itr nv k (gs p)).1 ≤ 12 * D (itr nv k (gs p)).1) : sX7_boxLeft (nI p) u xa fr sa wa = some (nI (mnF (fun k => X (itr nv k (gs p)).1 / D (itr nv k (gs p)).1) K)) := by
  have cn := cornX_ok hn hnp hW hp hK
  obtain ⟨s, h1, h2⟩ := iter_for (S := Unit) (B := bX7_boxLeft_5 (nI p) u xa fr sa wa) (fun k _ => (nI (mnF (fun k => X (itr nv k (gs p)).1 / D (itr nv k (gs p)).1) k), nI k)) K (fun _ _ => True) 0 () trivial (by omega) (by omega) (fun k s _ hk _ => ⟨(), by
      have jc := jacX_ok hn hnp hf hW hp hK hk
      obtain ⟨j1, j2, j3, j4, j5, j6⟩ := hj k hk
      have ml := mnF_le (fun k => X (itr nv k (gs p)).1 / D (itr nv k (gs p)).1) k
      have fl := flr12 j6 j4
      have ix : ¬ (nI (itr nv k (gs p)).1 < 0 ∨ 129 ≤ (nI (itr nv k (gs p)).1).toNatClampNeg) := ix_ok (by omega) (by omega)
      unfold bX7_boxLeft_5
      simp only [dm2]
      rw [ob_s cn]
      simp (disch := omega) only [dm1, nI_leS]
      rw [if_neg (by omega), ob_s jc]
      simp only [gd_s ix]
      simp (disch := omega) only [nI_clampS, j2, j3]
      rw [ob_s (wbX j4 (by omega) (by omega))]
      simp only [lt, nI_1]
      simp (disch := omega) only [nI_ltS, if_nI]
      rfl, trivial⟩) (fun s _ => by
      unfold bX7_boxLeft_5
      simp only [dm2]
      rw [ob_s cn]
      simp (disch := omega) only [dm1, nI_leS]
      rw [if_pos (by omega)])
  have h1' : iter (bX7_boxLeft_5 (nI p) u xa fr sa wa) FU ((12 : Int32), (0 : Int32)) = some (0, (nI (mnF (fun k => X (itr nv k (gs p)).1 / D (itr nv k (gs p)).1) K), nI K)) := h1
  unfold sX7_boxLeft
  rw [ob_s h1']
  rfl
theorem boxWX {nv : Nat → Nat → Nat} {n : Nat} {F T : Nat → Nat} (hn : n ≤ 684) {np : Nat} (hnp : np ≤ 125) {gs : Nat → St} {st wk : Nat → Nat} {sa wa fr : Nat → Int32} (hf : hN n fr F) (hW : WaX nv n F T np gs st wk sa wa) {p : Nat} (hp : p < np) {K : Nat} (hK : Per nv (gs p) K) (hK6 : K ≤ 684) {u xa : Nat → Int32} {X D : Nat → Nat} (hj : ∀ k, k < K → (itr nv k (gs p)).1 < 129 ∧ xa (itr nv k (gs p)).1 = nI (X (itr nv k (gs p)).1) ∧ u (itr nv k (gs p)).1 = nI (D (itr nv k (gs p)).1) ∧ 0 < D (itr nv k (gs p)).1 ∧ D (itr nv k (gs p)).1 ≤ 288 ∧ X (itr nv k (gs p)).1 ≤ 12 * D (itr nv k (gs p)).1) : sX7_boxWidth (nI p) u xa fr sa wa = some (nI (mxF (fun k => (X (itr nv k (gs p)).1 + D (itr nv k (gs p)).1 - 1) / D (itr nv k (gs p)).1) K) - nI (mnF (fun k => X (itr nv k (gs p)).1 / D (itr nv k (gs p)).1) K)) := by
  have cn := cornX_ok hn hnp hW hp hK
  obtain ⟨s, h1, h2⟩ := iter_for (S := Unit) (B := bX7_boxWidth_4 (nI p) u xa fr sa wa) (fun k _ => (nI (mxF (fun k => (X (itr nv k (gs p)).1 + D (itr nv k (gs p)).1 - 1) / D (itr nv k (gs p)).1) k), nI k)) K (fun _ _ => True) 0 () trivial (by omega) (by omega) (fun k s _ hk _ => ⟨(), by
      have jc := jacX_ok hn hnp hf hW hp hK hk
      obtain ⟨j1, j2, j3, j4, j5, j6⟩ := hj k hk
      have ml := mxF_le (f := fun k => (X (itr nv k (gs p)).1 + D (itr nv k (gs p)).1 - 1) / D (itr nv k (gs p)).1) k (fun i hi => by
        obtain ⟨-, -, -, i4, -, i6⟩ := hj i (by omega)
        exact ceil12 i6 i4)
      have fl := ceil12 j6 j4
      have ix : ¬ (nI (itr nv k (gs p)).1 < 0 ∨ 129 ≤ (nI (itr nv k (gs p)).1).toNatClampNeg) := ix_ok (by omega) (by omega)
      unfold bX7_boxWidth_4
      simp only [dm2]
      rw [ob_s cn]
      simp (disch := omega) only [dm1, nI_leS]
      rw [if_neg (by omega), ob_s jc]
      simp only [gd_s ix]
      simp (disch := omega) only [nI_clampS, j2, j3]
      rw [ob_s (waX j4 (by omega) (by omega))]
      simp only [lt, nI_1]
      simp (disch := omega) only [nI_ltS, if_nI]
      rfl, trivial⟩) (fun s _ => by
      unfold bX7_boxWidth_4
      simp only [dm2]
      rw [ob_s cn]
      simp (disch := omega) only [dm1, nI_leS]
      rw [if_pos (by omega)])
  have h1' : iter (bX7_boxWidth_4 (nI p) u xa fr sa wa) FU ((0 : Int32), (0 : Int32)) = some (0, (nI (mxF (fun k => (X (itr nv k (gs p)).1 + D (itr nv k (gs p)).1 - 1) / D (itr nv k (gs p)).1) K), nI K)) := h1
  have bl := boxLX hn hnp hf hW hp hK hK6 hj
  unfold sX7_boxWidth
  rw [ob_s h1', ex1_0]
  simp only [dm2]
  rw [ob_s bl]
  rfl
theorem boxBX : sX7_boxBottom = sX7_boxLeft := by
  funext a b c d e f
  unfold sX7_boxBottom sX7_boxLeft
  rw [show bX7_boxBottom_5 = bX7_boxLeft_5 from rfl]
theorem boxHX : sX7_boxHeight = sX7_boxWidth := by
  funext a b c d e f
  unfold sX7_boxHeight sX7_boxWidth
  rw [show bX7_boxHeight_4 = bX7_boxWidth_4 from rfl, boxBX]
