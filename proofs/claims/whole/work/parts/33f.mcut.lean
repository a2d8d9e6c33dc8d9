/-! the reference: what can be cut -/
def ixc (s w h : Nat) : Nat := (s * 13 + w) * 13 + h
def CT (c : Nat) (W H : Nat → Nat) (tn : Nat → Bool) (cu : Nat → Int32) (s w h : Nat) : Prop := ∃ b : Bool, cu (ixc s w h) = bI b ∧ (b = true ↔ CutP c W H tn s w h)
theorem plc (s w h : Nat) : sX12_place (nI s) (nI w) (nI h) = some (nI (ixc s w h)) := by
  unfold sX12_place ixc
  rw [show (13 : Int32) = nI 13 from rfl, nI_mul, nI_add, nI_mul, nI_add]
theorem ixc_lt {s w h : Nat} (hs : s < 64) (hw : w ≤ 12) (hh : h ≤ 12) : ixc s w h < 10816 := by unfold ixc; omega
theorem ixc_ne {s w h s' w' h' : Nat} (hw : w ≤ 12) (hh : h ≤ 12) (hw' : w' ≤ 12) (hh' : h' ≤ 12) (e : ixc s w h = ixc s' w' h') : s = s' ∧ w = w' ∧ h = h' := by unfold ixc at e; omega
theorem isBox_aux (P1 P2 P3 P4 : Prop) [Decidable P1] [Decidable P2] [Decidable P3] [Decidable P4] (b : Bool) : (if ¬ P1 then if b = false then some (0 : Int32) else if ¬ P3 then some (0 : Int32) else if ¬ P4 then some (0 : Int32) else some (1 : Int32) else if P2 then some (1 : Int32) else if b = false then some (0 : Int32) else if ¬ P3 then some (0 : Int32) else if ¬ P4 then some (0 : Int32) else some (1 : Int32)) = some (bI ((decide P1 && decide P2) || (b && (decide P3 && decide P4)))) := by
  by_cases a1 : P1 <;> by_cases a2 : P2 <;> by_cases a3 : P3 <;> by_cases a4 : P4 <;> cases b <;> simp [a1, a2, a3, a4] <;> rfl
theorem isBox_ok {c : Nat} {W H : Nat → Nat} {tn : Nat → Bool} (hb : BxOk c W H) {k : Nat} (hk : k < c) {w h : Nat} (hw : w ≤ 12) (hh : h ≤ 12) {bt2 bu bw : Nat → Int32} (hW : hN c bw W) (hH : hN c bt2 H) (hT : hB c bu tn) : ∃ b : Bool, sX12_isBox (nI k) (nI w) (nI h) bt2 bu bw = some (bI b) ∧ (b = true ↔ isBx W H tn k w h) := by
  have hc6 := hb.1
  obtain ⟨b1, b2, b3, b4⟩ := hb.2 k hk
  obtain ⟨ia, ca⟩ := ix_c (i := k) (n := 6) (by omega) (by omega)
  have ti : bu k = bI (tn k) := hT k hk
  have st : sX12_isBox (nI k) (nI w) (nI h) bt2 bu bw = (if ¬ W k = w then if tn k = false then some (0 : Int32) else if ¬ W k = h then some (0 : Int32) else if ¬ H k = w then some (0 : Int32) else some (1 : Int32) else if H k = h then some (1 : Int32) else if tn k = false then some (0 : Int32) else if ¬ W k = h then some (0 : Int32) else if ¬ H k = w then some (0 : Int32) else some (1 : Int32)) := by
    unfold sX12_isBox
    simp only [gd_s ia]
    simp (disch := omega) only [ca, hW k hk, hH k hk, ti, nl_0, bI_0, nI_eqS]
  refine ⟨(decide (W k = w) && decide (H k = h)) || (tn k && (decide (W k = h) && decide (H k = w))), ?_, ?_⟩
  · rw [st]; exact isBox_aux _ _ _ _ _
  · unfold isBx
    rw [Bool.or_eq_true_iff, Bool.and_eq_true_iff, Bool.and_eq_true_iff, Bool.and_eq_true_iff, decide_eq_true_iff, decide_eq_true_iff, decide_eq_true_iff, decide_eq_true_iff]
theorem cutV_ok {c : Nat} {W H : Nat → Nat} {tn : Nat → Bool} {s w h v : Nat} (hs : s < 64) (hv : v &&& s = v) (hw : w ≤ 12) (hw1 : 1 ≤ w) (hh : h ≤ 12) {cu : Nat → Int32} (h1 : ∀ t, t &&& s = t → ∀ x, 1 ≤ x → x < w → CT c W H tn cu t x h) : (∃ x z, 1 ≤ x ∧ x < w ∧ CutP c W H tn v x h ∧ CutP c W H tn (s ^^^ v) (w - x) h ∧ iter (bX12_isCut_56 (nI s) (nI w) (nI h) cu (nI v)) FU (1 : Int32) = some (0, z)) ∨ ((∀ x, 1 ≤ x → x < w → ¬ (CutP c W H tn v x h ∧ CutP c W H tn (s ^^^ v) (w - x) h)) ∧ ∃ z, iter (bX12_isCut_56 (nI s) (nI w) (nI h) cu (nI v)) FU (1 : Int32) = some (1, z)) := by
  have vl := bs_ltof hs hv
  obtain ⟨q1, q2, q3, q4, q5, q6⟩ := bs_sub v vl s hs hv
  rcases iter_first (B := bX12_isCut_56 (nI s) (nI w) (nI h) cu (nI v)) w (fun x => CutP c W H tn v x h ∧ CutP c W H tn (s ^^^ v) (w - x) h) 1 hw1 (by omega) (fun x x1 x2 => by
    obtain ⟨b, b1, b2⟩ := h1 v hv x x1 x2
    obtain ⟨d, d1, d2⟩ := h1 (s ^^^ v) q2 (w - x) (by omega) (by omega)
    have i1 := ixc_lt (s := v) (w := x) (h := h) vl (by omega) hh
    have i2 := ixc_lt (s := s ^^^ v) (w := w - x) (h := h) (by omega) (by omega) hh
    obtain ⟨ia, ca⟩ := ix_c i1 (by omega)
    obtain ⟨ib, cb⟩ := ix_c i2 (by omega)
    have st : bX12_isCut_56 (nI s) (nI w) (nI h) cu (nI v) (nI x) = (if bI b = 0 then some (0, nI (x + 1)) else if bI d = 0 then some (0, nI (x + 1)) else some (1, nI x)) := by
      unfold bX12_isCut_56
      rw [dm1, if_neg (by rw [nI_leS (by omega) (by omega)]; omega), ob_d1 (plc v x h), gd_s ia, ca, b1, bs_not v vl s hs hv, pk_sub (by omega), ob_d1 (plc (s ^^^ v) (w - x) h), gd_s ib, cb, d1]
      simp only [lt, nI_1]
    rw [st]
    cases b with
    | false => exact Or.inl ⟨fun z => absurd (b2.mpr z.1) (by simp), rfl⟩
    | true =>
      cases d with
      | false => exact Or.inl ⟨fun z => absurd (d2.mpr z.2) (by simp), rfl⟩
      | true => exact Or.inr ⟨⟨b2.mp rfl, d2.mp rfl⟩, rfl⟩) (by
    unfold bX12_isCut_56
    rw [dm1, if_pos (by rw [nI_leS (by omega) (by omega)]; omega)]) with ⟨x, x1, x2, x3, _, x5⟩ | ⟨x1, x2⟩
  · exact Or.inl ⟨x, nI x, x1, x2, x3.1, x3.2, x5⟩
  · exact Or.inr ⟨x1, nI w, x2⟩
theorem cutH_ok {c : Nat} {W H : Nat → Nat} {tn : Nat → Bool} {s w h v : Nat} (hs : s < 64) (hv : v &&& s = v) (hw : w ≤ 12) (hh1 : 1 ≤ h) (hh : h ≤ 12) {cu : Nat → Int32} (h1 : ∀ t, t &&& s = t → ∀ y, 1 ≤ y → y < h → CT c W H tn cu t w y) : (∃ x z, 1 ≤ x ∧ x < h ∧ CutP c W H tn v w x ∧ CutP c W H tn (s ^^^ v) w (h - x) ∧ iter (bX12_isCut_111 (nI s) (nI w) (nI h) cu (nI v)) FU (1 : Int32) = some (0, z)) ∨ ((∀ x, 1 ≤ x → x < h → ¬ (CutP c W H tn v w x ∧ CutP c W H tn (s ^^^ v) w (h - x))) ∧ ∃ z, iter (bX12_isCut_111 (nI s) (nI w) (nI h) cu (nI v)) FU (1 : Int32) = some (1, z)) := by
  have vl := bs_ltof hs hv
  obtain ⟨q1, q2, q3, q4, q5, q6⟩ := bs_sub v vl s hs hv
  rcases iter_first (B := bX12_isCut_111 (nI s) (nI w) (nI h) cu (nI v)) h (fun x => CutP c W H tn v w x ∧ CutP c W H tn (s ^^^ v) w (h - x)) 1 hh1 (by omega) (fun x x1 x2 => by
    obtain ⟨b, b1, b2⟩ := h1 v hv x x1 x2
    obtain ⟨d, d1, d2⟩ := h1 (s ^^^ v) q2 (h - x) (by omega) (by omega)
    have i1 := ixc_lt (s := v) (w := w) (h := x) vl hw (by omega)
    have i2 := ixc_lt (s := s ^^^ v) (w := w) (h := h - x) (by omega) hw (by omega)
    obtain ⟨ia, ca⟩ := ix_c i1 (by omega)
    obtain ⟨ib, cb⟩ := ix_c i2 (by omega)
    have st : bX12_isCut_111 (nI s) (nI w) (nI h) cu (nI v) (nI x) = (if bI b = 0 then some (0, nI (x + 1)) else if bI d = 0 then some (0, nI (x + 1)) else some (1, nI x)) := by
      unfold bX12_isCut_111
      rw [dm1, if_neg (by rw [nI_leS (by omega) (by omega)]; omega), ob_d1 (plc v w x), gd_s ia, ca, b1, bs_not v vl s hs hv, pk_sub (by omega), ob_d1 (plc (s ^^^ v) w (h - x)), gd_s ib, cb, d1]
      simp only [lt, nI_1]
    rw [st]
    cases b with
    | false => exact Or.inl ⟨fun z => absurd (b2.mpr z.1) (by simp), rfl⟩
    | true =>
      cases d with
      | false => exact Or.inl ⟨fun z => absurd (d2.mpr z.2) (by simp), rfl⟩
      | true => exact Or.inr ⟨⟨b2.mp rfl, d2.mp rfl⟩, rfl⟩) (by
    unfold bX12_isCut_111
    rw [dm1, if_pos (by rw [nI_leS (by omega) (by omega)]; omega)]) with ⟨x, x1, x2, x3, _, x5⟩ | ⟨x1, x2⟩
  · exact Or.inl ⟨x, nI x, x1, x2, x3.1, x3.2, x5⟩
  · exact Or.inr ⟨x1, nI h, x2⟩
