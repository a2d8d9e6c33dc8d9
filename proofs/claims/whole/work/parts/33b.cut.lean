/-! what can be cut from a sheet -/
def isBx (W H : Nat → Nat) (tn : Nat → Bool) (k w h : Nat) : Prop := (W k = w ∧ H k = h) ∨ (tn k = true ∧ W k = h ∧ H k = w)
def CutC (c : Nat) (W H : Nat → Nat) (tn : Nat → Bool) (R : Nat → Nat → Nat → Prop) : Prop := (∀ w h, 1 ≤ w → 1 ≤ h → R 0 w h) ∧ (∀ k w h, k < c → isBx W H tn k w h → R (2 ^ k) w h) ∧ (∀ s o w h x, s < 64 → o &&& s = o → 1 ≤ x → x < w → 1 ≤ h → R o x h → R (s ^^^ o) (w - x) h → R s w h) ∧ ∀ s o w h y, s < 64 → o &&& s = o → 1 ≤ y → y < h → 1 ≤ w → R o w y → R (s ^^^ o) w (h - y) → R s w h
def CutP (c : Nat) (W H : Nat → Nat) (tn : Nat → Bool) (s w h : Nat) : Prop := ∀ R, CutC c W H tn R → R s w h
def BxOk (c : Nat) (W H : Nat → Nat) : Prop := c ≤ 6 ∧ ∀ k, k < c → 1 ≤ W k ∧ W k ≤ 12 ∧ 1 ≤ H k ∧ H k ≤ 12
theorem cut_0 {c : Nat} {W H : Nat → Nat} {tn : Nat → Bool} {w h : Nat} (h1 : 1 ≤ w) (h2 : 1 ≤ h) : CutP c W H tn 0 w h := fun _ C => C.1 w h h1 h2
theorem cut_bx {c : Nat} {W H : Nat → Nat} {tn : Nat → Bool} {k w h : Nat} (h1 : k < c) (h2 : isBx W H tn k w h) : CutP c W H tn (2 ^ k) w h := fun _ C => C.2.1 k w h h1 h2
theorem cut_v {c : Nat} {W H : Nat → Nat} {tn : Nat → Bool} {s o w h x : Nat} (h0 : s < 64) (h1 : o &&& s = o) (h2 : 1 ≤ x) (h3 : x < w) (h4 : 1 ≤ h) (h5 : CutP c W H tn o x h) (h6 : CutP c W H tn (s ^^^ o) (w - x) h) : CutP c W H tn s w h := fun R C => C.2.2.1 s o w h x h0 h1 h2 h3 h4 (h5 R C) (h6 R C)
theorem cut_h {c : Nat} {W H : Nat → Nat} {tn : Nat → Bool} {s o w h y : Nat} (h0 : s < 64) (h1 : o &&& s = o) (h2 : 1 ≤ y) (h3 : y < h) (h4 : 1 ≤ w) (h5 : CutP c W H tn o w y) (h6 : CutP c W H tn (s ^^^ o) w (h - y)) : CutP c W H tn s w h := fun R C => C.2.2.2 s o w h y h0 h1 h2 h3 h4 (h5 R C) (h6 R C)
theorem cut_C {c : Nat} {W H : Nat → Nat} {tn : Nat → Bool} : CutC c W H tn (CutP c W H tn) := ⟨fun _ _ h1 h2 => cut_0 h1 h2, fun _ _ _ h1 h2 => cut_bx h1 h2, fun _ _ _ _ _ h0 h1 h2 h3 h4 h5 h6 => cut_v h0 h1 h2 h3 h4 h5 h6, fun _ _ _ _ _ h0 h1 h2 h3 h4 h5 h6 => cut_h h0 h1 h2 h3 h4 h5 h6⟩
theorem cut_pos {c : Nat} {W H : Nat → Nat} {tn : Nat → Bool} (hb : BxOk c W H) {s w h : Nat} (hc : CutP c W H tn s w h) : 1 ≤ w ∧ 1 ≤ h ∧ s < 64 := by
  apply hc (fun s w h => 1 ≤ w ∧ 1 ≤ h ∧ s < 64)
  refine ⟨fun w h h1 h2 => ⟨h1, h2, by omega⟩, fun k w h hk z => ?_, fun s o w h x h0 h1 h2 h3 h4 h5 h6 => ⟨by omega, h4, h0⟩, fun s o w h y h0 h1 h2 h3 h4 h5 h6 => ⟨h4, by omega, h0⟩⟩
  obtain ⟨b1, b2, b3, b4⟩ := hb.2 k hk
  have h6 := hb.1
  have p := (bs_p2 k (by omega)).2.2 (by omega)
  rcases z with ⟨z1, z2⟩ | ⟨_, z1, z2⟩
  · exact ⟨by omega, by omega, p⟩
  · exact ⟨by omega, by omega, p⟩
theorem cut_mw {c : Nat} {W H : Nat → Nat} {tn : Nat → Bool} (hb : BxOk c W H) {s w h : Nat} (hc : CutP c W H tn s w h) : ∀ k, CutP c W H tn s (w + k) h := by
  intro k
  induction k with
  | zero => exact hc
  | succ k ih =>
    obtain ⟨p1, p2, p3⟩ := cut_pos hb ih
    refine cut_v (o := s) (x := w + k) p3 (bs_self s) (by omega) (by omega) p2 ih ?_
    rw [bs_xx]
    exact cut_0 (by omega) p2
theorem cut_mh {c : Nat} {W H : Nat → Nat} {tn : Nat → Bool} (hb : BxOk c W H) {s w h : Nat} (hc : CutP c W H tn s w h) : ∀ k, CutP c W H tn s w (h + k) := by
  intro k
  induction k with
  | zero => exact hc
  | succ k ih =>
    obtain ⟨p1, p2, p3⟩ := cut_pos hb ih
    refine cut_h (o := s) (y := h + k) p3 (bs_self s) (by omega) (by omega) p1 ih ?_
    rw [bs_xx]
    exact cut_0 p1 (by omega)
theorem cut_mono {c : Nat} {W H : Nat → Nat} {tn : Nat → Bool} (hb : BxOk c W H) {s w h w' h' : Nat} (hc : CutP c W H tn s w h) (h1 : w ≤ w') (h2 : h ≤ h') : CutP c W H tn s w' h' := by
  have := cut_mh hb (cut_mw hb hc (w' - w)) (h' - h)
  rw [show w + (w' - w) = w' by omega, show h + (h' - h) = h' by omega] at this
  exact this
theorem cut_inv {c : Nat} {W H : Nat → Nat} {tn : Nat → Bool} {s w h : Nat} (hc : CutP c W H tn s w h) : s = 0 ∨ (∃ k, k < c ∧ s = 2 ^ k ∧ isBx W H tn k w h) ∨ (∃ o x, o &&& s = o ∧ 1 ≤ x ∧ x < w ∧ CutP c W H tn o x h ∧ CutP c W H tn (s ^^^ o) (w - x) h) ∨ ∃ o y, o &&& s = o ∧ 1 ≤ y ∧ y < h ∧ CutP c W H tn o w y ∧ CutP c W H tn (s ^^^ o) w (h - y) := by
  have := hc (fun s w h => CutP c W H tn s w h ∧ (s = 0 ∨ (∃ k, k < c ∧ s = 2 ^ k ∧ isBx W H tn k w h) ∨ (∃ o x, o &&& s = o ∧ 1 ≤ x ∧ x < w ∧ CutP c W H tn o x h ∧ CutP c W H tn (s ^^^ o) (w - x) h) ∨ ∃ o y, o &&& s = o ∧ 1 ≤ y ∧ y < h ∧ CutP c W H tn o w y ∧ CutP c W H tn (s ^^^ o) w (h - y))) ⟨fun w h h1 h2 => ⟨cut_0 h1 h2, Or.inl rfl⟩, fun k w h h1 h2 => ⟨cut_bx h1 h2, Or.inr (Or.inl ⟨k, h1, rfl, h2⟩)⟩, fun s o w h x h0 h1 h2 h3 h4 h5 h6 => ⟨cut_v h0 h1 h2 h3 h4 h5.1 h6.1, Or.inr (Or.inr (Or.inl ⟨o, x, h1, h2, h3, h5.1, h6.1⟩))⟩, fun s o w h y h0 h1 h2 h3 h4 h5 h6 => ⟨cut_h h0 h1 h2 h3 h4 h5.1 h6.1, Or.inr (Or.inr (Or.inr ⟨o, y, h1, h2, h3, h5.1, h6.1⟩))⟩⟩
  exact this.2
theorem cut_one {c : Nat} {W H : Nat → Nat} {tn : Nat → Bool} (hb : BxOk c W H) {k : Nat} (hk : k < c) {w h : Nat} : CutP c W H tn (2 ^ k) w h ↔ (W k ≤ w ∧ H k ≤ h) ∨ (tn k = true ∧ H k ≤ w ∧ W k ≤ h) := by
  have hc6 := hb.1
  obtain ⟨b1, b2, b3, b4⟩ := hb.2 k hk
  have pp := bs_p2 k (by omega)
  constructor
  · intro hc
    have := hc (fun s w h => (s < 64 ∧ 1 ≤ w ∧ 1 ≤ h) ∧ (s = 2 ^ k → (W k ≤ w ∧ H k ≤ h) ∨ (tn k = true ∧ H k ≤ w ∧ W k ≤ h))) ⟨fun w h h1 h2 => ⟨⟨by omega, h1, h2⟩, fun z => by omega⟩, fun j w h h1 h2 => ⟨by
        have e := cut_pos hb (cut_bx h1 h2)
        exact ⟨e.2.2, e.1, e.2.1⟩, fun z => by
        have e := bs_p2i j (by omega) k (by omega) z
        subst e
        rcases h2 with ⟨z1, z2⟩ | ⟨z0, z1, z2⟩
        · exact Or.inl ⟨by omega, by omega⟩
        · exact Or.inr ⟨z0, by omega, by omega⟩⟩, fun s o w h x h0 h1 h2 h3 h4 h5 h6 => ⟨⟨h0, by omega, h4⟩, fun z => by
        subst z
        rcases bs_single k (by omega) o (by omega) h1 with e | e
        · subst e
          rw [bs_x0] at h6
          rcases h6.2 rfl with q | q
          · exact Or.inl ⟨by omega, q.2⟩
          · exact Or.inr ⟨q.1, by omega, q.2.2⟩
        · rcases h5.2 e with q | q
          · exact Or.inl ⟨by omega, q.2⟩
          · exact Or.inr ⟨q.1, by omega, q.2.2⟩⟩, fun s o w h y h0 h1 h2 h3 h4 h5 h6 => ⟨⟨h0, h4, by omega⟩, fun z => by
        subst z
        rcases bs_single k (by omega) o (by omega) h1 with e | e
        · subst e
          rw [bs_x0] at h6
          rcases h6.2 rfl with q | q
          · exact Or.inl ⟨q.1, by omega⟩
          · exact Or.inr ⟨q.1, q.2.1, by omega⟩
        · rcases h5.2 e with q | q
          · exact Or.inl ⟨q.1, by omega⟩
          · exact Or.inr ⟨q.1, q.2.1, by omega⟩⟩⟩
    exact this.2 rfl
  · intro z
    rcases z with ⟨z1, z2⟩ | ⟨z0, z1, z2⟩
    · exact cut_mono hb (cut_bx hk (Or.inl ⟨rfl, rfl⟩)) z1 z2
    · exact cut_mono hb (cut_bx hk (Or.inr ⟨z0, rfl, rfl⟩)) z1 z2
def Spl (c : Nat) (W H : Nat → Nat) (tn : Nat → Bool) (s w h : Nat) : Prop := ∃ o, o &&& s = o ∧ o ≠ 0 ∧ o ≠ s ∧ ((∃ x, 1 ≤ x ∧ x < w ∧ CutP c W H tn o x h ∧ CutP c W H tn (s ^^^ o) (w - x) h) ∨ ∃ y, 1 ≤ y ∧ y < h ∧ CutP c W H tn o w y ∧ CutP c W H tn (s ^^^ o) w (h - y))
theorem Spl_w {c : Nat} {W H : Nat → Nat} {tn : Nat → Bool} (hb : BxOk c W H) {s w h w' h' : Nat} (hs : Spl c W H tn s w h) (h1 : w ≤ w') (h2 : h ≤ h') : Spl c W H tn s w' h' := by
  obtain ⟨o, o1, o2, o3, z⟩ := hs
  refine ⟨o, o1, o2, o3, ?_⟩
  rcases z with ⟨x, x1, x2, x3, x4⟩ | ⟨y, y1, y2, y3, y4⟩
  · exact Or.inl ⟨x, x1, by omega, cut_mono hb x3 (Nat.le_refl _) h2, cut_mono hb x4 (by omega) h2⟩
  · exact Or.inr ⟨y, y1, by omega, cut_mono hb y3 h1 (Nat.le_refl _), cut_mono hb y4 h1 (by omega)⟩
theorem cut_split {c : Nat} {W H : Nat → Nat} {tn : Nat → Bool} (hb : BxOk c W H) {s w h : Nat} (hc : CutP c W H tn s w h) (h0 : s ≠ 0) (hn : ∀ k, k < 6 → s ≠ 2 ^ k) : Spl c W H tn s w h := by
  have hc6 := hb.1
  have := hc (fun s w h => CutP c W H tn s w h ∧ (s ≠ 0 → (∀ k, k < 6 → s ≠ 2 ^ k) → Spl c W H tn s w h)) ⟨fun w h h1 h2 => ⟨cut_0 h1 h2, fun z => absurd rfl z⟩, fun k w h h1 h2 => ⟨cut_bx h1 h2, fun _ z => absurd rfl (z k (by omega))⟩, fun s o w h x h0 h1 h2 h3 h4 h5 h6 => ⟨cut_v h0 h1 h2 h3 h4 h5.1 h6.1, fun z1 z2 => by
      by_cases e : o = 0
      · subst e
        rw [bs_x0] at h6
        exact Spl_w hb (h6.2 z1 z2) (by omega) (Nat.le_refl _)
      · by_cases e2 : o = s
        · subst e2
          exact Spl_w hb (h5.2 z1 z2) (by omega) (Nat.le_refl _)
        · exact ⟨o, h1, e, e2, Or.inl ⟨x, h2, h3, h5.1, h6.1⟩⟩⟩, fun s o w h y h0 h1 h2 h3 h4 h5 h6 => ⟨cut_h h0 h1 h2 h3 h4 h5.1 h6.1, fun z1 z2 => by
      by_cases e : o = 0
      · subst e
        rw [bs_x0] at h6
        exact Spl_w hb (h6.2 z1 z2) (Nat.le_refl _) (by omega)
      · by_cases e2 : o = s
        · subst e2
          exact Spl_w hb (h5.2 z1 z2) (Nat.le_refl _) (by omega)
        · exact ⟨o, h1, e, e2, Or.inr ⟨y, h2, h3, h5.1, h6.1⟩⟩⟩⟩
  exact this.2 h0 hn
theorem bs_ltof {o s : Nat} (hs : s < 64) (h : o &&& s = o) : o < 64 := by
  have : o &&& s ≤ s := Nat.and_le_right
  omega
theorem cut_sub {c : Nat} {W H : Nat → Nat} {tn : Nat → Bool} (hb : BxOk c W H) {s w h : Nat} (hc : CutP c W H tn s w h) {t : Nat} (ht : t &&& s = t) : CutP c W H tn t w h := by
  have hc6 := hb.1
  have := hc (fun s w h => (s < 64 ∧ 1 ≤ w ∧ 1 ≤ h) ∧ ∀ t, t &&& s = t → CutP c W H tn t w h) ⟨fun w h h1 h2 => ⟨⟨by omega, h1, h2⟩, fun t ht => by
      rw [Nat.and_zero] at ht
      rw [← ht]
      exact cut_0 h1 h2⟩, fun k w h h1 h2 => by
      obtain ⟨e1, e2, e3⟩ := cut_pos hb (cut_bx (tn := tn) h1 h2)
      refine ⟨⟨e3, e1, e2⟩, fun t ht => ?_⟩
      rcases bs_single k (by omega) t (bs_ltof e3 ht) ht with e | e
      · rw [e]; exact cut_0 e1 e2
      · rw [e]; exact cut_bx h1 h2, fun s o w h x h0 h1 h2 h3 h4 h5 h6 => ⟨⟨h0, by omega, h4⟩, fun t ht => by
      have tl := bs_ltof h0 ht
      obtain ⟨q1, q2, q3⟩ := bs_cap s h0 o (bs_ltof h0 h1) h1 t tl ht
      exact cut_v (o := t &&& o) tl q2 h2 h3 h4 (h5.2 _ q1) (h6.2 _ q3)⟩, fun s o w h y h0 h1 h2 h3 h4 h5 h6 => ⟨⟨h0, h4, by omega⟩, fun t ht => by
      have tl := bs_ltof h0 ht
      obtain ⟨q1, q2, q3⟩ := bs_cap s h0 o (bs_ltof h0 h1) h1 t tl ht
      exact cut_h (o := t &&& o) tl q2 h2 h3 h4 (h5.2 _ q1) (h6.2 _ q3)⟩⟩
  exact this.2 t ht
