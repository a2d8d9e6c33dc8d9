/-! the class: least heights -/
def TabP (c : Nat) (W H : Nat → Nat) (tn : Nat → Bool) (lh : Nat → Int32) (s w : Nat) : Prop := ∃ v, lh (s * 13 + w) = nI v ∧ 1 ≤ v ∧ v ≤ 1000 ∧ ∀ d, 1 ≤ d → d ≤ 12 → (v ≤ d ↔ CutP c W H tn s w d)
theorem if_nIlt {a b : Nat} (ha : a < 2147483648) (hb : b < 2147483648) : (if nI a < nI b then nI a else nI b) = nI (min a b) := by
  by_cases z : a < b
  · rw [if_pos (by rw [nI_ltS ha hb]; exact z), Nat.min_eq_left (by omega)]
  · rw [if_neg (by rw [nI_ltS ha hb]; exact z), Nat.min_eq_right (by omega)]
theorem if_nImx {a b : Nat} (ha : a < 2147483648) (hb : b < 2147483648) : (if nI a < nI b then nI b else nI a) = nI (max a b) := by
  by_cases z : a < b
  · rw [if_pos (by rw [nI_ltS ha hb]; exact z), Nat.max_eq_right (by omega)]
  · rw [if_neg (by rw [nI_ltS ha hb]; exact z), Nat.max_eq_left (by omega)]
theorem h2_ok {p r w : Nat} (hp : p < 64) (hr : r < 64) (hw : 1 ≤ w) (hw2 : w ≤ 12) {lh : Nat → Int32} {A B : Nat → Nat} (hA : ∀ x, 1 ≤ x → x ≤ w → lh (p * 13 + x) = nI (A x) ∧ A x ≤ 1000) (hB : ∀ x, 1 ≤ x → x ≤ w → lh (r * 13 + x) = nI (B x) ∧ B x ≤ 1000) : ∃ v, v ≤ 2000 ∧ sX0_heightForTwo (nI p) (nI r) (nI w) lh = some (nI v) ∧ ∀ d, v ≤ d ↔ (A w + B w ≤ d ∨ ∃ x, 1 ≤ x ∧ x < w ∧ A x ≤ d ∧ B (w - x) ≤ d) := by
  have i13 : (13 : Int32) = nI 13 := rfl
  have aw := hA w hw (Nat.le_refl _)
  have bw := hB w hw (Nat.le_refl _)
  obtain ⟨v, h1, h2, h3⟩ := iter_for (S := Nat) (B := bX0_heightForTwo_28 (nI p) (nI r) (nI w) lh) (fun i v => (nI v, nI i)) w (fun i v => v ≤ 2000 ∧ ∀ d, v ≤ d ↔ (A w + B w ≤ d ∨ ∃ x, 1 ≤ x ∧ x < i ∧ A x ≤ d ∧ B (w - x) ≤ d)) 1 (A w + B w) ⟨by omega, fun d => ⟨fun z => Or.inl z, fun z => by
      rcases z with z | ⟨x, x1, x2, _⟩
      · exact z
      · omega⟩⟩ hw (by omega) (fun i v hi1 hi hI => by
    obtain ⟨a1, a2⟩ := hA i hi1 (by omega)
    obtain ⟨b1, b2⟩ := hB (w - i) (by omega) (by omega)
    obtain ⟨ia, ca⟩ := ix_c (i := p * 13 + i) (n := 832) (by omega) (by omega)
    obtain ⟨ib, cb⟩ := ix_c (i := r * 13 + (w - i)) (n := 832) (by omega) (by omega)
    have eb : nI r * nI 13 + nI w - nI i = nI (r * 13 + (w - i)) := by rw [nI_mul, nI_add, pk_sub (by omega), show r * 13 + w - i = r * 13 + (w - i) by omega]
    refine ⟨min (max (A i) (B (w - i))) v, ?_, by omega, fun d => ?_⟩
    · unfold bX0_heightForTwo_28
      simp only [dm2]
      rw [if_neg (by rw [nI_leS (by omega) (by omega)]; omega), i13, nI_mul, nI_add, gd_s ia, ca, lt_v, eb, gd_s ib, cb, lt_v, a1, b1, lt_v, lt_v, if_nImx (by omega) (by omega), if_nIlt (by omega) (by omega), nI_1]
    · have hd := hI.2 d
      constructor
      · intro z
        by_cases y : v ≤ d
        · rcases hd.mp y with q | ⟨x, x1, x2, x3⟩
          · exact Or.inl q
          · exact Or.inr ⟨x, x1, by omega, x3⟩
        · exact Or.inr ⟨i, hi1, by omega, by omega, by omega⟩
      · intro z
        rcases z with q | ⟨x, x1, x2, x3, x4⟩
        · have := hd.mpr (Or.inl q); omega
        · by_cases y : x = i
          · subst y; omega
          · have := hd.mpr (Or.inr ⟨x, x1, by omega, x3, x4⟩); omega) (fun v _ => by
    unfold bX0_heightForTwo_28
    simp only [dm2]
    rw [if_pos (by rw [nI_leS (by omega) (by omega)]; omega)])
  obtain ⟨ia, ca⟩ := ix_c (i := p * 13 + w) (n := 832) (by omega) (by omega)
  obtain ⟨ib, cb⟩ := ix_c (i := r * 13 + w) (n := 832) (by omega) (by omega)
  refine ⟨v, h2, ?_, h3⟩
  have h1' : iter (bX0_heightForTwo_28 (nI p) (nI r) (nI w) lh) FU (nI (A w + B w), (1 : Int32)) = some (0, (nI v, nI w)) := by rw [nl_1]; exact h1
  unfold sX0_heightForTwo
  rw [i13, nI_mul, nI_mul, nI_add, nI_add, gd_s ia, gd_s ib, ca, cb, aw.1, bw.1, nI_add, lt_v, ob_x2s h1']
def oneV (W H : Nat → Nat) (tn : Nat → Bool) (k w : Nat) : Nat := if tn k = true ∧ H k ≤ w then min (W k) (if W k ≤ w then H k else 1000) else if W k ≤ w then H k else 1000
theorem h1_ok {c : Nat} {W H : Nat → Nat} {tn : Nat → Bool} (hb : BxOk c W H) {k : Nat} (hk : k < c) {w : Nat} (hw2 : w ≤ 12) {hi wi tu : Nat → Int32} (hW : hN c wi W) (hH : hN c hi H) (hT : hB c tu tn) : sX0_heightForOne (nI (2 ^ k)) (nI w) (nI c) hi tu wi = some (nI (oneV W H tn k w)) := by
  have hc6 := hb.1
  obtain ⟨s, h1, _⟩ := iter_for (S := Unit) (B := bX0_heightForOne_7 (nI (2 ^ k)) (nI w) (nI c) hi tu wi) (fun i _ => (nI (if k < i then oneV W H tn k w else 1000), nI i)) c (fun _ _ => True) 0 () trivial (by omega) (by omega) (fun i _ _ hic _ => by
    refine ⟨(), ?_, trivial⟩
    obtain ⟨ia, ca⟩ := ix_c (i := i) (n := 6) (by omega) (by omega)
    have pk := bs_p2 k (by omega)
    have pi := bs_p2 i (by omega)
    unfold bX0_heightForOne_7
    simp only [dm2]
    rw [if_neg (by rw [nI_leS (by omega) (by omega)]; omega), bs_sh i (by omega)]
    by_cases z : i = k
    · subst z
      obtain ⟨b1, b2, b3, b4⟩ := hb.2 i hic
      have ti : tu i = bI (tn i) := hT i hic
      rw [if_neg (by simp), if_neg (show ¬ i < i by omega), if_pos (show i < i + 1 by omega)]
      simp only [gd_s ia]
      simp only [ca, hW i hic, hH i hic, ti, lt, nI_1]
      have c1 : (nI w < nI (W i)) = (w < W i) := nI_ltS (by omega) (by omega)
      have c2 : (nI w < nI (H i)) = (w < H i) := nI_ltS (by omega) (by omega)
      simp only [c1, c2]
      unfold oneV
      by_cases y1 : w < W i
      · rw [if_pos y1, if_neg (show ¬ W i ≤ w by omega), ob_d1 rfl]
        cases y2 : tn i with
        | false =>
          rw [if_pos (show bI false = 0 by decide), if_neg (by simp), ob_d1 rfl]
        | true =>
          rw [if_neg (show ¬ bI true = 0 by decide)]
          by_cases y3 : w < H i
          · rw [if_pos y3, if_neg (by omega), ob_d1 rfl]
          · rw [if_neg y3, if_nIlt (by omega) (by omega), if_pos (show true = true ∧ H i ≤ w from ⟨rfl, by omega⟩), ob_d1 rfl]
      · rw [if_neg y1, if_pos (show W i ≤ w by omega), ob_d1 rfl]
        cases y2 : tn i with
        | false =>
          rw [if_pos (show bI false = 0 by decide), if_neg (by simp), ob_d1 rfl]
        | true =>
          rw [if_neg (show ¬ bI true = 0 by decide)]
          by_cases y3 : w < H i
          · rw [if_pos y3, if_neg (by omega), ob_d1 rfl]
          · rw [if_neg y3, if_nIlt (by omega) (by omega), if_pos (show true = true ∧ H i ≤ w from ⟨rfl, by omega⟩), ob_d1 rfl]
    · rw [if_pos (by
        rw [nI_eqS (by omega) (by omega)]
        intro e
        exact z (bs_p2i _ (by omega) _ (by omega) e).symm), ob_d1 rfl]
      have : (k < i + 1) = (k < i) := propext (by omega)
      simp only [lt, nI_1, this]) (fun _ _ => by
    unfold bX0_heightForOne_7
    simp only [dm2]
    rw [if_pos (by rw [nI_leS (by omega) (by omega)]; omega)])
  have h1' : iter (bX0_heightForOne_7 (nI (2 ^ k)) (nI w) (nI c) hi tu wi) FU ((1000 : Int32), (0 : Int32)) = some (0, (nI (oneV W H tn k w), nI c)) := by
    have h1'' : iter (bX0_heightForOne_7 (nI (2 ^ k)) (nI w) (nI c) hi tu wi) FU (nI (if k < 0 then oneV W H tn k w else 1000), nI 0) = some (0, (nI (if k < c then oneV W H tn k w else 1000), nI c)) := h1
    rw [if_neg (by omega), if_pos hk] at h1''
    exact h1''
  unfold sX0_heightForOne
  rw [ob_x2s h1']
theorem oneV_ok {c : Nat} {W H : Nat → Nat} {tn : Nat → Bool} (hb : BxOk c W H) {k : Nat} (hk : k < c) {w : Nat} : 1 ≤ oneV W H tn k w ∧ oneV W H tn k w ≤ 1000 ∧ ∀ d, 1 ≤ d → d ≤ 12 → (oneV W H tn k w ≤ d ↔ CutP c W H tn (2 ^ k) w d) := by
  obtain ⟨b1, b2, b3, b4⟩ := hb.2 k hk
  unfold oneV
  refine ⟨?_, ?_, fun d d1 d2 => ?_⟩
  · split <;> (split <;> omega)
  · split <;> (split <;> omega)
  · rw [cut_one hb hk]
    by_cases y1 : tn k = true
    · by_cases y2 : H k ≤ w
      · rw [if_pos ⟨y1, y2⟩]
        by_cases y3 : W k ≤ w
        · rw [if_pos y3]
          constructor
          · intro z
            by_cases q : H k ≤ d
            · exact Or.inl ⟨y3, q⟩
            · exact Or.inr ⟨y1, y2, by omega⟩
          · intro z
            rcases z with z | z <;> omega
        · rw [if_neg y3]
          constructor
          · intro z; exact Or.inr ⟨y1, y2, by omega⟩
          · intro z
            rcases z with z | z <;> omega
      · rw [if_neg (fun q => y2 q.2)]
        by_cases y3 : W k ≤ w
        · rw [if_pos y3]
          exact ⟨fun z => Or.inl ⟨y3, z⟩, fun z => by rcases z with z | z <;> omega⟩
        · rw [if_neg y3]
          exact ⟨fun z => by omega, fun z => by rcases z with z | z <;> omega⟩
    · rw [if_neg (fun q => y1 q.1)]
      by_cases y3 : W k ≤ w
      · rw [if_pos y3]
        exact ⟨fun z => Or.inl ⟨y3, z⟩, fun z => by rcases z with z | z; exact z.2; exact absurd z.1 y1⟩
      · rw [if_neg y3]
        exact ⟨fun z => by omega, fun z => by rcases z with z | z; omega; exact absurd z.1 y1⟩
