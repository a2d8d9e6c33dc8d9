/-! the class: the table of least heights -/
def hq (c : Nat) (W H : Nat → Nat) (tn : Nat → Bool) (s w o d : Nat) : Prop := (∃ x, 1 ≤ x ∧ x < w ∧ CutP c W H tn o x d ∧ CutP c W H tn (s ^^^ o) (w - x) d) ∨ ∃ y, 1 ≤ y ∧ y < d ∧ CutP c W H tn o w y ∧ CutP c W H tn (s ^^^ o) w (d - y)
theorem tab_A {c : Nat} {W H : Nat → Nat} {tn : Nat → Bool} {lh : Nat → Int32} {s w : Nat} (h : ∀ x, 1 ≤ x → x ≤ w → TabP c W H tn lh s x) : ∃ A : Nat → Nat, ∀ x, 1 ≤ x → x ≤ w → lh (s * 13 + x) = nI (A x) ∧ 1 ≤ A x ∧ A x ≤ 1000 ∧ ∀ d, 1 ≤ d → d ≤ 12 → (A x ≤ d ↔ CutP c W H tn s x d) := by
  have h2 : ∀ x, ∃ v, 1 ≤ x → x ≤ w → lh (s * 13 + x) = nI v ∧ 1 ≤ v ∧ v ≤ 1000 ∧ ∀ d, 1 ≤ d → d ≤ 12 → (v ≤ d ↔ CutP c W H tn s x d) := by
    intro x
    by_cases z : 1 ≤ x ∧ x ≤ w
    · obtain ⟨v, hv⟩ := h x z.1 z.2
      exact ⟨v, fun _ _ => hv⟩
    · exact ⟨0, fun z1 z2 => absurd ⟨z1, z2⟩ z⟩
  exact ⟨fun x => Classical.choose (h2 x), fun x => Classical.choose_spec (h2 x)⟩
theorem h2_q {c : Nat} {W H : Nat → Nat} {tn : Nat → Bool} {lh : Nat → Int32} {s w o : Nat} (ho : o < 64) (hr : s ^^^ o < 64) (hw : 1 ≤ w) (hw2 : w ≤ 12) (h1 : ∀ x, 1 ≤ x → x ≤ w → TabP c W H tn lh o x) (h2 : ∀ x, 1 ≤ x → x ≤ w → TabP c W H tn lh (s ^^^ o) x) : ∃ v, v ≤ 2000 ∧ 1 ≤ v ∧ sX0_heightForTwo (nI o) (nI (s ^^^ o)) (nI w) lh = some (nI v) ∧ ∀ d, 1 ≤ d → d ≤ 12 → (v ≤ d ↔ hq c W H tn s w o d) := by
  obtain ⟨A, hA⟩ := tab_A h1
  obtain ⟨B, hB⟩ := tab_A h2
  obtain ⟨v, v1, v2, v3⟩ := h2_ok ho hr hw hw2 (fun x x1 x2 => ⟨(hA x x1 x2).1, (hA x x1 x2).2.2.1⟩) (fun x x1 x2 => ⟨(hB x x1 x2).1, (hB x x1 x2).2.2.1⟩)
  obtain ⟨_, a1, a2, a3⟩ := hA w hw (Nat.le_refl _)
  obtain ⟨_, b1, b2, b3⟩ := hB w hw (Nat.le_refl _)
  refine ⟨v, v1, ?_, v2, fun d d1 d2 => ?_⟩
  · by_cases z : v ≤ 0
    · rcases (v3 0).mp z with q | ⟨x, x1, x2, x3, _⟩
      · omega
      · have := (hA x x1 (by omega)).2.1; omega
    · omega
  · rw [v3 d]
    constructor
    · intro z
      rcases z with q | ⟨x, x1, x2, x3, x4⟩
      · right
        exact ⟨A w, a1, by omega, (a3 _ a1 (by omega)).mp (Nat.le_refl _), (b3 _ (by omega) (by omega)).mp (by omega)⟩
      · left
        exact ⟨x, x1, x2, ((hA x x1 (by omega)).2.2.2 d d1 d2).mp x3, ((hB (w - x) (by omega) (by omega)).2.2.2 d d1 d2).mp x4⟩
    · intro z
      rcases z with ⟨x, x1, x2, x3, x4⟩ | ⟨y, y1, y2, y3, y4⟩
      · right
        exact ⟨x, x1, x2, ((hA x x1 (by omega)).2.2.2 d d1 d2).mpr x3, ((hB (w - x) (by omega) (by omega)).2.2.2 d d1 d2).mpr x4⟩
      · left
        have e1 := (a3 y y1 (by omega)).mpr y3
        have e2 := (b3 (d - y) (by omega) (by omega)).mpr y4
        omega
theorem hf_ok {c : Nat} {W H : Nat → Nat} {tn : Nat → Bool} (hb : BxOk c W H) {s w : Nat} (hs1 : 1 ≤ s) (hs2 : s < 2 ^ c) (hw : 1 ≤ w) (hw2 : w ≤ 12) {hi wi tu lh : Nat → Int32} (hW : hN c wi W) (hH : hN c hi H) (hT : hB c tu tn) (ht : ∀ t, 1 ≤ t → t < s → ∀ x, 1 ≤ x → x ≤ w → TabP c W H tn lh t x) : ∃ v, sX0_heightFor (nI s) (nI w) (nI c) hi lh tu wi = some (nI v) ∧ 1 ≤ v ∧ v ≤ 1000 ∧ ∀ d, 1 ≤ d → d ≤ 12 → (v ≤ d ↔ CutP c W H tn s w d) := by
  have hc6 := hb.1
  have p2c := bs_p2 c (by omega)
  have s64 : s < 64 := by omega
  by_cases hk : ∃ k, k < 6 ∧ s = 2 ^ k
  · obtain ⟨k, k6, e⟩ := hk
    subst e
    have hkc := bs_lt c (by omega) k k6 hs2
    obtain ⟨o1, o2, o3⟩ := oneV_ok hb hkc (tn := tn) (w := w)
    refine ⟨oneV W H tn k w, ?_, o1, o2, o3⟩
    unfold sX0_heightFor
    rw [if_neg (fun z => z ((bs_one _ s64 hs1).mpr ⟨k, k6, rfl⟩)), ob_d1 (h1_ok hb hkc hw2 hW hH hT)]
  · obtain ⟨v, h1, h2, h3, h4⟩ := iter_for (S := Nat) (B := bX0_heightFor_22 (nI s) (nI w) lh) (fun i v => (nI v, nI i)) s (fun i v => 1 ≤ v ∧ v ≤ 1000 ∧ ∀ d, 1 ≤ d → d ≤ 12 → (v ≤ d ↔ ∃ o, 1 ≤ o ∧ o < i ∧ o &&& s = o ∧ hq c W H tn s w o d)) 1 1000 ⟨by omega, by omega, fun d d1 d2 => ⟨fun z => by omega, fun ⟨o, o1, o2, _⟩ => by omega⟩⟩ hs1 (by omega) (fun i v hi1 hi hI => by
      obtain ⟨v0, v1, v2⟩ := hI
      by_cases z : i &&& s = i
      · obtain ⟨q1, q2, q3, q4, q5, q6⟩ := bs_sub i (by omega) s s64 z
        have r1 := q3 (by omega)
        have r2 := q4 (by omega)
        obtain ⟨u, u0, u1, u2, u3⟩ := h2_q (s := s) (o := i) (by omega) (by omega) hw hw2 (fun x x1 x2 => ht i hi1 (by omega) x x1 x2) (fun x x1 x2 => ht (s ^^^ i) (by omega) r1 x x1 x2)
        refine ⟨min u v, ?_, by omega, by omega, fun d d1 d2 => ?_⟩
        · unfold bX0_heightFor_22
          simp only [dm2]
          rw [if_neg (by rw [nI_leS (by omega) (by omega)]; omega), bs_and i (by omega) s s64, z, if_neg (by simp), bs_xor s s64 i (by omega), ob_d1 u2, lt_v, if_nIlt (by omega) (by omega), ob_d1 rfl, lt_v, nI_1]
        · constructor
          · intro y
            by_cases y1 : v ≤ d
            · obtain ⟨o, o1, o2, o3⟩ := (v2 d d1 d2).mp y1
              exact ⟨o, o1, by omega, o3⟩
            · exact ⟨i, hi1, by omega, z, (u3 d d1 d2).mp (by omega)⟩
          · intro ⟨o, o1, o2, o3, o4⟩
            by_cases y1 : o = i
            · subst y1
              have := (u3 d d1 d2).mpr o4; omega
            · have := (v2 d d1 d2).mpr ⟨o, o1, by omega, o3, o4⟩; omega
      · refine ⟨v, ?_, v0, v1, fun d d1 d2 => ?_⟩
        · have nz : ¬ nI (i &&& s) = nI i := by
            have : i &&& s ≤ s := Nat.and_le_right
            rw [nI_eqS (by omega) (by omega)]; exact z
          unfold bX0_heightFor_22
          simp only [dm2]
          rw [if_neg (by rw [nI_leS (by omega) (by omega)]; omega), bs_and i (by omega) s s64, if_pos nz, ob_d1 rfl, lt_v, nI_1]
        · rw [v2 d d1 d2]
          constructor
          · intro ⟨o, o1, o2, o3⟩
            exact ⟨o, o1, by omega, o3⟩
          · intro ⟨o, o1, o2, o3, o4⟩
            refine ⟨o, o1, ?_, o3, o4⟩
            by_cases y : o = i
            · subst y; exact absurd o3 z
            · omega) (fun v _ => by
      unfold bX0_heightFor_22
      simp only [dm2]
      rw [if_pos (by rw [nI_leS (by omega) (by omega)]; omega)])
    refine ⟨v, ?_, h2, h3, fun d d1 d2 => ?_⟩
    · have h1' : iter (bX0_heightFor_22 (nI s) (nI w) lh) FU ((1000 : Int32), (1 : Int32)) = some (0, (nI v, nI s)) := h1
      unfold sX0_heightFor
      rw [if_pos (fun z => hk ((bs_one _ s64 hs1).mp z)), ob_x2s h1']
    · rw [h4 d d1 d2]
      constructor
      · intro ⟨o, o1, o2, o3, o4⟩
        rcases o4 with ⟨x, x1, x2, x3, x4⟩ | ⟨y, y1, y2, y3, y4⟩
        · exact cut_v s64 o3 x1 x2 d1 x3 x4
        · exact cut_h s64 o3 y1 y2 hw y3 y4
      · intro z
        obtain ⟨o, o1, o2, o3, o4⟩ := cut_split hb z (by omega) (fun k k6 e => hk ⟨k, k6, e⟩)
        have ol := bs_ltof s64 o1
        obtain ⟨_, _, _, _, q5, _⟩ := bs_sub o ol s s64 o1
        exact ⟨o, Nat.pos_of_ne_zero o2, Nat.lt_of_le_of_ne q5 o3, o1, o4⟩
theorem tabX_ok {c : Nat} {W H : Nat → Nat} {tn : Nat → Bool} (hb : BxOk c W H) {a : Nat} (ha1 : 1 ≤ a) (ha : a ≤ 12) {hi wi tu : Nat → Int32} (hW : hN c wi W) (hH : hN c hi H) (hT : hB c tu tn) (lh : Nat → Int32) : ∃ lh', iter (bX0_fewestSheets_10 (nI a) (nI c) hi tu wi (nI (2 ^ c))) FU ((1 : Int32), lh) = some (0, (nI (2 ^ c), lh')) ∧ ∀ t, 1 ≤ t → t < 2 ^ c → ∀ x, 1 ≤ x → x ≤ a → TabP c W H tn lh' t x := by
  have hc6 := hb.1
  have p2c := bs_p2 c (by omega)
  have i13 : (13 : Int32) = nI 13 := rfl
  obtain ⟨lh', h1, h2⟩ := iter_for (S := Nat → Int32) (B := bX0_fewestSheets_10 (nI a) (nI c) hi tu wi (nI (2 ^ c))) (fun i l => (nI i, l)) (2 ^ c) (fun i l => ∀ t, 1 ≤ t → t < i → ∀ x, 1 ≤ x → x ≤ a → TabP c W H tn l t x) 1 lh (fun t t1 t2 => by omega) p2c.1 (by omega) (fun s l hs1 hs2 hI => by
    obtain ⟨l', k1, k2⟩ := iter_for (S := Nat → Int32) (B := bX0_fewestSheets_19 (nI a) (nI c) hi tu wi (nI s)) (fun i l => (nI i, l)) (a + 1) (fun i l => (∀ t, 1 ≤ t → t < s → ∀ x, 1 ≤ x → x ≤ a → TabP c W H tn l t x) ∧ ∀ x, 1 ≤ x → x < i → TabP c W H tn l s x) 1 l ⟨hI, fun x x1 x2 => by omega⟩ (by omega) (by omega) (fun w l hw1 hw2 hJ => by
      obtain ⟨v, e1, e2, e3, e4⟩ := hf_ok hb hs1 hs2 hw1 (by omega) hW hH hT (lh := l) (fun t t1 t2 x x1 x2 => hJ.1 t t1 t2 x x1 (by omega))
      obtain ⟨ia, ca⟩ := ix_c (i := s * 13 + w) (n := 832) (by omega) (by omega)
      refine ⟨upd l (s * 13 + w) (nI v), ?_, fun t t1 t2 x x1 x2 => ?_, fun x x1 x2 => ?_⟩
      · unfold bX0_fewestSheets_19
        simp only [dm2]
        rw [if_neg (by rw [nI_ltS (by omega) (by omega)]; omega), ob_d1 e1, i13, nI_mul, nI_add, gd_s ia, ca, lt_v, lt_v, nI_1]
      · obtain ⟨u, u1, u2⟩ := hJ.1 t t1 t2 x x1 x2
        exact ⟨u, by rw [pk_un (by omega)]; exact u1, u2⟩
      · by_cases z : x = w
        · subst z
          exact ⟨v, pk_us, e2, e3, e4⟩
        · obtain ⟨u, u1, u2⟩ := hJ.2 x x1 (by omega)
          exact ⟨u, by rw [pk_un (by omega)]; exact u1, u2⟩) (fun l _ => by
      unfold bX0_fewestSheets_19
      simp only [dm2]
      rw [if_pos (by rw [nI_ltS (by omega) (by omega)]; omega)])
    have k1' : iter (bX0_fewestSheets_19 (nI a) (nI c) hi tu wi (nI s)) FU ((1 : Int32), l) = some (0, (nI (a + 1), l')) := k1
    refine ⟨l', ?_, fun t t1 t2 x x1 x2 => ?_⟩
    · unfold bX0_fewestSheets_10
      simp only [dm2]
      rw [if_neg (by rw [nI_leS (by omega) (by omega)]; omega), ob_s k1', ex1_0]
      simp only [lt, nI_1]
    · by_cases z : t = s
      · subst z; exact k2.2 x x1 (by omega)
      · exact k2.1 t t1 (by omega) x x1 x2) (fun l _ => by
    unfold bX0_fewestSheets_10
    simp only [dm2]
    rw [if_pos (by rw [nI_leS (by omega) (by omega)]; omega)])
  exact ⟨lh', h1, h2⟩
