/-! fewest sheets: the class -/
def Cov (C : Nat → Prop) : Nat → Nat → Prop
  | 0, s => s = 0
  | n + 1, s => s = 0 ∨ ∃ o, 1 ≤ o ∧ o &&& s = o ∧ C o ∧ Cov C n (s ^^^ o)
theorem Cov_z {C : Nat → Prop} : ∀ n, Cov C n 0
  | 0 => rfl
  | _ + 1 => Or.inl rfl
theorem Cov_up {C : Nat → Prop} : ∀ n s, Cov C n s → Cov C (n + 1) s := by
  intro n
  induction n with
  | zero => intro s h; exact Or.inl h
  | succ n ih =>
    intro s h
    rcases h with h | ⟨o, h1, h2, h3, h4⟩
    · exact Or.inl h
    · exact Or.inr ⟨o, h1, h2, h3, ih _ h4⟩
theorem Cov_mono {C : Nat → Prop} {n m s : Nat} (h : Cov C n s) (hm : n ≤ m) : Cov C m s := by
  have : ∀ k, Cov C (n + k) s := by
    intro k
    induction k with
    | zero => exact h
    | succ k ih => exact Cov_up _ _ ih
  have := this (m - n)
  rw [show n + (m - n) = m by omega] at this
  exact this
/-- a box that can't be cut alone can't be covered -/
theorem Cov_no {C : Nat → Prop} {k : Nat} (hk : k < 6) (hC : ∀ o, o < 64 → 2 ^ k &&& o = 2 ^ k → ¬ C o) : ∀ n s, s < 64 → 2 ^ k &&& s = 2 ^ k → ¬ Cov C n s := by
  have hx : ∀ s : Fin 64, ∀ o : Fin 64, ∀ k : Fin 6, o.val &&& s.val = o.val → 2 ^ k.val &&& s.val = 2 ^ k.val → ¬ 2 ^ k.val &&& o.val = 2 ^ k.val → 2 ^ k.val &&& (s.val ^^^ o.val) = 2 ^ k.val := by decide +kernel
  have hp := bs_p2 k (by omega)
  intro n
  induction n with
  | zero =>
    intro s hs h1 h2
    have h2' : s = 0 := h2
    subst h2'
    rw [Nat.and_zero] at h1
    omega
  | succ n ih =>
    intro s hs h1 h2
    rcases h2 with h2 | ⟨o, o1, o2, o3, o4⟩
    · subst h2
      rw [Nat.and_zero] at h1
      omega
    · have ol := bs_ltof hs o2
      by_cases z : 2 ^ k &&& o = 2 ^ k
      · exact hC o ol z o3
      · have q := hx ⟨s, hs⟩ ⟨o, ol⟩ ⟨k, hk⟩ o2 h1 z
        obtain ⟨e1, _⟩ := bs_sub o ol s hs o2
        have el : s ^^^ o < 64 := by omega
        exact ih (s ^^^ o) el q o4
/-- if every box alone can be cut, six sheets are enough -/
theorem Cov_yes {C : Nat → Prop} {c : Nat} (hc : c ≤ 6) (hC : ∀ k, k < c → C (2 ^ k)) : ∀ n s, n ≤ c → s < 2 ^ n → Cov C n s := by
  have hx : ∀ n : Fin 6, ∀ s : Fin 64, s.val < 2 ^ (n.val + 1) → ¬ s.val < 2 ^ n.val → 2 ^ n.val &&& s.val = 2 ^ n.val ∧ s.val ^^^ 2 ^ n.val < 2 ^ n.val := by decide +kernel
  intro n
  induction n with
  | zero => intro s _ h; have : s = 0 := by omega
            exact this
  | succ n ih =>
    intro s hn h
    by_cases z : s < 2 ^ n
    · exact Cov_up _ _ (ih s (by omega) z)
    · have p := bs_p2 (n + 1) (by omega)
      have p1 := bs_p2 n (by omega)
      have q := hx ⟨n, by omega⟩ ⟨s, by omega⟩ h z
      exact Or.inr ⟨2 ^ n, p1.1, q.1, hC n (by omega), ih _ (by omega) q.2⟩
theorem ff_ok {c : Nat} {W H : Nat → Nat} {tn : Nat → Bool} (hb : BxOk c W H) {s a b : Nat} (hs1 : 1 ≤ s) (hs2 : s < 2 ^ c) (ha1 : 1 ≤ a) (ha : a ≤ 12) (hb1 : 1 ≤ b) (hb2 : b ≤ 12) {lh few : Nat → Int32} (ht : ∀ t, 1 ≤ t → t < 2 ^ c → TabP c W H tn lh t a) (hf : ∀ t, t < s → ∃ v, few t = nI v ∧ v ≤ 1000 ∧ ∀ d, d < 1000 → (v ≤ d ↔ Cov (fun o => CutP c W H tn o a b) d t)) : ∃ v, sX0_fewestFor (nI s) (nI a) (nI b) few lh = some (nI v) ∧ v ≤ 1000 ∧ ∀ d, d < 1000 → (v ≤ d ↔ Cov (fun o => CutP c W H tn o a b) d s) := by
  have hc6 := hb.1
  have p2c := bs_p2 c (by omega)
  have s64 : s < 64 := by omega
  have i13 : (13 : Int32) = nI 13 := rfl
  obtain ⟨v, h1, h2, h3⟩ := iter_for (S := Nat) (B := bX0_fewestFor_8 (nI s) (nI a) (nI b) few lh) (fun i v => (nI v, nI i)) (s + 1) (fun i v => v ≤ 1000 ∧ ∀ d, d < 1000 → (v ≤ d ↔ ∃ o, 1 ≤ o ∧ o < i ∧ o &&& s = o ∧ CutP c W H tn o a b ∧ 1 ≤ d ∧ Cov (fun o => CutP c W H tn o a b) (d - 1) (s ^^^ o))) 1 1000 ⟨by omega, fun d d1 => ⟨fun z => by omega, fun ⟨o, o1, o2, _⟩ => by omega⟩⟩ (by omega) (by omega) (fun i v hi1 hi hI => by
    obtain ⟨v1, v2⟩ := hI
    by_cases z : i &&& s = i
    · obtain ⟨q1, q2, q3, q4, q5, q6⟩ := bs_sub i (by omega) s s64 z
      have r1 := q3 (by omega)
      obtain ⟨ia, ca⟩ := ix_c (i := i * 13 + a) (n := 832) (by omega) (by omega)
      obtain ⟨ib, cb⟩ := ix_c (i := s ^^^ i) (n := 64) (by omega) (by omega)
      obtain ⟨u, u1, u2, u3, u4⟩ := ht i hi1 (by omega)
      obtain ⟨g, g1, g2, g3⟩ := hf (s ^^^ i) r1
      have st : bX0_fewestFor_8 (nI s) (nI a) (nI b) few lh (nI v, nI i) = ob (if nI b < nI u then some (nI v) else some (nI (min (1 + g) v))) (fun t => dm1 t (fun v3 => some (0, (v3, nI (i + 1))))) := by
        unfold bX0_fewestFor_8
        simp only [dm2]
        rw [if_neg (by rw [nI_ltS (by omega) (by omega)]; omega), bs_and i (by omega) s s64, z, if_neg (by simp), bs_xor s s64 i (by omega), i13, nI_mul, nI_add, gd_s ia, ca, gd_s ib, cb, u1, g1, nl_1, nI_add, lt_v, if_nIlt (by omega) (by omega)]
        simp only [lt, nI_add]
      by_cases y : CutP c W H tn i a b
      · have ub := (u4 b hb1 hb2).mpr y
        refine ⟨min (1 + g) v, ?_, by omega, fun d d1 => ?_⟩
        · rw [st, if_neg (by rw [nI_ltS (by omega) (by omega)]; omega), ob_d1 rfl]
        · constructor
          · intro y1
            by_cases y2 : v ≤ d
            · obtain ⟨o, o1, o2, o3⟩ := (v2 d d1).mp y2
              exact ⟨o, o1, by omega, o3⟩
            · exact ⟨i, hi1, by omega, z, y, by omega, (g3 (d - 1) (by omega)).mp (by omega)⟩
          · intro ⟨o, o1, o2, o3, o4, o5, o6⟩
            by_cases y1 : o = i
            · subst y1
              have := (g3 (d - 1) (by omega)).mpr o6; omega
            · have := (v2 d d1).mpr ⟨o, o1, by omega, o3, o4, o5, o6⟩; omega
      · have ub : ¬ u ≤ b := fun q => y ((u4 b hb1 hb2).mp q)
        refine ⟨v, ?_, v1, fun d d1 => ?_⟩
        · rw [st, if_pos (by rw [nI_ltS (by omega) (by omega)]; omega), ob_d1 rfl]
        · rw [v2 d d1]
          constructor
          · intro ⟨o, o1, o2, o3⟩
            exact ⟨o, o1, by omega, o3⟩
          · intro ⟨o, o1, o2, o3, o4, o5⟩
            by_cases y1 : o = i
            · subst y1; exact absurd o4 y
            · exact ⟨o, o1, by omega, o3, o4, o5⟩
    · refine ⟨v, ?_, v1, fun d d1 => ?_⟩
      · have nz : ¬ nI (i &&& s) = nI i := by
          have : i &&& s ≤ s := Nat.and_le_right
          rw [nI_eqS (by omega) (by omega)]; exact z
        unfold bX0_fewestFor_8
        simp only [dm2]
        rw [if_neg (by rw [nI_ltS (by omega) (by omega)]; omega), bs_and i (by omega) s s64, if_pos nz, ob_d1 rfl, lt_v, nI_1]
      · rw [v2 d d1]
        constructor
        · intro ⟨o, o1, o2, o3⟩
          exact ⟨o, o1, by omega, o3⟩
        · intro ⟨o, o1, o2, o3, o4⟩
          by_cases y : o = i
          · subst y; exact absurd o3 z
          · exact ⟨o, o1, by omega, o3, o4⟩) (fun v _ => by
    unfold bX0_fewestFor_8
    simp only [dm2]
    rw [if_pos (by rw [nI_ltS (by omega) (by omega)]; omega)])
  have h1' : iter (bX0_fewestFor_8 (nI s) (nI a) (nI b) few lh) FU ((1000 : Int32), (1 : Int32)) = some (0, (nI v, nI (s + 1))) := h1
  refine ⟨v, by unfold sX0_fewestFor; rw [ob_x2s h1'], h2, fun d d1 => ?_⟩
  rw [h3 d d1]
  constructor
  · intro ⟨o, o1, o2, o3, o4, o5, o6⟩
    obtain ⟨e, rfl⟩ : ∃ e, d = e + 1 := ⟨d - 1, by omega⟩
    exact Or.inr ⟨o, o1, o3, o4, o6⟩
  · intro z
    cases d with
    | zero =>
      have z' : s = 0 := z
      omega
    | succ e =>
      rcases z with z | ⟨o, o1, o2, o3, o4⟩
      · omega
      · have ol := bs_ltof s64 o2
        obtain ⟨_, _, _, _, q5, _⟩ := bs_sub o ol s s64 o2
        exact ⟨o, o1, by omega, o2, o3, by omega, o4⟩
theorem fewX_ok {c : Nat} {W H : Nat → Nat} {tn : Nat → Bool} (hb : BxOk c W H) {a b : Nat} (ha1 : 1 ≤ a) (ha : a ≤ 12) (hb1 : 1 ≤ b) (hb2 : b ≤ 12) {hi wi tu : Nat → Int32} (hW : hN c wi W) (hH : hN c hi H) (hT : hB c tu tn) (few lh : Nat → Int32) : ∃ (v : Nat) (few' lh' : Nat → Int32), v ≤ 1000 ∧ sX0_fewestSheets (nI a) (nI b) (nI c) few hi lh tu wi = some (if v < 1000 then nI v else -1, few', lh') ∧ ∀ d, d < 1000 → (v ≤ d ↔ Cov (fun o => CutP c W H tn o a b) d (2 ^ c - 1)) := by
  have hc6 := hb.1
  have p2c := bs_p2 c (by omega)
  obtain ⟨lh', t1, t2⟩ := tabX_ok hb ha1 ha hW hH hT lh
  obtain ⟨few', h1, h2⟩ := iter_for (S := Nat → Int32) (B := bX0_fewestSheets_68 (nI a) (nI b) (nI (2 ^ c)) lh') (fun i l => (nI i, l)) (2 ^ c) (fun i l => ∀ t, t < i → ∃ v, l t = nI v ∧ v ≤ 1000 ∧ ∀ d, d < 1000 → (v ≤ d ↔ Cov (fun o => CutP c W H tn o a b) d t)) 1 (upd few 0 0) (fun t t1 => by
      have e : t = 0 := by omega
      subst e
      exact ⟨0, pk_us, by omega, fun d _ => ⟨fun _ => Cov_z d, fun _ => by omega⟩⟩) p2c.1 (by omega) (fun s l hs1 hs2 hI => by
    obtain ⟨v, e1, e2, e3⟩ := ff_ok hb hs1 hs2 ha1 ha hb1 hb2 (lh := lh') (few := l) (fun t q1 q2 => t2 t q1 q2 a ha1 (Nat.le_refl _)) hI
    obtain ⟨ia, ca⟩ := ix_c (i := s) (n := 64) (by omega) (by omega)
    refine ⟨upd l s (nI v), ?_, fun t q1 => ?_⟩
    · unfold bX0_fewestSheets_68
      simp only [dm2]
      rw [if_neg (by rw [nI_leS (by omega) (by omega)]; omega), ob_d1 e1, gd_s ia, ca, lt_v, lt_v, nI_1]
    · by_cases z : t = s
      · subst z; exact ⟨v, pk_us, e2, e3⟩
      · obtain ⟨u, u1, u2⟩ := hI t (by omega)
        exact ⟨u, by rw [pk_un z]; exact u1, u2⟩) (fun l _ => by
    unfold bX0_fewestSheets_68
    simp only [dm2]
    rw [if_pos (by rw [nI_leS (by omega) (by omega)]; omega)])
  obtain ⟨v, e1, e2, e3⟩ := h2 (2 ^ c - 1) (by omega)
  obtain ⟨ia, ca⟩ := ix_c (i := 2 ^ c - 1) (n := 64) (by omega) (by omega)
  have h1' : iter (bX0_fewestSheets_68 (nI a) (nI b) (nI (2 ^ c)) lh') FU ((1 : Int32), upd few 0 0) = some (0, (nI (2 ^ c), few')) := h1
  refine ⟨v, few', lh', e2, ?_, e3⟩
  have z0 : ((0 : Int32)).toNatClampNeg = 0 := rfl
  unfold sX0_fewestSheets
  rw [bs_sh c (by omega), lt_v, ob_x2s t1, gd_s (by decide), lt_v, z0, ob_x2s h1', show (1 : Int32) = nI 1 from rfl, pk_sub (by omega), gd_s ia, ca, e1]
  by_cases z : v < 1000
  · rw [if_pos (by rw [show (1000 : Int32) = nI 1000 from rfl, nI_ltS (by omega) (by omega)]; exact z), if_pos z]
    rw [ca] at ia
    rw [gd_s ia]
  · rw [if_neg (by rw [show (1000 : Int32) = nI 1000 from rfl, nI_ltS (by omega) (by omega)]; exact z), if_neg z]
