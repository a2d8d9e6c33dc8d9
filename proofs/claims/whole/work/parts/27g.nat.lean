/-! the reference's naturals -/
def pw (k : Nat) : Nat := 1073741824 ^ k
theorem pw_s (k : Nat) : pw (k + 1) = pw k * 1073741824 := Nat.pow_succ _ _
theorem pw_pos (k : Nat) : 0 < pw k := Nat.pow_pos (by omega)
theorem pw_le {a b : Nat} (h : a ≤ b) : pw a ≤ pw b := Nat.pow_le_pow_right (by omega) h
def vl (D : Nat → Nat) : Nat → Nat
  | 0 => 0
  | k + 1 => vl D k + D k * pw k
theorem vl_s (D : Nat → Nat) (k : Nat) : vl D (k + 1) = vl D k + D k * pw k := rfl
theorem vl_congr {D E : Nat → Nat} {n : Nat} (h : ∀ k, k < n → D k = E k) : vl D n = vl E n := by
  induction n with
  | zero => rfl
  | succ n ih => rw [vl_s, vl_s, h n (by omega), ih (fun k hk => h k (by omega))]
theorem vl_lt {D : Nat → Nat} {n : Nat} (h : ∀ k, k < n → D k < 1073741824) : vl D n < pw n := by
  induction n with
  | zero => exact pw_pos 0
  | succ n ih =>
    have a := ih (fun k hk => h k (by omega))
    have b := Nat.mul_le_mul_right (pw n) (show D n ≤ 1073741823 by have := h n (by omega); omega)
    rw [vl_s, pw_s]
    omega
theorem vl_0 {D : Nat → Nat} {a : Nat} : ∀ n, a ≤ n → (∀ k, a ≤ k → k < n → D k = 0) → vl D n = vl D a := by
  intro n
  induction n with
  | zero => intro h _; obtain rfl : a = 0 := by omega
            rfl
  | succ n ih =>
    intro h1 h2
    by_cases q : a = n + 1
    · rw [q]
    · rw [vl_s, h2 n (by omega) (by omega), Nat.zero_mul, Nat.add_zero]
      exact ih (by omega) (fun k x y => h2 k x (by omega))
theorem vl_ge {D : Nat → Nat} {n : Nat} (h0 : 0 < n) (h : D (n - 1) ≠ 0) : pw (n - 1) ≤ vl D n := by
  obtain ⟨k, rfl⟩ : ∃ k, n = k + 1 := ⟨n - 1, by omega⟩
  rw [vl_s]
  have := Nat.mul_le_mul_right (pw k) (show 1 ≤ D k by simp only [Nat.add_sub_cancel] at h; omega)
  simp only [Nat.add_sub_cancel]
  omega
/-- the number v is held -/
def Hd (len : Int32) (d : Nat → Int32) (v : Nat) : Prop := ∃ (n : Nat) (D : Nat → Nat), len = nI n ∧ n ≤ 500 ∧ hN n d D ∧ (∀ k, k < n → D k < 1073741824) ∧ vl D n = v ∧ (n = 0 ∨ D (n - 1) ≠ 0)
theorem Hd_len {D : Nat → Nat} {n N v : Nat} (e : vl D n = v) (t : n = 0 ∨ D (n - 1) ≠ 0) (h : v < pw N) : n ≤ N := by
  rcases t with t | t
  · omega
  · rcases Nat.eq_zero_or_pos n with z | z
    · omega
    · have := vl_ge z t
      rcases Nat.lt_or_ge N n with y | y
      · have := pw_le (show N ≤ n - 1 by omega); omega
      · exact y
theorem trim_ok {n : Nat} (hn : n ≤ 600) {d : Nat → Int32} {D : Nat → Nat} (hd : hN n d D) (hD : ∀ k, k < n → D k < 1073741824) : ∃ n', n' ≤ n ∧ sX11_trim (nI n) d = some (nI n') ∧ vl D n' = vl D n ∧ (n' = 0 ∨ D (n' - 1) ≠ 0) := by
  have main : ∀ (k : Nat) (f : Nat), k ≤ n → k < f → (∀ i, k ≤ i → i < n → D i = 0) → ∃ n', n' ≤ n ∧ iter (bX11_trim_0 d) f (nI k) = some (0, nI n') ∧ vl D n' = vl D n ∧ (n' = 0 ∨ D (n' - 1) ≠ 0) := by
    intro k
    induction k with
    | zero =>
      intro f h1 h2 h3
      obtain ⟨f, rfl⟩ : ∃ g, f = g + 1 := ⟨f - 1, by omega⟩
      refine ⟨0, by omega, iter_out ?_ f, (vl_0 n (by omega) h3).symm, Or.inl rfl⟩
      simp only [bX11_trim_0, dm1]
      rw [if_pos (by decide)]
    | succ k ih =>
      intro f h1 h2 h3
      obtain ⟨f, rfl⟩ : ∃ g, f = g + 1 := ⟨f - 1, by omega⟩
      have hk := hD k (by omega)
      have e0 : bX11_trim_0 d (nI (k + 1)) = if ¬ D k = 0 then some (1, nI (k + 1)) else some (0, nI k) := by
        have e1 : nI (k + 1) - 1 = nI k := nI_pred k
        simp (disch := omega) only [bX11_trim_0, dm1, e1, nI_lt0, nI_clampS, false_or, gd_s, hd k (by omega), lt]
        rw [if_neg (nI_nle (by omega) (by omega)), nl_0]
        simp (disch := omega) only [nI_eqS]
      by_cases z : D k = 0
      · rw [if_neg (fun y => y z)] at e0
        rw [iter_go e0]
        refine ih f (by omega) (by omega) (fun i a b => ?_)
        by_cases y : i = k
        · rw [y]; exact z
        · exact h3 i (by omega) b
      · rw [if_pos z] at e0
        exact ⟨k + 1, by omega, iter_out e0 f, (vl_0 n (by omega) h3).symm, Or.inr (by simpa using z)⟩
  obtain ⟨n', a1, a2, a3, a4⟩ := main n FU (Nat.le_refl _) (FU_lt (by omega)) (fun i a b => by omega)
  refine ⟨n', a1, ?_, a3, a4⟩
  unfold sX11_trim
  rw [ob_s a2]
  rfl
theorem and30 {x : Nat} (h : x < 4611686018427387904) : (lN x &&& (1073741823 : Int64)).toInt32 = nI (x % 1073741824) := by
  have e : lN x &&& (1073741823 : Int64) = lN (x % 1073741824) := by
    apply Int64.toBitVec_inj.mp
    apply BitVec.eq_of_toNat_eq
    show ((lN x).toBitVec &&& (1073741823 : Int64).toBitVec).toNat = _
    rw [BitVec.toNat_and]
    have e1 : (lN x).toBitVec.toNat = x := by show (BitVec.ofNat 64 x).toNat = x; rw [BitVec.toNat_ofNat]; omega
    have e2 : (lN (x % 1073741824)).toBitVec.toNat = x % 1073741824 := by show (BitVec.ofNat 64 _).toNat = _; rw [BitVec.toNat_ofNat]; omega
    have e3 : (1073741823 : Int64).toBitVec.toNat = 2 ^ 30 - 1 := by decide
    rw [e1, e2, e3, Nat.and_two_pow_sub_one_eq_mod]
  rw [e, ← lz_n, lz_i, iz_n]
theorem lN_shr30 {x : Nat} (h : x < 4611686018427387904) : lN x >>> ((30 : Int32).toInt64 &&& 63) = lN (x / 1073741824) := by
  rw [← lz_n, lz_shr30 (by omega) (by omega), ← lz_n]
  congr 1
theorem lNm (a b : Nat) : lN a * lN b = lN (a * b) := by rw [← lz_n, ← lz_n, lz_mul, ← lz_n, Int.natCast_mul]
theorem lNa (a b : Nat) : lN a + lN b = lN (a + b) := by rw [← lz_n, ← lz_n, lz_add, ← lz_n, Int.natCast_add]
theorem lN_eq0 {a : Nat} (h : a < 4611686018427387904) : (lg_cmp (lN a) (0 : Int64) = 0) ↔ a = 0 := (lg_cmp_eq _ _).trans (pk_lEQ (b := 0) (by omega) (by omega))
theorem times_ok {len : Int32} {d : Nat → Int32} {v by_ : Nat} (h : Hd len d v) (hb : by_ ≤ 268435456) (hv : v * by_ < pw 500) : ∃ len' d', sX11_times (lN by_) len d = some (len', d') ∧ Hd len' d' (v * by_) := by
  obtain ⟨n, D, rfl, h1, h2, h3, h4, h5⟩ := h
  obtain ⟨s, g1, g2⟩ := iter_for (S := Nat × (Nat → Nat) × (Nat → Int32)) (B := bX11_times_5 (lN by_) (nI n)) (fun k s => (lN s.1, nI k, s.2.2)) n (fun k s => s.1 ≤ by_ ∧ hN k s.2.2 s.2.1 ∧ (∀ i, i < k → s.2.1 i < 1073741824) ∧ (∀ i, k ≤ i → i < n → s.2.2 i = nI (D i)) ∧ vl s.2.1 k + s.1 * pw k = by_ * vl D k) 0 (0, fun _ => 0, d) ⟨by omega, fun i hi => absurd hi (Nat.not_lt_zero _), fun i hi => absurd hi (Nat.not_lt_zero _), fun i _ hi => h2 i hi, by show 0 + 0 * pw 0 = by_ * 0; omega⟩ (by omega) (by omega) (fun k s _ hk hI => by
    obtain ⟨c, E, a⟩ := s
    obtain ⟨i1, i2, i3, i4, i5⟩ := hI
    dsimp only at i1 i2 i3 i4 i5 ⊢
    have dk := h3 k hk
    have m1 : D k * by_ ≤ 1073741823 * by_ := Nat.mul_le_mul_right _ (by omega)
    have ak := i4 k (Nat.le_refl _) hk
    have hx : c + D k * by_ < 4611686018427387904 := by omega
    refine ⟨((c + D k * by_) / 1073741824, up E k ((c + D k * by_) % 1073741824), upd a k (nI ((c + D k * by_) % 1073741824))), ?_, ?_, hN_push i2 _, fun i hi => ?_, fun i x1 x2 => ?_, ?_⟩
    · have ek : (nI (D k)).toInt64 = lN (D k) := nI_l (by omega)
      simp (disch := omega) only [bX11_times_5, dm3, nI_leS, lt, nI_lt0, nI_clampS, false_or, gd_s, ak, ek, lNm, lNa, and30, lN_shr30, nI_1]
      rw [if_neg (by omega)]
    · dsimp only; omega
    · dsimp only
      by_cases z : i = k
      · rw [z, up_s]; omega
      · rw [up_n z]; exact i3 i (by omega)
    · dsimp only
      rw [pk_un (by omega)]; exact i4 i (by omega) x2
    · dsimp only
      rw [vl_s, vl_s, up_s, vl_congr (E := E) (fun i hi => up_n (by omega)), pw_s]
      have e1 := Nat.div_add_mod (c + D k * by_) 1073741824
      generalize (c + D k * by_) / 1073741824 = q at *
      generalize (c + D k * by_) % 1073741824 = r at *
      have e2 : (1073741824 * q + r) * pw k = (c + D k * by_) * pw k := by rw [e1]
      grind) (fun s hI => by
    simp (disch := omega) only [bX11_times_5, dm3, nI_leS]
    rw [if_pos (by omega)])
  obtain ⟨c, E, a⟩ := s
  obtain ⟨i1, i2, i3, i4, i5⟩ := g2
  dsimp only at g1 i1 i2 i3 i4 i5
  -- the last carry
  have fin : ∃ (n2 : Nat) (E2 : Nat → Nat) (a2 : Nat → Int32) (x : Int64), iter bX11_times_51 FU (lN c, nI n, a) = some (0, (x, nI n2, a2)) ∧ n2 ≤ 501 ∧ hN n2 a2 E2 ∧ (∀ i, i < n2 → E2 i < 1073741824) ∧ vl E2 n2 = v * by_ := by
    by_cases z : c = 0
    · refine ⟨n, E, a, lN c, ?_, by omega, i2, i3, ?_⟩
      · refine iter_out (n := 999999999) ?_
        simp only [bX11_times_51, dm3]
        rw [if_pos ((lN_eq0 (by omega)).mpr z)]
      · rw [z] at i5; rw [← h4, Nat.mul_comm]; omega
    · refine ⟨n + 1, up E n c, upd a n (nI c), lN 0, ?_, by omega, hN_push i2 c, fun i hi => ?_, ?_⟩
      · have e1 : bX11_times_51 (lN c, nI n, a) = some (0, (lN 0, nI (n + 1), upd a n (nI c))) := by
          simp (disch := omega) only [bX11_times_51, dm3, nI_lt0, nI_clampS, false_or, gd_s, lt, and30, lN_shr30, nl_1, nI_add]
          rw [if_neg (fun y => z ((lN_eq0 (by omega)).mp y)), Nat.div_eq_of_lt (by omega), Nat.mod_eq_of_lt (by omega)]
        show iter bX11_times_51 (999999999 + 1) (lN c, nI n, a) = _
        rw [iter_go e1]
        refine iter_out (n := 999999998) ?_
        simp only [bX11_times_51, dm3]
        rw [if_pos ((lN_eq0 (by omega)).mpr rfl)]
      · by_cases y : i = n
        · rw [y, up_s]; omega
        · rw [up_n y]; exact i3 i (by omega)
      · rw [vl_s, up_s, vl_congr (E := E) (fun i hi => up_n (by omega)), i5, ← h4, Nat.mul_comm]
  obtain ⟨n2, E2, a2, x, f1, f2, f3, f4, f5⟩ := fin
  obtain ⟨n3, t1, t2, t3, t4⟩ := trim_ok (show n2 ≤ 600 by omega) f3 f4
  refine ⟨nI n3, a2, ?_, n3, E2, rfl, Hd_len (by rw [t3, f5]) t4 hv, fun i hi => f3 i (by omega), fun k hk => f4 k (by omega), by rw [t3, f5], t4⟩
  unfold sX11_times
  have g1' : iter (bX11_times_5 (lN by_) (nI n)) FU (lN 0, nI 0, d) = some (0, (lN c, nI n, a)) := g1
  rw [nl_0, show (0 : Int64) = lN 0 from rfl, ob_s g1']
  simp only [ex1, dm3, if_true]
  rw [ob_s f1]
  simp only [ex1, dm3, if_true]
  rw [ob_s t2]
  rfl
theorem copy_ok (len : Int32) (d : Nat → Int32) {ol : Int32} {od : Nat → Int32} {v : Nat} (h : Hd ol od v) : ∃ d', sX11_copy len d ol od = some (ol, d') ∧ Hd ol d' v := by
  obtain ⟨n, D, rfl, h1, h2, h3, h4, h5⟩ := h
  obtain ⟨s, g1, g2⟩ := iter_for (S := Nat → Int32) (B := bX11_copy_10 (nI n) od) (fun i s => (nI i, s)) n (fun i s => hN i s D) 0 d (fun k hk => absurd hk (Nat.not_lt_zero _)) (by omega) (by omega) (fun i s _ hi hI => by
    refine ⟨upd s i (nI (D i)), ?_, fun k hk => ?_⟩
    · simp (disch := omega) only [bX11_copy_10, dm2, nI_leS, nI_lt0, nI_clampS, false_or, gd_s, lt, nI_1, h2 i hi]
      rw [if_neg (by omega)]
    · by_cases q : k = i
      · subst q; rw [pk_us]
      · rw [pk_un q]; exact hI k (by omega)) (fun s _ => by
    simp (disch := omega) only [bX11_copy_10, dm2, nI_leS]
    rw [if_pos (by omega)])
  refine ⟨s, ?_, n, D, rfl, h1, g2, h3, h4, h5⟩
  unfold sX11_copy
  rw [nl_0, ob_s g1]
  rfl
/-- digits behind the last are 0 -/
def ext (n : Nat) (D : Nat → Nat) : Nat → Nat := fun k => if k < n then D k else 0
theorem ext_v {n : Nat} {D : Nat → Nat} {N : Nat} (h : n ≤ N) : vl (ext n D) N = vl D n := by
  rw [vl_0 (D := ext n D) (a := n) N h (fun k a _ => if_neg (by omega))]
  exact vl_congr (fun k hk => if_pos hk)
theorem add_ok {l1 l2 : Int32} {d1 d2 : Nat → Int32} {v1 v2 : Nat} (h : Hd l1 d1 v1) (h' : Hd l2 d2 v2) (hv : v1 + v2 < pw 500) : ∃ l d, sX11_add l1 d1 l2 d2 = some (l, d) ∧ Hd l d (v1 + v2) := by
  obtain ⟨n1, D1, rfl, a1, a2, a3, a4, a5⟩ := h
  obtain ⟨n2, D2, rfl, b1, b2, b3, b4, b5⟩ := h'
  have emax : (if nI n1 < nI n2 then nI n2 else nI n1) = nI (max n1 n2) := mxI (by omega) (by omega)
  have x1 : ∀ k, ext n1 D1 k < 1073741824 := fun k => by unfold ext; split <;> first | omega | exact a3 k (by assumption)
  have x2 : ∀ k, ext n2 D2 k < 1073741824 := fun k => by unfold ext; split <;> first | omega | exact b3 k (by assumption)
  obtain ⟨s, g1, g2⟩ := iter_for (S := Nat × (Nat → Nat) × (Nat → Int32)) (B := bX11_add_17 (nI n1) (nI n2) d2 (nI (max n1 n2))) (fun k s => (nI s.1, nI k, s.2.2)) (max n1 n2) (fun k s => s.1 ≤ 1 ∧ hN k s.2.2 s.2.1 ∧ (∀ i, i < k → s.2.1 i < 1073741824) ∧ (∀ i, k ≤ i → i < n1 → s.2.2 i = nI (D1 i)) ∧ vl s.2.1 k + s.1 * pw k = vl (ext n1 D1) k + vl (ext n2 D2) k) 0 (0, fun _ => 0, d1) ⟨by omega, fun i hi => absurd hi (Nat.not_lt_zero _), fun i hi => absurd hi (Nat.not_lt_zero _), fun i _ hi => a2 i hi, rfl⟩ (by omega) (by omega) (fun k s _ hk hI => by
    obtain ⟨c, E, a⟩ := s
    obtain ⟨i1, i2, i3, i4, i5⟩ := hI
    dsimp only at i1 i2 i3 i4 i5 ⊢
    have y1 := x1 k
    have y2 := x2 k
    have e1 : (if n1 ≤ k then some (nI 0) else gd (¬ 600 ≤ k) (some (a k))) = some (nI (ext n1 D1 k)) := by
      unfold ext
      by_cases z : k < n1
      · rw [if_neg (by omega), if_pos z, gd_s (by omega), i4 k (Nat.le_refl _) z]
      · rw [if_pos (by omega), if_neg z]
    have e2 : (if n2 ≤ k then some (nI 0) else gd (¬ 600 ≤ k) (some (d2 k))) = some (nI (ext n2 D2 k)) := by
      unfold ext
      by_cases z : k < n2
      · rw [if_neg (by omega), if_pos z, gd_s (by omega), b2 k z]
      · rw [if_pos (by omega), if_neg z]
    refine ⟨((c + ext n1 D1 k + ext n2 D2 k) / 1073741824, up E k ((c + ext n1 D1 k + ext n2 D2 k) % 1073741824), upd a k (nI ((c + ext n1 D1 k + ext n2 D2 k) % 1073741824))), ?_, ?_, hN_push i2 _, fun i hi => ?_, fun i z1 z2 => ?_, ?_⟩
    · have e3 : ((nI c).toInt64 + (nI (ext n1 D1 k)).toInt64) + (nI (ext n2 D2 k)).toInt64 = lN (c + ext n1 D1 k + ext n2 D2 k) := by rw [nI_l (by omega), nI_l (by omega), nI_l (by omega), lNa, lNa]
      have e4 : (lN ((c + ext n1 D1 k + ext n2 D2 k) / 1073741824)).toInt32 = nI ((c + ext n1 D1 k + ext n2 D2 k) / 1073741824) := by rw [← lz_n, lz_i, iz_n]
      simp (disch := omega) only [bX11_add_17, dm3, nI_leS, nI_lt0, nI_clampS, false_or, nl_0, nI_lt0']
      rw [if_neg (by omega), e1]
      simp only [ob, dm1]
      rw [e2]
      simp (disch := omega) only [lt, e3, and30, lN_shr30, e4, gd_s, nI_1]
    · dsimp only; omega
    · dsimp only
      by_cases z : i = k
      · rw [z, up_s]; omega
      · rw [up_n z]; exact i3 i (by omega)
    · dsimp only
      rw [pk_un (by omega)]; exact i4 i (by omega) z2
    · dsimp only
      rw [vl_s, vl_s, vl_s, up_s, vl_congr (E := E) (fun i hi => up_n (by omega)), pw_s]
      have e1 := Nat.div_add_mod (c + ext n1 D1 k + ext n2 D2 k) 1073741824
      generalize (c + ext n1 D1 k + ext n2 D2 k) / 1073741824 = q at *
      generalize (c + ext n1 D1 k + ext n2 D2 k) % 1073741824 = r at *
      have e2 : (1073741824 * q + r) * pw k = (c + ext n1 D1 k + ext n2 D2 k) * pw k := by rw [e1]
      grind) (fun s hI => by
    simp (disch := omega) only [bX11_add_17, dm3, nI_leS]
    rw [if_pos (by omega)])
  obtain ⟨c, E, a⟩ := s
  obtain ⟨i1, i2, i3, i4, i5⟩ := g2
  dsimp only at g1 i1 i2 i3 i4 i5
  rw [ext_v (by omega), ext_v (by omega), a4, b4] at i5
  have f3 : hN (max n1 n2 + 1) (upd a (max n1 n2) (nI c)) (up E (max n1 n2) c) := hN_push i2 c
  have f4 : ∀ i, i < max n1 n2 + 1 → up E (max n1 n2) c i < 1073741824 := fun i hi => by
    by_cases y : i = max n1 n2
    · rw [y, up_s]; omega
    · rw [up_n y]; exact i3 i (by omega)
  have f5 : vl (up E (max n1 n2) c) (max n1 n2 + 1) = v1 + v2 := by
    rw [vl_s, up_s, vl_congr (E := E) (fun i hi => up_n (by omega)), i5]
  obtain ⟨n3, t1, t2, t3, t4⟩ := trim_ok (show max n1 n2 + 1 ≤ 600 by omega) f3 f4
  refine ⟨nI n3, _, ?_, n3, _, rfl, Hd_len (by rw [t3, f5]) t4 hv, fun i hi => f3 i (by omega), fun k hk => f4 k (by omega), by rw [t3, f5], t4⟩
  unfold sX11_add lt
  dsimp only
  rw [emax]
  have g1' : iter (bX11_add_17 (nI n1) (nI n2) d2 (nI (max n1 n2))) FU (nI 0, nI 0, d1) = some (0, (nI c, nI (max n1 n2), a)) := g1
  rw [nl_0, ob_s g1']
  simp (disch := omega) only [ex1, dm3, if_true, nI_lt0', nI_clampS, false_or, gd_s, nl_1, nI_add]
  rw [ob_s t2]
  rfl
