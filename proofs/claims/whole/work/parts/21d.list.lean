/-! the class's steps in a row -/
def Pc (on : Nat → Nat → Bool) (N m i j : Nat) : Prop := ∃ k, k < N ∧ cn1 (on k) m i j
theorem part0_ok {m : Nat} (hm : m ≤ 128) (H L : Nat → Int64) : ∃ H' L' : Nat → Int64, iter (bX8_part_2 (nI m)) FU ((0 : Int32), H, L) = some (0, (nI m, H', L')) ∧ ∀ i b, i < m → bt H' L' i b = false := by
  obtain ⟨s, h1, h2⟩ := iter_for (S := (Nat → Int64) × (Nat → Int64)) (B := bX8_part_2 (nI m)) (fun i s => (nI i, s.1, s.2)) m (fun i s => ∀ j, j < i → s.1 j = 0 ∧ s.2 j = 0) 0 (H, L) (fun j h => by omega) (by omega) (by omega) (fun i s _ hi hI => by
    refine ⟨(vp_updL s.1 i 0, vp_updL s.2 i 0), ?_, fun j hj => ?_⟩
    · simp (disch := omega) only [bX8_part_2, dm3, nI_leS, lt, nI_lt0, nI_clampS, false_or, gd_s, nI_1]
      rw [if_neg (by omega)]
    · dsimp only
      by_cases h : j = i
      · subst h; rw [pk_uLs, pk_uLs]; exact ⟨rfl, rfl⟩
      · rw [pk_uLn h, pk_uLn h]; exact hI j (by omega)) (fun s _ => by
    simp (disch := omega) only [bX8_part_2, dm3, nI_leS]
    rw [if_pos (by omega)])
  refine ⟨s.1, s.2, h1, fun i b hi => ?_⟩
  obtain ⟨e1, e2⟩ := h2 i hi
  unfold bt
  rw [e1, e2]
  split <;> simp
theorem part1_ok {N m : Nat} (hN : N ≤ 18) (hm : m ≤ 128) {on : Nat → Nat → Bool} {u x y X Y U V : Nat → Int32} (hl : ∀ k i, k < N → i < m → sX4_liesOn (nI i) (nI k) u x y U V X Y = some (bI (on k i))) (H L : Nat → Int64) (h0 : ∀ i b, i < m → bt H L i b = false) : ∃ H' L' : Nat → Int64, iter (bX8_part_35 (nI m) u x y (nI N) U V X Y) FU ((0 : Int32), H, L) = some (0, (nI N, H', L')) ∧ ∀ a b, a < m → b < 128 → (bt H' L' a b = true ↔ (Pc on N m a b ∨ Pc on N m b a)) := by
  obtain ⟨s, h1, h2⟩ := iter_for (S := (Nat → Int64) × (Nat → Int64)) (B := bX8_part_35 (nI m) u x y (nI N) U V X Y) (fun i s => (nI i, s.1, s.2)) N (fun i s => ∀ a b, a < m → b < 128 → (bt s.1 s.2 a b = true ↔ (Pc on i m a b ∨ Pc on i m b a))) 0 (H, L) (fun a b ha hb => by
      rw [h0 a b ha]
      constructor
      · intro z; cases z
      · rintro (⟨k, hk, -⟩ | ⟨k, hk, -⟩) <;> omega) (by omega) (by omega) (fun i s _ hi hI => by
    obtain ⟨H1, L1, e, hJ⟩ := joinA_ok (k := i) hm (fun j hj => hl i j hi hj) s.1 s.2
    refine ⟨(H1, L1), ?_, fun a b ha hb => ?_⟩
    · simp (disch := omega) only [bX8_part_35, dm3, nI_leS, lt, e, ob, dm2, nI_1]
      rw [if_neg (by omega)]
    · dsimp only
      rw [hJ a b hb, hI a b ha hb]
      constructor
      · rintro ((⟨k, hk, z⟩ | ⟨k, hk, z⟩) | z | z)
        · exact Or.inl ⟨k, by omega, z⟩
        · exact Or.inr ⟨k, by omega, z⟩
        · exact Or.inl ⟨i, by omega, z⟩
        · exact Or.inr ⟨i, by omega, z⟩
      · rintro (⟨k, hk, z⟩ | ⟨k, hk, z⟩)
        · rcases Nat.lt_or_ge k i with q | q
          · exact Or.inl (Or.inl ⟨k, q, z⟩)
          · obtain rfl : k = i := by omega
            exact Or.inr (Or.inl z)
        · rcases Nat.lt_or_ge k i with q | q
          · exact Or.inl (Or.inr ⟨k, q, z⟩)
          · obtain rfl : k = i := by omega
            exact Or.inr (Or.inr z)) (fun s _ => by
    simp (disch := omega) only [bX8_part_35, dm3, nI_leS]
    rw [if_pos (by omega)])
  exact ⟨s.1, s.2, h1, h2⟩
/-- steps in strict order -/
def srtS (n : Nat) (F T : Nat → Nat) : Prop := ∀ s t, s < t → t < n → F s < F t ∨ (F s = F t ∧ T s < T t)
def okS (ad : Nat → Nat → Bool) (m n : Nat) (F T : Nat → Nat) : Prop := ∀ s, s < n → F s < m ∧ T s < m ∧ ad (F s) (T s) = true
def CapS (ad : Nat → Nat → Bool) (m : Nat) : Prop := ∀ (n : Nat) (F T : Nat → Nat), okS ad m n F T → srtS n F T → n ≤ 684
/-- all steps ahead of (i, j) -/
def Stq (ad : Nat → Nat → Bool) (m n : Nat) (F T : Nat → Nat) (i j : Nat) : Prop := okS ad m n F T ∧ srtS n F T ∧ (∀ s, s < n → F s < i ∨ (F s = i ∧ T s < j)) ∧ ∀ a b, a < m → b < m → ad a b = true → (a < i ∨ (a = i ∧ b < j)) → ∃ s, s < n ∧ F s = a ∧ T s = b
def Stps (ad : Nat → Nat → Bool) (m n : Nat) (F T fi : Nat → Nat) : Prop := okS ad m n F T ∧ srtS n F T ∧ (∀ a b, a < m → b < m → ad a b = true → ∃ s, s < n ∧ F s = a ∧ T s = b) ∧ ∀ i, i ≤ m → fi i ≤ n ∧ ∀ s, s < n → (F s < i ↔ s < fi i)
def up (F : Nat → Nat) (n i : Nat) : Nat → Nat := fun s => if s = n then i else F s
theorem up_s (F : Nat → Nat) (n i : Nat) : up F n i n = i := if_pos rfl
theorem up_n {F : Nat → Nat} {n i s : Nat} (h : s ≠ n) : up F n i s = F s := if_neg h
theorem Stq_skip {ad : Nat → Nat → Bool} {m n i j : Nat} {F T : Nat → Nat} (h : Stq ad m n F T i j) (hf : ad i j = false) : Stq ad m n F T i (j + 1) := by
  obtain ⟨h1, h2, h3, h4⟩ := h
  refine ⟨h1, h2, fun s hs => ?_, fun a b ha hb hab hl => ?_⟩
  · have := h3 s hs; omega
  · by_cases q : a = i ∧ b = j
    · obtain ⟨rfl, rfl⟩ := q
      rw [hf] at hab; cases hab
    · exact h4 a b ha hb hab (by omega)
theorem Stq_push {ad : Nat → Nat → Bool} {m n i j : Nat} {F T : Nat → Nat} (h : Stq ad m n F T i j) (hi : i < m) (hj : j < m) (hf : ad i j = true) : Stq ad m (n + 1) (up F n i) (up T n j) i (j + 1) := by
  obtain ⟨h1, h2, h3, h4⟩ := h
  refine ⟨fun s hs => ?_, fun s t hst ht => ?_, fun s hs => ?_, fun a b ha hb hab hl => ?_⟩
  · by_cases q : s = n
    · subst q; rw [up_s, up_s]; exact ⟨hi, hj, hf⟩
    · rw [up_n q, up_n q]; exact h1 s (by omega)
  · rw [up_n (F := F) (show s ≠ n by omega), up_n (F := T) (show s ≠ n by omega)]
    by_cases q : t = n
    · subst q; rw [up_s, up_s]; exact h3 s (by omega)
    · rw [up_n q, up_n q]; exact h2 s t hst (by omega)
  · by_cases q : s = n
    · subst q; rw [up_s, up_s]; omega
    · rw [up_n q, up_n q]; have := h3 s (by omega); omega
  · by_cases q : a = i ∧ b = j
    · obtain ⟨rfl, rfl⟩ := q
      exact ⟨n, by omega, up_s _ _ _, up_s _ _ _⟩
    · obtain ⟨s, hs, e1, e2⟩ := h4 a b ha hb hab (by omega)
      exact ⟨s, by omega, by rw [up_n (by omega)]; exact e1, by rw [up_n (by omega)]; exact e2⟩
theorem Stq_row {ad : Nat → Nat → Bool} {m n i : Nat} {F T : Nat → Nat} (h : Stq ad m n F T i m) : Stq ad m n F T (i + 1) 0 := by
  obtain ⟨h1, h2, h3, h4⟩ := h
  refine ⟨h1, h2, fun s hs => ?_, fun a b ha hb hab hl => h4 a b ha hb hab (by omega)⟩
  have := h3 s hs; omega
def hN (n : Nat) (f : Nat → Int32) (F : Nat → Nat) : Prop := ∀ s, s < n → f s = nI (F s)
theorem hN_push {n : Nat} {f : Nat → Int32} {F : Nat → Nat} (h : hN n f F) (i : Nat) : hN (n + 1) (upd f n (nI i)) (up F n i) := by
  intro s hs
  by_cases q : s = n
  · subst q; rw [pk_us, up_s]
  · rw [pk_un q, up_n q]; exact h s (by omega)
theorem row_ok {m i : Nat} (hm : m ≤ 128) (hi : i < m) {H L : Nat → Int64} (hc : CapS (bt H L) m) {n : Nat} {F T : Nat → Nat} {f t : Nat → Int32} (hS : Stq (bt H L) m n F T i 0) (hf : hN n f F) (ht : hN n t T) : ∃ (n' : Nat) (F' T' : Nat → Nat) (f' t' : Nat → Int32), iter (bX8_listSteps_30 (nI m) H L (nI i)) FU ((0 : Int32), nI n, f, t) = some (0, (nI m, nI n', f', t')) ∧ Stq (bt H L) m n' F' T' (i + 1) 0 ∧ hN n' f' F' ∧ hN n' t' T' ∧ n ≤ n' ∧ (∀ s, s < n → F' s = F s ∧ T' s = T s) := by
  obtain ⟨s, h1, h2⟩ := iter_for (S := Nat × (Nat → Nat) × (Nat → Nat) × (Nat → Int32) × (Nat → Int32)) (B := bX8_listSteps_30 (nI m) H L (nI i)) (fun j s => (nI j, nI s.1, s.2.2.2.1, s.2.2.2.2)) m (fun j s => Stq (bt H L) m s.1 s.2.1 s.2.2.1 i j ∧ hN s.1 s.2.2.2.1 s.2.1 ∧ hN s.1 s.2.2.2.2 s.2.2.1 ∧ n ≤ s.1 ∧ ∀ z, z < n → s.2.1 z = F z ∧ s.2.2.1 z = T z) 0 (n, F, T, f, t) ⟨hS, hf, ht, Nat.le_refl _, fun _ _ => ⟨rfl, rfl⟩⟩ (by omega) (by omega) (fun j s _ hj hI => by
    obtain ⟨n1, F1, T1, f1, t1⟩ := s
    obtain ⟨g1, g2, g3, g4, g5⟩ := hI
    dsimp only at g1 g2 g3 g4 g5 ⊢
    have hn : n1 ≤ 684 := hc n1 F1 T1 g1.1 g1.2.1
    have e0 := areJ_ok (i := i) (j := j) (by omega) (by omega) H L
    cases hb : bt H L i j with
    | false =>
      refine ⟨(n1, F1, T1, f1, t1), ?_, Stq_skip g1 hb, g2, g3, g4, g5⟩
      simp (disch := omega) only [bX8_listSteps_30, dm4, nI_leS, e0, hb, bI_f, ob, dm1, lt, nl_0, if_true, dm3, nI_1]
      rw [if_neg (by omega)]
    | true =>
      refine ⟨(n1 + 1, up F1 n1 i, up T1 n1 j, upd f1 n1 (nI i), upd t1 n1 (nI j)), ?_, Stq_push g1 hi hj hb, hN_push g2 i, hN_push g3 j, by omega, fun z hz => ?_⟩
      · simp (disch := omega) only [bX8_listSteps_30, dm4, nI_leS, e0, hb, bI_t, ob, dm1, lt, nl_0, nl_1, nl_768, nI_eqS, if_false, nI_clampS, nI_lt0', false_or, gd_s, dm3, nI_add]
        rw [if_neg (by omega), if_neg (by omega), if_neg (by omega)]
      · dsimp only
        rw [up_n (by omega), up_n (by omega)]; exact g5 z hz) (fun s _ => by
    simp (disch := omega) only [bX8_listSteps_30, dm4, nI_leS]
    rw [if_pos (by omega)])
  obtain ⟨n1, F1, T1, f1, t1⟩ := s
  obtain ⟨g1, g2, g3, g4, g5⟩ := h2
  exact ⟨n1, F1, T1, f1, t1, h1, Stq_row g1, g2, g3, g4, g5⟩
theorem list_ok {m : Nat} (hm : m ≤ 128) {H L : Nat → Int64} (hc : CapS (bt H L) m) (v : Int32) (f g t : Nat → Int32) : ∃ (n : Nat) (F T fi : Nat → Nat) (f' g' t' : Nat → Int32), sX8_listSteps v g f (nI m) H L t = some (nI n, g', f', t') ∧ Stps (bt H L) m n F T fi ∧ hN n f' F ∧ hN n t' T ∧ (∀ i, i ≤ m → g' i = nI (fi i)) ∧ n ≤ 684 := by
  obtain ⟨s, h1, h2⟩ := iter_for (S := Nat × (Nat → Nat) × (Nat → Nat) × (Nat → Nat) × (Nat → Int32) × (Nat → Int32) × (Nat → Int32)) (B := bX8_listSteps_7 (nI m) H L) (fun i s => (nI i, nI s.1, s.2.2.2.2.1, s.2.2.2.2.2.1, s.2.2.2.2.2.2)) m (fun i s => Stq (bt H L) m s.1 s.2.1 s.2.2.1 i 0 ∧ hN s.1 s.2.2.2.2.2.1 s.2.1 ∧ hN s.1 s.2.2.2.2.2.2 s.2.2.1 ∧ ∀ k, k < i → s.2.2.2.2.1 k = nI (s.2.2.2.1 k) ∧ s.2.2.2.1 k ≤ s.1 ∧ ∀ z, z < s.1 → (s.2.1 z < k ↔ z < s.2.2.2.1 k)) 0 (0, fun _ => 0, fun _ => 0, fun _ => 0, g, f, t) ⟨⟨fun s hs => absurd hs (Nat.not_lt_zero _), fun s t _ h => absurd h (Nat.not_lt_zero _), fun s hs => absurd hs (Nat.not_lt_zero _), fun a b _ _ _ h => by omega⟩, fun s hs => absurd hs (Nat.not_lt_zero _), fun s hs => absurd hs (Nat.not_lt_zero _), fun k hk => absurd hk (Nat.not_lt_zero _)⟩ (by omega) (by omega) (fun i s _ hi hI => by
    obtain ⟨n1, F1, T1, fi1, g1, f1, t1⟩ := s
    obtain ⟨a1, a2, a3, a4⟩ := hI
    dsimp only at a1 a2 a3 a4 ⊢
    obtain ⟨n2, F2, T2, f2, t2, b1, b2, b3, b4, b5, b6⟩ := row_ok hm hi hc a1 a2 a3
    refine ⟨(n2, F2, T2, up fi1 i n1, upd g1 i (nI n1), f2, t2), ?_, b2, b3, b4, fun k hk => ?_⟩
    · simp (disch := omega) only [bX8_listSteps_7, dm5, nI_leS, lt, nI_lt0, nI_clampS, false_or, gd_s, b1, ob, ex1, dm4, nI_1, if_true]
      rw [if_neg (by omega)]
    · dsimp only
      have hz : ∀ z, z < n2 → n1 ≤ z → i ≤ F2 z := by
        intro z hz hz2
        rcases Nat.lt_or_ge (F2 z) i with q | q
        · obtain ⟨o1, o2, o3⟩ := b2.1 z hz
          obtain ⟨z2, c1, c2, c3⟩ := a1.2.2.2 (F2 z) (T2 z) o1 o2 o3 (Or.inl q)
          have c4 := b6 z2 c1
          rcases b2.2.1 z2 z (by omega) hz with r | r <;> omega
        · exact q
      by_cases q : k = i
      · subst q
        rw [pk_us, up_s]
        refine ⟨rfl, b5, fun z hz2 => ?_⟩
        rcases Nat.lt_or_ge z n1 with r | r
        · have := a1.2.2.1 z r
          rw [(b6 z r).1]
          omega
        · have := hz z hz2 r
          omega
      · rw [pk_un q, up_n q]
        obtain ⟨c1, c2, c3⟩ := a4 k (by omega)
        refine ⟨c1, by omega, fun z hz2 => ?_⟩
        rcases Nat.lt_or_ge z n1 with r | r
        · rw [(b6 z r).1]; exact c3 z r
        · have := hz z hz2 r
          omega) (fun s _ => by
    simp (disch := omega) only [bX8_listSteps_7, dm5, nI_leS]
    rw [if_pos (by omega)])
  obtain ⟨n1, F1, T1, fi1, g1, f1, t1⟩ := s
  obtain ⟨a1, a2, a3, a4⟩ := h2
  dsimp only at h1 a1 a2 a3 a4
  refine ⟨n1, F1, T1, up fi1 m n1, f1, upd g1 m (nI n1), t1, ?_, ⟨a1.1, a1.2.1, fun a b ha hb hab => a1.2.2.2 a b ha hb hab (Or.inl ha), fun i hi => ?_⟩, a2, a3, fun i hi => ?_, hc n1 F1 T1 a1.1 a1.2.1⟩
  · unfold sX8_listSteps
    rw [nl_0, ob_s h1]
    simp (disch := omega) only [ex1, dm5, lt, nI_lt0', nI_clampS, false_or, gd_s, if_true]
  · by_cases q : i = m
    · subst q
      rw [up_s]
      exact ⟨Nat.le_refl _, fun s hs => ⟨fun _ => hs, fun _ => (a1.1 s hs).1⟩⟩
    · rw [up_n q]; exact (a4 i (by omega)).2
  · by_cases q : i = m
    · subst q
      rw [pk_us, up_s]
    · rw [up_n q, pk_un q]; exact (a4 i (by omega)).1
