/-! the reference's search: differs, colours of one place -/
theorem okB_mono {tb : Nat → Nat → Bool} {ord t : Nat → Nat} {a c : Nat} : ∀ n m, n ≤ m → okB tb ord t a c n = false → okB tb ord t a c m = false := by
  intro n m h
  induction m with
  | zero => intro z; have : n = 0 := by omega
            subst this; exact z
  | succ m ih =>
    intro z
    by_cases y : n = m + 1
    · subst y; exact z
    · show (okB tb ord t a c m && _) = false
      rw [ih (by omega) z]; rfl
theorem difM {np P a c : Nat} (hnp : np ≤ 125) (hP : P ≤ np) (ha : a < P) (hc : c < 8) {ord : Nat → Nat} (ho : ∀ i, i < P → ord i < np) {tb : Nat → Nat → Bool} {tc : Nat → Int32} (ht : ∀ p q, p < np → q < np → tc (160 * p + q) = bI (tb p q)) {oa : Nat → Int32} (hoa : ∀ i, i < P → oa i = nI (ord i)) {t : Nat → Nat} (ht7 : ∀ i, i < a → t i ≤ 7) {tr : Nat → Int32} (htr : ∀ i, i < a → tr (ord i) = nI (t i)) : ∃ v, iter (bX12_search_97 oa tc (nI a) (nI (ord a)) (nI c) tr) FU ((1 : Int32), (0 : Int32)) = some (0, (bI (okB tb ord t a c a), v)) := by
  obtain ⟨k, t', h1, h2, h3⟩ := iter_forE (S := Unit) (B := bX12_search_97 oa tc (nI a) (nI (ord a)) (nI c) tr) (fun i _ => (bI (okB tb ord t a c i), nI i)) a (fun _ _ => True) (fun k t' => k = 0 ∧ t'.1 = bI (okB tb ord t a c a)) 0 () trivial (by omega) (by omega) (fun i s _ hi _ => by
    have hp := ho a ha
    have hq := ho i (by omega)
    have i160 : (160 : Int32) = nI 160 := rfl
    obtain ⟨ia, ca⟩ := ix_c (i := i) (n := 160) (by omega) (by omega)
    obtain ⟨ib, cb⟩ := ix_c (i := 160 * ord a + ord i) (n := 25600) (by omega) (by omega)
    obtain ⟨ic, cc⟩ := ix_c (i := ord i) (n := 160) (by omega) (by omega)
    cases z : okB tb ord t a c i with
    | false =>
      right
      refine ⟨0, (bI false, nI i), ?_, rfl, ?_⟩
      · unfold bX12_search_97
        simp only [dm2]
        rw [if_neg (by rw [nI_leS (by omega) (by omega)]; omega), if_pos (by decide)]
      · rw [okB_mono i a (by omega) z]
    | true =>
      left
      refine ⟨(), ?_, trivial⟩
      have st : bX12_search_97 oa tc (nI a) (nI (ord a)) (nI c) tr (bI true, nI i) = ob (if bI (tb (ord a) (ord i)) = 0 then some (1 : Int32) else if nI (t i) = nI c then some (0 : Int32) else some (1 : Int32)) (fun t => dm1 t (fun v14 => some (0, (v14, nI (i + 1))))) := by
        unfold bX12_search_97
        simp only [dm2]
        rw [if_neg (by rw [nI_leS (by omega) (by omega)]; omega), if_neg (show ¬ bI true = 0 by decide), gd_s ia, ca, hoa i (by omega), i160, nI_mul, nI_add, gd_s ib, cb, ht _ _ hp hq]
        rw [ca] at ia
        simp only [gd_s ia, gd_s ic]
        simp only [cc, htr i hi, lt, nl_1, nI_add]
      rw [st]
      show _ = some (0, (bI (okB tb ord t a c i && !(tb (ord a) (ord i) && decide (t i = c))), nI (i + 1)))
      rw [z]
      have e7 := ht7 i hi
      cases y : tb (ord a) (ord i) with
      | false => rfl
      | true =>
        rw [if_neg (show ¬ bI true = 0 by decide)]
        by_cases x : t i = c
        · rw [if_pos (by rw [x]), decide_eq_true x]; rfl
        · rw [if_neg (by rw [nI_eqS (by omega) (by omega)]; exact x), decide_eq_false x]; rfl) (fun s _ => by
    refine ⟨0, (bI (okB tb ord t a c a), nI a), ?_, rfl, rfl⟩
    unfold bX12_search_97
    simp only [dm2]
    rw [if_pos (by rw [nI_leS (by omega) (by omega)]; omega)])
  subst h2
  refine ⟨t'.2, ?_⟩
  have e : ((1 : Int32), (0 : Int32)) = (bI (okB tb ord t a c 0), nI 0) := rfl
  rw [e, h1, ← h3]
/-- one place: its colours one after another -/
theorem placeM {np P a : Nat} (hnp : np ≤ 125) (hP : P ≤ np) (ha : a < P) {ord : Nat → Nat} (ho : ∀ i, i < P → ord i < np) (hinj : ∀ i j, i < j → j < P → ord i < ord j) {tb : Nat → Nat → Bool} {tc : Nat → Int32} (ht : ∀ p q, p < np → q < np → tc (160 * p + q) = bI (tb p q)) {oa : Nat → Int32} (hoa : ∀ i, i < P → oa i = nI (ord i)) {t : Nat → Nat} (ht7 : ∀ i, i < a → t i ≤ 7) (ht8 : t a ≤ 8) {tr : Nat → Int32} (htr : ∀ i, i < a → tr (ord i) = nI (t i)) {al : Nat → Int32} {l : Nat} (hl : l ≤ 100000) : ∃ k t', iter (bX12_search_51 al oa tc (nI a) (nI (ord a))) FU (nI l, (0 : Int32), nI (t a), tr) = some (k, t') ∧ ((k = 0 ∧ ∃ col, FinS (alB al) tb ord P (a, l, t) 2 col) ∨ (k = 1 ∧ ((t'.2.1 = 0 ∧ ∃ l', l' ≤ l ∧ t'.1 = nI l' ∧ (∀ i, i < a → t'.2.2.2 (ord i) = nI (t i)) ∧ ∀ r col, FinS (alB al) tb ord P (a, l', upF t a 8) r col → FinS (alB al) tb ord P (a, l, t) r col) ∨ (t'.2.1 = 1 ∧ ∃ l' c, l' < l ∧ c ≤ 7 ∧ t a ≤ 7 ∧ t'.1 = nI l' ∧ (∀ i, i < a → t'.2.2.2 (ord i) = nI (t i)) ∧ t'.2.2.2 (ord a) = nI c ∧ ∀ r col, FinS (alB al) tb ord P (a + 1, l', upF (upF t a c) (a + 1) 0) r col → FinS (alB al) tb ord P (a, l, t) r col)))) := by
  have hp := ho a ha
  obtain ⟨ia, ca⟩ := ix_c (i := ord a) (n := 160) (by omega) (by omega)
  have i8 : (8 : Int32) = nI 8 := rfl
  obtain ⟨k, t', h1, h2⟩ := iter_whE (S := Nat × Bool × Nat × (Nat → Int32)) (B := bX12_search_51 al oa tc (nI a) (nI (ord a))) (fun s => (nI s.1, bI s.2.1, nI s.2.2.1, s.2.2.2)) (fun s => s.1 ≤ l ∧ s.2.2.1 ≤ 8 ∧ t a ≤ s.2.2.1 ∧ (∀ i, i < a → s.2.2.2 (ord i) = nI (t i)) ∧ (s.2.1 = false → ∀ r col, FinS (alB al) tb ord P (a, s.1, upF t a s.2.2.1) r col → FinS (alB al) tb ord P (a, l, t) r col) ∧ (s.2.1 = true → s.1 < l ∧ 1 ≤ s.2.2.1 ∧ t a ≤ 7 ∧ s.2.2.2 (ord a) = nI (s.2.2.1 - 1) ∧ ∀ r col, FinS (alB al) tb ord P (a + 1, s.1, upF (upF t a (s.2.2.1 - 1)) (a + 1) 0) r col → FinS (alB al) tb ord P (a, l, t) r col)) (fun s => 8 - s.2.2.1) (fun k t' => (k = 0 ∧ ∃ col, FinS (alB al) tb ord P (a, l, t) 2 col) ∨ (k = 1 ∧ ((t'.2.1 = 0 ∧ ∃ l', l' ≤ l ∧ t'.1 = nI l' ∧ (∀ i, i < a → t'.2.2.2 (ord i) = nI (t i)) ∧ ∀ r col, FinS (alB al) tb ord P (a, l', upF t a 8) r col → FinS (alB al) tb ord P (a, l, t) r col) ∨ (t'.2.1 = 1 ∧ ∃ l' c, l' < l ∧ c ≤ 7 ∧ t a ≤ 7 ∧ t'.1 = nI l' ∧ (∀ i, i < a → t'.2.2.2 (ord i) = nI (t i)) ∧ t'.2.2.2 (ord a) = nI c ∧ ∀ r col, FinS (alB al) tb ord P (a + 1, l', upF (upF t a c) (a + 1) 0) r col → FinS (alB al) tb ord P (a, l, t) r col)))) (fun s hs => by
    obtain ⟨l1, tk, c, tr1⟩ := s
    obtain ⟨s1, s2, s3, s4, s5, s6⟩ := hs
    dsimp only at s1 s2 s3 s4 s5 s6 ⊢
    cases tk with
    | true =>
      obtain ⟨y1, y2, y3, y4, y5⟩ := s6 rfl
      right
      refine ⟨1, (nI l1, bI true, nI c, tr1), ?_, Or.inr ⟨rfl, Or.inr ⟨rfl, l1, c - 1, y1, by omega, y3, rfl, s4, y4, y5⟩⟩⟩
      unfold bX12_search_51
      simp only [dm4]
      by_cases z : (8 : Int32) ≤ nI c
      · rw [if_pos z]
      · rw [if_neg z, if_pos (show ¬ bI true = 0 by decide)]
    | false =>
      have y5 := s5 rfl
      by_cases z : c = 8
      · subst z
        right
        refine ⟨1, (nI l1, bI false, nI 8, tr1), ?_, Or.inr ⟨rfl, Or.inl ⟨rfl, l1, s1, rfl, s4, y5⟩⟩⟩
        unfold bX12_search_51
        simp only [dm4]
        rw [if_pos (show (8 : Int32) ≤ nI 8 by decide)]
      · have c7 : c < 8 := by omega
        have n8 : ¬ (8 : Int32) ≤ nI c := by rw [i8, nI_leS (by omega) (by omega)]; omega
        cases za : alB al (ord a) c with
        | false =>
          left
          refine ⟨(l1, false, c + 1, tr1), ?_, ⟨s1, by show c + 1 ≤ 8; omega, by show t a ≤ c + 1; omega, s4, fun _ r col hF => ?_, fun y => (by cases y)⟩, by show 8 - (c + 1) < 8 - c; omega⟩
          · unfold alB at za
            have za' : ((al (ord a) >>> (nI c &&& 31)) &&& (1 : Int32)) = 0 := Decidable.not_not.mp (of_decide_eq_false za)
            unfold bX12_search_51
            simp only [dm4]
            rw [if_neg n8, if_neg (show ¬ ¬ bI false = 0 by decide), gd_s ia, ca, if_neg (fun y => y za')]
            simp only [lt, nl_1, nI_add]
          · apply y5
            have q : stp (alB al) tb ord P (a, l1, upF t a c) = some (a, l1, upF t a (c + 1)) := by
              unfold stp
              show (if a = P then _ else if 8 ≤ upF t a c a then _ else if alB al (ord a) (upF t a c a) = false then some (a, l1, upF (upF t a c) a (upF t a c a + 1)) else _) = _
              rw [if_neg (by omega), upF_s, if_neg (by omega), if_pos za, upF_ii]
            exact Fin_b q hF
        | true =>
          have za' : ¬ ((al (ord a) >>> (nI c &&& 31)) &&& (1 : Int32)) = 0 := by unfold alB at za; exact of_decide_eq_true za
          by_cases zl : l1 = 0
          · subst zl
            right
            refine ⟨0, (nI 0, bI false, nI c, tr1), ?_, Or.inl ⟨rfl, t, y5 _ _ ?_⟩⟩
            · unfold bX12_search_51
              simp only [dm4]
              rw [if_neg n8, if_neg (show ¬ ¬ bI false = 0 by decide), gd_s ia, ca, if_pos za', if_neg (show ¬ ¬ nI 0 = 0 by decide)]
            · apply Fin_e
              · unfold stp
                show (if a = P then _ else if 8 ≤ upF t a c a then _ else if alB al (ord a) (upF t a c a) = false then _ else if 0 = 0 then none else _) = none
                rw [if_neg (by omega), upF_s, if_neg (by omega), if_neg (by rw [za]; simp), if_pos rfl]
              · unfold cdF
                show (if a = P then 1 else if 8 ≤ upF t a c a then 0 else 2) = 2
                rw [if_neg (by omega), upF_s, if_neg (by omega)]
              · intro z; cases z
          · left
            obtain ⟨v, d1⟩ := difM (c := c) hnp hP ha c7 ho ht hoa ht7 s4
            have okq : okB tb ord (upF t a c) a c a = okB tb ord t a c a := by
              rw [Bool.eq_iff_iff, okB_i, okB_i]
              constructor
              · intro x i hi y
                exact x i hi ⟨y.1, by rw [upF_n (by omega)]; exact y.2⟩
              · intro x i hi y
                rw [upF_n (by omega)] at y
                exact x i hi y
            have sq : stp (alB al) tb ord P (a, l1, upF t a c) = if okB tb ord t a c a = true then some (a + 1, l1 - 1, upF (upF t a c) (a + 1) 0) else some (a, l1 - 1, upF t a (c + 1)) := by
              unfold stp
              show (if a = P then _ else if 8 ≤ upF t a c a then _ else if alB al (ord a) (upF t a c a) = false then _ else if l1 = 0 then none else if okB tb ord (upF t a c) a (upF t a c a) a = true then some (a + 1, l1 - 1, upF (upF t a c) (a + 1) 0) else some (a, l1 - 1, upF (upF t a c) a (upF t a c a + 1))) = _
              rw [if_neg (by omega), upF_s, if_neg (by omega), if_neg (by rw [za]; simp), if_neg zl, okq, upF_ii]
            have st : bX12_search_51 al oa tc (nI a) (nI (ord a)) (nI l1, bI false, nI c, tr1) = ob (if bI (okB tb ord t a c a) = 0 then some (bI false, tr1) else some ((1 : Int32), upd tr1 (ord a) (nI c))) (fun t => dm2 t (fun v18 v19 => some (0, (nI (l1 - 1), v18, nI (c + 1), v19)))) := by
              unfold bX12_search_51
              simp only [dm4]
              rw [if_neg n8, if_neg (show ¬ ¬ bI false = 0 by decide), gd_s ia, ca, if_pos za', if_pos (by rw [nl_0, nI_eqS (by omega) (by omega)]; exact zl), lt_v, nI_dec (by omega), ob_s d1, ex1_0]
              rw [ca] at ia
              simp only [gd_s ia]
              simp only [dm2, lt, nl_1, nI_add]
            cases zo : okB tb ord t a c a with
            | false =>
              rw [zo] at st sq
              refine ⟨(l1 - 1, false, c + 1, tr1), ?_, ⟨by show l1 - 1 ≤ l; omega, by show c + 1 ≤ 8; omega, by show t a ≤ c + 1; omega, s4, fun _ r col hF => ?_, fun y => (by cases y)⟩, by show 8 - (c + 1) < 8 - c; omega⟩
              · rw [st]; rfl
              · rw [if_neg (by simp)] at sq
                exact y5 _ _ (Fin_b sq hF)
            | true =>
              rw [zo] at st sq
              refine ⟨(l1 - 1, true, c + 1, upd tr1 (ord a) (nI c)), ?_, ⟨by show l1 - 1 ≤ l; omega, by show c + 1 ≤ 8; omega, by show t a ≤ c + 1; omega, fun i hi => ?_, fun y => (by cases y), fun _ => ⟨by show l1 - 1 < l; omega, by show 1 ≤ c + 1; omega, by omega, ?_, fun r col hF => ?_⟩⟩, by show 8 - (c + 1) < 8 - c; omega⟩
              · rw [st]; rfl
              · show upd tr1 (ord a) (nI c) (ord i) = nI (t i)
                have := hinj i a hi ha
                rw [pk_un (by omega)]; exact s4 i hi
              · show upd tr1 (ord a) (nI c) (ord a) = nI (c + 1 - 1)
                rw [pk_us]; rfl
              · rw [if_pos rfl] at sq
                exact y5 _ _ (Fin_b sq hF)) (l, false, t a, tr) ⟨Nat.le_refl _, ht8, Nat.le_refl _, htr, fun _ r col hF => (by
      have : upF t a (t a) = t := by
        funext i
        by_cases z : i = a
        · subst z; rw [upF_s]
        · rw [upF_n z]
      have hF' : FinS (alB al) tb ord P (a, l, upF t a (t a)) r col := hF
      rw [this] at hF'
      exact hF'), fun y => (by cases y)⟩ (by show 8 - t a < 999999999; omega)
  exact ⟨k, t', h1, h2⟩
