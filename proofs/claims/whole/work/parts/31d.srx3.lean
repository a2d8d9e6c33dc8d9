/-! the class's search: its turns -/
theorem dm7_s {A1 A2 A3 A4 A5 A6 A7 R : Type} (a : A1) (b : A2) (c : A3) (d : A4) (e : A5) (f : A6) (g : A7) (F : A1 → A2 → A3 → A4 → A5 → A6 → A7 → Option R) : dm7 (a, b, c, d, e, f, g) F = F a b c d e f g := rfl
theorem ob_d3 {X Y Z R : Type} {e : Option (X × Y × Z)} {a : X} {b : Y} {c : Z} (h : e = some (a, b, c)) (F : X → Y → Z → Option R) : ob e (fun o => dm3 o F) = F a b c := by subst h; rfl
theorem ob_d4 {X Y Z W R : Type} {e : Option (X × Y × Z × W)} {a : X} {b : Y} {c : Z} {d : W} (h : e = some (a, b, c, d)) (F : X → Y → Z → W → Option R) : ob e (fun o => dm4 o F) = F a b c d := by subst h; rfl
theorem e3_t (tries : Nat) : (2 : Int32) * nI tries + (3 : Int32) = nI (2 * tries + 3) := by rw [nl_2, nI_mul, show (3 : Int32) = nI 3 from rfl, nI_add]
theorem nI_dec {a : Nat} (h : 0 < a) : nI a + (-1) = nI (a - 1) := by
  have e : a = (a - 1) + 1 := by omega
  rw [e, ← nI_add]
  show nI (a - 1) + nI 1 + (-1) = nI (a - 1 + 1 - 1)
  rw [Int32.add_assoc, show nI 1 + (-1 : Int32) = 0 from by decide, Int32.add_zero]
  rfl
theorem tX_end {tries T P a : Nat} (ht : tries ≤ 100000) (hT : T ≤ 2 * tries) (hP : P ≤ 125) (ha : a ≤ 125) (h : P ≤ a) (al sd pt up : Nat → Int32) (nH nL H L : Nat → Int64) (dn : Int32) : bX3_search_13 (nI tries) al nH nL (nI P) sd (nI a, dn, nI T, pt, H, L, up) = some (3, (nI a, dn, nI T, pt, H, L, up)) := by
  unfold bX3_search_13
  rw [dm7_s, e3_t, if_neg (by rw [nI_leS (by omega) (by omega)]; omega), if_pos (by rw [nI_leS (by omega) (by omega)]; omega)]
theorem tX_no {tries T P p c0 : Nat} (ht : tries ≤ 100000) (hT : T ≤ 2 * tries) (hP : P ≤ 125) (h : 0 < P) {al sd up : Nat → Int32} (pt : Nat → Int32) (nH nL H L : Nat → Int64) (dn : Int32) (e1 : sd 0 = nI p) (e2 : up 0 = nI c0) (e3 : sX3_nextAllowed (nI p) (nI c0) al = some (nI 8)) : bX3_search_13 (nI tries) al nH nL (nI P) sd (nI 0, dn, nI T, pt, H, L, up) = some (2, (nI 0, dn, nI T, pt, H, L, up)) := by
  obtain ⟨ia, ca⟩ := ix_c (i := 0) (n := 128) (by omega) (by omega)
  unfold bX3_search_13
  rw [dm7_s, e3_t, if_neg (by rw [nI_leS (by omega) (by omega)]; omega), if_neg (by rw [nI_leS (by omega) (by omega)]; omega), gd_s ia, lt_v, gd_s ia, ca, e1, e2, ob_d1 e3, if_pos (show (8 : Int32) ≤ nI 8 by decide), if_neg (show ¬ ¬ nI 0 = 0 by decide)]
theorem tX_back {tries T P p c0 a b : Nat} (ht : tries ≤ 100000) (hT : T ≤ 2 * tries) (hP : P ≤ 125) (ha : a < P) (h0 : 0 < a) {al sd up pt : Nat → Int32} {nH nL H L H' L' : Nat → Int64} (dn : Int32) (e1 : sd a = nI p) (e2 : up a = nI c0) (e3 : sX3_nextAllowed (nI p) (nI c0) al = some (nI 8)) (e4 : sd (a - 1) = nI b) (e5 : sX3_unpaint (nI b) pt H L = some (H', L')) : bX3_search_13 (nI tries) al nH nL (nI P) sd (nI a, dn, nI T, pt, H, L, up) = some (0, (nI (a - 1), dn, nI (T + 1), pt, H', L', upd up a 0)) := by
  obtain ⟨ia, ca⟩ := ix_c (i := a) (n := 128) (by omega) (by omega)
  obtain ⟨ib, cb⟩ := ix_c (i := a - 1) (n := 128) (by omega) (by omega)
  unfold bX3_search_13
  rw [dm7_s, e3_t, if_neg (by rw [nI_leS (by omega) (by omega)]; omega), if_neg (by rw [nI_leS (by omega) (by omega)]; omega), gd_s ia, lt_v, gd_s ia, ca, e1, e2, ob_d1 e3, if_pos (show (8 : Int32) ≤ nI 8 by decide), if_pos (by rw [nl_0, nI_eqS (by omega) (by omega)]; omega)]
  rw [ca] at ia
  rw [gd_s ia, lt_v, lt_v, nI_dec h0, gd_s ib, cb, e4, ob_d2 e5, lt_v, nl_1, nI_add]
theorem tX_spent {tries T P p c0 c a : Nat} (ht : tries ≤ 100000) (hT : T ≤ 2 * tries) (hP : P ≤ 125) (ha : a < P) (hc : c < 8) {al sd up : Nat → Int32} (pt : Nat → Int32) (nH nL H L : Nat → Int64) (e1 : sd a = nI p) (e2 : up a = nI c0) (e3 : sX3_nextAllowed (nI p) (nI c0) al = some (nI c)) : bX3_search_13 (nI tries) al nH nL (nI P) sd (nI a, nI tries, nI T, pt, H, L, up) = some (1, (nI a, nI tries, nI T, pt, H, L, up)) := by
  obtain ⟨ia, ca⟩ := ix_c (i := a) (n := 128) (by omega) (by omega)
  have n8 : ¬ (8 : Int32) ≤ nI c := by rw [show (8 : Int32) = nI 8 from rfl, nI_leS (by omega) (by omega)]; omega
  unfold bX3_search_13
  rw [dm7_s, e3_t, if_neg (by rw [nI_leS (by omega) (by omega)]; omega), if_neg (by rw [nI_leS (by omega) (by omega)]; omega), gd_s ia, lt_v, gd_s ia, ca, e1, e2, ob_d1 e3, if_neg n8, if_neg (by rw [nI_ltS (by omega) (by omega)]; omega)]
theorem tX_fail {tries T P p c0 c a dn : Nat} (ht : tries ≤ 100000) (hT : T ≤ 2 * tries) (hP : P ≤ 125) (ha : a < P) (hc : c < 8) (hd : dn < tries) {al sd up : Nat → Int32} (pt : Nat → Int32) {nH nL H L : Nat → Int64} (e1 : sd a = nI p) (e2 : up a = nI c0) (e3 : sX3_nextAllowed (nI p) (nI c0) al = some (nI c)) (e4 : sX3_differs (nI p) (nI c) nH nL H L = some (bI false)) : bX3_search_13 (nI tries) al nH nL (nI P) sd (nI a, nI dn, nI T, pt, H, L, up) = some (0, (nI a, nI (dn + 1), nI (T + 1), pt, H, L, upd up a (nI (c + 1)))) := by
  obtain ⟨ia, ca⟩ := ix_c (i := a) (n := 128) (by omega) (by omega)
  have n8 : ¬ (8 : Int32) ≤ nI c := by rw [show (8 : Int32) = nI 8 from rfl, nI_leS (by omega) (by omega)]; omega
  unfold bX3_search_13
  rw [dm7_s, e3_t, if_neg (by rw [nI_leS (by omega) (by omega)]; omega), if_neg (by rw [nI_leS (by omega) (by omega)]; omega), gd_s ia, lt_v, gd_s ia, ca, e1, e2, ob_d1 e3, if_neg n8, if_pos (by rw [nI_ltS (by omega) (by omega)]; omega)]
  rw [ca] at ia
  rw [lt_v, gd_s ia, lt_v, ob_d1 e4, ob_d4 (if_pos (show bI false = 0 by decide)), lt_v, nl_1, nI_add, nI_add, nI_add]
theorem tX_ok {tries T P p c0 c a dn : Nat} (ht : tries ≤ 100000) (hT : T ≤ 2 * tries) (hP : P ≤ 125) (ha : a < P) (hc : c < 8) (hd : dn < tries) {al sd up pt pt' : Nat → Int32} {nH nL H L H' L' : Nat → Int64} (e1 : sd a = nI p) (e2 : up a = nI c0) (e3 : sX3_nextAllowed (nI p) (nI c0) al = some (nI c)) (e4 : sX3_differs (nI p) (nI c) nH nL H L = some (bI true)) (e5 : sX3_paint (nI p) (nI c) pt H L = some (pt', H', L')) : bX3_search_13 (nI tries) al nH nL (nI P) sd (nI a, nI dn, nI T, pt, H, L, up) = some (0, (nI (a + 1), nI (dn + 1), nI (T + 1), pt', H', L', upd up a (nI (c + 1)))) := by
  obtain ⟨ia, ca⟩ := ix_c (i := a) (n := 128) (by omega) (by omega)
  have n8 : ¬ (8 : Int32) ≤ nI c := by rw [show (8 : Int32) = nI 8 from rfl, nI_leS (by omega) (by omega)]; omega
  have e6 : ob (sX3_paint (nI p) (nI c) pt H L) (fun o => dm3 o (fun o28 o29 o30 => lt (nI a + 1) (fun x31 => some (x31, o28, o29, o30)))) = some (nI (a + 1), pt', H', L') := by
    rw [ob_d3 e5, lt_v, nl_1, nI_add]
  unfold bX3_search_13
  rw [dm7_s, e3_t, if_neg (by rw [nI_leS (by omega) (by omega)]; omega), if_neg (by rw [nI_leS (by omega) (by omega)]; omega), gd_s ia, lt_v, gd_s ia, ca, e1, e2, ob_d1 e3, if_neg n8, if_pos (by rw [nI_ltS (by omega) (by omega)]; omega)]
  rw [ca] at ia
  rw [lt_v, gd_s ia, lt_v, ob_d1 e4, if_neg (show ¬ bI true = 0 by decide), ob_d4 e6, lt_v, nl_1, nI_add, nI_add, nI_add]
theorem upF_ii {t : Nat → Nat} {k v w : Nat} : upF (upF t k v) k w = upF t k w := by
  funext i
  by_cases z : i = k
  · subst z; rw [upF_s, upF_s]
  · rw [upF_n z, upF_n z, upF_n z]
theorem turnX {np P tries : Nat} (hnp : np ≤ 125) (hP : P ≤ np) (htr : tries ≤ 100000) {ord : Nat → Nat} (ho : ∀ i, i < P → ord i < np) (hinj : ∀ i j, i < j → j < P → ord i < ord j) {al : Nat → Int32} {tb : Nat → Nat → Bool} {nH nL : Nat → Int64} (hnr : ∀ p q, p < np → q < 128 → bt nH nL p q = tb p q) {sd : Nat → Int32} (hsd : ∀ i, i < P → sd i = nI (ord i)) {s : Sc} {T : Nat} {pt : Nat → Int32} {H L : Nat → Int64} {up : Nat → Int32} (hI : CXi P tries ord s T pt H L up) :
    (∃ s' T' pt' H' L' up', bX3_search_13 (nI tries) al nH nL (nI P) sd (nI s.1, nI (tries - s.2.1), nI T, pt, H, L, up) = some (0, (nI s'.1, nI (tries - s'.2.1), nI T', pt', H', L', up')) ∧ CXi P tries ord s' T' pt' H' L' up' ∧ (∀ r col, FinS (alB al) tb ord P s' r col → FinS (alB al) tb ord P s r col) ∧ 2 * s'.2.1 + s'.1 < 2 * s.2.1 + s.1) ∨
    ∃ k t', bX3_search_13 (nI tries) al nH nL (nI P) sd (nI s.1, nI (tries - s.2.1), nI T, pt, H, L, up) = some (k + 1, t') ∧ ((k = 0 ∧ ∃ col, FinS (alB al) tb ord P s 2 col) ∨ (k = 1 ∧ ∃ col, FinS (alB al) tb ord P s 0 col) ∨ (k = 2 ∧ t'.1 = nI P ∧ ∃ col, FinS (alB al) tb ord P s 1 col ∧ ∀ i, i < P → t'.2.2.2.1 (ord i) = nI (col i))) := by
  obtain ⟨a, l, t⟩ := s
  obtain ⟨⟨h1, h2, h3, h4, h5⟩, h6, ⟨h7, h8, h9⟩, h10⟩ := hI
  dsimp only at h1 h2 h3 h4 h5 h6 h7 h8 h9 h10 ⊢
  by_cases hP' : P ≤ a
  · right
    have ea : a = P := by omega
    subst ea
    refine ⟨2, (nI a, nI (tries - l), nI T, pt, H, L, up), ?_, Or.inr (Or.inr ⟨rfl, rfl, t, ?_, h6⟩)⟩
    · exact tX_end htr (by omega) (by omega) (by omega) (Nat.le_refl _) _ _ _ _ _ _ _ _ _
    · apply Fin_e
      · unfold stp; rw [if_pos rfl]
      · unfold cdF; rw [if_pos rfl]
      · exact fun _ _ _ => rfl
  · have haP : a < P := by omega
    have hp := ho a haP
    obtain ⟨ia, ca⟩ := ix_c (i := a) (n := 128) (by omega) (by omega)
    obtain ⟨c, c1, c2, c3, c4, c5⟩ := nextA_ok (p := ord a) (c0 := t a) (by omega) h4 al
    have sk : ∀ r col, FinS (alB al) tb ord P (a, l, upF t a c) r col → FinS (alB al) tb ord P (a, l, t) r col := by
      intro r col hF
      apply Fin_skip haP (c - t a) t
      · intro j j1 j2
        exact ⟨by omega, c3 j j1 (by omega)⟩
      · rw [show t a + (c - t a) = c by omega]; exact hF
    by_cases hc : 8 ≤ c
    · have ec : c = 8 := by omega
      subst ec
      by_cases ha : a = 0
      · subst ha
        right
        refine ⟨1, (nI 0, nI (tries - l), nI T, pt, H, L, up), ?_, Or.inr (Or.inl ⟨rfl, t, sk _ _ ?_⟩)⟩
        · exact tX_no htr (by omega) (by omega) haP _ _ _ _ _ _ (hsd _ haP) (h8 haP) c5
        · apply Fin_e
          · unfold stp
            show (if 0 = P then _ else if 8 ≤ upF t 0 8 0 then (if 0 = 0 then none else _) else _) = _
            rw [if_neg (by omega), upF_s, if_pos (by omega), if_pos rfl]
          · unfold cdF
            show (if 0 = P then 1 else if 8 ≤ upF t 0 8 0 then 0 else 2) = 0
            rw [if_neg (by omega), upF_s, if_pos (by omega)]
          · intro z; cases z
      · left
        have hb := ho (a - 1) (by omega)
        have t7 := h3 (a - 1) (by omega)
        obtain ⟨ib, cb⟩ := ix_c (i := a - 1) (n := 128) (by omega) (by omega)
        obtain ⟨H', L', u1, u2⟩ := unp_ok (p := ord (a - 1)) (c := t (a - 1)) (by omega) (by omega) (h6 (a - 1) (by omega)) H L
        refine ⟨(a - 1, l, upF (upF t a 8) (a - 1) (t (a - 1) + 1)), T + 1, pt, H', L', upd up a 0, ?_, ⟨⟨?_, h2, ?_, ?_, ?_⟩, ?_, ⟨?_, ?_, ?_⟩, ?_⟩, ?_, ?_⟩
        · exact tX_back htr (by omega) (by omega) haP (by omega) _ (hsd _ haP) (h8 haP) c5 (hsd _ (by omega)) u1
        · show a - 1 ≤ P; omega
        · intro i hi
          have hi' : i < a - 1 := hi
          show upF (upF t a 8) (a - 1) (t (a - 1) + 1) i ≤ 7
          rw [upF_n (by omega), upF_n (by omega)]; exact h3 i (by omega)
        · show upF (upF t a 8) (a - 1) (t (a - 1) + 1) (a - 1) ≤ 8
          rw [upF_s]; omega
        · show T + 1 + (a - 1) + 2 * l ≤ 2 * tries
          omega
        · intro i hi
          have hi' : i < a - 1 := hi
          show pt (ord i) = nI (upF (upF t a 8) (a - 1) (t (a - 1) + 1) i)
          rw [upF_n (by omega), upF_n (by omega)]; exact h6 i (by omega)
        · intro i hi
          have hi' : i < a - 1 := hi
          show upd up a 0 i = nI (upF (upF t a 8) (a - 1) (t (a - 1) + 1) i + 1)
          rw [upF_n (by omega), upF_n (by omega), pk_un (by omega)]; exact h7 i (by omega)
        · intro _
          show upd up a 0 (a - 1) = nI (upF (upF t a 8) (a - 1) (t (a - 1) + 1) (a - 1))
          rw [upF_s, pk_un (by omega)]; exact h7 (a - 1) (by omega)
        · intro i hi hi2
          have hi' : a - 1 < i := hi
          show upd up a 0 i = 0
          by_cases y : i = a
          · subst y; exact pk_us
          · rw [pk_un y]; exact h9 i (by omega) hi2
        · intro e q he hq
          rw [u2 e q hq, Bool.and_eq_true_iff, h10 e q he hq]
          constructor
          · intro ⟨⟨i, i1, i2, i3⟩, z⟩
            by_cases y : i = a - 1
            · subst y
              rw [decide_eq_true (p := e = t (a - 1)) i3.symm, decide_eq_true (p := q = ord (a - 1)) i2.symm] at z
              cases z
            · refine ⟨i, by show i < a - 1; omega, i2, ?_⟩
              show upF (upF t a 8) (a - 1) (t (a - 1) + 1) i = e
              rw [upF_n (by omega), upF_n (by omega)]; exact i3
          · intro ⟨i, i1, i2, i3⟩
            have i1' : i < a - 1 := i1
            have i3' : upF (upF t a 8) (a - 1) (t (a - 1) + 1) i = e := i3
            rw [upF_n (by omega), upF_n (by omega)] at i3'
            refine ⟨⟨i, by omega, i2, i3'⟩, ?_⟩
            have : ¬ q = ord (a - 1) := by
              have := hinj i (a - 1) (by omega) (by omega)
              omega
            rw [decide_eq_false this]
            simp
        · intro r col hF
          apply sk
          have q : stp (alB al) tb ord P (a, l, upF t a 8) = some (a - 1, l, upF (upF t a 8) (a - 1) (upF t a 8 (a - 1) + 1)) := by
            unfold stp
            show (if a = P then _ else if 8 ≤ upF t a 8 a then (if a = 0 then none else some (a - 1, l, upF (upF t a 8) (a - 1) (upF t a 8 (a - 1) + 1))) else _) = _
            rw [if_neg (by omega), upF_s, if_pos (by omega), if_neg ha]
          apply Fin_b q
          rw [upF_n (show a - 1 ≠ a by omega)]
          exact hF
        · show 2 * l + (a - 1) < 2 * l + a
          omega
    · have hc8 : c < 8 := by omega
      have n8 : ¬ (8 : Int32) ≤ nI c := by rw [show (8 : Int32) = nI 8 from rfl, nI_leS (by omega) (by omega)]; omega
      by_cases hl : l = 0
      · subst hl
        right
        refine ⟨0, (nI a, nI (tries - 0), nI T, pt, H, L, up), ?_, Or.inl ⟨rfl, t, sk _ _ ?_⟩⟩
        · exact tX_spent htr (by omega) (by omega) haP hc8 _ _ _ _ _ (hsd _ haP) (h8 haP) c5
        · apply Fin_e
          · unfold stp
            show (if a = P then _ else if 8 ≤ upF t a c a then _ else if alB al (ord a) (upF t a c a) = false then _ else if 0 = 0 then none else _) = none
            rw [if_neg (by omega), upF_s, if_neg (by omega), if_neg (by rw [c4 hc8]; simp), if_pos rfl]
          · unfold cdF
            show (if a = P then 1 else if 8 ≤ upF t a c a then 0 else 2) = 2
            rw [if_neg (by omega), upF_s, if_neg (by omega)]
          · intro z; cases z
      · left
        obtain ⟨b, d1, d2⟩ := dif_ok (p := ord a) (c := c) (by omega) hc8 nH nL H L
        have okq : okB tb ord (upF t a c) a c a = b := by
          rw [Bool.eq_iff_iff, okB_i, d2]
          constructor
          · intro z q hq y
            rw [hnr _ _ hp hq, h10 c q hc8 hq] at y
            obtain ⟨y1, i, i1, i2, i3⟩ := y
            refine z i i1 ⟨by rw [i2]; exact y1, ?_⟩
            rw [upF_n (by omega)]; exact i3
          · intro z i hi y
            rw [upF_n (by omega)] at y
            have oi := ho i (by omega)
            exact z (ord i) (by omega) ⟨by rw [hnr _ _ hp (by omega)]; exact y.1, (h10 c (ord i) hc8 (by omega)).mpr ⟨i, hi, rfl, y.2⟩⟩
        have sq : stp (alB al) tb ord P (a, l, upF t a c) = if b = true then some (a + 1, l - 1, upF (upF t a c) (a + 1) 0) else some (a, l - 1, upF t a (c + 1)) := by
          unfold stp
          show (if a = P then _ else if 8 ≤ upF t a c a then _ else if alB al (ord a) (upF t a c a) = false then _ else if l = 0 then none else if okB tb ord (upF t a c) a (upF t a c a) a = true then some (a + 1, l - 1, upF (upF t a c) (a + 1) 0) else some (a, l - 1, upF (upF t a c) a (upF t a c a + 1))) = _
          rw [if_neg (by omega), upF_s, if_neg (by omega), if_neg (by rw [c4 hc8]; simp), if_neg hl, okq, upF_ii]
        have tl : tries - l + 1 = tries - (l - 1) := by omega
        cases b with
        | false =>
          refine ⟨(a, l - 1, upF t a (c + 1)), T + 1, pt, H, L, upd up a (nI (c + 1)), ?_, ⟨⟨h1, ?_, ?_, ?_, ?_⟩, ?_, ⟨?_, ?_, ?_⟩, ?_⟩, ?_, ?_⟩
          · rw [← tl]; exact tX_fail htr (by omega) (by omega) haP hc8 (by omega) _ (hsd _ haP) (h8 haP) c5 d1
          · show l - 1 ≤ tries; omega
          · intro i hi
            have hi' : i < a := hi
            show upF t a (c + 1) i ≤ 7
            rw [upF_n (by omega)]; exact h3 i hi'
          · show upF t a (c + 1) a ≤ 8
            rw [upF_s]; omega
          · show T + 1 + a + 2 * (l - 1) ≤ 2 * tries
            omega
          · intro i hi
            have hi' : i < a := hi
            show pt (ord i) = nI (upF t a (c + 1) i)
            rw [upF_n (by omega)]; exact h6 i hi'
          · intro i hi
            have hi' : i < a := hi
            show upd up a (nI (c + 1)) i = nI (upF t a (c + 1) i + 1)
            rw [upF_n (by omega), pk_un (by omega)]; exact h7 i hi'
          · intro _
            show upd up a (nI (c + 1)) a = nI (upF t a (c + 1) a)
            rw [upF_s, pk_us]
          · intro i hi hi2
            have hi' : a < i := hi
            show upd up a (nI (c + 1)) i = 0
            rw [pk_un (by omega)]; exact h9 i hi' hi2
          · intro e q he hq
            rw [h10 e q he hq]
            constructor
            · intro ⟨i, i1, i2, i3⟩
              refine ⟨i, i1, i2, ?_⟩
              show upF t a (c + 1) i = e
              rw [upF_n (by omega)]; exact i3
            · intro ⟨i, i1, i2, i3⟩
              have i1' : i < a := i1
              have i3' : upF t a (c + 1) i = e := i3
              rw [upF_n (by omega)] at i3'
              exact ⟨i, i1', i2, i3'⟩
          · intro r col hF
            apply sk
            rw [if_neg (by simp)] at sq
            exact Fin_b sq hF
          · show 2 * (l - 1) + a < 2 * l + a
            omega
        | true =>
          obtain ⟨H', L', p1, p2⟩ := paint_ok (p := ord a) (c := c) (by omega) hc8 pt H L
          refine ⟨(a + 1, l - 1, upF (upF t a c) (a + 1) 0), T + 1, upd pt (ord a) (nI c), H', L', upd up a (nI (c + 1)), ?_, ⟨⟨?_, ?_, ?_, ?_, ?_⟩, ?_, ⟨?_, ?_, ?_⟩, ?_⟩, ?_, ?_⟩
          · rw [← tl]; exact tX_ok htr (by omega) (by omega) haP hc8 (by omega) (hsd _ haP) (h8 haP) c5 d1 p1
          · show a + 1 ≤ P; omega
          · show l - 1 ≤ tries; omega
          · intro i hi
            have hi' : i < a + 1 := hi
            show upF (upF t a c) (a + 1) 0 i ≤ 7
            rw [upF_n (by omega)]
            by_cases y : i = a
            · subst y; rw [upF_s]; omega
            · rw [upF_n y]; exact h3 i (by omega)
          · show upF (upF t a c) (a + 1) 0 (a + 1) ≤ 8
            rw [upF_s]; omega
          · show T + 1 + (a + 1) + 2 * (l - 1) ≤ 2 * tries
            omega
          · intro i hi
            have hi' : i < a + 1 := hi
            show upd pt (ord a) (nI c) (ord i) = nI (upF (upF t a c) (a + 1) 0 i)
            rw [upF_n (by omega)]
            by_cases y : i = a
            · subst y; rw [upF_s, pk_us]
            · have := hinj i a (by omega) haP
              rw [upF_n y, pk_un (by omega)]; exact h6 i (by omega)
          · intro i hi
            have hi' : i < a + 1 := hi
            show upd up a (nI (c + 1)) i = nI (upF (upF t a c) (a + 1) 0 i + 1)
            rw [upF_n (by omega)]
            by_cases y : i = a
            · subst y; rw [upF_s, pk_us]
            · rw [upF_n y, pk_un y]; exact h7 i (by omega)
          · intro hx
            have hx' : a + 1 < P := hx
            show upd up a (nI (c + 1)) (a + 1) = nI (upF (upF t a c) (a + 1) 0 (a + 1))
            rw [upF_s, pk_un (by omega)]; exact h9 (a + 1) (by omega) hx'
          · intro i hi hi2
            have hi' : a + 1 < i := hi
            show upd up a (nI (c + 1)) i = 0
            rw [pk_un (by omega)]; exact h9 i (by omega) hi2
          · intro e q he hq
            rw [p2 e q hq, Bool.or_eq_true_iff, h10 e q he hq]
            constructor
            · intro z
              rcases z with ⟨i, i1, i2, i3⟩ | z
              · refine ⟨i, by show i < a + 1; omega, i2, ?_⟩
                show upF (upF t a c) (a + 1) 0 i = e
                rw [upF_n (by omega), upF_n (by omega)]; exact i3
              · have z' := Bool.and_eq_true_iff.mp z
                refine ⟨a, by show a < a + 1; omega, (of_decide_eq_true z'.2).symm, ?_⟩
                show upF (upF t a c) (a + 1) 0 a = e
                rw [upF_n (by omega), upF_s]; exact (of_decide_eq_true z'.1).symm
            · intro ⟨i, i1, i2, i3⟩
              have i1' : i < a + 1 := i1
              have i3' : upF (upF t a c) (a + 1) 0 i = e := i3
              rw [upF_n (by omega)] at i3'
              by_cases y : i = a
              · subst y
                rw [upF_s] at i3'
                right
                rw [decide_eq_true i3'.symm, decide_eq_true i2.symm]
                rfl
              · rw [upF_n y] at i3'
                exact Or.inl ⟨i, by omega, i2, i3'⟩
          · intro r col hF
            apply sk
            rw [if_pos rfl] at sq
            exact Fin_b sq hF
          · show 2 * (l - 1) + (a + 1) < 2 * l + a
            omega
