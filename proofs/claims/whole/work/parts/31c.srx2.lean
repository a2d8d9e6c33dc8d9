/-! the class's search -/
def ordF (lf : Nat → Bool) : Nat → Nat × (Nat → Nat)
  | 0 => (0, fun _ => 0)
  | n + 1 => if lf n = true then ((ordF lf n).1 + 1, upF (ordF lf n).2 (ordF lf n).1 n) else ordF lf n
theorem ordF_ok (lf : Nat → Bool) : ∀ n, (ordF lf n).1 ≤ n ∧ (∀ i, i < (ordF lf n).1 → (ordF lf n).2 i < n) ∧ ∀ i j, i < j → j < (ordF lf n).1 → (ordF lf n).2 i < (ordF lf n).2 j := by
  intro n
  induction n with
  | zero => exact ⟨Nat.le_refl _, fun i hi => absurd hi (Nat.not_lt_zero _), fun i j _ hj => absurd hj (Nat.not_lt_zero _)⟩
  | succ n ih =>
    obtain ⟨h1, h2, h3⟩ := ih
    unfold ordF
    by_cases z : lf n = true
    · rw [if_pos z]
      refine ⟨by show (ordF lf n).1 + 1 ≤ n + 1; omega, fun i hi => ?_, fun i j hij hj => ?_⟩
      · have hi' : i < (ordF lf n).1 + 1 := hi
        show upF (ordF lf n).2 (ordF lf n).1 n i < n + 1
        by_cases y : i = (ordF lf n).1
        · subst y; rw [upF_s]; omega
        · rw [upF_n y]; have := h2 i (by omega); omega
      · have hj' : j < (ordF lf n).1 + 1 := hj
        show upF (ordF lf n).2 (ordF lf n).1 n i < upF (ordF lf n).2 (ordF lf n).1 n j
        by_cases y : j = (ordF lf n).1
        · subst y
          rw [upF_s, upF_n (by omega)]
          exact h2 i (by omega)
        · rw [upF_n y, upF_n (by omega)]
          exact h3 i j hij (by omega)
    · rw [if_neg z]
      exact ⟨by omega, fun i hi => by have := h2 i hi; omega, h3⟩
theorem ordF_all (lf : Nat → Bool) : ∀ n, (∀ i, i < n → lf i = true) → (ordF lf n).1 = n ∧ ∀ i, i < n → (ordF lf n).2 i = i := by
  intro n
  induction n with
  | zero => exact fun _ => ⟨rfl, fun i hi => by omega⟩
  | succ n ih =>
    intro h
    obtain ⟨h1, h2⟩ := ih (fun i hi => h i (by omega))
    unfold ordF
    rw [if_pos (h n (by omega))]
    refine ⟨by show (ordF lf n).1 + 1 = n + 1; omega, fun i hi => ?_⟩
    show upF (ordF lf n).2 (ordF lf n).1 n i = i
    rw [h1]
    by_cases y : i = n
    · subst y; rw [upF_s]
    · rw [upF_n y]; exact h2 i (by omega)
theorem listS_ok {np : Nat} (hnp : np ≤ 125) {lf : Nat → Bool} {la : Nat → Int32} (hl : hB np la lf) (H L : Nat → Int64) (sd up : Nat → Int32) : ∃ (H' L' : Nat → Int64) (sd' up' : Nat → Int32), sX3_listSearched (nI np) la H L sd up = some (nI (ordF lf np).1, H', L', sd', up') ∧ (∀ c q, c < 8 → bt H' L' c q = false) ∧ ∀ i, i < (ordF lf np).1 → sd' i = nI ((ordF lf np).2 i) ∧ up' i = 0 := by
  obtain ⟨s, h1, h2⟩ := iter_for (S := (Nat → Int32) × (Nat → Int32)) (B := bX3_listSearched_4 (nI np) la) (fun i s => (nI (ordF lf i).1, nI i, s.1, s.2)) np (fun n s => ∀ i, i < (ordF lf n).1 → s.1 i = nI ((ordF lf n).2 i) ∧ s.2 i = 0) 0 (sd, up) (fun i hi => absurd hi (Nat.not_lt_zero _)) (by omega) (by omega) (fun n s _ hn hI => by
    obtain ⟨ia, ca⟩ := ix_c (i := n) (n := 128) (by omega) (by omega)
    have ol := (ordF_ok lf n).1
    obtain ⟨ib, cb⟩ := ix_c (i := (ordF lf n).1) (n := 128) (by omega) (by omega)
    have e0 := hl n hn
    have st : bX3_listSearched_4 (nI np) la (nI (ordF lf n).1, nI n, s.1, s.2) = ob (if bI (lf n) = 0 then some (nI (ordF lf n).1, s.1, s.2) else some (nI ((ordF lf n).1 + 1), upd s.1 (ordF lf n).1 (nI n), upd s.2 (ordF lf n).1 0)) (fun t => dm3 t (fun v5 v6 v7 => some (0, (v5, nI (n + 1), v6, v7)))) := by
      unfold bX3_listSearched_4
      simp only [dm4]
      rw [if_neg (by rw [nI_leS (by omega) (by omega)]; omega), gd_s ia, ca, e0]
      simp only [gd_s ib]
      simp only [lt, cb, nl_1, nI_add]
    cases z : lf n with
    | false =>
      rw [z] at st
      refine ⟨s, ?_, ?_⟩
      · have e : (ordF lf (n + 1)).1 = (ordF lf n).1 := by show (if lf n = true then _ else ordF lf n).1 = _; rw [if_neg (by rw [z]; simp)]
        rw [e, st]; rfl
      · have e : ordF lf (n + 1) = ordF lf n := by show (if lf n = true then _ else ordF lf n) = _; rw [if_neg (by rw [z]; simp)]
        rw [e]; exact hI
    | true =>
      rw [z] at st
      have e : ordF lf (n + 1) = ((ordF lf n).1 + 1, upF (ordF lf n).2 (ordF lf n).1 n) := by show (if lf n = true then _ else ordF lf n) = _; rw [if_pos z]
      refine ⟨(upd s.1 (ordF lf n).1 (nI n), upd s.2 (ordF lf n).1 0), ?_, ?_⟩
      · rw [e, st]; rfl
      · rw [e]
        intro i hi
        have hi' : i < (ordF lf n).1 + 1 := hi
        show upd s.1 (ordF lf n).1 (nI n) i = nI (upF (ordF lf n).2 (ordF lf n).1 n i) ∧ upd s.2 (ordF lf n).1 0 i = 0
        by_cases y : i = (ordF lf n).1
        · subst y; rw [pk_us, pk_us, upF_s]; exact ⟨rfl, rfl⟩
        · rw [pk_un y, pk_un y, upF_n y]; exact hI i (by omega)) (fun s _ => by
    unfold bX3_listSearched_4
    simp only [dm4]
    rw [if_pos (by rw [nI_leS (by omega) (by omega)]; omega)])
  obtain ⟨b, k1, k2⟩ := iter_for (S := (Nat → Int64) × (Nat → Int64)) (B := bX3_listSearched_46) (fun i s => (nI i, s.1, s.2)) 8 (fun n s => ∀ c q, c < n → bt s.1 s.2 c q = false) 0 (H, L) (fun c q hc => absurd hc (Nat.not_lt_zero _)) (by omega) (by omega) (fun n s _ hn hI => by
    obtain ⟨ia, ca⟩ := ix_c (i := n) (n := 8) (by omega) (by omega)
    refine ⟨(vp_updL s.1 n 0, vp_updL s.2 n 0), ?_, fun c q hc => ?_⟩
    · unfold bX3_listSearched_46
      simp only [dm3]
      rw [if_neg (by rw [show (8 : Int32) = nI 8 from rfl, nI_leS (by omega) (by omega)]; omega)]
      simp only [gd_s ia]
      simp only [lt, ca, nl_1, nI_add]
    · show bt (vp_updL s.1 n 0) (vp_updL s.2 n 0) c q = false
      unfold bt
      by_cases y : c = n
      · subst y; rw [pk_uLs, pk_uLs]; split <;> simp
      · rw [pk_uLn y, pk_uLn y]; exact hI c q (by omega)) (fun s _ => by
    unfold bX3_listSearched_46
    simp only [dm3]
    rw [if_pos (by rw [show (8 : Int32) = nI 8 from rfl, nI_leS (by omega) (by omega)]; omega)])
  refine ⟨b.1, b.2, s.1, s.2, ?_, k2, h2⟩
  have h1' : iter (bX3_listSearched_4 (nI np) la) FU (nI 0, nI 0, sd, up) = some (0, (nI (ordF lf np).1, nI np, s.1, s.2)) := h1
  have k1' : iter bX3_listSearched_46 FU (nI 0, H, L) = some (0, (nI 8, b.1, b.2)) := k1
  unfold sX3_listSearched
  rw [nl_0, ob_s h1', ex1_0]
  simp only [dm4]
  rw [ob_s k1', ex1_0]
  rfl
def CXi (P tries : Nat) (ord : Nat → Nat) (s : Sc) (T : Nat) (pt : Nat → Int32) (H L : Nat → Int64) (up : Nat → Int32) : Prop := (s.1 ≤ P ∧ s.2.1 ≤ tries ∧ (∀ i, i < s.1 → s.2.2 i ≤ 7) ∧ s.2.2 s.1 ≤ 8 ∧ T + s.1 + 2 * s.2.1 ≤ 2 * tries) ∧ (∀ i, i < s.1 → pt (ord i) = nI (s.2.2 i)) ∧ ((∀ i, i < s.1 → up i = nI (s.2.2 i + 1)) ∧ (s.1 < P → up s.1 = nI (s.2.2 s.1)) ∧ ∀ i, s.1 < i → i < P → up i = 0) ∧ ∀ c q, c < 8 → q < 128 → (bt H L c q = true ↔ ∃ i, i < s.1 ∧ ord i = q ∧ s.2.2 i = c)
