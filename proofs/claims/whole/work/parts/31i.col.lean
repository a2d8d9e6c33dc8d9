/-! one search; colours -/
theorem stp_al {al1 al2 tb : Nat → Nat → Bool} {ord : Nat → Nat} {P : Nat} (h : ∀ i, i < P → ∀ c, al1 (ord i) c = al2 (ord i) c) {s : Sc} (hs : s.1 ≤ P) : stp al1 tb ord P s = stp al2 tb ord P s := by
  unfold stp
  by_cases z : s.1 = P
  · rw [if_pos z, if_pos z]
  · rw [if_neg z, if_neg z, h s.1 (by omega)]
theorem stp_le {al tb : Nat → Nat → Bool} {ord : Nat → Nat} {P : Nat} {s s' : Sc} (hs : s.1 ≤ P) (h : stp al tb ord P s = some s') : s'.1 ≤ P := by
  unfold stp at h
  by_cases z : s.1 = P
  · rw [if_pos z] at h; cases h
  · rw [if_neg z] at h
    split at h
    · split at h
      · cases h
      · cases h; show s.1 - 1 ≤ P; omega
    · split at h
      · cases h; exact hs
      · split at h
        · cases h
        · split at h
          · cases h; show s.1 + 1 ≤ P; omega
          · cases h; exact hs
theorem its_al {al1 al2 tb : Nat → Nat → Bool} {ord : Nat → Nat} {P : Nat} (h : ∀ i, i < P → ∀ c, al1 (ord i) c = al2 (ord i) c) : ∀ (k : Nat) (s e : Sc), s.1 ≤ P → its al1 tb ord P k s = some e → its al2 tb ord P k s = some e ∧ e.1 ≤ P := by
  intro k
  induction k with
  | zero =>
    intro s e hs z
    have z' : some s = some e := z
    cases z'
    exact ⟨rfl, hs⟩
  | succ k ih =>
    intro s e hs z
    have z' : (match stp al1 tb ord P s with | none => none | some s' => its al1 tb ord P k s') = some e := z
    show (match stp al2 tb ord P s with | none => none | some s' => its al2 tb ord P k s') = some e ∧ _
    rw [← stp_al h hs]
    cases y : stp al1 tb ord P s with
    | none => rw [y] at z'; cases z'
    | some s' =>
      rw [y] at z'
      exact ih s' e (stp_le hs y) z'
theorem Fin_al {al1 al2 tb : Nat → Nat → Bool} {ord : Nat → Nat} {P : Nat} (h : ∀ i, i < P → ∀ c, al1 (ord i) c = al2 (ord i) c) {s : Sc} (hs : s.1 ≤ P) {r : Nat} {col : Nat → Nat} (hF : FinS al1 tb ord P s r col) : FinS al2 tb ord P s r col := by
  obtain ⟨k, e, h1, h2, h3, h4⟩ := hF
  obtain ⟨q1, q2⟩ := its_al h k s e hs h1
  exact ⟨k, e, q1, by rw [← stp_al h q2]; exact h2, h3, h4⟩
theorem alB_cg {al al2 : Nat → Int32} {p : Nat} (h : al p = al2 p) (c : Nat) : alB al p c = alB al2 p c := by unfold alB; rw [h]
def SrF (al : Nat → Int32) (tb : Nat → Nat → Bool) (np tries : Nat) (lf : Nat → Bool) (r : Nat) : Prop := ∃ col, FinS (alB al) tb (ordF lf np).2 (ordF lf np).1 (0, tries, fun _ => 0) r col
theorem SrF_one {al : Nat → Int32} {tb : Nat → Nat → Bool} {np tries : Nat} {lf : Nat → Bool} {r r' : Nat} (h : SrF al tb np tries lf r) (h' : SrF al tb np tries lf r') : r = r' := by
  obtain ⟨_, h⟩ := h
  obtain ⟨_, h'⟩ := h'
  exact (Fin_one h h').1
theorem srch_one {np tries : Nat} (hnp : np ≤ 125) (htr : tries ≤ 100000) {lf : Nat → Bool} {la ou : Nat → Int32} (hl : hB np la lf) (ho : hB np ou (fun p => !lf p)) {al al2 : Nat → Int32} (ha : ∀ p, p < np → al p = al2 p) {tb : Nat → Nat → Bool} {nH nL : Nat → Int64} (hnr : ∀ p q, p < np → q < 128 → bt nH nL p q = tb p q) {tc : Nat → Int32} (ht : ∀ p q, p < np → q < np → tc (160 * p + q) = bI (tb p q)) (pt : Nat → Int32) (H L : Nat → Int64) (sd up : Nat → Int32) (od : Int32) (oa tr : Nat → Int32) : ∃ (r : Nat) (pt' : Nat → Int32) (H' L' : Nat → Int64) (sd' up' : Nat → Int32) (od' : Int32) (oa' tr' : Nat → Int32), sX3_search (nI tries) (nI np) al la nH nL pt H L sd up = some (rI r, pt', H', L', sd', up') ∧ sX12_orderAll (nI np) od oa ou = some (od', oa') ∧ sX12_search (nI tries) od' al2 oa' tc tr = some (rI r, tr') ∧ (r = 0 ∨ r = 1 ∨ r = 2) ∧ SrF al tb np tries lf r ∧ (r = 1 → (∀ p, p < np → lf p = true) → ∀ p, p < np → pt' p = tr' p) := by
  obtain ⟨r, col, pt', H', L', sd', up', e1, e2, e3, e4⟩ := srchX_ok hnp htr hl hnr (al := al) pt H L sd up
  obtain ⟨oa', f1, f2⟩ := ordA_ok hnp ho od oa
  obtain ⟨r', col', tr', g1, g2, g3⟩ := srchM_ok hnp htr lf ht f2 al2 tr
  obtain ⟨o1, o2, o3⟩ := ordF_ok lf np
  have g2' := Fin_al (al2 := alB al) (fun i hi c => (alB_cg (ha _ (o2 i hi)) c).symm) (Nat.zero_le _) g2
  obtain ⟨q1, q2⟩ := Fin_one e2 g2'
  subst q1
  refine ⟨r, pt', H', L', sd', up', _, oa', tr', e1, f1, g1, e3, ⟨col, e2⟩, fun z hall p hp => ?_⟩
  obtain ⟨a1, a2⟩ := ordF_all lf np hall
  have k1 := e4 z p (by omega)
  have k2 := g3 z p (by omega)
  rw [a2 p hp] at k1 k2
  rw [k1, k2, q2 z p (by omega)]
theorem set1_X {np : Nat} (hnp : np ≤ 125) (la : Nat → Int32) : ∃ la', iter (bX3_colourAll_2 (nI np)) FU ((0 : Int32), la) = some (0, (nI np, la')) ∧ iter (bX3_leaveOut_2 (nI np)) FU ((0 : Int32), la) = some (0, (nI np, la')) ∧ hB np la' (fun _ => true) := by
  obtain ⟨s, h1, h2⟩ := iter_for (S := Nat → Int32) (B := bX3_colourAll_2 (nI np)) (fun i s => (nI i, s)) np (fun i s => ∀ p, p < i → s p = bI true) 0 la (fun p hp => absurd hp (Nat.not_lt_zero _)) (by omega) (by omega) (fun i s _ hi hI => by
    obtain ⟨ia, ca⟩ := ix_c (i := i) (n := 128) (by omega) (by omega)
    refine ⟨upd s i (bI true), ?_, fun p hp => ?_⟩
    · unfold bX3_colourAll_2
      simp only [dm2]
      rw [if_neg (by rw [nI_leS (by omega) (by omega)]; omega), gd_s ia, ca, nar_1]
      simp only [lt, nl_1, nI_add]
    · by_cases z : p = i
      · subst z; exact pk_us
      · rw [pk_un z]; exact hI p (by omega)) (fun s _ => by
    unfold bX3_colourAll_2
    simp only [dm2]
    rw [if_pos (by rw [nI_leS (by omega) (by omega)]; omega)])
  have h1' : iter (bX3_colourAll_2 (nI np)) FU ((0 : Int32), la) = some (0, (nI np, s)) := by rw [nl_0]; exact h1
  have e : bX3_leaveOut_2 = bX3_colourAll_2 := by funext a b; rfl
  exact ⟨s, h1', by rw [e]; exact h1', h2⟩
theorem set0_M {np : Nat} (hnp : np ≤ 125) (ou : Nat → Int32) : ∃ ou', iter bX12_colours_42 FU ((0 : Int32), ou) = some (0, (nI 160, ou')) ∧ iter bX12_lack_42 FU ((0 : Int32), ou) = some (0, (nI 160, ou')) ∧ hB np ou' (fun _ => !true) := by
  obtain ⟨s, h1, h2⟩ := iter_for (S := Nat → Int32) (B := bX12_colours_42) (fun i s => (nI i, s)) 160 (fun i s => ∀ p, p < i → s p = bI false) 0 ou (fun p hp => absurd hp (Nat.not_lt_zero _)) (by omega) (by omega) (fun i s _ hi hI => by
    obtain ⟨ia, ca⟩ := ix_c (i := i) (n := 160) (by omega) (by omega)
    refine ⟨upd s i (bI false), ?_, fun p hp => ?_⟩
    · unfold bX12_colours_42
      simp only [dm2]
      rw [if_neg (by rw [show (160 : Int32) = nI 160 from rfl, nI_leS (by omega) (by omega)]; omega), gd_s ia, ca, nar_0]
      simp only [lt, nl_1, nI_add]
    · by_cases z : p = i
      · subst z; exact pk_us
      · rw [pk_un z]; exact hI p (by omega)) (fun s _ => by
    unfold bX12_colours_42
    simp only [dm2]
    rw [if_pos (by rw [show (160 : Int32) = nI 160 from rfl, nI_leS (by omega) (by omega)]; omega)])
  have h1' : iter bX12_colours_42 FU ((0 : Int32), ou) = some (0, (nI 160, s)) := by rw [nl_0]; exact h1
  have e : bX12_lack_42 = bX12_colours_42 := by funext a; rfl
  exact ⟨s, h1', by rw [e]; exact h1', fun p hp => h2 p (by omega)⟩
theorem colset {np : Nat} (hnp : np ≤ 125) {r : Nat} (hr : r = 0 ∨ r = 1) {pt tr : Nat → Int32} (hpt : r = 1 → ∀ p, p < np → pt p = tr p) (co co2 : Nat → Int32) : ∃ co' co2', iter (bX3_colourAll_40 (nI np) (rI r) pt) FU ((0 : Int32), co) = some (0, (nI np, co')) ∧ iter (bX12_colours_91 (nI np) (rI r) tr) FU ((0 : Int32), co2) = some (0, (nI np, co2')) ∧ ∀ p, p < np → co' p = co2' p := by
  obtain ⟨s, h1, h2⟩ := iter_for (S := Nat → Int32) (B := bX3_colourAll_40 (nI np) (rI r) pt) (fun i s => (nI i, s)) np (fun i s => ∀ p, p < i → s p = if r = 1 then pt p else 8) 0 co (fun p hp => absurd hp (Nat.not_lt_zero _)) (by omega) (by omega) (fun i s _ hi hI => by
    obtain ⟨ia, ca⟩ := ix_c (i := i) (n := 128) (by omega) (by omega)
    refine ⟨upd s i (if r = 1 then pt i else 8), ?_, fun p hp => ?_⟩
    · unfold bX3_colourAll_40
      simp only [dm2]
      rw [if_neg (by rw [nI_leS (by omega) (by omega)]; omega)]
      simp only [gd_s ia]
      simp only [lt, nl_1, nI_add, ca]
      rcases hr with e | e <;> subst e <;> rfl
    · by_cases z : p = i
      · subst z; exact pk_us
      · rw [pk_un z]; exact hI p (by omega)) (fun s _ => by
    unfold bX3_colourAll_40
    simp only [dm2]
    rw [if_pos (by rw [nI_leS (by omega) (by omega)]; omega)])
  obtain ⟨s', k1, k2⟩ := iter_for (S := Nat → Int32) (B := bX12_colours_91 (nI np) (rI r) tr) (fun i s => (nI i, s)) np (fun i s => ∀ p, p < i → s p = if r = 1 then tr p else 8) 0 co2 (fun p hp => absurd hp (Nat.not_lt_zero _)) (by omega) (by omega) (fun i s _ hi hI => by
    obtain ⟨ia, ca⟩ := ix_c (i := i) (n := 160) (by omega) (by omega)
    refine ⟨upd s i (if r = 1 then tr i else 8), ?_, fun p hp => ?_⟩
    · unfold bX12_colours_91
      simp only [dm2]
      rw [if_neg (by rw [nI_leS (by omega) (by omega)]; omega)]
      simp only [gd_s ia]
      simp only [lt, nl_1, nI_add, ca]
      rcases hr with e | e <;> subst e <;> rfl
    · by_cases z : p = i
      · subst z; exact pk_us
      · rw [pk_un z]; exact hI p (by omega)) (fun s _ => by
    unfold bX12_colours_91
    simp only [dm2]
    rw [if_pos (by rw [nI_leS (by omega) (by omega)]; omega)])
  refine ⟨s, s', by rw [nl_0]; exact h1, by rw [nl_0]; exact k1, fun p hp => ?_⟩
  rw [h2 p hp, k2 p hp]
  rcases hr with e | e <;> subst e
  · rfl
  · rw [if_pos rfl, if_pos rfl]; exact hpt rfl p hp
