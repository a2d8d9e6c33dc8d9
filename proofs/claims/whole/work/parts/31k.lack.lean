/-! lack: the panes left out one by one -/
def LK (R : (Nat → Bool) → Nat) : Nat → Option (Nat × (Nat → Bool))
  | 0 => some (0, fun _ => true)
  | p + 1 => match LK R p with
    | none => none
    | some kl => if R (upB kl.2 p false) = 2 then none else if R (upB kl.2 p false) = 1 then some (kl.1 + 1, upB (upB kl.2 p false) p true) else some (kl.1, upB kl.2 p false)
theorem LK_s {R : (Nat → Bool) → Nat} {p k : Nat} {lf : Nat → Bool} (h : LK R p = some (k, lf)) : LK R (p + 1) = if R (upB lf p false) = 2 then none else if R (upB lf p false) = 1 then some (k + 1, upB (upB lf p false) p true) else some (k, upB lf p false) := by
  show (match LK R p with | none => none | some kl => _) = _
  rw [h]
theorem LK_n {R : (Nat → Bool) → Nat} : ∀ {p q : Nat}, p ≤ q → LK R p = none → LK R q = none := by
  intro p q h
  induction q with
  | zero => intro z; have : p = 0 := by omega
            subst this; exact z
  | succ q ih =>
    intro z
    by_cases y : p = q + 1
    · subst y; exact z
    · show (match LK R q with | none => none | some kl => _) = none
      rw [ih (by omega) z]
theorem LK_le {R : (Nat → Bool) → Nat} : ∀ {p k : Nat} {lf : Nat → Bool}, LK R p = some (k, lf) → k ≤ p := by
  intro p
  induction p with
  | zero => intro k lf z
            have z' : some ((0 : Nat), (fun _ => true : Nat → Bool)) = some (k, lf) := z
            cases z'; exact Nat.le_refl _
  | succ p ih =>
    intro k lf z
    cases y : LK R p with
    | none =>
      have := LK_n (Nat.le_succ p) y
      rw [this] at z; cases z
    | some kl =>
      obtain ⟨k', lf'⟩ := kl
      have := ih y
      rw [LK_s y] at z
      split at z
      · cases z
      · split at z <;> cases z <;> omega
theorem hB_cg {n : Nat} {f : Nat → Int32} {b c : Nat → Bool} (h : hB n f b) (e : ∀ i, b i = c i) : hB n f c := fun s hs => by rw [h s hs, e]
theorem upB_not {lf : Nat → Bool} {p : Nat} {v : Bool} (i : Nat) : upB (fun p => !lf p) p (!v) i = !(upB lf p v i) := by
  by_cases z : i = p
  · subst z; rw [upB_s, upB_s]
  · rw [upB_n z, upB_n z]
theorem SrF_al {al al2 : Nat → Int32} {tb : Nat → Nat → Bool} {np tries : Nat} {lf : Nat → Bool} {r : Nat} (ha : ∀ p, p < np → al p = al2 p) (h : SrF al2 tb np tries lf r) : SrF al tb np tries lf r := by
  obtain ⟨col, h⟩ := h
  obtain ⟨o1, o2, o3⟩ := ordF_ok lf np
  exact ⟨col, Fin_al (al2 := alB al) (fun i hi c => (alB_cg (ha _ (o2 i hi)) c).symm) (Nat.zero_le _) h⟩
theorem lkX {np tries : Nat} (hnp : np ≤ 125) (htr : tries ≤ 100000) {al : Nat → Int32} {tb : Nat → Nat → Bool} {nH nL : Nat → Int64} (hnr : ∀ p q, p < np → q < 128 → bt nH nL p q = tb p q) {R : (Nat → Bool) → Nat} (hR : ∀ lf, SrF al tb np tries lf (R lf)) {la : Nat → Int32} (hl : hB np la (fun _ => true)) (pt : Nat → Int32) (H L : Nat → Int64) (sd up : Nat → Int32) : ∃ k t', iter (bX3_leaveOut_52 (nI tries) (nI np) al nH nL) FU ((0 : Int32), (0 : Int32), la, pt, H, L, sd, up) = some (k, t') ∧ ((k = 0 ∧ LK R np = none) ∨ (k = 1 ∧ ∃ s lf, LK R np = some (s, lf) ∧ t'.1 = nI s ∧ hB np t'.2.2.1 lf)) := by
  obtain ⟨k, t', h1, h2⟩ := iter_forE (S := Nat × (Nat → Int32) × (Nat → Int32) × (Nat → Int64) × (Nat → Int64) × (Nat → Int32) × (Nat → Int32)) (B := bX3_leaveOut_52 (nI tries) (nI np) al nH nL) (fun i s => (nI s.1, nI i, s.2.1, s.2.2.1, s.2.2.2.1, s.2.2.2.2.1, s.2.2.2.2.2.1, s.2.2.2.2.2.2)) np (fun i s => ∃ lf, LK R i = some (s.1, lf) ∧ hB np s.2.1 lf) (fun k t' => (k = 0 ∧ LK R np = none) ∨ (k = 1 ∧ ∃ s lf, LK R np = some (s, lf) ∧ t'.1 = nI s ∧ hB np t'.2.2.1 lf)) 0 (0, la, pt, H, L, sd, up) ⟨_, rfl, hl⟩ (by omega) (by omega) (fun i s _ hi hI => by
    obtain ⟨k, la, pt, H, L, sd, up⟩ := s
    obtain ⟨lf, l1, l2⟩ := hI
    dsimp only at l1 l2 ⊢
    obtain ⟨ia, ca⟩ := ix_c (i := i) (n := 128) (by omega) (by omega)
    have hl' := hB_up l2 false (k := i)
    obtain ⟨r, col, pt', H', L', sd', up', e1, e2, e3, e4⟩ := srchX_ok hnp htr hl' hnr (al := al) pt H L sd up
    have er : R (upB lf i false) = r := SrF_one (hR _) ⟨col, e2⟩
    have l3 := LK_s l1
    rw [er] at l3
    have st : bX3_leaveOut_52 (nI tries) (nI np) al nH nL (nI k, nI i, la, pt, H, L, sd, up) = (if ¬ rI r = (-6 : Int32) then ob (if ¬ rI r = (1 : Int32) then some (nI k, upd la i (bI false)) else some (nI (k + 1), upd (upd la i (bI false)) i (bI true))) (fun t => dm2 t (fun v28 v29 => some (0, (v28, nI (i + 1), v29, pt', H', L', sd', up')))) else some (1, (nI k, nI i, upd la i (bI false), pt', H', L', sd', up'))) := by
      unfold bX3_leaveOut_52
      rw [dm8, dm7_e]
      simp only [dm2]
      rw [if_neg (by rw [nI_leS (by omega) (by omega)]; omega), gd_s ia, ca, nar_0, lt_v, ob_d6 e1]
      rw [ca] at ia
      simp only [gd_s ia, nar_1]
      simp only [lt, nl_1, nI_add]
    rcases e3 with e | e | e
    · subst e
      left
      refine ⟨(k, upd la i (bI false), pt', H', L', sd', up'), ?_, upB lf i false, ?_, hl'⟩
      · rw [st]; rfl
      · rw [l3]; rfl
    · subst e
      left
      refine ⟨(k + 1, upd (upd la i (bI false)) i (bI true), pt', H', L', sd', up'), ?_, upB (upB lf i false) i true, ?_, hB_up hl' true⟩
      · rw [st]; rfl
      · rw [l3]; rfl
    · subst e
      right
      refine ⟨0, (nI k, nI i, upd la i (bI false), pt', H', L', sd', up'), ?_, Or.inl ⟨rfl, LK_n (p := i + 1) (by omega) (by rw [l3]; rfl)⟩⟩
      rw [st]; rfl) (fun s hI => by
    obtain ⟨k, la, pt, H, L, sd, up⟩ := s
    obtain ⟨lf, l1, l2⟩ := hI
    refine ⟨1, (nI k, nI np, la, pt, H, L, sd, up), ?_, Or.inr ⟨rfl, k, lf, l1, rfl, l2⟩⟩
    unfold bX3_leaveOut_52
    rw [dm8, dm7_e]
    simp only [dm2]
    rw [if_pos (by rw [nI_leS (by omega) (by omega)]; omega)])
  refine ⟨k, t', ?_, h2⟩
  rw [← h1]
  rfl
theorem lkM {np tries : Nat} (hnp : np ≤ 125) (htr : tries ≤ 100000) {al al2 : Nat → Int32} (ha : ∀ p, p < np → al p = al2 p) {tb : Nat → Nat → Bool} {tc : Nat → Int32} (ht : ∀ p q, p < np → q < np → tc (160 * p + q) = bI (tb p q)) {R : (Nat → Bool) → Nat} (hR : ∀ lf, SrF al tb np tries lf (R lf) ∧ (R lf = 0 ∨ R lf = 1 ∨ R lf = 2)) {ou : Nat → Int32} (hl : hB np ou (fun _ => !true)) (od : Int32) (oa tr : Nat → Int32) : ∃ k t', iter (bX12_lack_105 (nI tries) (nI np) al2 tc) FU (nI np, (0 : Int32), od, oa, ou, tr) = some (k, t') ∧ ((k = 0 ∧ LK R np = none) ∨ (k = 1 ∧ ∃ s lf, LK R np = some (s, lf) ∧ t'.1 = nI s ∧ hB np t'.2.2.2.2.1 (fun p => !lf p))) := by
  obtain ⟨k, t', h1, h2⟩ := iter_forE (S := Nat × Int32 × (Nat → Int32) × (Nat → Int32) × (Nat → Int32)) (B := bX12_lack_105 (nI tries) (nI np) al2 tc) (fun i s => (nI (np - i + s.1), nI i, s.2.1, s.2.2.1, s.2.2.2.1, s.2.2.2.2)) np (fun i s => ∃ lf, LK R i = some (s.1, lf) ∧ hB np s.2.2.2.1 (fun p => !lf p)) (fun k t' => (k = 0 ∧ LK R np = none) ∨ (k = 1 ∧ ∃ s lf, LK R np = some (s, lf) ∧ t'.1 = nI s ∧ hB np t'.2.2.2.2.1 (fun p => !lf p))) 0 (0, od, oa, ou, tr) ⟨_, rfl, hl⟩ (by omega) (by omega) (fun i s _ hi hI => by
    obtain ⟨k, od, oa, ou, tr⟩ := s
    obtain ⟨lf, l1, l2⟩ := hI
    dsimp only at l1 l2 ⊢
    have kle := LK_le l1
    obtain ⟨ia, ca⟩ := ix_c (i := i) (n := 160) (by omega) (by omega)
    have hl' : hB np (upd ou i (bI true)) (fun p => !(upB lf i false p)) := hB_cg (hB_up l2 true (k := i)) (fun j => upB_not (v := false) j)
    obtain ⟨oa', f1, f2⟩ := ordA_ok hnp hl' od oa
    obtain ⟨r, col, tr', g1, g2, g3⟩ := srchM_ok hnp htr (upB lf i false) ht f2 al2 tr
    have er : R (upB lf i false) = r := SrF_one (hR _).1 (SrF_al ha ⟨col, g2⟩)
    have l3 := LK_s l1
    rw [er] at l3
    have e3 := (hR (upB lf i false)).2
    rw [er] at e3
    have st : bX12_lack_105 (nI tries) (nI np) al2 tc (nI (np - i + k), nI i, od, oa, ou, tr) = (if ¬ rI r = (-6 : Int32) then ob (if ¬ rI r = 0 then some (0 : Int32) else some (1 : Int32)) (fun t => dm1 t (fun v31 => lt (upd (upd ou i (bI true)) i (vp_nar .boolean v31)) (fun f32 => ob (if ¬ rI r = 0 then some (0 : Int32) else some (1 : Int32)) (fun t => dm1 t (fun v33 => some (0, (nI (np - i + k) - v33, nI (i + 1), nI (ordF (upB lf i false) np).1, oa', f32, tr'))))))) else some (1, (nI (np - i + k), nI i, nI (ordF (upB lf i false) np).1, oa', upd ou i (bI true), tr'))) := by
      unfold bX12_lack_105
      simp only [dm6]
      rw [if_neg (by rw [nI_leS (by omega) (by omega)]; omega), gd_s ia, ca, nar_1, lt_v, ob_d2 f1, ob_d2 g1]
      rw [ca] at ia
      simp only [gd_s ia]
      simp only [lt, nl_1, nI_add]
    rcases e3 with e | e | e
    · subst e
      left
      refine ⟨(k, nI (ordF (upB lf i false) np).1, oa', upd (upd ou i (bI true)) i (bI true), tr'), ?_, upB lf i false, ?_, ?_⟩
      · rw [st, if_pos (by decide), if_neg (by decide), ob_d1 rfl, lt_v, ob_d1 rfl, nar_1, show (1 : Int32) = nI 1 from rfl, pk_sub (by omega)]
        show some (0, (nI (np - i + k - 1), _)) = some (0, (nI (np - (i + 1) + k), _))
        rw [show np - i + k - 1 = np - (i + 1) + k by omega]
      · rw [l3]; rfl
      · have q := hB_up hl' true (k := i)
        refine hB_cg q (fun j => ?_)
        by_cases z : j = i
        · subst z; rw [upB_s, upB_s]; rfl
        · rw [upB_n z]
    · subst e
      left
      refine ⟨(k + 1, nI (ordF (upB lf i false) np).1, oa', upd (upd ou i (bI true)) i (bI false), tr'), ?_, upB (upB lf i false) i true, ?_, ?_⟩
      · rw [st, if_pos (by decide), if_pos (by decide), ob_d1 rfl, lt_v, ob_d1 rfl, nar_0, show (0 : Int32) = nI 0 from rfl, pk_sub (by omega)]
        show some (0, (nI (np - i + k - 0), _)) = some (0, (nI (np - (i + 1) + (k + 1)), _))
        rw [show np - i + k - 0 = np - (i + 1) + (k + 1) by omega]
      · rw [l3]; rfl
      · exact hB_cg (hB_up hl' false (k := i)) (fun j => upB_not (lf := upB lf i false) (v := true) j)
    · subst e
      right
      refine ⟨0, (nI (np - i + k), nI i, nI (ordF (upB lf i false) np).1, oa', upd ou i (bI true), tr'), ?_, Or.inl ⟨rfl, LK_n (p := i + 1) (by omega) (by rw [l3]; rfl)⟩⟩
      rw [st]; rfl) (fun s hI => by
    obtain ⟨k, od, oa, ou, tr⟩ := s
    obtain ⟨lf, l1, l2⟩ := hI
    refine ⟨1, (nI (np - np + k), nI np, od, oa, ou, tr), ?_, Or.inr ⟨rfl, k, lf, l1, ?_, l2⟩⟩
    · unfold bX12_lack_105
      simp only [dm6]
      rw [if_pos (by rw [nI_leS (by omega) (by omega)]; omega)]
    · show nI (np - np + k) = nI k
      rw [show np - np + k = k by omega])
  refine ⟨k, t', ?_, h2⟩
  rw [← h1]
  rfl
