/-! the reference: outside, least step, a walk -/
def otB (p q : Pt3) : Bool := decide (p.2.1 = 0 ∧ q.2.1 = 0 ∧ vX p q < 0)
def MPc (w h nl : Nat) (ld : Nat → Ln) (m : Nat) (Q : Nat → Pt3) : Nat → Nat → Prop := Pc (onK (KX w h ld) Q) (nl + 4) m
theorem mnext_nx {w h nl : Nat} {ld : Nat → Ln} {m : Nat} {Q : Nat → Pt3} {fm : Nat → Nat → Bool} (hM : Mesh w h nl ld m Q fm) {nv : Nat → Nat → Nat} (hn : NV Q fm nv) {n : Nat} {A B : Nat → Nat} {gw gr gt : Nat → Int32} (hX : MsM (Pc (onK (KX w h ld) Q) (nl + 4) m) fm m n A B gw gr gt) {d x y : Nat → Int64} (hJ : JL m Q d x y) {c : Nat} (hc : c < 2 * n) (hf : fm (bg A B c) (ed A B c) = true) : ∃ c', sX12_next (nI c) (nI n) d gw gr gt x y = some (nI c') ∧ c' < 2 * n ∧ ((bg A B c', ed A B c') : St) = nxs nv (bg A B c, ed A B c) := by
  obtain ⟨c', a1, a2, a3, a4, a5⟩ := mnext_ok hM hX hJ hc hf
  have e := NX_one a5 (hn _ _ hf)
  exact ⟨c', a1, a2, Prod.ext a3 e⟩
theorem isOut_ok {P : Nat → Nat → Prop} {m n : Nat} (hm : m ≤ 123) {Q : Nat → Pt3} (hQ : ∀ i, i < m → pOK (Q i)) {A B : Nat → Nat} (h : PcM P m n A B) (hn : n ≤ 342) {gr gt : Nat → Int32} (hf : hN n gr A) (ht : hN n gt B) {d x y : Nat → Int64} (hJ : JL m Q d x y) {c : Nat} (hc : c < 2 * n) : sX12_isOutside (nI c) d gr gt x y = some (bI (otB (Q (bg A B c)) (Q (ed A B c)))) := by
  obtain ⟨o1, o2⟩ := bg_lt h hc
  have e1 := bg_ok hn hf ht hc
  have e2 := ed_ok hn hf ht hc
  have b1 := pB_of (hQ _ o1)
  have b2 := pB_of (hQ _ o2)
  have eX := wX_ok (show bg A B c < 240 by omega) (show ed A B c < 240 by omega) (hJ _ o1) (hJ _ o2)
  have bx := wX_bd b1 b2
  have y1 : y (bg A B c) = lN (Q (bg A B c)).2.1 := (hJ _ o1).2.1
  have y2 : y (ed A B c) = lN (Q (ed A B c)).2.1 := (hJ _ o2).2.1
  obtain ⟨p1, p2, p3, p4⟩ := b1
  obtain ⟨r1, r2, r3, r4⟩ := b2
  have q1 : (lg_cmp (lN (Q (bg A B c)).2.1) 0 = 0) ↔ (Q (bg A B c)).2.1 = 0 := (lg_cmp_eq _ _).trans (pk_lEQ (b := 0) (by omega) (by omega))
  have q2 : (lg_cmp (lN (Q (ed A B c)).2.1) 0 = 0) ↔ (Q (ed A B c)).2.1 = 0 := (lg_cmp_eq _ _).trans (pk_lEQ (b := 0) (by omega) (by omega))
  have q3 := lz_ge0' (z := vX (Q (bg A B c)) (Q (ed A B c))) (by omega) (by omega)
  simp (disch := omega) only [sX12_isOutside, e1, e2, ob, dm1, nI_lt0, nI_clampS, false_or, gd_s, y1, y2, q1, q2, eX, q3]
  unfold otB
  by_cases h1 : (Q (bg A B c)).2.1 = 0
  · simp only [h1, not_true_eq_false, if_false, true_and]
    by_cases h2 : (Q (ed A B c)).2.1 = 0
    · simp only [h2, not_true_eq_false, if_false, true_and]
      rw [if_neg (by decide)]
      by_cases h3 : 0 ≤ vX (Q (bg A B c)) (Q (ed A B c))
      · rw [if_pos h3, decide_eq_false (by omega)]; rfl
      · rw [if_neg h3, decide_eq_true (by omega)]; rfl
    · simp only [h2, not_false_eq_true, if_true, false_and, decide_false]; rfl
  · simp only [h1, not_false_eq_true, if_true, false_and, decide_false]; rfl
theorem leS_tr {p q r : St} (h1 : leS p q) (h2 : leS q r) : leS p r := by unfold leS at *; omega
theorem leS_tot (p q : St) : leS p q ∨ ltS q p := by unfold leS ltS; omega
theorem least_ok {P : Nat → Nat → Prop} {m n : Nat} (hm : m ≤ 123) {fm : Nat → Nat → Bool} (hsy : ∀ i j, fm i j = fm j i) {A B : Nat → Nat} {gw gr gt : Nat → Int32} (hX : MsM P fm m n A B gw gr gt) (pa : Nat → Int32) : ∃ r, sX12_least (nI n) gw gr gt pa = some r ∧ ((∃ c, r = nI c ∧ c < 2 * n ∧ fm (bg A B c) (ed A B c) = true ∧ pa c = -2 ∧ ∀ k, k < 2 * n → fm (bg A B k) (ed A B k) = true → pa k = -2 → leS (bg A B c, ed A B c) (bg A B k, ed A B k)) ∨ (r = -1 ∧ ∀ k, k < 2 * n → fm (bg A B k) (ed A B k) = true → pa k ≠ -2)) := by
  obtain ⟨x1, x2, x3, x4, x5⟩ := hX
  have tm : (2 : Int32) * nI n = nI (2 * n) := by rw [nl_2, pk_mul]
  have z2 : ¬ ((2 : Int32) = 0) := by decide
  have z1 : ¬ ((1 : Int32) = 0) := by decide
  obtain ⟨s, h1, h2⟩ := iter_for (S := Int32) (B := bX12_least_4 (nI n) gw gr gt pa) (fun j b => (b, nI j)) (2 * n) (fun j s => (∃ c, s = nI c ∧ c < 2 * n ∧ fm (bg A B c) (ed A B c) = true ∧ pa c = -2 ∧ ∀ k, k < j → fm (bg A B k) (ed A B k) = true → pa k = -2 → leS (bg A B c, ed A B c) (bg A B k, ed A B k)) ∨ (s = -1 ∧ ∀ k, k < j → fm (bg A B k) (ed A B k) = true → pa k ≠ -2)) 0 (-1) (Or.inr ⟨rfl, fun k hk => by omega⟩) (by omega) (by omega) (fun j s _ hj hI => by
    obtain ⟨q1, q2⟩ := bg_lt x1 hj
    have f1 := bg_ok x5 x2 x3 hj
    have f2 := ed_ok x5 x2 x3 hj
    have f3 := x4 (j / 2) (by omega)
    dsimp only at f3
    rw [fm_bg hsy] at f3
    have e0 : bX12_least_4 (nI n) gw gr gt pa (s, nI j) = ob (if fm (bg A B j) (ed A B j) = false then some s else if pa j = -2 then (if s < 0 then some (nI j) else ob (sX12_beginOf s gr gt) (fun r6 => if nI (bg A B j) < r6 then some (nI j) else if ¬ nI (bg A B j) = r6 then some s else ob (sX12_endOf s gr gt) (fun r10 => if r10 ≤ nI (ed A B j) then some s else some (nI j)))) else some s) (fun t => dm1 t (fun v3 => some (0, (v3, nI (j + 1))))) := by
      simp (disch := omega) only [bX12_least_4, dm2, tm, nI_leS, st_div, nI_lt0, nI_clampS, false_or, f1, f2, f3, bI_0', gd_s, lt, nI_1, z1, if_false, if_true]
      rw [if_neg (by omega)]
      simp only [ob, dm1]
      cases h9 : sX12_beginOf s gr gt with
      | none => rfl
      | some r6 =>
        cases h8 : sX12_endOf s gr gt with
        | none => rfl
        | some r10 => rfl
    cases hF : fm (bg A B j) (ed A B j) with
    | false =>
      rw [hF, if_pos rfl] at e0
      refine ⟨s, e0, ?_⟩
      rcases hI with ⟨c, a1, a2, a3, a4, a5⟩ | ⟨a1, a2⟩
      · refine Or.inl ⟨c, a1, a2, a3, a4, fun k c1 c2 => ?_⟩
        by_cases z : k = j
        · subst z; rw [hF] at c2; cases c2
        · exact a5 k (by omega) c2
      · refine Or.inr ⟨a1, fun k c1 c2 => ?_⟩
        by_cases z : k = j
        · subst z; rw [hF] at c2; cases c2
        · exact a2 k (by omega) c2
    | true =>
      rw [hF, if_neg (by simp)] at e0
      by_cases hp : pa j = -2
      · rw [if_pos hp] at e0
        rcases hI with ⟨c, a1, a2, a3, a4, a5⟩ | ⟨a1, a2⟩
        · subst a1
          obtain ⟨r1, r2⟩ := bg_lt x1 a2
          rw [if_neg (nI_pos (by omega)), bg_ok x5 x2 x3 a2, ed_ok x5 x2 x3 a2] at e0
          simp (disch := omega) only [ob, nI_ltS, nI_eqS, nI_leS] at e0
          have new : ltS (bg A B j, ed A B j) (bg A B c, ed A B c) → (∃ c', nI j = nI c' ∧ c' < 2 * n ∧ fm (bg A B c') (ed A B c') = true ∧ pa c' = -2 ∧ ∀ k, k < j + 1 → fm (bg A B k) (ed A B k) = true → pa k = -2 → leS (bg A B c', ed A B c') (bg A B k, ed A B k)) := by
            intro hlt
            refine ⟨j, rfl, hj, hF, hp, fun k c1 c2 c3 => ?_⟩
            by_cases z : k = j
            · subst z; exact Or.inr ⟨rfl, Nat.le_refl _⟩
            · have := a5 k (by omega) c2 c3
              unfold ltS at hlt
              unfold leS at *
              omega
          have old : leS (bg A B c, ed A B c) (bg A B j, ed A B j) → (∃ c', nI c = nI c' ∧ c' < 2 * n ∧ fm (bg A B c') (ed A B c') = true ∧ pa c' = -2 ∧ ∀ k, k < j + 1 → fm (bg A B k) (ed A B k) = true → pa k = -2 → leS (bg A B c', ed A B c') (bg A B k, ed A B k)) := by
            intro hle
            refine ⟨c, rfl, a2, a3, a4, fun k c1 c2 c3 => ?_⟩
            by_cases z : k = j
            · subst z; exact hle
            · exact a5 k (by omega) c2 c3
          by_cases b1 : bg A B j < bg A B c
          · rw [if_pos b1] at e0
            exact ⟨nI j, e0, Or.inl (new (Or.inl b1))⟩
          · rw [if_neg b1] at e0
            by_cases b2 : bg A B j = bg A B c
            · rw [if_neg (fun z => z b2)] at e0
              by_cases b3 : ed A B c ≤ ed A B j
              · rw [if_pos b3] at e0
                exact ⟨nI c, e0, Or.inl (old (Or.inr ⟨b2.symm, b3⟩))⟩
              · rw [if_neg b3] at e0
                exact ⟨nI j, e0, Or.inl (new (Or.inr ⟨b2, by dsimp only; omega⟩))⟩
            · rw [if_pos b2] at e0
              exact ⟨nI c, e0, Or.inl (old (Or.inl (by dsimp only; omega)))⟩
        · subst a1
          rw [if_pos (by decide)] at e0
          refine ⟨nI j, e0, Or.inl ⟨j, rfl, hj, hF, hp, fun k c1 c2 c3 => ?_⟩⟩
          by_cases z : k = j
          · subst z; exact Or.inr ⟨rfl, Nat.le_refl _⟩
          · exact absurd c3 (a2 k (by omega) c2)
      · rw [if_neg hp] at e0
        refine ⟨s, e0, ?_⟩
        rcases hI with ⟨c, a1, a2, a3, a4, a5⟩ | ⟨a1, a2⟩
        · refine Or.inl ⟨c, a1, a2, a3, a4, fun k c1 c2 c3 => ?_⟩
          by_cases z : k = j
          · subst z; exact absurd c3 hp
          · exact a5 k (by omega) c2 c3
        · refine Or.inr ⟨a1, fun k c1 c2 => ?_⟩
          by_cases z : k = j
          · subst z; exact hp
          · exact a2 k (by omega) c2) (fun s _ => by
    simp (disch := omega) only [bX12_least_4, dm2, tm, nI_leS]
    rw [if_pos (by omega)])
  refine ⟨s, ?_, h2⟩
  unfold sX12_least
  show ob (iter (bX12_least_4 (nI n) gw gr gt pa) FU ((-1 : Int32), nI 0)) _ = _
  rw [ob_s h1]
  rfl
/-- once round -/
theorem iter_per {S T : Type} {B : T → Option (Nat × T)} (mk : Nat → S → T) (K : Nat) (hK : 0 < K) (hKb : K < 999999999) (I : Nat → S → Prop) (s0 : S) (h0 : I 0 s0) (step : ∀ i s, i + 1 < K → I i s → ∃ s', B (mk i s) = some (0, mk (i + 1) s') ∧ I (i + 1) s') (out : ∀ i s, i + 1 = K → I i s → ∃ s', B (mk i s) = some (1, mk K s') ∧ I K s') : ∃ s, iter B FU (mk 0 s0) = some (0, mk K s) ∧ I K s := by
  have key : ∀ (d i : Nat) (s : S) (f : Nat), i + d + 1 = K → d + 1 < f → I i s → ∃ s', iter B f (mk i s) = some (0, mk K s') ∧ I K s' := by
    intro d
    induction d with
    | zero =>
      intro i s f h1 h2 h3
      obtain ⟨f, rfl⟩ : ∃ g, f = g + 1 := ⟨f - 1, by omega⟩
      obtain ⟨s', e, h4⟩ := out i s (by omega) h3
      exact ⟨s', iter_out e f, h4⟩
    | succ d ih =>
      intro i s f h1 h2 h3
      obtain ⟨f, rfl⟩ : ∃ g, f = g + 1 := ⟨f - 1, by omega⟩
      obtain ⟨s', e, h4⟩ := step i s (by omega) h3
      rw [iter_go e]
      exact ih (i + 1) s' f (by omega) (by omega) h4
  exact key (K - 1) 0 s0 FU (by omega) (FU_lt (by omega)) h0
theorem msig_ex {w h nl : Nat} {ld : Nat → Ln} {m : Nat} {Q : Nat → Pt3} {fm : Nat → Nat → Bool} (hM : Mesh w h nl ld m Q fm) {n : Nat} {A B : Nat → Nat} (hX : PcM (Pc (onK (KX w h ld) Q) (nl + 4) m) m n A B) {p : St} (hp : isS fm p) : ∃ c, c < 2 * n ∧ ((bg A B c, ed A B c) : St) = p := by
  obtain ⟨a1, a2, a3, -⟩ := hM.2.2.2.1.1 _ _ hp
  obtain ⟨c, c1, c2, c3⟩ := bg_all hX (adB_R _ _ _ _) a1 a2 a3
  exact ⟨c, c1, Prod.ext c2 c3⟩
theorem per_le {w h nl : Nat} {ld : Nat → Ln} {m : Nat} {Q : Nat → Pt3} {fm : Nat → Nat → Bool} (hM : Mesh w h nl ld m Q fm) {nv : Nat → Nat → Nat} (hn : NV Q fm nv) {n : Nat} {A B : Nat → Nat} (hX : PcM (Pc (onK (KX w h ld) Q) (nl + 4) m) m n A B) {p : St} (hp : isS fm p) {K : Nat} (hK : Per nv p K) : K ≤ 2 * n := by
  have hex : ∀ k, ∃ c, c < 2 * n ∧ ((bg A B c, ed A B c) : St) = itr nv k p := fun k => msig_ex hM hX (itr_S hM hn hp k)
  obtain ⟨σ, hσ⟩ := Classical.axiomOfChoice hex
  exact fb_holes (2 * n) K σ (fun i _ => (hσ i).1) (fun i j hij hj e => per_inj hM hn hp hK hij hj (by rw [← (hσ i).2, ← (hσ j).2, e]))
theorem walk1_ok {w h nl : Nat} {ld : Nat → Ln} {m : Nat} {Q : Nat → Pt3} {fm : Nat → Nat → Bool} (hM : Mesh w h nl ld m Q fm) {nv : Nat → Nat → Nat} (hn : NV Q fm nv) {n : Nat} {A B : Nat → Nat} {gw gr gt : Nat → Int32} (hX : MsM (Pc (onK (KX w h ld) Q) (nl + 4) m) fm m n A B gw gr gt) {d x y : Nat → Int64} (hJ : JL m Q d x y) {c0 : Nat} (hc0 : c0 < 2 * n) (hf : fm (bg A B c0) (ed A B c0) = true) (num : Int32) (pa : Nat → Int32) : ∃ (ou : Bool) (pa' : Nat → Int32), iter (bX12_arrange_54 (nI n) d gw gr gt x y (nI c0) num) FU ((0 : Int32), nI c0, pa) = some (0, (bI ou, nI c0, pa')) ∧ (ou = true ↔ ∃ q, Orb nv (bg A B c0, ed A B c0) q ∧ otB (Q q.1) (Q q.2) = true) ∧ (∀ c, c < 2 * n → Orb nv (bg A B c0, ed A B c0) (bg A B c, ed A B c) → pa' c = num) ∧ ∀ c, c < 2 * n → ¬ Orb nv (bg A B c0, ed A B c0) (bg A B c, ed A B c) → pa' c = pa c := by
  have x5 := hX.2.2.2.2
  have x1 := hX.1
  have hm := hM.2.2.1
  have hS : isS fm (bg A B c0, ed A B c0) := hf
  obtain ⟨K, hK⟩ := per_ex2 hM hn hS
  have hKn := per_le hM hn x1 hS hK
  have hex : ∀ k, ∃ c, c < 2 * n ∧ ((bg A B c, ed A B c) : St) = itr nv k (bg A B c0, ed A B c0) := fun k => msig_ex hM x1 (itr_S hM hn hS k)
  obtain ⟨σ, hσ⟩ := Classical.axiomOfChoice hex
  have uq : ∀ k l, k < 2 * n → l < 2 * n → ((bg A B k, ed A B k) : St) = (bg A B l, ed A B l) → k = l := fun k l hk hl e => bg_uniq x1 hk hl (congrArg Prod.fst e) (congrArg Prod.snd e)
  have s0e : σ 0 = c0 := uq _ _ (hσ 0).1 hc0 (hσ 0).2
  have sKe : σ K = c0 := uq _ _ (hσ K).1 hc0 (by rw [(hσ K).2, hK.2.1])
  have step1 : ∀ (t : Nat) (ou : Bool) (p1 : Nat → Int32), bX12_arrange_54 (nI n) d gw gr gt x y (nI c0) num (bI ou, nI (σ t), p1) = (if ¬ σ (t + 1) = c0 then some (0, (bI (ou || otB (Q (bg A B (σ t))) (Q (ed A B (σ t)))), nI (σ (t + 1)), upd p1 (σ t) num)) else some (1, (bI (ou || otB (Q (bg A B (σ t))) (Q (ed A B (σ t)))), nI (σ (t + 1)), upd p1 (σ t) num))) := by
    intro t ou p1
    obtain ⟨q1, q2⟩ := hσ t
    have q3 := (hσ (t + 1)).1
    have ft : fm (bg A B (σ t)) (ed A B (σ t)) = true := by
      have := itr_S hM hn hS t
      rw [← q2] at this; exact this
    obtain ⟨c', a1, a2, a3⟩ := mnext_nx hM hn hX hJ q1 ft
    have e' : c' = σ (t + 1) := uq _ _ a2 q3 (by rw [a3, (hσ (t + 1)).2, q2]; rfl)
    subst e'
    have io := isOut_ok hm hM.2.1.1 x1 x5 hX.2.1 hX.2.2.1 hJ q1
    have e9 : (if ¬ bI ou = 0 then some (1 : Int32) else ob (sX12_isOutside (nI (σ t)) d gr gt x y) (fun o => dm1 o (fun r31 => if r31 = 0 then some (0 : Int32) else some (1 : Int32)))) = some (bI (ou || otB (Q (bg A B (σ t))) (Q (ed A B (σ t))))) := by
      rw [io]
      simp only [bI_0', ob, dm1]
      cases ou <;> cases otB (Q (bg A B (σ t))) (Q (ed A B (σ t))) <;> simp <;> rfl
    simp only [bX12_arrange_54, dm3]
    rw [e9]
    simp (disch := omega) only [ob, dm1, nI_lt0, nI_clampS, false_or, gd_s, lt, a1, nI_eqS]
  obtain ⟨s, h1, h2⟩ := iter_per (S := Bool × (Nat → Int32)) (B := bX12_arrange_54 (nI n) d gw gr gt x y (nI c0) num) (fun t s => (bI s.1, nI (σ t), s.2)) K hK.1 (by omega) (fun t s => (s.1 = true ↔ ∃ i, i < t ∧ otB (Q (itr nv i (bg A B c0, ed A B c0)).1) (Q (itr nv i (bg A B c0, ed A B c0)).2) = true) ∧ (∀ k, k < 2 * n → (∃ i, i < t ∧ itr nv i (bg A B c0, ed A B c0) = (bg A B k, ed A B k)) → s.2 k = num) ∧ ∀ k, k < 2 * n → (¬ ∃ i, i < t ∧ itr nv i (bg A B c0, ed A B c0) = (bg A B k, ed A B k)) → s.2 k = pa k) (false, pa) ⟨⟨fun z => (by cases z), fun ⟨i, hi, _⟩ => absurd hi (Nat.not_lt_zero _)⟩, fun k _ ⟨i, hi, _⟩ => absurd hi (Nat.not_lt_zero _), fun k _ _ => rfl⟩ (fun t s ht hI => by
      obtain ⟨i1, i2, i3⟩ := hI
      obtain ⟨q1, q2⟩ := hσ t
      have ne : σ (t + 1) ≠ c0 := fun z => by
        have := (hσ (t + 1)).2
        rw [z] at this
        exact hK.2.2 (t + 1) (by omega) ht this.symm
      refine ⟨(s.1 || otB (Q (bg A B (σ t))) (Q (ed A B (σ t))), upd s.2 (σ t) num), ?_, ?_, fun k hk ⟨i, hi, e⟩ => ?_, fun k hk hx => ?_⟩
      · rw [step1 t s.1 s.2, if_pos ne]
      · dsimp only
        rw [Bool.or_eq_true, i1]
        constructor
        · rintro (⟨i, hi, e⟩ | e)
          · exact ⟨i, by omega, e⟩
          · exact ⟨t, by omega, by rw [← q2]; exact e⟩
        · rintro ⟨i, hi, e⟩
          by_cases it : i = t
          · subst it; rw [← q2] at e; exact Or.inr e
          · exact Or.inl ⟨i, by omega, e⟩
      · dsimp only
        by_cases c : k = σ t
        · subst c; exact pk_us
        · rw [pk_un c]
          by_cases it : i = t
          · subst it; exact absurd (uq k (σ i) hk q1 (by rw [← e, q2])) c
          · exact i2 k hk ⟨i, by omega, e⟩
      · dsimp only
        have c : k ≠ σ t := fun z => hx ⟨t, by omega, by rw [z, q2]⟩
        rw [pk_un c]
        exact i3 k hk (fun ⟨i, hi, e⟩ => hx ⟨i, by omega, e⟩)) (fun t s ht hI => by
      obtain ⟨i1, i2, i3⟩ := hI
      obtain ⟨q1, q2⟩ := hσ t
      subst ht
      refine ⟨(s.1 || otB (Q (bg A B (σ t))) (Q (ed A B (σ t))), upd s.2 (σ t) num), ?_, ?_, fun k hk ⟨i, hi, e⟩ => ?_, fun k hk hx => ?_⟩
      · rw [step1 t s.1 s.2, if_neg (fun z => z sKe)]
      · dsimp only
        rw [Bool.or_eq_true, i1]
        constructor
        · rintro (⟨i, hi, e⟩ | e)
          · exact ⟨i, by omega, e⟩
          · exact ⟨t, by omega, by rw [← q2]; exact e⟩
        · rintro ⟨i, hi, e⟩
          by_cases it : i = t
          · subst it; rw [← q2] at e; exact Or.inr e
          · exact Or.inl ⟨i, by omega, e⟩
      · dsimp only
        by_cases c : k = σ t
        · subst c; exact pk_us
        · rw [pk_un c]
          by_cases it : i = t
          · subst it; exact absurd (uq k (σ i) hk q1 (by rw [← e, q2])) c
          · exact i2 k hk ⟨i, by omega, e⟩
      · dsimp only
        have c : k ≠ σ t := fun z => hx ⟨t, by omega, by rw [z, q2]⟩
        rw [pk_un c]
        exact i3 k hk (fun ⟨i, hi, e⟩ => hx ⟨i, by omega, e⟩))
  obtain ⟨i1, i2, i3⟩ := h2
  refine ⟨s.1, s.2, ?_, ?_, fun c hc o => ?_, fun c hc o => ?_⟩
  · have h1' : iter (bX12_arrange_54 (nI n) d gw gr gt x y (nI c0) num) FU (nI 0, nI (σ 0), pa) = some (0, (bI s.1, nI (σ K), s.2)) := h1
    rw [s0e, sKe] at h1'
    exact h1'
  · rw [i1]
    constructor
    · rintro ⟨i, hi, e⟩
      exact ⟨_, ⟨i, rfl⟩, e⟩
    · rintro ⟨q, o, e⟩
      obtain ⟨i, hi, e2⟩ := orb_lt hK o
      exact ⟨i, hi, by rw [e2]; exact e⟩
  · obtain ⟨i, hi, e⟩ := orb_lt hK o
    exact i2 c hc ⟨i, hi, e⟩
  · exact i3 c hc (fun ⟨i, _, e⟩ => o ⟨i, e⟩)
theorem walk2_ok {w h nl : Nat} {ld : Nat → Ln} {m : Nat} {Q : Nat → Pt3} {fm : Nat → Nat → Bool} (hM : Mesh w h nl ld m Q fm) {nv : Nat → Nat → Nat} (hn : NV Q fm nv) {n : Nat} {A B : Nat → Nat} {gw gr gt : Nat → Int32} (hX : MsM (Pc (onK (KX w h ld) Q) (nl + 4) m) fm m n A B gw gr gt) {d x y : Nat → Int64} (hJ : JL m Q d x y) {c0 : Nat} (hc0 : c0 < 2 * n) (hf : fm (bg A B c0) (ed A B c0) = true) (pa : Nat → Int32) : ∃ (pa' : Nat → Int32), iter (bX12_arrange_97 (nI n) d gw gr gt x y (nI c0)) FU (nI c0, pa) = some (0, (nI c0, pa')) ∧ (∀ c, c < 2 * n → Orb nv (bg A B c0, ed A B c0) (bg A B c, ed A B c) → pa' c = -1) ∧ ∀ c, c < 2 * n → ¬ Orb nv (bg A B c0, ed A B c0) (bg A B c, ed A B c) → pa' c = pa c := by
  have x5 := hX.2.2.2.2
  have x1 := hX.1
  have hS : isS fm (bg A B c0, ed A B c0) := hf
  obtain ⟨K, hK⟩ := per_ex2 hM hn hS
  have hKn := per_le hM hn x1 hS hK
  have hex : ∀ k, ∃ c, c < 2 * n ∧ ((bg A B c, ed A B c) : St) = itr nv k (bg A B c0, ed A B c0) := fun k => msig_ex hM x1 (itr_S hM hn hS k)
  obtain ⟨σ, hσ⟩ := Classical.axiomOfChoice hex
  have uq : ∀ k l, k < 2 * n → l < 2 * n → ((bg A B k, ed A B k) : St) = (bg A B l, ed A B l) → k = l := fun k l hk hl e => bg_uniq x1 hk hl (congrArg Prod.fst e) (congrArg Prod.snd e)
  have s0e : σ 0 = c0 := uq _ _ (hσ 0).1 hc0 (hσ 0).2
  have sKe : σ K = c0 := uq _ _ (hσ K).1 hc0 (by rw [(hσ K).2, hK.2.1])
  have step1 : ∀ (t : Nat) (p1 : Nat → Int32), bX12_arrange_97 (nI n) d gw gr gt x y (nI c0) (nI (σ t), p1) = (if ¬ σ (t + 1) = c0 then some (0, (nI (σ (t + 1)), upd p1 (σ t) (-1))) else some (1, (nI (σ (t + 1)), upd p1 (σ t) (-1)))) := by
    intro t p1
    obtain ⟨q1, q2⟩ := hσ t
    have q3 := (hσ (t + 1)).1
    have ft : fm (bg A B (σ t)) (ed A B (σ t)) = true := by
      have := itr_S hM hn hS t
      rw [← q2] at this; exact this
    obtain ⟨c', a1, a2, a3⟩ := mnext_nx hM hn hX hJ q1 ft
    have e' : c' = σ (t + 1) := uq _ _ a2 q3 (by rw [a3, (hσ (t + 1)).2, q2]; rfl)
    subst e'
    simp (disch := omega) only [bX12_arrange_97, dm2, ob, dm1, nI_lt0, nI_clampS, false_or, gd_s, lt, a1, nI_eqS]
  have upst : ∀ (t : Nat) (p1 : Nat → Int32), t < K → ((∀ k, k < 2 * n → (∃ i, i < t ∧ itr nv i (bg A B c0, ed A B c0) = (bg A B k, ed A B k)) → p1 k = -1) ∧ ∀ k, k < 2 * n → (¬ ∃ i, i < t ∧ itr nv i (bg A B c0, ed A B c0) = (bg A B k, ed A B k)) → p1 k = pa k) → ((∀ k, k < 2 * n → (∃ i, i < t + 1 ∧ itr nv i (bg A B c0, ed A B c0) = (bg A B k, ed A B k)) → upd p1 (σ t) (-1) k = -1) ∧ ∀ k, k < 2 * n → (¬ ∃ i, i < t + 1 ∧ itr nv i (bg A B c0, ed A B c0) = (bg A B k, ed A B k)) → upd p1 (σ t) (-1) k = pa k) := by
    intro t p1 ht hI
    obtain ⟨i2, i3⟩ := hI
    obtain ⟨q1, q2⟩ := hσ t
    refine ⟨fun k hk ⟨i, hi, e⟩ => ?_, fun k hk hx => ?_⟩
    · by_cases c : k = σ t
      · subst c; exact pk_us
      · rw [pk_un c]
        by_cases it : i = t
        · subst it; exact absurd (uq k (σ i) hk q1 (by rw [← e, q2])) c
        · exact i2 k hk ⟨i, by omega, e⟩
    · have c : k ≠ σ t := fun z => hx ⟨t, by omega, by rw [z, q2]⟩
      rw [pk_un c]
      exact i3 k hk (fun ⟨i, hi, e⟩ => hx ⟨i, by omega, e⟩)
  obtain ⟨s, h1, h2⟩ := iter_per (S := Nat → Int32) (B := bX12_arrange_97 (nI n) d gw gr gt x y (nI c0)) (fun t s => (nI (σ t), s)) K hK.1 (by omega) (fun t s => (∀ k, k < 2 * n → (∃ i, i < t ∧ itr nv i (bg A B c0, ed A B c0) = (bg A B k, ed A B k)) → s k = -1) ∧ ∀ k, k < 2 * n → (¬ ∃ i, i < t ∧ itr nv i (bg A B c0, ed A B c0) = (bg A B k, ed A B k)) → s k = pa k) pa ⟨fun k _ ⟨i, hi, _⟩ => absurd hi (Nat.not_lt_zero _), fun k _ _ => rfl⟩ (fun t s ht hI => by
      have ne : σ (t + 1) ≠ c0 := fun z => by
        have := (hσ (t + 1)).2
        rw [z] at this
        exact hK.2.2 (t + 1) (by omega) ht this.symm
      exact ⟨upd s (σ t) (-1), by rw [step1 t s, if_pos ne], upst t s (by omega) hI⟩) (fun t s ht hI => by
      subst ht
      exact ⟨upd s (σ t) (-1), by rw [step1 t s, if_neg (fun z => z sKe)], upst t s (by omega) hI⟩)
  obtain ⟨i2, i3⟩ := h2
  refine ⟨s, ?_, fun c hc o => ?_, fun c hc o => ?_⟩
  · have h1' : iter (bX12_arrange_97 (nI n) d gw gr gt x y (nI c0)) FU (nI (σ 0), pa) = some (0, (nI (σ K), s)) := h1
    rw [s0e, sKe] at h1'
    exact h1'
  · obtain ⟨i, hi, e⟩ := orb_lt hK o
    exact i2 c hc ⟨i, hi, e⟩
  · exact i3 c hc (fun ⟨i, _, e⟩ => o ⟨i, e⟩)
