/-! the class follows a walk -/
theorem St_uniq {ad : Nat → Nat → Bool} {m n : Nat} {F T fi : Nat → Nat} (h : Stps ad m n F T fi) {k l : Nat} (hk : k < n) (hl : l < n) (e1 : F k = F l) (e2 : T k = T l) : k = l := by
  rcases Nat.lt_trichotomy k l with z | z | z
  · rcases h.2.1 k l z hl with w | w <;> omega
  · exact z
  · rcases h.2.1 l k z hk with w | w <;> omega
theorem after_nx {w h nl : Nat} {ld : Nat → Ln} {m : Nat} {Q : Nat → Pt3} {fm : Nat → Nat → Bool} (hM : Mesh w h nl ld m Q fm) {nv : Nat → Nat → Nat} (hn : NV Q fm nv) {n : Nat} {F T fi tw : Nat → Nat} {fw fe fs fr to tn : Nat → Int32} (hX : MsX (adB (KX w h ld) (nl + 4) m Q) fm m n F T fi tw fw fe fs fr to tn) {u x y : Nat → Int32} (hJ : JR m Q u x y) {s : Nat} (hs : s < n) (hf : fm (F s) (T s) = true) : ∃ s', sX8_after (nI s) fw fs fr u x y to tn = some (nI s') ∧ s' < n ∧ ((F s', T s') : St) = nxs nv (F s, T s) := by
  obtain ⟨s', a1, a2, a3, a4, a5⟩ := after_ok hM hX hJ hs hf
  have e := NX_one a5 (hn (F s) (T s) hf)
  exact ⟨s', a1, a2, Prod.ext a3 e⟩
theorem sig_ex {w h nl : Nat} {ld : Nat → Ln} {m : Nat} {Q : Nat → Pt3} {fm : Nat → Nat → Bool} (hM : Mesh w h nl ld m Q fm) {n : Nat} {F T fi : Nat → Nat} (hX : Stps (adB (KX w h ld) (nl + 4) m Q) m n F T fi) {p : St} (hp : isS fm p) : ∃ s, s < n ∧ ((F s, T s) : St) = p := by
  obtain ⟨a1, a2, a3, -⟩ := hM.2.2.2.1.1 _ _ hp
  obtain ⟨s, s1, s2, s3⟩ := hX.2.2.1 _ _ a1 a2 a3
  exact ⟨s, s1, Prod.ext s2 s3⟩
def Per (nv : Nat → Nat → Nat) (p : St) (K : Nat) : Prop := 0 < K ∧ itr nv K p = p ∧ ∀ k, 0 < k → k < K → itr nv k p ≠ p
theorem per_ex2 {w h nl : Nat} {ld : Nat → Ln} {m : Nat} {Q : Nat → Pt3} {fm : Nat → Nat → Bool} (hM : Mesh w h nl ld m Q fm) {nv : Nat → Nat → Nat} (hn : NV Q fm nv) {p : St} (hp : isS fm p) : ∃ K, Per nv p K := by
  obtain ⟨K, ⟨a, b⟩, c⟩ := per_ex hM hn hp
  exact ⟨K, a, b, fun k h1 h2 e => c k h2 ⟨h1, e⟩⟩
theorem per_inj {w h nl : Nat} {ld : Nat → Ln} {m : Nat} {Q : Nat → Pt3} {fm : Nat → Nat → Bool} (hM : Mesh w h nl ld m Q fm) {nv : Nat → Nat → Nat} (hn : NV Q fm nv) {p : St} (hp : isS fm p) {K : Nat} (hK : Per nv p K) {i j : Nat} (hij : i < j) (hj : j < K) : itr nv i p ≠ itr nv j p := by
  intro e
  have e2 : itr nv j p = itr nv i (itr nv (j - i) p) := by rw [← itr_add]; congr 1; omega
  have := itr_inj hM hn hp (itr_S hM hn hp _) i (e.trans e2)
  exact hK.2.2 (j - i) (by omega) (by omega) this.symm
theorem Per_one {nv : Nat → Nat → Nat} {p : St} {K K' : Nat} (h : Per nv p K) (h' : Per nv p K') : K = K' := by
  rcases Nat.lt_trichotomy K K' with q | q | q
  · exact absurd h.2.1 (h'.2.2 K h.1 q)
  · exact q
  · exact absurd h'.2.1 (h.2.2 K' h'.1 q)
theorem orb_lt {nv : Nat → Nat → Nat} {p q : St} {K : Nat} (hK : Per nv p K) (h : Orb nv p q) : ∃ k, k < K ∧ itr nv k p = q := by
  obtain ⟨k, e⟩ := h
  exact ⟨k % K, Nat.mod_lt _ hK.1, by rw [← itr_mod hK.1 hK.2.1]; exact e⟩
theorem nm_2 : (-2 : Int32) = iz (-2) := by decide
theorem follow_ok {w h nl : Nat} {ld : Nat → Ln} {m : Nat} {Q : Nat → Pt3} {fm : Nat → Nat → Bool} (hM : Mesh w h nl ld m Q fm) {nv : Nat → Nat → Nat} (hn : NV Q fm nv) {n : Nat} {F T fi tw : Nat → Nat} {fw fe fs fr to tn : Nat → Int32} (hX : MsX (adB (KX w h ld) (nl + 4) m Q) fm m n F T fi tw fw fe fs fr to tn) {u x y : Nat → Int32} (hJ : JR m Q u x y) {s0 : Nat} (hs0 : s0 < n) (hf : fm (F s0) (T s0) = true) {K : Nat} (hK : Per nv (F s0, T s0) K) {pa wa : Nat → Int32} (hu : ∀ s, s < n → Orb nv (F s0, T s0) (F s, T s) → pa s = -2) {fl : Nat} (hfl : fl + K ≤ 768) {num : Int32} (hnum : num ≠ -2) : ∃ (pa' wa' : Nat → Int32) (σ : Nat → Nat), sX7_follow (nI s0) num (nI fl) u x y pa (nI n) fw fs fr to tn wa = some (nI (fl + K), pa', wa') ∧ (∀ s, s < n → Orb nv (F s0, T s0) (F s, T s) → pa' s = num) ∧ (∀ s, s < n → ¬ Orb nv (F s0, T s0) (F s, T s) → pa' s = pa s) ∧ (∀ k, k < K → σ k < n ∧ ((F (σ k), T (σ k)) : St) = itr nv k (F s0, T s0) ∧ wa' (fl + k) = nI (σ k)) ∧ ∀ j, j < fl → wa' j = wa j := by
  have hn6 : n ≤ 684 := hX.2.2.2.2.2.2.2
  have hS : isS fm (F s0, T s0) := hf
  have hex : ∀ k, ∃ s, s < n ∧ ((F s, T s) : St) = itr nv k (F s0, T s0) := fun k => sig_ex hM hX.1 (itr_S hM hn hS k)
  obtain ⟨σ, hσ⟩ := Classical.axiomOfChoice hex
  have uq : ∀ k l, k < n → l < n → ((F k, T k) : St) = (F l, T l) → k = l := fun k l hk hl e => St_uniq hX.1 hk hl (congrArg Prod.fst e) (congrArg Prod.snd e)
  have s0e : σ 0 = s0 := uq _ _ (hσ 0).1 hs0 (hσ 0).2
  have hKn : K ≤ n := fb_holes n K σ (fun i _ => (hσ i).1) (fun i j hij hj e => per_inj hM hn hS hK hij hj (by rw [← (hσ i).2, ← (hσ j).2, e]))
  obtain ⟨s, h1, h2⟩ := iter_for (S := (Nat → Int32) × (Nat → Int32)) (B := bX7_follow_9 num u x y (nI n) fw fs fr to tn) (fun t s => (nI (fl + t), nI (σ t), nI t, s.1, s.2)) K (fun t s => (∀ k, k < n → (∃ i, i < t ∧ itr nv i (F s0, T s0) = (F k, T k)) → s.1 k = num) ∧ (∀ k, k < n → (¬ ∃ i, i < t ∧ itr nv i (F s0, T s0) = (F k, T k)) → s.1 k = pa k) ∧ (∀ i, i < t → s.2 (fl + i) = nI (σ i)) ∧ ∀ j, j < fl → s.2 j = wa j) 0 (pa, wa) ⟨fun k _ ⟨i, hi, _⟩ => absurd hi (Nat.not_lt_zero _), fun k _ _ => rfl, fun i hi => absurd hi (Nat.not_lt_zero _), fun _ _ => rfl⟩ (by omega) (by omega) (fun t s _ ht hI => by
    obtain ⟨p1, w1⟩ := s
    obtain ⟨i1, i2, i3, i4⟩ := hI
    dsimp only at i1 i2 i3 i4 ⊢
    obtain ⟨q1, q2⟩ := hσ t
    have ft : fm (F (σ t)) (T (σ t)) = true := by
      have := itr_S hM hn hS t
      rw [← q2] at this; exact this
    obtain ⟨s', a1, a2, a3⟩ := after_nx hM hn hX hJ q1 ft
    have e' : s' = σ (t + 1) := uq _ _ a2 (hσ (t + 1)).1 (by rw [a3, (hσ (t + 1)).2, q2]; rfl)
    subst e'
    have hp : p1 (σ t) = -2 := by
      rw [i2 (σ t) q1 (fun ⟨i, hi, e⟩ => per_inj hM hn hS hK hi ht (by rw [e, q2]))]
      exact hu (σ t) q1 ⟨t, q2.symm⟩
    refine ⟨(upd p1 (σ t) num, upd w1 (fl + t) (nI (σ t))), ?_, fun k hk ⟨i, hi, e⟩ => ?_, fun k hk hx => ?_, fun i hi => ?_, fun j hj => ?_⟩
    · simp (disch := omega) only [bX7_follow_9, dm5, nI_leS, nI_lt0, nI_clampS, false_or, gd_s, hp, lt, nl_768, ob, dm2, a1, dm1, nI_1]
      rw [if_neg (by omega), if_neg (by simp), if_neg (by omega)]
      rfl
    · dsimp only
      by_cases c : k = σ t
      · subst c; exact pk_us
      · rw [pk_un c]
        by_cases it : i = t
        · subst it; exact absurd (uq k (σ i) hk q1 (by rw [← e, q2])) c
        · exact i1 k hk ⟨i, by omega, e⟩
    · dsimp only
      have c : k ≠ σ t := fun z => hx ⟨t, by omega, by rw [z, q2]⟩
      rw [pk_un c]
      exact i2 k hk (fun ⟨i, hi, e⟩ => hx ⟨i, by omega, e⟩)
    · dsimp only
      by_cases it : i = t
      · subst it; exact pk_us
      · rw [pk_un (by omega)]; exact i3 i (by omega)
    · dsimp only
      rw [pk_un (by omega)]; exact i4 j hj) (fun s hI => by
    obtain ⟨p1, w1⟩ := s
    obtain ⟨i1, i2, i3, i4⟩ := hI
    dsimp only at i1 i2 i3 i4 ⊢
    have e : σ K = s0 := uq _ _ (hσ K).1 hs0 (by rw [(hσ K).2, hK.2.1])
    have hp : p1 (σ K) = num := i1 (σ K) (hσ K).1 ⟨0, hK.1, by rw [e]; rfl⟩
    have q1 := (hσ K).1
    simp (disch := omega) only [bX7_follow_9, dm5, nI_leS, nI_lt0, nI_clampS, false_or, gd_s, hp]
    by_cases z : n ≤ K
    · rw [if_pos z]
    · rw [if_neg z, if_pos hnum])
  obtain ⟨i1, i2, i3, i4⟩ := h2
  refine ⟨s.1, s.2, σ, ?_, fun k hk o => ?_, fun k hk o => ?_, fun k hk => ⟨(hσ k).1, (hσ k).2, i3 k hk⟩, i4⟩
  · unfold sX7_follow
    have h1' : iter (bX7_follow_9 num u x y (nI n) fw fs fr to tn) FU (nI fl, nI s0, nI 0, pa, wa) = some (0, (nI (fl + K), nI (σ K), nI K, s.1, s.2)) := by rw [← s0e]; exact h1
    rw [nl_0, ob_s h1']
    rfl
  · obtain ⟨i, hi, e⟩ := orb_lt hK o
    exact i1 k hk ⟨i, hi, e⟩
  · exact i2 k hk (fun ⟨i, _, e⟩ => o ⟨i, e⟩)
