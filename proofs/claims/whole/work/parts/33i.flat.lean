/-! a pane's box has both sides -/
theorem max_ex (f : Nat → Nat) : ∀ K, 0 < K → ∃ k, k < K ∧ ∀ j, j < K → f j ≤ f k := by
  intro K
  induction K with
  | zero => intro h; omega
  | succ K ih =>
    intro _
    by_cases z : K = 0
    · subst z
      exact ⟨0, by omega, fun j hj => by have : j = 0 := by omega
                                         subst this; exact Nat.le_refl _⟩
    · obtain ⟨k, h1, h2⟩ := ih (by omega)
      by_cases y : f k ≤ f K
      · refine ⟨K, by omega, fun j hj => ?_⟩
        by_cases x : j = K
        · subst x; exact Nat.le_refl _
        · have := h2 j (by omega); omega
      · refine ⟨k, by omega, fun j hj => ?_⟩
        by_cases x : j = K
        · subst x; omega
        · exact h2 j (by omega)
theorem flat_no {w h nl : Nat} {ld : Nat → Ln} {m : Nat} {Q : Nat → Pt3} {fm : Nat → Nat → Bool} (hM : Mesh w h nl ld m Q fm) {nv : Nat → Nat → Nat} (hn : NV Q fm nv) {g : St} (hg : isS fm g) {K : Nat} (hK : Per nv g K) (hf : ∀ i j l, dtp (Q (itr nv i g).1) (Q (itr nv j g).1) (Q (itr nv l g).1) = 0) : False := by
  obtain ⟨k, k1, k2⟩ := max_ex (fun k => (itr nv k g).1) K hK.1
  have kall : ∀ j, (itr nv j g).1 ≤ (itr nv k g).1 := by
    intro j
    rw [itr_mod hK.1 hK.2.1 j]
    exact k2 _ (Nat.mod_lt _ hK.1)
  have e1 : itr nv (k + K - 1 + 1) g = itr nv k g := by
    rw [show k + K - 1 + 1 = k + K by have := hK.1; omega, itr_add, hK.2.1]
  have f1 : fm (itr nv (k + K - 1) g).1 (itr nv (k + K - 1) g).2 = true := itr_S hM hn hg (k + K - 1)
  have f2 : fm (itr nv k g).1 (itr nv k g).2 = true := itr_S hM hn hg k
  have e2 : itr nv k g = nxs nv (itr nv (k + K - 1) g) := by rw [← e1]; rfl
  have e3 : (itr nv k g).1 = (itr nv (k + K - 1) g).2 := by rw [e2]; rfl
  have e4 : (itr nv k g).2 = nv (itr nv (k + K - 1) g).1 (itr nv (k + K - 1) g).2 := by rw [e2]; rfl
  have e5 : (itr nv (k + 1) g).1 = (itr nv k g).2 := rfl
  obtain ⟨n1, n2, _⟩ := nx_ne hM hn f1
  have a1 := hM.2.2.2.1.1 _ _ f1
  have a2 := hM.2.2.2.1.1 _ _ f2
  have b1 := kall (k + K - 1)
  have b2 := kall (k + 1)
  rw [e5] at b2
  rw [← e3] at f1 a1
  rw [← e4] at n2
  have c1 : (itr nv (k + K - 1) g).1 ≠ (itr nv k g).1 := by
    intro z
    have q := a1.2.2.1
    rw [z, adB_i] at q
    cases q
  have c2 : (itr nv k g).2 ≠ (itr nv k g).1 := by
    intro z
    have q := a2.2.2.1
    rw [z, adB_i] at q
    cases q
  have hmx := Mesh_Mx hM
  have P1 : Pc (onK (KX w h ld) Q) (nl + 4) m (itr nv (k + K - 1) g).1 (itr nv k g).1 := by
    rcases (adB_R (KX w h ld) (nl + 4) m Q _ _ a1.1 a1.2.1).mp a1.2.2.1 with q | q
    · exact q
    · obtain ⟨_, _, q1, _⟩ := q
      omega
  have P2 : Pc (onK (KX w h ld) Q) (nl + 4) m (itr nv k g).2 (itr nv k g).1 := by
    rcases (adB_R (KX w h ld) (nl + 4) m Q _ _ a2.1 a2.2.1).mp a2.2.2.1 with q | q
    · obtain ⟨_, _, q1, _⟩ := q
      omega
    · exact q
  rcases Nat.lt_trichotomy (itr nv (k + K - 1) g).1 (itr nv k g).2 with z | z | z
  · have := pl_in hmx P1 z (by omega)
    exact this (by rw [← e5]; exact hf _ _ _)
  · exact n2 z.symm
  · have := pl_in hmx P2 z (by omega)
    exact this (by rw [← e5]; exact hf _ _ _)
theorem dtp_x {p q r : Pt3} {c : Nat} (h1 : p.1 = c * p.2.2) (h2 : q.1 = c * q.2.2) (h3 : r.1 = c * r.2.2) : dtp p q r = 0 := by
  unfold dtp
  rw [h1, h2, h3]
  simp only [Int.natCast_mul]
  grind
theorem dtp_y {p q r : Pt3} {c : Nat} (h1 : p.2.1 = c * p.2.2) (h2 : q.2.1 = c * q.2.2) (h3 : r.2.1 = c * r.2.2) : dtp p q r = 0 := by
  unfold dtp
  rw [h1, h2, h3]
  simp only [Int.natCast_mul]
  grind
theorem fc_eq {x d c : Nat} (hd : 0 < d) (h1 : c ≤ x / d) (h2 : (x + d - 1) / d ≤ c) : x = c * d := by
  have q1 := (Nat.le_div_iff_mul_le hd).mp h1
  have q2 : (x + d - 1) / d < c + 1 := by omega
  have q3 := (Nat.div_lt_iff_lt_mul hd).mp q2
  rw [Nat.add_mul] at q3
  omega
theorem box_pos {w h nl : Nat} {ld : Nat → Ln} {m : Nat} {Q : Nat → Pt3} {fm : Nat → Nat → Bool} (hM : Mesh w h nl ld m Q fm) {nv : Nat → Nat → Nat} (hn : NV Q fm nv) {g : St} (hg : isS fm g) {K : Nat} (hK : Per nv g K) : 1 ≤ mxF (wCe Q nv g) K - mnF (wFl Q nv g) K ∧ 1 ≤ mxF (hCe Q nv g) K - mnF (hFl Q nv g) K := by
  have pk : ∀ k, pOK (Q (itr nv k g).1) := fun k => hM.2.1.1 _ (hM.2.2.2.1.1 _ _ (itr_S hM hn hg k)).1
  constructor
  · refine Classical.byContradiction (fun z => ?_)
    have e : ∀ k, (Q (itr nv k g).1).1 = mnF (wFl Q nv g) K * (Q (itr nv k g).1).2.2 := by
      intro k
      rw [itr_mod hK.1 hK.2.1 k]
      have kk := Nat.mod_lt k hK.1
      have a1 := mnF_at (wFl Q nv g) K (k % K) kk
      have a2 := mxF_at (wCe Q nv g) K (k % K) kk
      exact fc_eq (pk (k % K)).1 a1 (by show wCe Q nv g (k % K) ≤ _; omega)
    exact flat_no hM hn hg hK (fun i j l => dtp_x (e i) (e j) (e l))
  · refine Classical.byContradiction (fun z => ?_)
    have e : ∀ k, (Q (itr nv k g).1).2.1 = mnF (hFl Q nv g) K * (Q (itr nv k g).1).2.2 := by
      intro k
      rw [itr_mod hK.1 hK.2.1 k]
      have kk := Nat.mod_lt k hK.1
      have a1 := mnF_at (hFl Q nv g) K (k % K) kk
      have a2 := mxF_at (hCe Q nv g) K (k % K) kk
      exact fc_eq (pk (k % K)).1 a1 (by show hCe Q nv g (k % K) ≤ _; omega)
    exact flat_no hM hn hg hK (fun i j l => dtp_y (e i) (e j) (e l))
