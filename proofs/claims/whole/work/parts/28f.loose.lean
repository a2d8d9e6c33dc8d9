/-! loose pieces: counts of both sides -/
theorem cnt_sm (n : Nat) (b : Nat → Bool) : (cnt n b : Int) = sm n (fun i => if b i = true then 1 else 0) := by
  induction n with
  | zero => rfl
  | succ n ih =>
    show ((cnt n b + (if b n = true then 1 else 0) : Nat) : Int) = sm n (fun i => if b i = true then 1 else 0) + (if b n = true then 1 else 0)
    rw [← ih]
    split <;> omega
theorem looseX {n : Nat} {F T : Nat → Nat} {fm : Nat → Nat → Bool} {fw : Nat → Int32} (hn : n ≤ 684) (hw : hB n fw (fun s => fm (F s) (T s))) : sX8_looseSteps (nI n) fw = some (nI (cnt n (fun s => !fm (F s) (T s)))) := by
  obtain ⟨s, h1, h2⟩ := iter_for (S := Unit) (B := bX8_looseSteps_4 (nI n) fw) (fun i _ => (nI (cnt i (fun s => !fm (F s) (T s))), nI i)) n (fun _ _ => True) 0 () trivial (by omega) (by omega) (fun i s _ hi _ => by
    refine ⟨(), ?_, trivial⟩
    have e : bX8_looseSteps_4 (nI n) fw (nI (cnt i (fun s => !fm (F s) (T s))), nI i) = ob (if ¬ fm (F i) (T i) = false then some (nI (cnt i (fun s => !fm (F s) (T s)))) else some (nI (cnt i (fun s => !fm (F s) (T s)) + 1))) (fun t => dm1 t (fun v3 => some (0, (v3, nI (i + 1))))) := by
      simp (disch := omega) only [bX8_looseSteps_4, dm2, nI_leS, nl_0, nl_1, nI_lt0', nI_clampS, false_or, gd_s, hw i hi, bI_0, lt, nI_add]
      rw [if_neg (by omega)]
    rw [e, cnt_s]
    cases hfw : fm (F i) (T i) <;> simp [ob, dm1]) (fun s _ => by
    simp (disch := omega) only [bX8_looseSteps_4, dm2, nI_leS]
    rw [if_pos (by omega)])
  have h1' : iter (bX8_looseSteps_4 (nI n) fw) FU (nI 0, nI 0) = some (0, (nI (cnt n (fun s => !fm (F s) (T s))), nI n)) := h1
  unfold sX8_looseSteps
  rw [nl_0, ob_s h1']
  rfl
theorem looseM {n : Nat} {A B : Nat → Nat} {fm : Nat → Nat → Bool} {gw : Nat → Int32} (hn : n ≤ 342) (hw : hB n gw (fun s => fm (A s) (B s))) : iter (bX12_count_44 (nI n) gw) FU ((0 : Int32), (0 : Int32)) = some (0, (nI (cnt n (fun s => !fm (A s) (B s))), nI n)) := by
  obtain ⟨s, h1, h2⟩ := iter_for (S := Unit) (B := bX12_count_44 (nI n) gw) (fun i _ => (nI (cnt i (fun s => !fm (A s) (B s))), nI i)) n (fun _ _ => True) 0 () trivial (by omega) (by omega) (fun i s _ hi _ => by
    refine ⟨(), ?_, trivial⟩
    have e : bX12_count_44 (nI n) gw (nI (cnt i (fun s => !fm (A s) (B s))), nI i) = ob (if fm (A i) (B i) = false then some (nI 1) else some (nI 0)) (fun t => dm1 t (fun v3 => some (0, (nI (cnt i (fun s => !fm (A s) (B s))) + v3, nI (i + 1))))) := by
      simp (disch := omega) only [bX12_count_44, dm2, nI_leS, nl_0, nl_1, nI_lt0', nI_clampS, false_or, gd_s, hw i hi, bI_0, lt, nI_add]
      rw [if_neg (by omega)]
    rw [e, cnt_s]
    cases hfw : fm (A i) (B i) <;> simp [ob, dm1, nI_add]) (fun s _ => by
    simp (disch := omega) only [bX12_count_44, dm2, nI_leS]
    rw [if_pos (by omega)])
  rw [nl_0]
  exact h1
theorem loose_one {P : Nat → Nat → Prop} {ad fm : Nat → Nat → Bool} {m n n' : Nat} {F T fi A B : Nat → Nat} (hS : Stps ad m n F T fi) (hP : PcM P m n' A B) (hR : PcR P ad m) (hs : ∀ i j, fm i j = fm j i) : cnt n (fun s => !fm (F s) (T s)) = 2 * cnt n' (fun k => !fm (A k) (B k)) := by
  have h := enum_cs hS hP hR (fun a b => if (!fm a b) = true then 1 else 0)
  have h1 := cnt_sm n (fun s => !fm (F s) (T s))
  have h2 := cnt_sm n' (fun k => !fm (A k) (B k))
  have h3 : sm n' (fun k => (if (!fm (A k) (B k)) = true then (1 : Int) else 0) + (if (!fm (B k) (A k)) = true then 1 else 0)) = sm n' (fun k => if (!fm (A k) (B k)) = true then 1 else 0) + sm n' (fun k => if (!fm (A k) (B k)) = true then 1 else 0) := by
    rw [← sm_add]
    apply sm_congr
    intro i _
    rw [hs (B i) (A i)]
  rw [h3] at h
  omega
theorem steps_two {P : Nat → Nat → Prop} {ad : Nat → Nat → Bool} {m n n' : Nat} {F T fi A B : Nat → Nat} (hS : Stps ad m n F T fi) (hP : PcM P m n' A B) (hR : PcR P ad m) : n = 2 * n' := by
  have h := loose_one (fm := fun _ _ => false) hS hP hR (fun _ _ => rfl)
  have c1 : ∀ k, cnt k (fun _ => !false) = k := by
    intro k
    induction k with
    | zero => rfl
    | succ k ih => rw [cnt_s, ih]; simp
  rw [c1, c1] at h
  exact h
