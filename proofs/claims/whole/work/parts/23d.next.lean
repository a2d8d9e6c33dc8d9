/-! the next step, on both sides -/
def NX (Q : Nat → Pt3) (fm : Nat → Nat → Bool) (y x z : Nat) : Prop := (fm y z = true ∧ z ≠ x ∧ ∀ u, fm y u = true → u ≠ x → u ≠ z → soonB (Q y) (Q x) (Q z) (Q u) = true) ∨ (z = x ∧ ∀ u, fm y u = true → u = x)
theorem NX_one {Q : Nat → Pt3} {fm : Nat → Nat → Bool} {y x z z' : Nat} (h : NX Q fm y x z) (h' : NX Q fm y x z') : z = z' := by
  rcases h with ⟨a1, a2, a3⟩ | ⟨a1, a2⟩ <;> rcases h' with ⟨b1, b2, b3⟩ | ⟨b1, b2⟩
  · by_cases q : z = z'
    · exact q
    · exact (soon_asy (a3 z' b1 b2 (Ne.symm q)) (b3 z a1 a2 q)).elim
  · exact absurd (b2 z a1) a2
  · exact absurd (a2 z' b1) b2
  · rw [a1, b1]
theorem fm_ad {w h nl : Nat} {ld : Nat → Ln} {m : Nat} {Q : Nat → Pt3} {fm : Nat → Nat → Bool} (hM : Mesh w h nl ld m Q fm) {i j : Nat} (e : fm i j = true) : i < m ∧ j < m ∧ i ≠ j ∧ fm j i = true ∧ (i < j → Pc (onK (KX w h ld) Q) (nl + 4) m i j) ∧ (j < i → Pc (onK (KX w h ld) Q) (nl + 4) m j i) := by
  obtain ⟨a1, a2, a3, -⟩ := hM.2.2.2.1.1 i j e
  have ne : i ≠ j := fun z => by rw [z, adB_i] at a3; cases a3
  refine ⟨a1, a2, ne, by rw [hM.2.2.2.1.2.1]; exact e, fun q => ?_, fun q => ?_⟩
  · rcases adB_t.mp a3 with p | p
    · exact p
    · have := Pc_lt p; omega
  · rcases adB_t.mp a3 with p | p
    · have := Pc_lt p; omega
    · exact p
theorem Mesh_Mx {w h nl : Nat} {ld : Nat → Ln} {m : Nat} {Q : Nat → Pt3} {fm : Nat → Nat → Bool} (hM : Mesh w h nl ld m Q fm) : Mx (KX w h ld) (nl + 4) m Q := Mx_KX hM.1 hM.2.1.1 hM.2.1.2.1 hM.2.1.2.2
theorem nb_fm {w h nl : Nat} {ld : Nat → Ln} {m : Nat} {Q : Nat → Pt3} {fm : Nat → Nat → Bool} (hM : Mesh w h nl ld m Q fm) (y : Nat) : nbOK Q y (fun u => fm y u = true) := by
  intro u v hu hv huv
  have hX := Mesh_Mx hM
  obtain ⟨a1, a2, a3, a4, a5, a6⟩ := fm_ad hM hu
  obtain ⟨b1, b2, b3, b4, b5, b6⟩ := fm_ad hM hv
  have hQ := hM.2.1.1
  have hS := hM.2.1.2.1
  refine ⟨Ne.symm a3, fun q => hh_lt hQ hS q a2, fun q => ?_, fun q => ?_⟩
  · rw [hh_neg]; have := hh_lt hQ hS q a1; omega
  · by_cases up : y < u
    · have up2 := q.mp up
      rcases Nat.lt_or_gt_of_ne huv with w | w
      · have := pl_in hX (b5 up2) up w
        rw [dtp_sw2] at this; omega
      · exact pl_in hX (a5 up) up2 w
    · have d1 : u < y := by omega
      have d2 : v < y := by omega
      rcases Nat.lt_or_gt_of_ne huv with w | w
      · have := pl_in hX (a6 d1) w d2
        rw [dtp_sw] at this; omega
      · have := pl_in hX (b6 d2) w d1
        rw [← dtp_cyc, dtp_cyc] at this
        have e : dtp (Q v) (Q y) (Q u) = dtp (Q y) (Q u) (Q v) := by rw [← dtp_cyc]
        rw [e] at this; exact this
theorem after_ok {w h nl : Nat} {ld : Nat → Ln} {m : Nat} {Q : Nat → Pt3} {fm : Nat → Nat → Bool} (hM : Mesh w h nl ld m Q fm) {n : Nat} {F T fi tw : Nat → Nat} {fw fe fs fr to tn : Nat → Int32} (hX : MsX (adB (KX w h ld) (nl + 4) m Q) fm m n F T fi tw fw fe fs fr to tn) {u x y : Nat → Int32} (hJ : JR m Q u x y) {s : Nat} (hs : s < n) (hf : fm (F s) (T s) = true) : ∃ s', sX8_after (nI s) fw fs fr u x y to tn = some (nI s') ∧ s' < n ∧ F s' = T s ∧ fm (F s') (T s') = true ∧ NX Q fm (T s) (F s) (T s') := by
  obtain ⟨x1, x2, x3, x4, x5, x6, x7, x8⟩ := hX
  obtain ⟨o1, o2, o3⟩ := x1.1 s hs
  obtain ⟨t1, t2, t3⟩ := x6 s hs
  have hm : m ≤ 123 := hM.2.2.1
  have f1 := fi_mono x1 o2
  have f2 := (x1.2.2.2 (T s + 1) (by omega)).1
  have nb := nb_fm hM (T s)
  have uniq : ∀ k l, k < n → l < n → F k = F l → T k = T l → k = l := by
    intro k l hk hl e1 e2
    rcases Nat.lt_trichotomy k l with z | z | z
    · rcases x1.2.1 k l z hl with w | w <;> omega
    · exact z
    · rcases x1.2.1 l k z hk with w | w <;> omega
  have hb : fm (T s) (F s) = true := (fm_ad hM hf).2.2.2.1
  obtain ⟨b, h1, h2⟩ := iter_for (S := Nat) (B := bX8_after_25 fw fs fr u x y to (nI (tw s)) (nI (T s))) (fun j b => (nI b, nI j)) (fi (T s + 1)) (fun j b => b < n ∧ F b = T s ∧ fm (T s) (T b) = true ∧ ((b = tw s ∧ ∀ k, fi (T s) ≤ k → k < j → fm (T s) (T k) = true → k = tw s) ∨ (b ≠ tw s ∧ ∀ k, fi (T s) ≤ k → k < j → fm (T s) (T k) = true → k ≠ tw s → k ≠ b → soonB (Q (T s)) (Q (F s)) (Q (T b)) (Q (T k)) = true))) (fi (T s)) (tw s) ⟨t1, t2, by rw [t3]; exact hb, Or.inl ⟨rfl, fun k a b => by omega⟩⟩ f1 (by omega) (fun j b hj1 hj2 hI => by
    obtain ⟨q1, q2⟩ := (fi_in x1 o2).mp ⟨hj1, hj2⟩
    obtain ⟨i1, i2, i3, i4⟩ := hI
    have e9 := x7.1 j q1
    dsimp only at e9
    rw [q2] at e9
    have sn := soonX_ok (n := n) (by omega) x2 x3 (m := m) (by omega) hM.2.1.1 hJ t1 q1 i1 (fun k hk => ⟨(x1.1 k hk).1, (x1.1 k hk).2.1⟩) (by rw [q2, t2])
    rw [t2, t3] at sn
    have e0 : bX8_after_25 fw fs fr u x y to (nI (tw s)) (nI (T s)) (nI b, nI j) = ob (if fm (T s) (T j) = false then some (nI b) else if j = tw s then some (nI b) else if b = tw s then some (nI j) else if soonB (Q (T s)) (Q (F s)) (Q (T j)) (Q (T b)) = false then some (nI b) else some (nI j)) (fun t => dm1 t (fun v6 => some (0, (v6, nI (j + 1))))) := by
      simp (disch := omega) only [bX8_after_25, dm2, nl_1, nI_add, nI_lt0, nI_clampS, false_or, gd_s, x4 (T s + 1) (by omega), nI_leS, e9, bI_0', nI_eqS, sn, ob, dm1, lt]
      rw [if_neg (by omega)]
    have step : ∀ k, fi (T s) ≤ k → k < j + 1 → k < j ∨ k = j := fun k _ _ => by omega
    cases hF : fm (T s) (T j) with
    | false =>
      rw [hF, if_pos rfl] at e0
      refine ⟨b, e0, i1, i2, i3, ?_⟩
      rcases i4 with ⟨a1, a2⟩ | ⟨a1, a2⟩
      · refine Or.inl ⟨a1, fun k c1 c2 c3 => ?_⟩
        rcases step k c1 c2 with z | z
        · exact a2 k c1 z c3
        · subst z; rw [hF] at c3; cases c3
      · refine Or.inr ⟨a1, fun k c1 c2 c3 => ?_⟩
        rcases step k c1 c2 with z | z
        · exact a2 k c1 z c3
        · subst z; rw [hF] at c3; cases c3
    | true =>
      rw [hF, if_neg (by simp)] at e0
      by_cases ht : j = tw s
      · rw [if_pos ht] at e0
        refine ⟨b, e0, i1, i2, i3, ?_⟩
        rcases i4 with ⟨a1, a2⟩ | ⟨a1, a2⟩
        · refine Or.inl ⟨a1, fun k c1 c2 c3 => ?_⟩
          rcases step k c1 c2 with z | z
          · exact a2 k c1 z c3
          · rw [z]; exact ht
        · refine Or.inr ⟨a1, fun k c1 c2 c3 c4 => ?_⟩
          rcases step k c1 c2 with z | z
          · exact a2 k c1 z c3 c4
          · rw [z] at c4; exact absurd ht c4
      · rw [if_neg ht] at e0
        have jx : T j ≠ F s := fun z => ht (uniq j (tw s) q1 t1 (by rw [q2, t2]) (by rw [z, t3]))
        rcases i4 with ⟨a1, a2⟩ | ⟨a1, a2⟩
        · rw [if_pos a1] at e0
          refine ⟨j, e0, q1, q2, hF, Or.inr ⟨ht, fun k c1 c2 c3 c4 c5 => ?_⟩⟩
          rcases step k c1 c2 with z | z
          · exact absurd (a2 k c1 z c3) c4
          · exact absurd z c5
        · rw [if_neg a1] at e0
          have bx : T b ≠ F s := fun z => a1 (uniq b (tw s) i1 t1 (by rw [i2, t2]) (by rw [z, t3]))
          cases hS : soonB (Q (T s)) (Q (F s)) (Q (T j)) (Q (T b)) with
          | true =>
            rw [hS, if_neg (by simp)] at e0
            refine ⟨j, e0, q1, q2, hF, Or.inr ⟨ht, fun k c1 c2 c3 c4 c5 => ?_⟩⟩
            rcases step k c1 c2 with z | z
            · obtain ⟨k1, k2⟩ := (fi_in x1 o2).mp ⟨c1, show k < fi (T s + 1) by omega⟩
              have kx : T k ≠ F s := fun z => c4 (uniq k (tw s) k1 t1 (by rw [k2, t2]) (by rw [z, t3]))
              by_cases kb : k = b
              · subst kb; exact hS
              · exact soon_tr nb hb hF i3 c3 jx bx kx hS (a2 k c1 z c3 c4 kb)
            · exact absurd z c5
          | false =>
            rw [hS, if_pos rfl] at e0
            refine ⟨b, e0, i1, i2, i3, Or.inr ⟨a1, fun k c1 c2 c3 c4 c5 => ?_⟩⟩
            rcases step k c1 c2 with z | z
            · exact a2 k c1 z c3 c4 c5
            · subst z
              have ne : T b ≠ T k := fun z => c5 (uniq k b q1 i1 (by rw [q2, i2]) z.symm)
              rcases soon_tot nb hb i3 hF bx jx ne with y | y
              · exact y
              · rw [hS] at y; cases y) (fun b hI => by
    simp (disch := omega) only [bX8_after_25, dm2, nl_1, nI_add, nI_lt0, nI_clampS, false_or, gd_s, x4 (T s + 1) (by omega), nI_leS]
    rw [if_pos (by omega)])
  obtain ⟨i1, i2, i3, i4⟩ := h2
  refine ⟨b, ?_, i1, i2, by rw [i2]; exact i3, ?_⟩
  · simp (disch := omega) only [sX8_after, nI_lt0, nI_clampS, false_or, gd_s, lt, x5 s hs, x3 s hs, x4 (T s) (by omega)]
    rw [ob_s h1]
    rfl
  · have all : ∀ v, fm (T s) v = true → ∃ k, fi (T s) ≤ k ∧ k < fi (T s + 1) ∧ k < n ∧ F k = T s ∧ T k = v := by
      intro v hv
      obtain ⟨v1, v2, v3, -⟩ := hM.2.2.2.1.1 _ _ hv
      obtain ⟨k, k1, k2, k3⟩ := x1.2.2.1 _ _ v1 v2 v3
      obtain ⟨k4, k5⟩ := (fi_in x1 o2).mpr ⟨k1, k2⟩
      exact ⟨k, k4, k5, k1, k2, k3⟩
    rcases i4 with ⟨a1, a2⟩ | ⟨a1, a2⟩
    · refine Or.inr ⟨by rw [a1]; exact t3, fun v hv => ?_⟩
      obtain ⟨k, k1, k2, k3, k4, k5⟩ := all v hv
      have := a2 k k1 k2 (by rw [k5]; exact hv)
      rw [← k5, this, t3]
    · refine Or.inl ⟨i3, fun z => a1 (uniq b (tw s) i1 t1 (by rw [i2, t2]) (by rw [z, t3])), fun v hv c1 c2 => ?_⟩
      obtain ⟨k, k1, k2, k3, k4, k5⟩ := all v hv
      have := a2 k k1 k2 (by rw [k5]; exact hv) (fun z => c1 (by rw [← k5, z, t3])) (fun z => c2 (by rw [← k5, z]))
      rw [k5] at this; exact this
