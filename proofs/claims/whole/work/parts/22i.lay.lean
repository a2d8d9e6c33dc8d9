/-! class and reference lay the same mesh -/
def Mesh (w h nl : Nat) (ld : Nat → Ln) (m : Nat) (Q : Nat → Pt3) (fm : Nat → Nat → Bool) : Prop := Dr w h nl ld ∧ Jt w h nl ld m Q ∧ m ≤ 123 ∧ Prn (adB (KX w h ld) (nl + 4) m Q) m (rcB (adB (KX w h ld) (nl + 4) m Q) m) fm ∧ NoLf m fm
/-- the class's steps -/
def MsX (ad fm : Nat → Nat → Bool) (m n : Nat) (F T fi tw : Nat → Nat) (fw fe fs fr to tn : Nat → Int32) : Prop := Stps ad m n F T fi ∧ hN n fr F ∧ hN n to T ∧ (∀ i, i ≤ m → fs i = nI (fi i)) ∧ hN n tn tw ∧ (∀ s, s < n → tw s < n ∧ F (tw s) = T s ∧ T (tw s) = F s) ∧ FmX m n F T fm fw fe ∧ n ≤ 684
/-- the reference's pieces -/
def MsM (P : Nat → Nat → Prop) (fm : Nat → Nat → Bool) (m n : Nat) (A B : Nat → Nat) (fw fr to : Nat → Int32) : Prop := PcM P m n A B ∧ hN n fr A ∧ hN n to B ∧ hB n fw (fun k => fm (A k) (B k)) ∧ n ≤ 342
theorem Stps_to {ad ad' : Nat → Nat → Bool} {m n : Nat} {F T fi : Nat → Nat} (h : Stps ad m n F T fi) (e : ∀ i j, i < m → j < m → ad i j = ad' i j) : Stps ad' m n F T fi := by
  obtain ⟨h1, h2, h3, h4⟩ := h
  refine ⟨fun s hs => ?_, h2, fun a b ha hb hab => h3 a b ha hb (by rw [e a b ha hb]; exact hab), h4⟩
  obtain ⟨a1, a2, a3⟩ := h1 s hs
  exact ⟨a1, a2, by rw [← e _ _ a1 a2]; exact a3⟩
theorem partX_ok {w h nl : Nat} {ld : Nat → Ln} (hD : Dr w h nl ld) {m : Nat} {Q : Nat → Pt3} (hJ : Jt w h nl ld m Q) (hm : m ≤ 123) {u x y X Y U V : Nat → Int32} (hR : JR m Q u x y) (hA : ∀ k, k < nl + 4 → LnAt X Y U V k (KX w h ld k)) (st : Int32) (fw fe fs fr re to tn : Nat → Int32) (H L : Nat → Int64) : ∃ (fm : Nat → Nat → Bool) (n : Nat) (F T fi tw : Nat → Nat) (fw' fe' fs' fr' re' to' tn' : Nat → Int32) (H' L' : Nat → Int64), sX8_part st fw fe fs fr (nI m) u x y H L re to tn (nI (nl + 4)) U V X Y = some (nI n, fw', fe', fs', fr', H', L', re', to', tn') ∧ Mesh w h nl ld m Q fm ∧ MsX (adB (KX w h ld) (nl + 4) m Q) fm m n F T fi tw fw' fe' fs' fr' to' tn' := by
  have hM := Mx_KX hD hJ.1 hJ.2.1 hJ.2.2
  have m0 := (jt_0 hJ).1
  obtain ⟨H1, L1, p1, p2⟩ := part0_ok (m := m) (by omega) H L
  obtain ⟨H2, L2, p3, p4⟩ := part1_ok (N := nl + 4) (m := m) (on := onK (KX w h ld) Q) hM.1 (by omega) (fun k i hk hi => lies_ok (hM.2.1 k hk).1 (hJ.1 i hi) (by omega) (by have := hM.1; omega) (hR i hi) (hA k hk)) H1 L1 p2
  have ead : ∀ i j, i < m → j < m → bt H2 L2 i j = adB (KX w h ld) (nl + 4) m Q i j := by
    intro i j hi hj
    have h1 := p4 i j hi (by omega)
    have h2 := @adB_t (KX w h ld) (nl + 4) m Q i j
    cases e1 : bt H2 L2 i j <;> cases e2 : adB (KX w h ld) (nl + 4) m Q i j
    · rfl
    · rw [h1.mpr (h2.mp e2)] at e1; cases e1
    · rw [h2.mpr (h1.mp e1)] at e2; cases e2
    · rfl
  have cap : CapS (bt H2 L2) m := Cap_Pc hM (fun a b ha hb hab => (p4 a b ha (by omega)).mp hab)
  obtain ⟨n, F, T, fi, fr', fs', to', l1, l2, l3, l4, l5, l6⟩ := list_ok (by omega) cap st fr fs to
  have l2' := Stps_to l2 ead
  have hy : symB (adB (KX w h ld) (nl + 4) m Q) m := fun i j _ _ => adB_s _ _ _ _ i j
  obtain ⟨tn', tw, q1, q2, q3⟩ := pair_ok l2' (by omega) (by omega) hy l5 l3 l4 tn
  obtain ⟨b, re', r1, r2, r3, r4, r5⟩ := reach_ok l2'.1 (by omega) m0 (by omega) l3 l4 re
  have eb : ∀ i, i < m → b i = rcB (adB (KX w h ld) (nl + 4) m Q) m i := by
    intro i hi
    have cl : Rch (adR (adB (KX w h ld) (nl + 4) m Q) m) 0 i → b i = true := fun hr => hr (fun v => b v = true) r3 (fun u v hu hv => by
      obtain ⟨s, s1, s2, s3⟩ := l2'.2.2.1 u v hv.1 hv.2.1 hv.2.2
      have := r5 s s1
      rw [s2, s3] at this
      exact this hu)
    cases e1 : b i <;> cases e2 : rcB (adB (KX w h ld) (nl + 4) m Q) m i
    · rfl
    · rw [cl (rcB_t.mp e2)] at e1; cases e1
    · rw [rcB_t.mpr (r4 i hi e1)] at e2; cases e2
    · rfl
  have r2' : hB m re' (rcB (adB (KX w h ld) (nl + 4) m Q) m) := fun s hs => by rw [r2 s hs, eb s hs]
  obtain ⟨fw1, fe1, f1, f2, f3⟩ := firm0_ok l2' (by omega) (by omega) l5 l3 r2' fw fe
  have P0 := Prn_0 l2' hy m0 (b := rcB (adB (KX w h ld) (nl + 4) m Q) m) (by rw [← eb 0 m0]; exact r3) (fun i hi hb => rcB_t.mp hb) (fun s hs hb => by
    obtain ⟨o1, o2, o3⟩ := l2'.1 s hs
    rw [← eb _ o1] at hb
    rw [← eb _ o2]
    exact r5 s hs hb)
  have F0 : FmX m n F T (fun i j => decide (i < m) && decide (j < m) && rcB (adB (KX w h ld) (nl + 4) m Q) m i && adB (KX w h ld) (nl + 4) m Q i j) fw1 fe1 := by
    refine ⟨fun s hs => ?_, fun i hi => ?_⟩
    · obtain ⟨o1, o2, o3⟩ := l2'.1 s hs
      rw [f2 s hs]
      simp [o1, o2, o3]
    · rw [f3 i hi]
      congr 1
      exact cnt_congr (fun j hj => by simp [hi, hj])
  obtain ⟨fm, fw', fe', g1, g2, g3, g4⟩ := dead_ok l2' (by omega) (by omega) (adB_i _ _ _ _) (sdG_0 hD hJ) l3 l4 q2 q3 P0 F0
  refine ⟨fm, n, F, T, fi, tw, fw', fe', fs', fr', re', to', tn', H2, L2, ?_, ⟨hD, hJ, hm, g2, g3⟩, l2', l3, l4, l5, q2, q3, g4, l6⟩
  unfold sX8_part
  rw [ob_s p1]
  show ob (iter (bX8_part_35 (nI m) u x y (nI (nl + 4)) U V X Y) FU ((0 : Int32), H1, L1)) _ = _
  rw [ob_s p3]
  show ob (sX8_listSteps st fs fr (nI m) H2 L2 to) _ = _
  rw [ob_s l1]
  show ob (sX8_pairSteps (nI n) fs' fr' to' tn) _ = _
  rw [ob_s q1]
  show ob (sX8_reachFromSides (nI n) fr' (nI m) re to') _ = _
  rw [ob_s r1]
  show ob (sX8_firmWhatIsReached (nI n) fw fe fs' fr' (nI m) re') _ = _
  rw [ob_s f1]
  show ob (sX8_loosenDeadEnds (nI n) fw1 fe1 fr' to' tn') _ = _
  rw [ob_s g1]
  rfl
theorem isSd_ok {w h : Nat} (hw : w ≤ 12) (hh : h ≤ 12) {p : Pt3} (hp : pOK p) {i : Nat} (hi : i < 240) {d x y : Nat → Int64} (a : At3L d x y i p) : sX10_isSide (nI i) (nI w) (nI h) d x y = some (bI (decide (p.1 = 0 ∨ p.2.1 = 0 ∨ p.1 = w * p.2.2 ∨ p.2.1 = h * p.2.2))) := by
  obtain ⟨a1, a2, a3⟩ := a
  obtain ⟨p1, p2, p3, p4, -⟩ := hp
  have m1 := m12 hw p2
  have m2 := m12 hh p2
  have z0 : (0 : Int64) = lN 0 := rfl
  have ml : ∀ v : Nat, v ≤ 12 → (nI v).toInt64 * lN p.2.2 = lN (v * p.2.2) := fun v hv => by
    rw [nI_l (by omega), ← lz_n, ← lz_n, lz_mul, ← lz_n, Int.natCast_mul]
  have le : ∀ a b : Nat, a < 1000000 → b < 1000000 → (lg_cmp (lN a) (lN b) = 0 ↔ a = b) := fun a b ha hb => (lg_cmp_eq _ _).trans (pk_lEQ (by omega) (by omega))
  have c1 := le p.1 0 (by omega) (by omega)
  have c2 := le p.2.1 0 (by omega) (by omega)
  have c3 := le p.1 (w * p.2.2) (by omega) (by omega)
  have c4 := le p.2.1 (h * p.2.2) (by omega) (by omega)
  simp (disch := omega) only [sX10_isSide, nI_lt0, nI_clampS, false_or, gd_s, a1, a2, a3, ml w hw, ml h hh, z0, c1, c2, c3, c4]
  by_cases q1 : p.1 = 0
  · rw [if_pos q1, decide_eq_true (Or.inl q1)]; rfl
  · rw [if_neg q1]
    by_cases q2 : p.2.1 = 0
    · rw [if_pos q2, decide_eq_true (Or.inr (Or.inl q2))]; rfl
    · rw [if_neg q2]
      by_cases q3 : p.1 = w * p.2.2
      · rw [if_pos q3, decide_eq_true (Or.inr (Or.inr (Or.inl q3)))]; rfl
      · rw [if_neg q3]
        by_cases q4 : p.2.1 = h * p.2.2
        · rw [if_neg (fun z => z q4), decide_eq_true (Or.inr (Or.inr (Or.inr q4)))]; rfl
        · rw [if_pos q4, decide_eq_false (by omega)]; rfl
theorem mloosen_ok {w h nl : Nat} {ld : Nat → Ln} (hD : Dr w h nl ld) {m : Nat} {Q : Nat → Pt3} (hJ : Jt w h nl ld m Q) (hm : m ≤ 123) {d x y : Nat → Int64} (hR : JL m Q d x y) {n : Nat} {A B : Nat → Nat} {f t : Nat → Int32} (hP : PcM (Pc (onK (KX w h ld) Q) (nl + 4) m) m n A B) (hf : hN n f A) (ht : hN n t B) (hn : n ≤ 342) (fw : Nat → Int32) : ∃ (fm : Nat → Nat → Bool) (fw' : Nat → Int32), sX10_loosen (nI w) (nI h) (nI m) (nI n) d fw f t x y = some fw' ∧ Mesh w h nl ld m Q fm ∧ hB n fw' (fun k => fm (A k) (B k)) := by
  obtain ⟨d1, d2, d3, d4, d5, d6⟩ := id hD
  have m0 := (jt_0 hJ).1
  have hPR := adB_R (KX w h ld) (nl + 4) m Q
  obtain ⟨r0, g1, g2⟩ := iter_for (S := Nat → Int32) (B := bX10_loosen_9 (nI w) (nI h) (nI m) d x y) (fun i s => (nI i, s)) m (fun i s => hB i s (fun k => decide ((Q k).1 = 0 ∨ (Q k).2.1 = 0 ∨ (Q k).1 = w * (Q k).2.2 ∨ (Q k).2.1 = h * (Q k).2.2))) 0 (fun _ => 0) (fun k hk => absurd hk (Nat.not_lt_zero _)) (by omega) (by omega) (fun i s _ hi hI => by
    have e := isSd_ok d2 d4 (hJ.1 i hi) (show i < 240 by omega) (hR i hi)
    refine ⟨upd s i (bI (decide ((Q i).1 = 0 ∨ (Q i).2.1 = 0 ∨ (Q i).1 = w * (Q i).2.2 ∨ (Q i).2.1 = h * (Q i).2.2))), ?_, fun k hk => ?_⟩
    · simp (disch := omega) only [bX10_loosen_9, dm2, nI_leS, e, ob, dm1, nI_lt0, nI_clampS, false_or, gd_s, lt, nar_bb, nI_1]
      rw [if_neg (by omega)]
    · by_cases q : k = i
      · subst q; rw [pk_us]
      · rw [pk_un q]; exact hI k (by omega)) (fun s _ => by
    simp (disch := omega) only [bX10_loosen_9, dm2, nI_leS]
    rw [if_pos (by omega)])
  obtain ⟨b, r1, v1, e1, e2, e3, e4, e5⟩ := mreach_ok hP hPR (by omega) (by omega) hf ht g2
  have sdr : ∀ a, a < m → decide ((Q a).1 = 0 ∨ (Q a).2.1 = 0 ∨ (Q a).1 = w * (Q a).2.2 ∨ (Q a).2.1 = h * (Q a).2.2) = true → Rch (adR (adB (KX w h ld) (nl + 4) m Q) m) 0 a := by
    intro a ha hs
    have iw := in_win hD hJ ha
    rcases of_decide_eq_true hs with z | z | z | z
    · exact side_reach hD hJ (k := 3) (by omega) ha ((on_3 d3 iw.2).mpr z)
    · exact side_reach hD hJ (k := 0) (by omega) ha ((on_0 d1 iw.1).mpr z)
    · exact side_reach hD hJ (k := 1) (by omega) ha ((on_1 d3 iw.2).mpr z)
    · exact side_reach hD hJ (k := 2) (by omega) ha ((on_2 d1 iw.1).mpr z)
  have eb : ∀ i, i < m → b i = rcB (adB (KX w h ld) (nl + 4) m Q) m i := by
    intro i hi
    have cl : Rch (adR (adB (KX w h ld) (nl + 4) m Q) m) 0 i → b i = true := fun hr => hr (fun v => b v = true) (e3 0 m0 (decide_eq_true (Or.inl (by rw [(jt_0 hJ).2])))) (fun u v hu hv => by
      rcases (hPR u v hv.1 hv.2.1).mp hv.2.2 with p | p
      · obtain ⟨s, s1, s2, s3⟩ := hP.2.2 u v p
        have := e5 s s1
        rw [s2, s3] at this
        rw [← this]; exact hu
      · obtain ⟨s, s1, s2, s3⟩ := hP.2.2 v u p
        have := e5 s s1
        rw [s2, s3] at this
        rw [this]; exact hu)
    cases q1 : b i <;> cases q2 : rcB (adB (KX w h ld) (nl + 4) m Q) m i
    · rfl
    · rw [cl (rcB_t.mp q2)] at q1; cases q1
    · obtain ⟨a, a1, a2, a3⟩ := e4 i hi q1
      rw [rcB_t.mpr (Rch_trans (sdr a a1 a2) a3)] at q2; cases q2
    · rfl
  have e2' : hB m r1 (rcB (adB (KX w h ld) (nl + 4) m Q) m) := fun s hs => by rw [e2 s hs, eb s hs]
  obtain ⟨w1, g3, g4⟩ := iter_for (S := Nat → Int32) (B := bX10_loosen_99 (nI m) (nI n) f r1) (fun i s => (nI i, s)) n (fun i s => hB i s (fun k => decide (A k < m) && decide (B k < m) && rcB (adB (KX w h ld) (nl + 4) m Q) m (A k) && adB (KX w h ld) (nl + 4) m Q (A k) (B k))) 0 fw (fun k hk => absurd hk (Nat.not_lt_zero _)) (by omega) (by omega) (fun i s _ hi hI => by
    obtain ⟨q1, q2, q3⟩ := hP.1 i hi
    have q4 : A i < m := by omega
    have q5 : adB (KX w h ld) (nl + 4) m Q (A i) (B i) = true := adB_t.mpr (Or.inl q3)
    refine ⟨upd s i (bI (rcB (adB (KX w h ld) (nl + 4) m Q) m (A i))), ?_, fun k hk => ?_⟩
    · simp (disch := omega) only [bX10_loosen_99, dm2, nI_leS, nI_lt0, nI_clampS, false_or, gd_s, hf i hi, e2' (A i) q4, lt, nI_1, nar_bb]
      rw [if_neg (by omega)]
    · by_cases q : k = i
      · subst q; rw [pk_us]; simp [q4, q2, q5]
      · rw [pk_un q]; exact hI k (by omega)) (fun s _ => by
    simp (disch := omega) only [bX10_loosen_99, dm2, nI_leS]
    rw [if_pos (by omega)])
  have hst : ∀ i j, adR (adB (KX w h ld) (nl + 4) m Q) m i j → rcB (adB (KX w h ld) (nl + 4) m Q) m i = true → rcB (adB (KX w h ld) (nl + 4) m Q) m j = true := fun i j hr hb => rcB_t.mpr (Rch_step (rcB_t.mp hb) hr)
  have P0 : Prn (adB (KX w h ld) (nl + 4) m Q) m (rcB (adB (KX w h ld) (nl + 4) m Q) m) (fun i j => decide (i < m) && decide (j < m) && rcB (adB (KX w h ld) (nl + 4) m Q) m i && adB (KX w h ld) (nl + 4) m Q i j) := by
    refine ⟨fun i j hz => ?_, fun i j => ?_, fun G hG i j hg => ?_, fun i j hz => ?_⟩
    · simp only [Bool.and_eq_true, decide_eq_true_eq] at hz
      exact ⟨hz.1.1.1, hz.1.1.2, hz.2, hz.1.2⟩
    · dsimp only
      rw [adB_s]
      cases ha : adB (KX w h ld) (nl + 4) m Q j i with
      | false => simp
      | true =>
        obtain ⟨l1, l2⟩ := adB_lt ha
        have x1 := hst j i ⟨l1, l2, ha⟩
        have x2 := hst i j ⟨l2, l1, by rw [adB_s]; exact ha⟩
        cases q1 : rcB (adB (KX w h ld) (nl + 4) m Q) m i <;> cases q2 : rcB (adB (KX w h ld) (nl + 4) m Q) m j <;> simp_all
    · obtain ⟨x1, x2, x3, x4, -⟩ := hG i j hg
      simp [x1, x2, x3, x4]
    · simp only [Bool.and_eq_true, decide_eq_true_eq] at hz
      have key := rcB_t.mp hz.1.2 (fun v => rcB (adB (KX w h ld) (nl + 4) m Q) m v = true ∧ Rch (fun x y => (decide (x < m) && decide (y < m) && rcB (adB (KX w h ld) (nl + 4) m Q) m x && adB (KX w h ld) (nl + 4) m Q x y) = true) 0 v) ⟨rcB_t.mpr (Rch_refl _ _), Rch_refl _ _⟩ (fun u v hu hv => by
        refine ⟨hst u v hv hu.1, Rch_step hu.2 ?_⟩
        simp [hv.1, hv.2.1, hv.2.2, hu.1])
      exact key.2
  obtain ⟨fm, w2, v2, k1, k2, k3, k4⟩ := mdead_ok hP hPR (by omega) (by omega) (sdG_0 hD hJ) hf ht P0 g4
  refine ⟨fm, w2, ?_, ⟨hD, hJ, hm, k2, k3⟩, k4⟩
  unfold sX10_loosen
  rw [gd_s ⟨nI_pos (by omega), by rw [nI_clampS (by omega)]; omega⟩]
  show ob (iter (bX10_loosen_9 (nI w) (nI h) (nI m) d x y) FU (nI 0, (fun _ => 0))) _ = _
  rw [ob_s g1]
  show ob (iter (bX10_loosen_33 (nI m) (nI n) f t) FU ((1 : Int32), r0)) _ = _
  rw [ob_s e1]
  show ob (iter (bX10_loosen_99 (nI m) (nI n) f r1) FU (nI 0, fw)) _ = _
  rw [ob_s g3]
  show ob (iter (bX10_loosen_129 (nI n) f t) FU ((1 : Int32), w1)) _ = _
  rw [ob_s k1]
  rfl
