/-! round the sides: a point inside is not outside -/
noncomputable def cbB (K : Nat → Ln) (m : Nat) (Q : Nat → Pt3) (k c d : Nat) : Bool := @decide (cn1 (onK K Q k) m c d) (Classical.propDecidable _)
theorem cbB_t {K : Nat → Ln} {m : Nat} {Q : Nat → Pt3} {k c d : Nat} : cbB K m Q k c d = true ↔ cn1 (onK K Q k) m c d := @decide_eq_true_iff _ (Classical.propDecidable _)
theorem cbB_f {K : Nat → Ln} {m : Nat} {Q : Nat → Pt3} {k c d : Nat} (h : ¬ cn1 (onK K Q k) m c d) : cbB K m Q k c d = false := by
  cases e : cbB K m Q k c d with
  | false => rfl
  | true => exact absurd (cbB_t.mp e) h
/-- up along side k -/
noncomputable def fk (K : Nat → Ln) (m : Nat) (Q : Nat → Pt3) (k c d : Nat) : Int := ib (cbB K m Q k c d) - ib (cbB K m Q k d c)
noncomputable def fS (K : Nat → Ln) (m : Nat) (Q : Nat → Pt3) (c d : Nat) : Int := fk K m Q 3 c d + fk K m Q 2 c d - fk K m Q 1 c d - fk K m Q 0 c d
theorem cnt_1 {n k : Nat} {b : Nat → Bool} (hk : k < n) (h : b k = true) (h2 : ∀ j, j < n → b j = true → j = k) : cnt n b = 1 := by
  have h1 := cnt_dn hk h
  have h3 : cnt n (upB b k false) = 0 := cnt_0 (fun i hi => by
    by_cases e : i = k
    · rw [e, upB_s]
    · rw [upB_n e]
      cases e2 : b i with
      | false => rfl
      | true => exact absurd (h2 i hi e2) e)
  omega
/-- on a side with lowest joint lo and highest hi -/
theorem fk_sum {K : Nat → Ln} {m : Nat} {Q : Nat → Pt3} {k lo hi : Nat} (h1 : lo < m) (h2 : hi < m) (o1 : onK K Q k lo = true) (o2 : onK K Q k hi = true) (hlh : lo < hi) (hb : ∀ v, v < m → onK K Q k v = true → lo ≤ v ∧ v ≤ hi) {v : Nat} (hv : v < m) : sm m (fun d => fk K m Q k v d) = (if v = lo then 1 else 0) - (if v = hi then 1 else 0) := by
  have e : sm m (fun d => fk K m Q k v d) = (cnt m (fun d => cbB K m Q k v d) : Int) - cnt m (fun d => cbB K m Q k d v) := by
    unfold fk
    rw [sm_sub, sm_cnt, sm_cnt]
  have s : cnt m (fun d => cbB K m Q k v d) = if onK K Q k v = true ∧ v ≠ hi then 1 else 0 := by
    by_cases q : onK K Q k v = true ∧ v ≠ hi
    · rw [if_pos q]
      obtain ⟨b1, b2⟩ := hb v hv q.1
      obtain ⟨d, d1, d2⟩ := succ_ex q.1 o2 (by omega) h2
      exact cnt_1 d2.2.1 (cbB_t.mpr d2) (fun j _ hj => succ_one (cbB_t.mp hj) d2)
    · rw [if_neg q]
      refine cnt_0 (fun d hd => cbB_f (fun c => q ⟨c.2.2.1, fun z => ?_⟩))
      have := (hb d hd c.2.2.2.1).2
      have := c.1
      omega
  have t : cnt m (fun d => cbB K m Q k d v) = if onK K Q k v = true ∧ v ≠ lo then 1 else 0 := by
    by_cases q : onK K Q k v = true ∧ v ≠ lo
    · rw [if_pos q]
      obtain ⟨b1, b2⟩ := hb v hv q.1
      obtain ⟨d, d1, d2⟩ := pred_ex o1 q.1 (by omega) hv
      exact cnt_1 (by have := d2.1; omega) (cbB_t.mpr d2) (fun j _ hj => cn1_pred (cbB_t.mp hj) d2)
    · rw [if_neg q]
      refine cnt_0 (fun d hd => cbB_f (fun c => q ⟨c.2.2.2.1, fun z => ?_⟩))
      have := (hb d hd c.2.2.1).1
      have := c.1
      omega
  rw [e, s, t]
  by_cases z1 : v = lo
  · subst z1
    have : v ≠ hi := by omega
    simp [o1, this]
  · by_cases z2 : v = hi
    · subst z2; simp [o2, z1]
    · by_cases z3 : onK K Q k v = true <;> simp [z1, z2, z3]
/-- the corners by number -/
theorem corners4 {w h nl : Nat} {ld : Nat → Ln} {m : Nat} {Q : Nat → Pt3} {fm : Nat → Nat → Bool} (hM : Mesh w h nl ld m Q fm) : ∃ c10 c01 c11, c10 < m ∧ c01 < m ∧ c11 < m ∧ Q c10 = (w, 0, 1) ∧ Q c01 = (0, h, 1) ∧ Q c11 = (w, h, 1) ∧ 0 < c10 ∧ 0 < c01 ∧ c10 < c11 ∧ c01 < c11 ∧ (∀ v, v < m → onK (KX w h ld) Q 0 v = true → 0 ≤ v ∧ v ≤ c10) ∧ (∀ v, v < m → onK (KX w h ld) Q 1 v = true → c10 ≤ v ∧ v ≤ c11) ∧ (∀ v, v < m → onK (KX w h ld) Q 2 v = true → c01 ≤ v ∧ v ≤ c11) ∧ (∀ v, v < m → onK (KX w h ld) Q 3 v = true → 0 ≤ v ∧ v ≤ c01) := by
  obtain ⟨d1, d2, d3, d4, d5, d6⟩ := id hM.1
  have hJ := hM.2.1
  obtain ⟨m0, e0⟩ := jt_0 hJ
  obtain ⟨b, hb, eb⟩ := jt_c hJ (q := (w, 0, 1)) (Or.inr (Or.inl rfl))
  obtain ⟨c, hc, ec⟩ := jt_c hJ (q := (0, h, 1)) (Or.inr (Or.inr (Or.inl rfl)))
  obtain ⟨d, hd, ed⟩ := jt_c hJ (q := (w, h, 1)) (Or.inr (Or.inr (Or.inr rfl)))
  have ix : ∀ {i j}, i < m → j < m → (plt (Q i) (Q j) ↔ i < j) := fun hi hj => ix_lt hJ.1 hJ.2.1 hi hj
  have key : ∀ v u, v < m → u < m → ¬ plt (Q u) (Q v) → v ≤ u := fun v u hv hu z => by
    rcases Nat.lt_or_ge u v with y | y
    · exact absurd ((ix hu hv).mpr y) z
    · exact y
  refine ⟨b, c, d, hb, hc, hd, eb, ec, ed, (ix m0 hb).mp ?_, (ix m0 hc).mp ?_, (ix hb hd).mp ?_, (ix hc hd).mp ?_, fun v hv o => ⟨by omega, key v b hv hb ?_⟩, fun v hv o => ⟨key b v hb hv ?_, key v d hv hd ?_⟩, fun v hv o => ⟨key c v hc hv ?_, key v d hv hd ?_⟩, fun v hv o => ⟨by omega, key v c hv hc ?_⟩⟩
  · rw [e0, eb, plt_iff]; dsimp only; omega
  · rw [e0, ec, plt_iff]; dsimp only; omega
  · rw [eb, ed, plt_iff]; dsimp only; omega
  · rw [ec, ed, plt_iff]; dsimp only; omega
  · have iw := in_win hM.1 hJ hv
    have e := (on_0 d1 iw.1).mp o
    rw [eb, plt_iff, e]; dsimp only; omega
  · have iw := in_win hM.1 hJ hv
    have e := (on_1 d3 iw.2).mp o
    rw [eb, plt_iff, e]; dsimp only; omega
  · have iw := in_win hM.1 hJ hv
    have e := (on_1 d3 iw.2).mp o
    rw [ed, plt_iff, e]; dsimp only; omega
  · have iw := in_win hM.1 hJ hv
    have e := (on_2 d1 iw.1).mp o
    rw [ec, plt_iff, e]; dsimp only; omega
  · have iw := in_win hM.1 hJ hv
    have e := (on_2 d1 iw.1).mp o
    rw [ed, plt_iff, e]; dsimp only; omega
  · have iw := in_win hM.1 hJ hv
    have e := (on_3 d3 iw.2).mp o
    rw [ec, plt_iff, e]; dsimp only; omega
theorem fS_flow {w h nl : Nat} {ld : Nat → Ln} {m : Nat} {Q : Nat → Pt3} {fm : Nat → Nat → Bool} (hM : Mesh w h nl ld m Q fm) : Flow m fm (fS (KX w h ld) m Q) := by
  obtain ⟨d1, d2, d3, d4, d5, d6⟩ := id hM.1
  have hJ := hM.2.1
  obtain ⟨m0, e0⟩ := jt_0 hJ
  obtain ⟨c10, c01, c11, h1, h2, h3, e1, e2, e3, l1, l2, l3, l4, b0, b1, b2, b3⟩ := corners4 hM
  have iw : ∀ v, v < m → _ := fun v hv => in_win hM.1 hJ hv
  refine ⟨fun c d => by unfold fS fk; omega, fun v hv => ?_, fun c d nz => ?_⟩
  · have s3 := fk_sum (K := KX w h ld) (k := 3) m0 h2 ((on_3 d3 (iw 0 m0).2).mpr (by rw [e0])) ((on_3 d3 (iw c01 h2).2).mpr (by rw [e2])) l2 b3 hv
    have s2 := fk_sum (K := KX w h ld) (k := 2) h2 h3 ((on_2 d1 (iw c01 h2).1).mpr (by rw [e2]; dsimp only; omega)) ((on_2 d1 (iw c11 h3).1).mpr (by rw [e3]; dsimp only; omega)) l4 b2 hv
    have s1 := fk_sum (K := KX w h ld) (k := 1) h1 h3 ((on_1 d3 (iw c10 h1).2).mpr (by rw [e1]; dsimp only; omega)) ((on_1 d3 (iw c11 h3).2).mpr (by rw [e3]; dsimp only; omega)) l3 b1 hv
    have s0 := fk_sum (K := KX w h ld) (k := 0) m0 h1 ((on_0 d1 (iw 0 m0).1).mpr (by rw [e0])) ((on_0 d1 (iw c10 h1).1).mpr (by rw [e1])) l1 b0 hv
    unfold fS
    rw [sm_sub, sm_sub, sm_add, s3, s2, s1, s0]
    omega
  · have any : ∃ k, k < 4 ∧ (cn1 (onK (KX w h ld) Q k) m c d ∨ cn1 (onK (KX w h ld) Q k) m d c) := by
      by_cases z : ∃ k, k < 4 ∧ (cn1 (onK (KX w h ld) Q k) m c d ∨ cn1 (onK (KX w h ld) Q k) m d c)
      · exact z
      · exfalso
        apply nz
        have f : ∀ k, k < 4 → fk (KX w h ld) m Q k c d = 0 := fun k hk => by
          unfold fk
          rw [cbB_f (fun y => z ⟨k, hk, Or.inl y⟩), cbB_f (fun y => z ⟨k, hk, Or.inr y⟩)]; rfl
        unfold fS
        rw [f 3 (by omega), f 2 (by omega), f 1 (by omega), f 0 (by omega)]; rfl
    obtain ⟨k, hk, y | y⟩ := any
    · exact (sd_fm hM hk y).1
    · exact (sd_fm hM hk y).2
/-- a point inside the window, in halves -/
def inQ (w h : Nat) (q : Pt3) : Prop := q.2.2 = 2 ∧ 0 < q.1 ∧ q.1 < 2 * w ∧ 0 < q.2.1 ∧ q.2.1 < 2 * h
theorem inQ_B {w h : Nat} (hw : w ≤ 12) (hh : h ≤ 12) {q : Pt3} (hq : inQ w h q) : pB q := by
  obtain ⟨a, b, c, d, e⟩ := hq
  exact ⟨by omega, by omega, by omega, by omega⟩
/-- the piece of the right side at a point's level -/
theorem right_ex {w h nl : Nat} {ld : Nat → Ln} {m : Nat} {Q : Nat → Pt3} {fm : Nat → Nat → Bool} (hM : Mesh w h nl ld m Q fm) {q : Pt3} (hq : inQ w h q) : ∃ c d, cn1 (onK (KX w h ld) Q 1) m c d ∧ plt (Q c) q ∧ plt q (Q d) ∧ 0 < dtp (Q c) (Q d) q := by
  obtain ⟨d1, d2, d3, d4, d5, d6⟩ := id hM.1
  have hJ := hM.2.1
  obtain ⟨q1, q2, q3, q4, q5⟩ := id hq
  have qB := inQ_B d2 d4 hq
  obtain ⟨c10, c01, c11, h1, h2, h3, e1, e2, e3, l1, l2, l3, l4, b0, b1, b2, b3⟩ := corners4 hM
  have o10 : onK (KX w h ld) Q 1 c10 = true := (on_1 d3 (in_win hM.1 hJ h1).2).mpr (by rw [e1]; dsimp only; omega)
  have o11 : onK (KX w h ld) Q 1 c11 = true := (on_1 d3 (in_win hM.1 hJ h3).2).mpr (by rw [e3]; dsimp only; omega)
  obtain ⟨c, c1, ⟨c2, c3⟩, c4⟩ := last_ex (R := fun a b => a < b) (C := fun v => onK (KX w h ld) Q 1 v = true ∧ plt (Q v) q) (fun a b c _ _ _ x y => by omega) (fun a b _ _ x => by omega) m ⟨c10, h1, o10, by rw [e1, plt_iff]; dsimp only; rw [q1]; omega⟩
  have cl : c < c11 := by
    have := (b1 c c1 c2).2
    rcases Nat.lt_or_ge c c11 with z | z
    · exact z
    · obtain rfl : c = c11 := by omega
      rw [e3, plt_iff] at c3
      dsimp only at c3
      rw [q1] at c3
      omega
  obtain ⟨d, dd1, dd2⟩ := succ_ex c2 o11 cl h3
  have ed := (on_1 d3 (in_win hM.1 hJ dd2.2.1).2).mp dd2.2.2.2.1
  have ec := (on_1 d3 (in_win hM.1 hJ c1).2).mp c2
  have od := (hJ.1 d dd2.2.1).1
  have oc := (hJ.1 c c1).1
  have npd : ¬ plt (Q d) q := fun z => by
    have := c4 d dd2.2.1 ⟨dd2.2.2.2.1, z⟩ (by have := dd2.1; omega)
    have := dd2.1
    omega
  have hwd : q.1 * (Q d).2.2 < (Q d).1 * q.2.2 := by
    rw [ed, q1]
    have := Nat.mul_lt_mul_of_pos_right q3 od
    have e : w * (Q d).2.2 * 2 = 2 * w * (Q d).2.2 := by grind
    omega
  have pd : plt q (Q d) := by
    rw [plt_iff] at npd ⊢
    omega
  refine ⟨c, d, dd2, c3, pd, ?_⟩
  have p := hJ.2.1 c d dd2.1 dd2.2.1
  rw [plt_iff] at p
  have py : (Q c).2.1 * (Q d).2.2 < (Q d).2.1 * (Q c).2.2 := by
    rcases p with p | p
    · exact p
    · exfalso
      have x := p.2
      rw [ec, ed] at x
      have e : w * (Q c).2.2 * (Q d).2.2 = w * (Q d).2.2 * (Q c).2.2 := by grind
      omega
  have e : dtp (Q c) (Q d) q = ((2 * w : Int) - q.1) * (((Q d).2.1 * (Q c).2.2 : Nat) - ((Q c).2.1 * (Q d).2.2 : Nat)) := by
    unfold dtp
    rw [ec, ed, q1]
    simp only [Int.natCast_mul]
    grind
  rw [e]
  exact m_pp (by omega) (by omega)
/-- round the sides a point inside has -1 -/
theorem RQ_side {w h nl : Nat} {ld : Nat → Ln} {m : Nat} {Q : Nat → Pt3} {fm : Nat → Nat → Bool} (hM : Mesh w h nl ld m Q fm) {q : Pt3} (hq : inQ w h q) (hon : ∀ v u, fm v u = true → pcmp (Q v) q ≠ 0) : RQ Q m (fS (KX w h ld) m Q) q = -1 := by
  obtain ⟨d1, d2, d3, d4, d5, d6⟩ := id hM.1
  have hJ := hM.2.1
  have hX := Mesh_Mx hM
  obtain ⟨q1, q2, q3, q4, q5⟩ := id hq
  have qB := inQ_B d2 d4 hq
  obtain ⟨c0, d0, cc, x1, x2, x3⟩ := right_ex hM hq
  have hc0 : c0 < m := by have := cc.1; have := cc.2.1; omega
  have hd0 : d0 < m := cc.2.1
  have iw : ∀ v, v < m → _ := fun v hv => in_win hM.1 hJ hv
  have ix : ∀ {i j}, i < m → j < m → (plt (Q i) (Q j) ↔ i < j) := fun hi hj => ix_lt hJ.1 hJ.2.1 hi hj
  unfold RQ SS
  have e : ∀ c d, c < m → d < m → (if (loQ Q m q c && !loQ Q m q d && decide (0 < dtp (Q c) (Q d) q)) = true then fS (KX w h ld) m Q c d else 0) = (if c = c0 then (if d = d0 then -1 else 0) else 0) := by
    intro c d hc hd
    by_cases hcond : (loQ Q m q c && !loQ Q m q d && decide (0 < dtp (Q c) (Q d) q)) = true
    · rw [if_pos hcond]
      simp only [Bool.and_eq_true, Bool.not_eq_true', decide_eq_true_eq] at hcond
      obtain ⟨⟨z1, z2⟩, z3⟩ := hcond
      have p1 : plt (Q c) q := (of_decide_eq_true z1).2
      have n1 : ¬ (d < m ∧ pcmp (Q d) q < 0) := fun z => by unfold loQ at z2; rw [decide_eq_true z] at z2; cases z2
      have n2 : ¬ plt (Q d) q := fun z => n1 ⟨hd, z⟩
      have cd : c < d := by
        rcases Nat.lt_or_ge c d with z | z
        · exact z
        · exfalso
          apply n2
          rcases Nat.lt_or_ge d c with y | y
          · exact plt_trans (hJ.1 d hd).1 (hJ.1 c hc).1 qB.1 (hJ.2.1 d c y hc) p1
          · obtain rfl : d = c := by omega
            exact p1
      have no : ∀ k, cn1 (onK (KX w h ld) Q k) m d c → False := fun k z => by have := z.1; omega
      -- only the right side
      have f0 : ¬ cn1 (onK (KX w h ld) Q 0) m c d := fun z => by
        have := (on_0 d1 (iw d hd).1).mp z.2.2.2.1
        apply n2
        rw [plt_iff, this, q1]
        have := Nat.mul_pos q4 (hJ.1 d hd).1
        omega
      have f2 : ¬ cn1 (onK (KX w h ld) Q 2) m c d := fun z => by
        have := (on_2 d1 (iw c hc).1).mp z.2.2.1
        rw [plt_iff, this, q1] at p1
        have y := Nat.mul_lt_mul_of_pos_right q5 (hJ.1 c hc).1
        have e : h * (Q c).2.2 * 2 = 2 * h * (Q c).2.2 := by grind
        omega
      have f3 : ¬ cn1 (onK (KX w h ld) Q 3) m c d := fun z => by
        have e1 := (on_3 d3 (iw c hc).2).mp z.2.2.1
        have e2 := (on_3 d3 (iw d hd).2).mp z.2.2.2.1
        have p := hJ.2.1 c d cd hd
        rw [plt_iff, e1, e2] at p
        have e : dtp (Q c) (Q d) q = - ((q.1 : Int) * (((Q d).2.1 * (Q c).2.2 : Nat) - ((Q c).2.1 * (Q d).2.2 : Nat))) := by
          unfold dtp
          rw [e1, e2]
          simp only [Int.natCast_mul]
          grind
        have := Int.mul_nonneg (show (0 : Int) ≤ q.1 by omega) (show (0 : Int) ≤ (((Q d).2.1 * (Q c).2.2 : Nat) : Int) - ((Q c).2.1 * (Q d).2.2 : Nat) by omega)
        omega
      have ev : fS (KX w h ld) m Q c d = - ib (cbB (KX w h ld) m Q 1 c d) := by
        unfold fS fk
        rw [cbB_f f0, cbB_f f2, cbB_f f3, cbB_f (no 0), cbB_f (no 1), cbB_f (no 2), cbB_f (no 3)]
        simp only [ib_f]
        omega
      rw [ev]
      by_cases hr : cn1 (onK (KX w h ld) Q 1) m c d
      · rw [cbB_t.mpr hr]
        -- it is the one at this level
        have pd : plt q (Q d) := by
          have fd := (sd_fm hM (k := 1) (by omega) hr).2
          have := hon d c fd
          have h9 : ¬ pcmp (Q d) q < 0 := n2
          have : 0 < pcmp (Q d) q := by omega
          exact pcmp_gt.mp this
        have same : c = c0 ∧ d = d0 := by
          have k1 : c < d0 := (ix hc hd0).mp (plt_trans (hJ.1 c hc).1 qB.1 (hJ.1 d0 hd0).1 p1 x2)
          have k2 : c0 < d := (ix hc0 hd).mp (plt_trans (hJ.1 c0 hc0).1 qB.1 (hJ.1 d hd).1 x1 pd)
          have ec : c = c0 := by
            rcases Nat.lt_trichotomy c c0 with y | y | y
            · have := hr.2.2.2.2 c0 y k2; rw [cc.2.2.1] at this; cases this
            · exact y
            · have := cc.2.2.2.2 c y k1; rw [hr.2.2.1] at this; cases this
          subst ec
          exact ⟨rfl, succ_one hr cc⟩
        rw [if_pos same.1, if_pos same.2]; rfl
      · rw [cbB_f hr]
        by_cases y1 : c = c0
        · by_cases y2 : d = d0
          · exfalso; rw [y1, y2] at hr; exact hr cc
          · rw [if_pos y1, if_neg y2]; rfl
        · rw [if_neg y1]; rfl
    · rw [if_neg hcond]
      by_cases y1 : c = c0
      · by_cases y2 : d = d0
        · exfalso
          apply hcond
          subst y1 y2
          simp only [Bool.and_eq_true, Bool.not_eq_true', decide_eq_true_eq]
          refine ⟨⟨decide_eq_true ⟨hc, x1⟩, decide_eq_false (fun z => ?_)⟩, x3⟩
          have : plt (Q d) q := z.2
          exact plt_irr _ (plt_trans qB.1 (hJ.1 d hd).1 qB.1 x2 this)
        · rw [if_pos y1, if_neg y2]
      · rw [if_neg y1]
  rw [sm_congr (fun c hc => sm_congr (fun d hd => e c d hc hd))]
  have e2 : ∀ c, c < m → sm m (fun d => if c = c0 then (if d = d0 then (-1 : Int) else 0) else 0) = (if c = c0 then -1 else 0) := by
    intro c hc
    by_cases y : c = c0
    · simp only [y, if_true]
      exact sm_one hd0 (fun _ => -1)
    · simp only [y, if_false]
      exact sm_0 (fun _ _ => rfl)
  rw [sm_congr e2]
  exact sm_one hc0 (fun _ => -1)
theorem om_orb {w h nl : Nat} {ld : Nat → Ln} {m : Nat} {Q : Nat → Pt3} {fm : Nat → Nat → Bool} (hM : Mesh w h nl ld m Q fm) {nv : Nat → Nat → Nat} (hn : NV Q fm nv) {f : Nat → Nat → Int} (hf : Flow m fm f) {p q : St} (hp : isS fm p) (h : Orb nv p q) : om Q m f q.1 q.2 = om Q m f p.1 p.2 := by
  obtain ⟨k, e⟩ := h
  subst e
  induction k with
  | zero => rfl
  | succ k ih =>
    rw [← ih, itr_s]
    exact (om_next hM hn hf (itr_S hM hn hp k)).symm
/-- one step tells for every pane whether the point is in it; it isn't an outside one -/
theorem at_math {w h nl : Nat} {ld : Nat → Ln} {m : Nat} {Q : Nat → Pt3} {fm : Nat → Nat → Bool} (hM : Mesh w h nl ld m Q fm) {nv : Nat → Nat → Nat} (hn : NV Q fm nv) {a b : Nat} (ha : cn1 (onK (KX w h ld) Q 3) m 0 a) (ea : (Q a).1 = 0) (hb : cn1 (onK (KX w h ld) Q 0) m 0 b) (eb : (Q b).2.1 = 0) {q : Pt3} (hq : inQ w h q) (hon : ∀ v u, fm v u = true → pcmp (Q v) q ≠ 0) : ∃ e : St, isS fm e ∧ ¬ Orb nv (0, a) e ∧ ∀ p, isS fm p → ¬ Orb nv (0, a) p → RQ Q m (fl (orbB nv p)) q = ib (orbB nv p e.1 e.2) := by
  obtain ⟨d1, d2, d3, d4, d5, d6⟩ := id hM.1
  have qB := inQ_B d2 d4 hq
  have So : isS fm (0, a) := (sd_fm hM (k := 3) (by omega) ha).1
  obtain ⟨c0, d0, cc, x1, x2, x3⟩ := right_ex hM hq
  obtain ⟨u, v, y1, y2, y3, y4, y5, y6⟩ := near_ex hM qB hon ⟨c0, d0, (sd_fm hM (k := 1) (by omega) cc).1, x1, x2, x3⟩
  refine ⟨(u, v), y2, fun o => ?_, fun p hp hno => ?_⟩
  · have k1 := om_orb hM hn (fS_flow hM) So o
    dsimp only at k1
    rw [om_lft hM (fS_flow hM) ha ea, ← y6 _ (fS_flow hM), RQ_side hM hq hon] at k1
    omega
  · have hW := orbB_WS hM hn hp
    rw [y6 _ (fl_flow hM hn hW), om_pane hM hn hW hb eb y2]
    have : orbB nv p b 0 = false := by
      rw [← W_lft hM hn hW ha ea hb eb]
      cases e : orbB nv p 0 a with
      | false => rfl
      | true => exact absurd (Orb_s hM hn hp (orbB_t.mp e)) hno
    rw [this, ib_f]
    show ib (orbB nv p u v) - 0 = ib (orbB nv p u v)
    omega
