/-! joint, piece, touch -/
theorem ix_c {i n : Nat} (h : i < n) (hn : n < 2147483648) : ¬ (nI i < 0 ∨ n ≤ (nI i).toNatClampNeg) ∧ (nI i).toNatClampNeg = i := ⟨ix_ok h (by omega), nI_clampS (by omega)⟩
theorem ends_q {w h nl : Nat} {ld : Nat → Ln} {m : Nat} {Q : Nat → Pt3} {fm : Nat → Nat → Bool} {nv : Nat → Nat → Nat} {a np : Nat} {gs : Nat → St} {pn : Nat → Nat → Option Nat} {n : Nat} {u x y fw fe fs fr to tn pa sa wa : Nat → Int32} {n' : Nat} {d x2 y2 : Nat → Int64} {gw gr gt pb fa : Nat → Int32} (hw : Wd w h nl ld m Q fm nv a np gs pn) (hx : SdX w h nl ld m Q fm nv a np gs pn n u x y fw fe fs fr to tn pa sa wa) (hm : SdM w h nl ld m Q fm nv a np gs pn n' d x2 y2 gw gr gt pb fa) {i : Nat} (hi : i < m) : ∃ r1 r2 : Nat, sX8_endsAt (nI i) fs = some (nI r1) ∧ sX10_ends (nI i) (0 : Int32) (nI n') gw gr gt = some (nI r1) ∧ sX8_firmEndsAt (nI i) fe = some (nI r2) ∧ sX10_ends (nI i) (1 : Int32) (nI n') gw gr gt = some (nI r2) := by
  obtain ⟨F, T, fi, tw, st, wk, x1, x2, x3, x4⟩ := hx
  obtain ⟨A, B, cs, m1, m2, m3, m4⟩ := hm
  obtain ⟨w1, w2, w3, w4, w5, w6⟩ := hw
  have m123 := w1.2.2.1
  obtain ⟨s1, s2, s3, s4, s5, s6, s7, s8⟩ := x2
  obtain ⟨t1, t2, t3, t4, t5⟩ := m2
  have hA : ∀ s, s < n' → A s < 1000 := fun s hs => by have := t1.1 s hs; omega
  have hB1 : ∀ s, s < n' → B s < 1000 := fun s hs => by have := t1.1 s hs; omega
  have e0 := ends_ok (m := m) (by omega) hA hB1 t2 t3 t4 (j := i) (by omega) false
  have e1 := ends_ok (m := m) (by omega) hA hB1 t2 t3 t4 (j := i) (by omega) true
  have d1 := ends_deg t1 (adB_R (KX w h ld) (nl + 4) m Q) w1.2.2.2.1.2.1 (fun i j _ _ e => (w1.2.2.2.1.1 i j e).2.2.1) hi
  have ads : ∀ i j, adB (KX w h ld) (nl + 4) m Q i j = adB (KX w h ld) (nl + 4) m Q j i := fun i j => adB_s _ _ _ _ i j
  have d0 := ends_deg t1 (adB_R (KX w h ld) (nl + 4) m Q) ads (fun i j _ _ e => e) hi
  refine ⟨cnt m (adB (KX w h ld) (nl + 4) m Q i), cnt m (fm i), ?_, ?_, ?_, ?_⟩
  · obtain ⟨i1, c1⟩ := ix_c (i := i) (n := 129) (by omega) (by omega)
    obtain ⟨i2, c2⟩ := ix_c (i := i + 1) (n := 129) (by omega) (by omega)
    have f1 := fi_mono s1 hi
    have f2 := (s1.2.2.2 (i + 1) (by omega)).1
    unfold sX8_endsAt
    rw [nl_1, nI_add, gd_s i2, gd_s i1, c1, c2, s4 _ (by omega), s4 _ (by omega), pk_sub f1]
    have k1 : cnt n (fun s => decide (fi i ≤ s ∧ s < fi (i + 1))) = fi (i + 1) - fi i := cnt_Ico f1 f2
    have k2 : cnt n (fun s => decide (fi i ≤ s ∧ s < fi (i + 1))) = cnt m (adB (KX w h ld) (nl + 4) m Q i) := by
      apply cnt_bij T
      · intro k hk e
        obtain ⟨_, e2⟩ := (fi_in s1 hi).mp (of_decide_eq_true e)
        have := s1.1 k hk
        rw [e2] at this
        exact ⟨this.2.1, this.2.2⟩
      · intro k l hk hl ek el e
        obtain ⟨_, e2⟩ := (fi_in s1 hi).mp (of_decide_eq_true ek)
        obtain ⟨_, e3⟩ := (fi_in s1 hi).mp (of_decide_eq_true el)
        exact St_uniq s1 hk hl (by rw [e2, e3]) e
      · intro j hj e
        obtain ⟨s, z1, z2, z3⟩ := s1.2.2.1 i j hi hj e
        exact ⟨s, z1, decide_eq_true ((fi_in s1 hi).mpr ⟨z1, z2⟩), z3⟩
    rw [← k1, k2]
  · rw [← d0]
    have e0' : sX10_ends (nI i) (0 : Int32) (nI n') gw gr gt = _ := e0
    rw [e0']
    congr 2
    apply cnt_congr
    intro k hk
    have := (t1.1 k hk)
    have z : adB (KX w h ld) (nl + 4) m Q (A k) (B k) = true := (adB_R (KX w h ld) (nl + 4) m Q _ _ (by omega) (by omega)).mpr (Or.inl this.2.2)
    rw [z]
    simp
  · obtain ⟨i1, c1⟩ := ix_c (i := i) (n := 128) (by omega) (by omega)
    unfold sX8_firmEndsAt
    rw [gd_s i1, c1, s7.2 i hi]
  · rw [← d1]
    have e1' : sX10_ends (nI i) (1 : Int32) (nI n') gw gr gt = _ := e1
    rw [e1']
    congr 2
    apply cnt_congr
    intro k hk
    simp
theorem joint_q {w h nl : Nat} {ld : Nat → Ln} {m : Nat} {Q : Nat → Pt3} {fm : Nat → Nat → Bool} {nv : Nat → Nat → Nat} {a np : Nat} {gs : Nat → St} {pn : Nat → Nat → Option Nat} {n : Nat} {u x y fw fe fs fr to tn pa sa wa : Nat → Int32} {n' : Nat} {d x2 y2 : Nat → Int64} {gw gr gt pb fa : Nat → Int32} (hw : Wd w h nl ld m Q fm nv a np gs pn) (hx : SdX w h nl ld m Q fm nv a np gs pn n u x y fw fe fs fr to tn pa sa wa) (hm : SdM w h nl ld m Q fm nv a np gs pn n' d x2 y2 gw gr gt pb fa) (f : Nat → Int32) (a1 a2 : Int32) : ∃ r g, sX9_joint a1 a2 f (nI w) (nI m) u x y fe fs = some (r, g) ∧ sX12_joint a1 a2 1 f (nI m) (nI n') d gw gr gt x2 y2 = some (r, g) := by
  obtain ⟨F, T, fi, tw, st, wk, x1, _, _, _⟩ := id hx
  obtain ⟨A, B, cs, m1, _, _, _⟩ := id hm
  obtain ⟨w1, _, _, _, _, _⟩ := id hw
  have dr := w1.1
  have th := there1 dr.1 dr.2.1
  have m123 := w1.2.2.1
  unfold sX9_joint
  rw [ob_s th]
  unfold sX12_joint
  rw [if_neg (show ¬ (1 : Int32) = 0 by decide)]
  rcases nI_or a1 m (by omega) with ⟨i, hi, e⟩ | ho
  · subst e
    obtain ⟨h1, h2, _, _⟩ := hasJ (m := m) (by omega) hi
    obtain ⟨p1, p2, p3, p4, p5⟩ := w1.2.1.1 i hi
    obtain ⟨q1, q2, q3⟩ := x1 i hi
    obtain ⟨l1, l2, l3⟩ := m1 i hi
    obtain ⟨ia, ca⟩ := ix_c (i := i) (n := 129) (by omega) (by omega)
    obtain ⟨ib, cb⟩ := ix_c (i := i) (n := 240) (by omega) (by omega)
    have ib' : ¬ (nI i < 0 ∨ 240 ≤ i) := by rw [cb] at ib; exact ib
    show ∃ r g, ob (sX9_hasJoint (nI i) (nI m)) _ = some (r, g) ∧ ob (sX12_isJoint (nI i) (nI m)) _ = some (r, g)
    rw [ob_s h1, ob_s h2]
    rcases nI_or a2 6 (by omega) with ⟨k, hk, e⟩ | h6
    · subst e
      obtain ⟨gx, gx0, ax1, ax2, ax3, ax4, ax5, ax6⟩ := frac_q p1 p2 p3
      obtain ⟨gy, gy0, ay1, ay2, ay3, ay4, ay5, ay6⟩ := frac_q p1 p2 p4
      obtain ⟨r1, r2, e1, e2, e3, e4⟩ := ends_q hw hx hm hi
      have : k = 0 ∨ k = 1 ∨ k = 2 ∨ k = 3 ∨ k = 4 ∨ k = 5 := by omega
      rcases this with e | e | e | e | e | e <;> subst e
      · refine ⟨nI ((Q i).1 / gx), f, ?_, ?_⟩
        · show gd (¬ (nI i < 0 ∨ 129 ≤ (nI i).toNatClampNeg)) (gd (¬ (nI i < 0 ∨ 129 ≤ (nI i).toNatClampNeg)) (ob (sX4_above (x (nI i).toNatClampNeg) (u (nI i).toNatClampNeg)) (fun o => dm1 o (fun r3 => some (r3, f))))) = _
          rw [gd_s ia, gd_s ia, ca, q1, q3, ob_s ax1]; rfl
        · show ob (gd (¬ (nI i < 0 ∨ 240 ≤ (nI i).toNatClampNeg)) (some (x2 (nI i).toNatClampNeg))) (fun t => dm1 t (fun v14 => gd (¬ (nI i < 0 ∨ 240 ≤ (nI i).toNatClampNeg)) (ob (sX12_gcd v14 (d (nI i).toNatClampNeg)) (fun o => dm1 o (fun r15 => gd (¬ r15 = 0) (some (((v14 / r15).toInt32), f))))))) = _
          rw [gd_s ib, cb, l1, l3]
          show gd (¬ (nI i < 0 ∨ 240 ≤ i)) (ob (sX12_gcd (lN (Q i).1) (lN (Q i).2.2)) (fun o => dm1 o (fun r15 => gd (¬ r15 = 0) (some (((lN (Q i).1 / r15).toInt32), f))))) = _
          rw [gd_s ib', ob_s ax3]
          show gd (¬ lN gx = 0) (some ((lN (Q i).1 / lN gx).toInt32, f)) = _
          rw [gd_s ax4, ax5]
      · refine ⟨nI ((Q i).2.2 / gx), f, ?_, ?_⟩
        · show gd (¬ (nI i < 0 ∨ 129 ≤ (nI i).toNatClampNeg)) (gd (¬ (nI i < 0 ∨ 129 ≤ (nI i).toNatClampNeg)) (ob (sX4_below (x (nI i).toNatClampNeg) (u (nI i).toNatClampNeg)) (fun o => dm1 o (fun r3 => some (r3, f))))) = _
          rw [gd_s ia, gd_s ia, ca, q1, q3, ob_s ax2]; rfl
        · show ob (gd (¬ (nI i < 0 ∨ 240 ≤ (nI i).toNatClampNeg)) (some (x2 (nI i).toNatClampNeg))) (fun t => dm1 t (fun v14 => gd (¬ (nI i < 0 ∨ 240 ≤ (nI i).toNatClampNeg)) (ob (sX12_gcd v14 (d (nI i).toNatClampNeg)) (fun o => dm1 o (fun r15 => gd (¬ (nI i < 0 ∨ 240 ≤ (nI i).toNatClampNeg)) (gd (¬ r15 = 0) (some ((((d (nI i).toNatClampNeg) / r15).toInt32), f)))))))) = _
          rw [gd_s ib, cb, l1, l3]
          show gd (¬ (nI i < 0 ∨ 240 ≤ i)) (ob (sX12_gcd (lN (Q i).1) (lN (Q i).2.2)) (fun o => dm1 o (fun r15 => gd (¬ (nI i < 0 ∨ 240 ≤ i)) (gd (¬ r15 = 0) (some (((lN (Q i).2.2 / r15).toInt32), f)))))) = _
          rw [gd_s ib', ob_s ax3]
          show gd (¬ (nI i < 0 ∨ 240 ≤ i)) (gd (¬ lN gx = 0) (some ((lN (Q i).2.2 / lN gx).toInt32, f))) = _
          rw [gd_s ib', gd_s ax4, ax6]
      · refine ⟨nI ((Q i).2.1 / gy), f, ?_, ?_⟩
        · show gd (¬ (nI i < 0 ∨ 129 ≤ (nI i).toNatClampNeg)) (gd (¬ (nI i < 0 ∨ 129 ≤ (nI i).toNatClampNeg)) (ob (sX4_above (y (nI i).toNatClampNeg) (u (nI i).toNatClampNeg)) (fun o => dm1 o (fun r3 => some (r3, f))))) = _
          rw [gd_s ia, gd_s ia, ca, q2, q3, ob_s ay1]; rfl
        · show ob (gd (¬ (nI i < 0 ∨ 240 ≤ (nI i).toNatClampNeg)) (some (y2 (nI i).toNatClampNeg))) (fun t => dm1 t (fun v14 => gd (¬ (nI i < 0 ∨ 240 ≤ (nI i).toNatClampNeg)) (ob (sX12_gcd v14 (d (nI i).toNatClampNeg)) (fun o => dm1 o (fun r15 => gd (¬ r15 = 0) (some (((v14 / r15).toInt32), f))))))) = _
          rw [gd_s ib, cb, l2, l3]
          show gd (¬ (nI i < 0 ∨ 240 ≤ i)) (ob (sX12_gcd (lN (Q i).2.1) (lN (Q i).2.2)) (fun o => dm1 o (fun r15 => gd (¬ r15 = 0) (some (((lN (Q i).2.1 / r15).toInt32), f))))) = _
          rw [gd_s ib', ob_s ay3]
          show gd (¬ lN gy = 0) (some ((lN (Q i).2.1 / lN gy).toInt32, f)) = _
          rw [gd_s ay4, ay5]
      · refine ⟨nI ((Q i).2.2 / gy), f, ?_, ?_⟩
        · show gd (¬ (nI i < 0 ∨ 129 ≤ (nI i).toNatClampNeg)) (gd (¬ (nI i < 0 ∨ 129 ≤ (nI i).toNatClampNeg)) (ob (sX4_below (y (nI i).toNatClampNeg) (u (nI i).toNatClampNeg)) (fun o => dm1 o (fun r3 => some (r3, f))))) = _
          rw [gd_s ia, gd_s ia, ca, q2, q3, ob_s ay2]; rfl
        · show ob (gd (¬ (nI i < 0 ∨ 240 ≤ (nI i).toNatClampNeg)) (some (y2 (nI i).toNatClampNeg))) (fun t => dm1 t (fun v14 => gd (¬ (nI i < 0 ∨ 240 ≤ (nI i).toNatClampNeg)) (ob (sX12_gcd v14 (d (nI i).toNatClampNeg)) (fun o => dm1 o (fun r15 => gd (¬ (nI i < 0 ∨ 240 ≤ (nI i).toNatClampNeg)) (gd (¬ r15 = 0) (some ((((d (nI i).toNatClampNeg) / r15).toInt32), f)))))))) = _
          rw [gd_s ib, cb, l2, l3]
          show gd (¬ (nI i < 0 ∨ 240 ≤ i)) (ob (sX12_gcd (lN (Q i).2.1) (lN (Q i).2.2)) (fun o => dm1 o (fun r15 => gd (¬ (nI i < 0 ∨ 240 ≤ i)) (gd (¬ r15 = 0) (some (((lN (Q i).2.2 / r15).toInt32), f)))))) = _
          rw [gd_s ib', ob_s ay3]
          show gd (¬ (nI i < 0 ∨ 240 ≤ i)) (gd (¬ lN gy = 0) (some ((lN (Q i).2.2 / lN gy).toInt32, f))) = _
          rw [gd_s ib', gd_s ay4, ay6]
      · refine ⟨nI r1, f, ?_, ?_⟩
        · show ob (sX8_endsAt (nI i) fs) _ = _
          rw [ob_s e1]; rfl
        · show ob (sX10_ends (nI i) (0 : Int32) (nI n') gw gr gt) _ = _
          rw [ob_s e2]; rfl
      · refine ⟨nI r2, f, ?_, ?_⟩
        · show ob (sX8_firmEndsAt (nI i) fe) _ = _
          rw [ob_s e3]; rfl
        · show ob (sX10_ends (nI i) (1 : Int32) (nI n') gw gr gt) _ = _
          rw [ob_s e4]; rfl
    · refine ⟨-1, cf 1 f, ?_, ?_⟩
      · show (if a2 = 0 then _ else if a2 = 1 then _ else if a2 = 2 then _ else if a2 = 3 then _ else if a2 = 4 then _ else if a2 = 5 then _ else _) = _
        rw [if_neg (ne_out h6 (k := 0) (b := 0) (by omega) (by omega) rfl), if_neg (ne_out h6 (k := 1) (b := 1) (by omega) (by omega) rfl), if_neg (ne_out h6 (k := 2) (b := 2) (by omega) (by omega) rfl), if_neg (ne_out h6 (k := 3) (b := 3) (by omega) (by omega) rfl), if_neg (ne_out h6 (k := 4) (b := 4) (by omega) (by omega) rfl), if_neg (ne_out h6 (k := 5) (b := 5) (by omega) (by omega) rfl)]
        rfl
      · show (if a2 < 0 then _ else if a2 ≤ (5 : Int32) then _ else _) = _
        by_cases z : a2 < 0
        · rw [if_pos z]; rfl
        · rw [if_neg z, if_neg (le_out h6 z (k := 5) (b := 5) (by omega) (by omega) rfl)]; rfl
  · obtain ⟨h1, h2, _, _⟩ := hasN ho
    refine ⟨-1, cf 1 f, ?_, ?_⟩
    · show ob (sX9_hasJoint a1 (nI m)) _ = _
      rw [ob_s h1]; rfl
    · rw [ob_s h2]; rfl
theorem piece_q {w h nl : Nat} {ld : Nat → Ln} {m : Nat} {Q : Nat → Pt3} {fm : Nat → Nat → Bool} {nv : Nat → Nat → Nat} {a np : Nat} {gs : Nat → St} {pn : Nat → Nat → Option Nat} {n : Nat} {u x y fw fe fs fr to tn pa sa wa : Nat → Int32} {n' : Nat} {d x2 y2 : Nat → Int64} {gw gr gt pb fa : Nat → Int32} (hw : Wd w h nl ld m Q fm nv a np gs pn) (hx : SdX w h nl ld m Q fm nv a np gs pn n u x y fw fe fs fr to tn pa sa wa) (hm : SdM w h nl ld m Q fm nv a np gs pn n' d x2 y2 gw gr gt pb fa) (f : Nat → Int32) (a1 a2 : Int32) : ∃ r g, sX9_piece a1 a2 f (nI w) (nI m) fw fs to = some (r, g) ∧ sX12_piece a1 a2 1 f (nI m) (nI n') gw gr gt = some (r, g) := by
  obtain ⟨F, T, fi, tw, st, wk, x1, x2, x3, x4⟩ := hx
  obtain ⟨A, B, cs, m1, m2, m3, m4⟩ := hm
  obtain ⟨w1, w2, w3, w4, w5, w6⟩ := hw
  have m123 := w1.2.2.1
  have dr := w1.1
  have th := there1 dr.1 dr.2.1
  obtain ⟨s1, s2, s3, s4, s5, s6, s7, s8⟩ := x2
  obtain ⟨t1, t2, t3, t4, t5⟩ := m2
  unfold sX9_piece
  rw [ob_s th]
  unfold sX12_piece
  rw [if_neg (show ¬ (1 : Int32) = 0 by decide)]
  rcases nI_or a1 m (by omega) with ⟨i, hi, e⟩ | ho
  · subst e
    obtain ⟨h1, h2, _, _⟩ := hasJ (m := m) (by omega) hi
    show ∃ r g, ob (sX9_hasJoint (nI i) (nI m)) _ = some (r, g) ∧ ob (sX12_isJoint (nI i) (nI m)) _ = some (r, g)
    rw [ob_s h1, ob_s h2]
    rcases nI_or a2 m (by omega) with ⟨j, hj, e⟩ | ho
    · subst e
      obtain ⟨h1, h2, _, _⟩ := hasJ (m := m) (by omega) hj
      show ∃ r g, ob (sX9_hasJoint (nI j) (nI m)) _ = some (r, g) ∧ ob (sX12_isJoint (nI j) (nI m)) _ = some (r, g)
      rw [ob_s h1, ob_s h2]
      have b1 := stepB_ok s1 (by omega) (by omega) s4 s3 hi (j := j) (by omega)
      have b2 := mpiece_ok (i := i) (j := j) (n := n') (by omega) (by omega) (by omega) t2 t3 (fun s hs => by have := t1.1 s hs; omega) (fun s hs => by have := t1.1 s hs; omega)
      have aR := adB_R (KX w h ld) (nl + 4) m Q i j hi hj
      show ∃ r g, ob (sX8_stepBetween (nI i) (nI j) fs to) _ = some (r, g) ∧ ob (sX10_piece (nI i) (nI j) (nI n') gr gt) _ = some (r, g)
      rcases b1 with ⟨s, c1, c2, c3, c4⟩ | ⟨c1, c2⟩
      · rcases b2 with ⟨k, e1, e2, _, e3⟩ | ⟨e1, e2⟩
        · obtain ⟨ia, ca⟩ := ix_c (i := s) (n := 768) (by omega) (by omega)
          obtain ⟨ib, cb⟩ := ix_c (i := k) (n := 800) (by omega) (by omega)
          have fs1 : fw s = bI (fm (F s) (T s)) := s7.1 s c1
          have fs2 : gw k = bI (fm (A k) (B k)) := t4 k e1
          have ff : fm (A k) (B k) = fm (F s) (T s) := by
            rw [c2, c3]
            rcases e2 with ⟨z1, z2⟩ | ⟨z1, z2⟩
            · rw [z1, z2]
            · rw [z1, z2, w1.2.2.2.1.2.1]
          rw [ob_s c4, ob_s e3]
          refine ⟨if fm (F s) (T s) = false then 1 else 2, f, ?_, ?_⟩
          · show (if (0 : Int32) ≤ nI s then gd (¬ (nI s < 0 ∨ 768 ≤ (nI s).toNatClampNeg)) (if (fw (nI s).toNatClampNeg) = 0 then some ((1 : Int32), f) else some ((2 : Int32), f)) else some ((0 : Int32), f)) = _
            rw [if_pos (by rw [nl_0, nI_leS (by omega) (by omega)]; omega), gd_s ia, ca, fs1]
            cases fm (F s) (T s) <;> rfl
          · show (if (0 : Int32) ≤ nI k then gd (¬ (nI k < 0 ∨ 800 ≤ (nI k).toNatClampNeg)) (if (gw (nI k).toNatClampNeg) = 0 then some ((1 : Int32), f) else some ((2 : Int32), f)) else some ((0 : Int32), f)) = _
            rw [if_pos (by rw [nl_0, nI_leS (by omega) (by omega)]; omega), gd_s ib, cb, fs2, ff]
            cases fm (F s) (T s) <;> rfl
        · exfalso
          have z : adB (KX w h ld) (nl + 4) m Q i j = true := by rw [← c2, ← c3]; exact (s1.1 s c1).2.2
          rcases aR.mp z with z | z
          · obtain ⟨k, k1, k2, k3⟩ := t1.2.2 _ _ z
            exact e1 k k1 (Or.inl ⟨k2, k3⟩)
          · obtain ⟨k, k1, k2, k3⟩ := t1.2.2 _ _ z
            exact e1 k k1 (Or.inr ⟨k2, k3⟩)
      · rcases b2 with ⟨k, e1, e2, _, e3⟩ | ⟨e1, e2⟩
        · exfalso
          have z : adB (KX w h ld) (nl + 4) m Q i j = true := by
            apply aR.mpr
            have pk := (t1.1 k e1).2.2
            rcases e2 with ⟨z1, z2⟩ | ⟨z1, z2⟩
            · rw [z1, z2] at pk; exact Or.inl pk
            · rw [z1, z2] at pk; exact Or.inr pk
          obtain ⟨s, z1, z2, z3⟩ := s1.2.2.1 i j hi hj z
          exact c1 s z1 ⟨z2, z3⟩
        · rw [ob_s c2, ob_s e2]
          exact ⟨0, f, rfl, rfl⟩
    · obtain ⟨h1, h2, _, _⟩ := hasN ho
      refine ⟨-1, cf 1 f, ?_, ?_⟩
      · show ob (sX9_hasJoint a2 (nI m)) _ = _
        rw [ob_s h1]; rfl
      · show ob (sX12_isJoint a2 (nI m)) _ = _
        rw [ob_s h2]; rfl
  · obtain ⟨h1, h2, _, _⟩ := hasN ho
    refine ⟨-1, cf 1 f, ?_, ?_⟩
    · show ob (sX9_hasJoint a1 (nI m)) _ = _
      rw [ob_s h1]; rfl
    · rw [ob_s h2]; rfl
theorem touch_q {w h nl : Nat} {ld : Nat → Ln} {m : Nat} {Q : Nat → Pt3} {fm : Nat → Nat → Bool} {nv : Nat → Nat → Nat} {a np : Nat} {gs : Nat → St} {pn : Nat → Nat → Option Nat} {n : Nat} {u x y fw fe fs fr to tn pa sa wa : Nat → Int32} {n' : Nat} {d x2 y2 : Nat → Int64} {gw gr gt pb fa : Nat → Int32} (hw : Wd w h nl ld m Q fm nv a np gs pn) (hx : SdX w h nl ld m Q fm nv a np gs pn n u x y fw fe fs fr to tn pa sa wa) (hm : SdM w h nl ld m Q fm nv a np gs pn n' d x2 y2 gw gr gt pb fa) (f : Nat → Int32) (a1 a2 : Int32) : ∃ r g, sX9_touch a1 a2 f (nI w) tn (nI np) pa sa wa = some (r, g) ∧ sX12_touch a1 a2 1 (nI np) f (nI n') gw pb = some (r, g) := by
  obtain ⟨w1, w2, w3, w4, w5, w6⟩ := id hw
  have dr := w1.1
  have th := there1 dr.1 dr.2.1
  unfold sX9_touch
  rw [ob_s th]
  unfold sX12_touch
  rw [if_neg (show ¬ (1 : Int32) = 0 by decide)]
  rcases nI_or a1 np (by omega) with ⟨i, hi, e⟩ | ho
  · subst e
    obtain ⟨_, _, h1, h2⟩ := hasJ (m := np) (by omega) hi
    show ∃ r g, ob (sX9_hasPane (nI i) (nI np)) _ = some (r, g) ∧ ob (sX12_isPane (nI i) (nI np)) _ = some (r, g)
    rw [ob_s h1, ob_s h2]
    rcases nI_or a2 np (by omega) with ⟨j, hj, e⟩ | ho
    · subst e
      obtain ⟨_, _, h1, h2⟩ := hasJ (m := np) (by omega) hj
      show ∃ r g, ob (sX9_hasPane (nI j) (nI np)) _ = some (r, g) ∧ ob (sX12_isPane (nI j) (nI np)) _ = some (r, g)
      rw [ob_s h1, ob_s h2]
      obtain ⟨r, r1, r2, r3, _⟩ := tou_one hw hx hm hi hj
      refine ⟨nI r, f, ?_, ?_⟩
      · show ob (sX7_touches (nI i) (nI j) pa tn sa wa) _ = _
        rw [ob_s r2]; rfl
      · show ob (sX12_touched (nI i) (nI j) (nI n') gw pb) _ = _
        rw [ob_s r3]; rfl
    · obtain ⟨_, _, h1, h2⟩ := hasN ho
      refine ⟨-1, cf 1 f, ?_, ?_⟩
      · show ob (sX9_hasPane a2 (nI np)) _ = _
        rw [ob_s h1]; rfl
      · show ob (sX12_isPane a2 (nI np)) _ = _
        rw [ob_s h2]; rfl
  · obtain ⟨_, _, h1, h2⟩ := hasN ho
    refine ⟨-1, cf 1 f, ?_, ?_⟩
    · show ob (sX9_hasPane a1 (nI np)) _ = _
      rw [ob_s h1]; rfl
    · rw [ob_s h2]; rfl
