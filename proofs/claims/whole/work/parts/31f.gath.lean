/-! the reference: touches, order -/
theorem gath0_ok (tc : Nat → Int32) : ∃ tc', iter bX12_gatherTouches_2 FU ((0 : Int32), tc) = some (0, (nI 25600, tc')) ∧ ∀ k, k < 25600 → tc' k = 0 := by
  obtain ⟨s, h1, h2⟩ := iter_for (S := Nat → Int32) (B := bX12_gatherTouches_2) (fun i s => (nI i, s)) 25600 (fun i s => ∀ p, p < i → s p = 0) 0 tc (fun p hp => absurd hp (Nat.not_lt_zero _)) (by omega) (by omega) (fun i s _ hi hI => by
    obtain ⟨ia, ca⟩ := ix_c (i := i) (n := 25600) (by omega) (by omega)
    refine ⟨upd s i 0, ?_, fun p hp => ?_⟩
    · unfold bX12_gatherTouches_2
      simp only [dm2]
      rw [if_neg (by rw [show (25600 : Int32) = nI 25600 from rfl, nI_leS (by omega) (by omega)]; omega), gd_s ia, ca, nar_0]
      simp only [lt, nl_1, nI_add]
      rfl
    · by_cases z : p = i
      · subst z; exact pk_us
      · rw [pk_un z]; exact hI p (by omega)) (fun s _ => by
    unfold bX12_gatherTouches_2
    simp only [dm2]
    rw [if_pos (by rw [show (25600 : Int32) = nI 25600 from rfl, nI_leS (by omega) (by omega)]; omega)])
  refine ⟨s, ?_, h2⟩
  rw [nl_0]
  exact h1
def mU (pn : Nat → Nat → Option Nat) (A B : Nat → Nat) (i p q : Nat) : Bool := decide (p ≠ q) && decide (0 < cnt i (fun k => mT pn p q (A k) (B k)))
theorem mU_s (pn : Nat → Nat → Option Nat) (A B : Nat → Nat) (i p q : Nat) : mU pn A B (i + 1) p q = (mU pn A B i p q || (decide (p ≠ q) && mT pn p q (A i) (B i))) := by
  unfold mU
  rw [cnt_s]
  by_cases z : p = q
  · simp [z]
  · cases y : mT pn p q (A i) (B i) <;> simp [z]
theorem gath_ok {w h nl : Nat} {ld : Nat → Ln} {m : Nat} {Q : Nat → Pt3} {fm : Nat → Nat → Bool} {nv : Nat → Nat → Nat} {a np : Nat} {gs : Nat → St} {pn : Nat → Nat → Option Nat} {n' : Nat} {d x2 y2 : Nat → Int64} {gw gr gt pb fa : Nat → Int32} (hw : Wd w h nl ld m Q fm nv a np gs pn) (hm : SdM w h nl ld m Q fm nv a np gs pn n' d x2 y2 gw gr gt pb fa) (tc : Nat → Int32) : ∃ tc', sX12_gatherTouches (nI n') gw pb tc = some tc' ∧ ∀ p q, p < np → q < np → tc' (160 * p + q) = bI (tB pn p q) := by
  obtain ⟨A, B, cs, m1, m2, m3, m4⟩ := hm
  obtain ⟨w1, w2, w3, w4, w5, w6⟩ := hw
  obtain ⟨t1, t2, t3, t4, t5⟩ := m2
  have hs := w1.2.2.2.1.2.1
  obtain ⟨tc0, e0, e1⟩ := gath0_ok tc
  have ol : ∀ a b r, pn a b = some r → r < np := fun a b r hr => (w6 _ _).1 r hr
  have i160 : (160 : Int32) = nI 160 := rfl
  obtain ⟨s, h1, h2⟩ := iter_for (S := Nat → Int32) (B := bX12_gatherTouches_24 (nI n') gw pb) (fun i s => (nI i, s)) n' (fun i s => ∀ p q, p < np → q < np → s (160 * p + q) = bI (mU pn A B i p q)) 0 tc0 (fun p q hp hq => by rw [e1 _ (by omega)]; unfold mU; simp [cnt]; rfl) (by omega) (by omega) (fun i s _ hi hI => by
    obtain ⟨g1, g2, g3, g4⟩ := bg_2 A B i
    have st : bX12_gatherTouches_24 (nI n') gw pb (nI i, s) = ob (if fm (A i) (B i) = false then some (-1 : Int32) else some (pb (2 * i))) (fun t => dm1 t (fun v9 => ob (if fm (A i) (B i) = false then some (-1 : Int32) else some (pb (2 * i + 1))) (fun t => dm1 t (fun v10 => ob (if v9 < 0 then some s else if v10 < 0 then some s else if v9 = v10 then some s else gd (¬ ((((160 : Int32) * v9) + v10) < 0 ∨ 25600 ≤ (((160 : Int32) * v9) + v10).toNatClampNeg)) (lt (upd s (((160 : Int32) * v9) + v10).toNatClampNeg (vp_nar .boolean (1 : Int32))) (fun f13 => gd (¬ ((((160 : Int32) * v10) + v9) < 0 ∨ 25600 ≤ (((160 : Int32) * v10) + v9).toNatClampNeg)) (lt (upd f13 (((160 : Int32) * v10) + v9).toNatClampNeg (vp_nar .boolean (1 : Int32))) (fun f14 => some f14))))) (fun t => dm1 t (fun v11 => some (0, (nI (i + 1), v11)))))))) := by
      obtain ⟨ia, ca⟩ := ix_c (i := i) (n := 800) (by omega) (by omega)
      obtain ⟨ib, cb⟩ := ix_c (i := 2 * i) (n := 1600) (by omega) (by omega)
      obtain ⟨ic, cc⟩ := ix_c (i := 2 * i + 1) (n := 1600) (by omega) (by omega)
      have wi : gw i = bI (fm (A i) (B i)) := t4 i hi
      unfold bX12_gatherTouches_24
      simp only [dm2]
      rw [if_neg (by rw [nI_leS (by omega) (by omega)]; omega), gd_s ia, ca, wi]
      rw [ca] at ia
      simp only [nl_2, nl_1, nI_mul, nI_add]
      simp only [gd_s ib, gd_s ic, gd_s ia]
      simp only [cb, cc, nl_0, bI_0, lt]
    cases hf : fm (A i) (B i) with
    | false =>
      have z1 := pn_fm w6 hf
      have z2 := pn_fm w6 (show fm (B i) (A i) = false by rw [hs]; exact hf)
      refine ⟨s, ?_, fun p q hp hq => ?_⟩
      · rw [st, hf]; rfl
      · rw [mU_s, hI p q hp hq]
        unfold mT
        simp [z1, z2]
    | true =>
      have p1 := pnM w6 w5 m3 (c := 2 * i) (by omega) (by rw [g1, g2]; exact hf)
      have p2 := pnM w6 w5 m3 (c := 2 * i + 1) (by omega) (by rw [g3, g4, hs]; exact hf)
      rw [g1, g2] at p1
      rw [g3, g4] at p2
      rw [hf, p1, p2] at st
      cases z1 : pn (A i) (B i) with
      | none =>
        rw [z1] at st
        refine ⟨s, ?_, fun p q hp hq => ?_⟩
        · rw [st]
          cases pn (B i) (A i) <;> rfl
        · rw [mU_s, hI p q hp hq]
          unfold mT
          simp [z1]
      | some r =>
        have hr := ol _ _ r z1
        cases z2 : pn (B i) (A i) with
        | none =>
          rw [z1, z2] at st
          refine ⟨s, ?_, fun p q hp hq => ?_⟩
          · rw [st]
            show ob (if nI r < 0 then some s else if (-1 : Int32) < 0 then some s else _) _ = _
            rw [if_neg (nI_pos (by omega)), if_pos (by decide)]
            rfl
          · rw [mU_s, hI p q hp hq]
            unfold mT
            simp [z2]
        | some v =>
          have hv := ol _ _ v z2
          rw [z1, z2] at st
          by_cases y : r = v
          · subst y
            refine ⟨s, ?_, fun p q hp hq => ?_⟩
            · rw [st]
              show ob (if nI r < 0 then some s else if nI r < 0 then some s else if nI r = nI r then some s else _) _ = _
              rw [if_neg (nI_pos (by omega)), if_neg (nI_pos (by omega)), if_pos rfl]
              rfl
            · rw [mU_s, hI p q hp hq]
              unfold mT
              rw [z1, z2]
              by_cases y1 : p = q
              · simp [y1]
              · by_cases u1 : r = p
                · subst u1; simp [y1]
                · simp [u1]
          · obtain ⟨ix, cx⟩ := ix_c (i := 160 * r + v) (n := 25600) (by omega) (by omega)
            obtain ⟨iy, cy⟩ := ix_c (i := 160 * v + r) (n := 25600) (by omega) (by omega)
            refine ⟨upd (upd s (160 * r + v) (bI true)) (160 * v + r) (bI true), ?_, fun p q hp hq => ?_⟩
            · rw [st]
              show ob (if nI r < 0 then some s else if nI v < 0 then some s else if nI r = nI v then some s else gd (¬ ((((160 : Int32) * nI r) + nI v) < 0 ∨ 25600 ≤ (((160 : Int32) * nI r) + nI v).toNatClampNeg)) (lt (upd s (((160 : Int32) * nI r) + nI v).toNatClampNeg (vp_nar .boolean (1 : Int32))) (fun f13 => gd (¬ ((((160 : Int32) * nI v) + nI r) < 0 ∨ 25600 ≤ (((160 : Int32) * nI v) + nI r).toNatClampNeg)) (lt (upd f13 (((160 : Int32) * nI v) + nI r).toNatClampNeg (vp_nar .boolean (1 : Int32))) (fun f14 => some f14))))) (fun t => dm1 t (fun v11 => some (0, (nI (i + 1), v11)))) = _
              rw [if_neg (nI_pos (by omega)), if_neg (nI_pos (by omega)), if_neg (by rw [nI_eqS (by omega) (by omega)]; exact y), i160, nI_mul, nI_add, nI_mul, nI_add, gd_s ix, cx, lt_v, gd_s iy, cy, lt_v, nar_1]
              rfl
            · rw [mU_s]
              have k1 : mT pn p q (A i) (B i) = ((decide (r = p) && decide (v = q)) || (decide (r = q) && decide (v = p))) := by
                unfold mT
                rw [z1, z2]
                simp
              rw [k1]
              by_cases u1 : p = v ∧ q = r
              · obtain ⟨u1, u2⟩ := u1
                subst u1; subst u2
                rw [pk_us]
                have : p ≠ q := fun z => y z.symm
                simp [this]
              · rw [pk_un (by omega)]
                by_cases u2 : p = r ∧ q = v
                · obtain ⟨u3, u4⟩ := u2
                  subst u3; subst u4
                  rw [pk_us]
                  simp [y]
                · rw [pk_un (by omega), hI p q hp hq]
                  have k2 : ((decide (r = p) && decide (v = q)) || (decide (r = q) && decide (v = p))) = false := by
                    by_cases u3 : r = p <;> by_cases u4 : v = q <;> by_cases u5 : r = q <;> by_cases u6 : v = p <;> simp [u3, u4, u5, u6] <;> omega
                  rw [k2]
                  simp) (fun s _ => by
    unfold bX12_gatherTouches_24
    simp only [dm2]
    rw [if_pos (by rw [nI_leS (by omega) (by omega)]; omega)])
  have h1' : iter (bX12_gatherTouches_24 (nI n') gw pb) FU ((0 : Int32), tc0) = some (0, (nI n', s)) := by rw [nl_0]; exact h1
  refine ⟨s, ?_, fun p q hp hq => ?_⟩
  · unfold sX12_gatherTouches
    rw [ob_s e0, ex1_0]
    simp only [dm2]
    rw [ob_s h1', ex1_0]
  · rw [h2 p q hp hq]
    suffices hh : mU pn A B n' p q = tB pn p q by rw [hh]
    apply tB_ex
    unfold mU
    rw [Bool.and_eq_true_iff, decide_eq_true_iff, decide_eq_true_iff]
    constructor
    · intro ⟨z1, z2⟩
      obtain ⟨k, k1, k2⟩ := cnt_ex z2
      unfold mT at k2
      rcases Bool.or_eq_true_iff.mp k2 with k3 | k3
      · have k4 := Bool.and_eq_true_iff.mp k3
        exact ⟨z1, A k, B k, of_decide_eq_true k4.1, of_decide_eq_true k4.2⟩
      · have k4 := Bool.and_eq_true_iff.mp k3
        exact ⟨z1, B k, A k, of_decide_eq_true k4.2, of_decide_eq_true k4.1⟩
    · intro ⟨z1, c, e, z2, z3⟩
      refine ⟨z1, ?_⟩
      have ff := (((w6 c e).2 p hp).mp z2).1
      obtain ⟨f1, f2, f3, _⟩ := w1.2.2.2.1.1 _ _ ff
      rcases (adB_R (KX w h ld) (nl + 4) m Q c e f1 f2).mp f3 with y | y
      · obtain ⟨k, k1, k2, k3⟩ := t1.2.2 _ _ y
        apply cnt_pos k1
        show mT pn p q (A k) (B k) = true
        unfold mT
        rw [k2, k3, z2, z3]
        simp
      · obtain ⟨k, k1, k2, k3⟩ := t1.2.2 _ _ y
        apply cnt_pos k1
        show mT pn p q (A k) (B k) = true
        unfold mT
        rw [k2, k3, z2, z3]
        simp
theorem ordA_ok {np : Nat} (hnp : np ≤ 125) {lf : Nat → Bool} {ou : Nat → Int32} (hl : hB np ou (fun p => !lf p)) (od : Int32) (oa : Nat → Int32) : ∃ oa', sX12_orderAll (nI np) od oa ou = some (nI (ordF lf np).1, oa') ∧ ∀ i, i < (ordF lf np).1 → oa' i = nI ((ordF lf np).2 i) := by
  obtain ⟨s, h1, h2⟩ := iter_for (S := Nat → Int32) (B := bX12_orderAll_7 (nI np) ou) (fun i s => (nI i, nI (ordF lf i).1, s)) np (fun n s => ∀ i, i < (ordF lf n).1 → s i = nI ((ordF lf n).2 i)) 0 oa (fun i hi => absurd hi (Nat.not_lt_zero _)) (by omega) (by omega) (fun n s _ hn hI => by
    obtain ⟨ia, ca⟩ := ix_c (i := n) (n := 160) (by omega) (by omega)
    have ol := (ordF_ok lf n).1
    obtain ⟨ib, cb⟩ := ix_c (i := (ordF lf n).1) (n := 160) (by omega) (by omega)
    have e0 : ou n = bI (!lf n) := hl n hn
    have st : bX12_orderAll_7 (nI np) ou (nI n, nI (ordF lf n).1, s) = ob (if ¬ bI (!lf n) = 0 then some (nI (ordF lf n).1, s) else some (nI ((ordF lf n).1 + 1), upd s (ordF lf n).1 (nI n))) (fun t => dm2 t (fun v5 v6 => some (0, (nI (n + 1), v5, v6)))) := by
      unfold bX12_orderAll_7
      simp only [dm3]
      rw [if_neg (by rw [nI_leS (by omega) (by omega)]; omega), gd_s ia, ca, e0]
      simp only [gd_s ib]
      simp only [lt, cb, nl_1, nI_add]
    cases z : lf n with
    | false =>
      rw [z] at st
      have e : ordF lf (n + 1) = ordF lf n := by show (if lf n = true then _ else ordF lf n) = _; rw [if_neg (by rw [z]; simp)]
      refine ⟨s, ?_, ?_⟩
      · rw [e, st]; rfl
      · rw [e]; exact hI
    | true =>
      rw [z] at st
      have e : ordF lf (n + 1) = ((ordF lf n).1 + 1, upF (ordF lf n).2 (ordF lf n).1 n) := by show (if lf n = true then _ else ordF lf n) = _; rw [if_pos z]
      refine ⟨upd s (ordF lf n).1 (nI n), ?_, ?_⟩
      · rw [e, st]; rfl
      · rw [e]
        intro i hi
        have hi' : i < (ordF lf n).1 + 1 := hi
        show upd s (ordF lf n).1 (nI n) i = nI (upF (ordF lf n).2 (ordF lf n).1 n i)
        by_cases y : i = (ordF lf n).1
        · subst y; rw [pk_us, upF_s]
        · rw [pk_un y, upF_n y]; exact hI i (by omega)) (fun s _ => by
    unfold bX12_orderAll_7
    simp only [dm3]
    rw [if_pos (by rw [nI_leS (by omega) (by omega)]; omega)])
  refine ⟨s, ?_, h2⟩
  have h1' : iter (bX12_orderAll_7 (nI np) ou) FU (nI 0, nI 0, oa) = some (0, (nI np, nI (ordF lf np).1, s)) := h1
  unfold sX12_orderAll
  rw [nl_0, ob_s h1', ex1_0]
  rfl
