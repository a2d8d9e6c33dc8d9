/-! what both sides hold of one window -/
def Wd (w h nl : Nat) (ld : Nat → Ln) (m : Nat) (Q : Nat → Pt3) (fm : Nat → Nat → Bool) (nv : Nat → Nat → Nat) (a np : Nat) (gs : Nat → St) (pn : Nat → Nat → Option Nat) : Prop := Mesh w h nl ld m Q fm ∧ NV Q fm nv ∧ (∃ b, cn1 (onK (KX w h ld) Q 3) m 0 a ∧ (Q a).1 = 0 ∧ cn1 (onK (KX w h ld) Q 0) m 0 b ∧ (Q b).2.1 = 0) ∧ np ≤ 125 ∧ Wlk nv fm (0, a) np gs ∧ PN nv fm np gs pn
def SdX (w h nl : Nat) (ld : Nat → Ln) (m : Nat) (Q : Nat → Pt3) (fm : Nat → Nat → Bool) (nv : Nat → Nat → Nat) (a np : Nat) (gs : Nat → St) (pn : Nat → Nat → Option Nat) (n : Nat) (u x y fw fe fs fr to tn pa sa wa : Nat → Int32) : Prop := ∃ F T fi tw st wk, JR m Q u x y ∧ MsX (adB (KX w h ld) (nl + 4) m Q) fm m n F T fi tw fw fe fs fr to tn ∧ PaX nv fm (0, a) n F T np gs pa ∧ WaX nv n F T np gs st wk sa wa
def SdM (w h nl : Nat) (ld : Nat → Ln) (m : Nat) (Q : Nat → Pt3) (fm : Nat → Nat → Bool) (nv : Nat → Nat → Nat) (a np : Nat) (gs : Nat → St) (pn : Nat → Nat → Option Nat) (n' : Nat) (d x2 y2 : Nat → Int64) (gw gr gt pb fa : Nat → Int32) : Prop := ∃ A B cs, JL m Q d x2 y2 ∧ MsM (Pc (onK (KX w h ld) Q) (nl + 4) m) fm m n' A B gw gr gt ∧ PaM nv (0, a) n' A B np gs pb ∧ FsM n' A B np gs cs fa
theorem wkK {nv : Nat → Nat → Nat} {np : Nat} {gs : Nat → St} {n : Nat} {sa wa : Nat → Int32} {F T st wk : Nat → Nat} (hn : n ≤ 684) (hW : WaX nv n F T np gs st wk sa wa) {p : Nat} (hp : p < np) : ∃ K, Per nv (gs p) K ∧ K ≤ 684 := by
  obtain ⟨K', h1, h2, h3, h4⟩ := wk_at hW hp
  exact ⟨K', h1, by omega⟩
theorem cnt_or {n : Nat} {b c : Nat → Bool} (h : ∀ i, i < n → ¬ (b i = true ∧ c i = true)) : cnt n (fun i => b i || c i) = cnt n b + cnt n c := by
  induction n with
  | zero => rfl
  | succ n ih =>
    have i1 := ih (fun i hi => h i (by omega))
    have i2 := h n (by omega)
    rw [cnt_s, cnt_s, cnt_s, i1]
    cases z1 : b n <;> cases z2 : c n <;> simp_all <;> omega
theorem tou_one {w h nl : Nat} {ld : Nat → Ln} {m : Nat} {Q : Nat → Pt3} {fm : Nat → Nat → Bool} {nv : Nat → Nat → Nat} {a np : Nat} {gs : Nat → St} {pn : Nat → Nat → Option Nat} {n : Nat} {u x y fw fe fs fr to tn pa sa wa : Nat → Int32} {n' : Nat} {d x2 y2 : Nat → Int64} {gw gr gt pb fa : Nat → Int32} (hw : Wd w h nl ld m Q fm nv a np gs pn) (hx : SdX w h nl ld m Q fm nv a np gs pn n u x y fw fe fs fr to tn pa sa wa) (hm : SdM w h nl ld m Q fm nv a np gs pn n' d x2 y2 gw gr gt pb fa) {p q : Nat} (hp : p < np) (hq : q < np) : ∃ r, r < 2000 ∧ sX7_touches (nI p) (nI q) pa tn sa wa = some (nI r) ∧ sX12_touched (nI p) (nI q) (nI n') gw pb = some (nI r) ∧ (p ≠ q → ∀ K, Per nv (gs p) K → cnt K (fun k => isO pn q (itr nv k (gs p)).1 (itr nv k (gs p)).2) = r) := by
  obtain ⟨F, T, fi, tw, st, wk, x1, x2, x3, x4⟩ := hx
  obtain ⟨A, B, cs, m1, m2, m3, m4⟩ := hm
  obtain ⟨w1, w2, w3, w4, w5, w6⟩ := id hw
  obtain ⟨s1, s2, s3, s4, s5, s6, s7, s8⟩ := x2
  obtain ⟨t1, t2, t3, t4, t5⟩ := m2
  obtain ⟨K, hK, K6⟩ := wkK s8 x4 hp
  have sy := w1.2.2.2.1.2.1
  have e1 := touX w6 w5 s8 w4 x3 s5 s6 x4 hp hK K6 hq
  have e2 := touM sy w6 w5 t5 w4 m3 t4 hp hq
  have e3 := walk_cnt w1 w2 w6 w5 s1 x4 hp hK (isO pn q)
  have e4 := cnt_cs s1 t1 (adB_R _ _ _ _) (fun c d => decide (pn c d = some p) && isO pn q c d)
  have cl := cnt_le n' (fun k => mT pn p q (A k) (B k))
  refine ⟨cnt n' (fun k => mT pn p q (A k) (B k)), by omega, ?_, e2, ?_⟩
  · unfold sX7_touches
    rw [ob_s e1, ex1_0]
    simp (disch := omega) only [dm2, nI_eqS]
    by_cases z : p = q
    · subst z
      have d1 : cnt n' (fun k => mT pn p p (A k) (B k)) = cnt n' (fun k => decide (pn (A k) (B k) = some p) && isO pn p (A k) (B k)) := by
        apply cnt_congr; intro k _; unfold mT isO; cases decide (pn (A k) (B k) = some p) <;> cases decide (pn (B k) (A k) = some p) <;> rfl
      have d2 : cnt n' (fun k => mT pn p p (A k) (B k)) = cnt n' (fun k => decide (pn (B k) (A k) = some p) && isO pn p (B k) (A k)) := by
        apply cnt_congr; intro k _; unfold mT isO; cases decide (pn (A k) (B k) = some p) <;> cases decide (pn (B k) (A k) = some p) <;> rfl
      have d3 : cnt K (fun k => isO pn p (itr nv k (gs p)).1 (itr nv k (gs p)).2) = 2 * cnt n' (fun k => mT pn p p (A k) (B k)) := by
        rw [e3, e4, ← d1, ← d2]; omega
      rw [d3, if_neg (by simp), nl_2, gd_s (by rw [nl_0, nI_eqS (by omega) (by omega)]; omega), pk_div (by omega) (by omega) (by omega)]
      congr 2; omega
    · have d1 : cnt n' (fun k => mT pn p q (A k) (B k)) = cnt n' (fun k => decide (pn (A k) (B k) = some p) && isO pn q (A k) (B k)) + cnt n' (fun k => decide (pn (B k) (A k) = some p) && isO pn q (B k) (A k)) := by
        rw [← cnt_or]
        · apply cnt_congr; intro k _; unfold mT isO; cases decide (pn (A k) (B k) = some p) <;> cases decide (pn (B k) (A k) = some p) <;> cases decide (pn (A k) (B k) = some q) <;> cases decide (pn (B k) (A k) = some q) <;> rfl
        · intro k _ y
          have y1 := of_decide_eq_true (Bool.and_eq_true_iff.mp y.1).1
          have y2 := of_decide_eq_true (Bool.and_eq_true_iff.mp y.2).2
          rw [y1] at y2
          cases y2
          exact z rfl
      rw [if_pos z, e3, e4, ← d1]
  · intro z K' hK'
    have eK := Per_one hK hK'
    subst eK
    have d1 : cnt n' (fun k => mT pn p q (A k) (B k)) = cnt n' (fun k => decide (pn (A k) (B k) = some p) && isO pn q (A k) (B k)) + cnt n' (fun k => decide (pn (B k) (A k) = some p) && isO pn q (B k) (A k)) := by
      rw [← cnt_or]
      · apply cnt_congr; intro k _; unfold mT isO; cases decide (pn (A k) (B k) = some p) <;> cases decide (pn (B k) (A k) = some p) <;> cases decide (pn (A k) (B k) = some q) <;> cases decide (pn (B k) (A k) = some q) <;> rfl
      · intro k _ y
        have y1 := of_decide_eq_true (Bool.and_eq_true_iff.mp y.1).1
        have y2 := of_decide_eq_true (Bool.and_eq_true_iff.mp y.2).2
        rw [y1] at y2
        cases y2
        exact z rfl
    rw [e3, e4, ← d1]
def isOq (pn : Nat → Nat → Option Nat) (p q : Nat) (a b : Nat) : Bool := match pn b a with
  | none => false
  | some r => decide (r ≠ p) && decide (r < q)
theorem oth_one {w h nl : Nat} {ld : Nat → Ln} {m : Nat} {Q : Nat → Pt3} {fm : Nat → Nat → Bool} {nv : Nat → Nat → Nat} {a np : Nat} {gs : Nat → St} {pn : Nat → Nat → Option Nat} {n : Nat} {u x y fw fe fs fr to tn pa sa wa : Nat → Int32} {n' : Nat} {d x2 y2 : Nat → Int64} {gw gr gt pb fa : Nat → Int32} (hw : Wd w h nl ld m Q fm nv a np gs pn) (hx : SdX w h nl ld m Q fm nv a np gs pn n u x y fw fe fs fr to tn pa sa wa) (hm : SdM w h nl ld m Q fm nv a np gs pn n' d x2 y2 gw gr gt pb fa) {p : Nat} (hp : p < np) : ∃ r, r < 2000 ∧ sX7_touchesOthers (nI p) pa tn sa wa = some (nI r) ∧ iter (bX12_pane_156 (nI p) (nI np) (nI n') gw pb) FU ((0 : Int32), (0 : Int32)) = some (0, (nI r, nI np)) := by
  obtain ⟨F, T, fi, tw, st, wk, x1, x2, x3, x4⟩ := id hx
  obtain ⟨w1, w2, w3, w4, w5, w6⟩ := id hw
  obtain ⟨s1, s2, s3, s4, s5, s6, s7, s8⟩ := x2
  obtain ⟨K, hK, K6⟩ := wkK s8 x4 hp
  have e1 := othX w6 w5 s8 w4 x3 s5 s6 x4 hp hK K6
  have cl := cnt_le K (fun k => isOt pn p (itr nv k (gs p)).1 (itr nv k (gs p)).2)
  refine ⟨_, ?_, e1, ?_⟩
  · omega
  · have en : cnt K (fun k => isOt pn p (itr nv k (gs p)).1 (itr nv k (gs p)).2) = cnt K (fun k => isOq pn p np (itr nv k (gs p)).1 (itr nv k (gs p)).2) := by
      apply cnt_congr
      intro k _
      unfold isOt isOq
      cases z : pn (itr nv k (gs p)).2 (itr nv k (gs p)).1 with
      | none => rfl
      | some r => have := (w6 _ _).1 r z; simp [this]
    have e0 : cnt K (fun k => isOq pn p 0 (itr nv k (gs p)).1 (itr nv k (gs p)).2) = 0 := by
      apply cnt_0
      intro k _
      unfold isOq
      cases z : pn (itr nv k (gs p)).2 (itr nv k (gs p)).1 with
      | none => rfl
      | some r => simp
    obtain ⟨s, h1, h2⟩ := iter_for (S := Unit) (B := bX12_pane_156 (nI p) (nI np) (nI n') gw pb) (fun q _ => (nI (cnt K (fun k => isOq pn p q (itr nv k (gs p)).1 (itr nv k (gs p)).2)), nI q)) np (fun _ _ => True) 0 () trivial (by omega) (by omega) (fun q s _ hq _ => by
      refine ⟨(), ?_, trivial⟩
      unfold bX12_pane_156
      simp (disch := omega) only [dm2, nI_leS, nI_eqS]
      rw [if_neg (by omega)]
      by_cases z : q = p
      · subst z
        have : cnt K (fun k => isOq pn q (q + 1) (itr nv k (gs q)).1 (itr nv k (gs q)).2) = cnt K (fun k => isOq pn q q (itr nv k (gs q)).1 (itr nv k (gs q)).2) := by
          apply cnt_congr
          intro k _
          unfold isOq
          cases z : pn (itr nv k (gs q)).2 (itr nv k (gs q)).1 with
          | none => rfl
          | some r =>
            show (decide (r ≠ q) && decide (r < q + 1)) = (decide (r ≠ q) && decide (r < q))
            by_cases y : r = q
            · simp [y]
            · have : (r < q + 1) = (r < q) := propext (by omega)
              simp [this]
        rw [this, if_neg (by simp)]
        simp only [ob, dm1, lt, nl_0, nl_1, nI_add, Nat.add_zero]
      · obtain ⟨r, r1, r2, r3, r4⟩ := tou_one hw hx hm hp hq
        have r5 := r4 (fun y => z y.symm) K hK
        rw [if_pos z, ob_s r3]
        have : cnt K (fun k => isOq pn p (q + 1) (itr nv k (gs p)).1 (itr nv k (gs p)).2) = cnt K (fun k => isOq pn p q (itr nv k (gs p)).1 (itr nv k (gs p)).2) + r := by
          rw [← r5, ← cnt_or]
          · apply cnt_congr
            intro k _
            unfold isOq isO
            cases z1 : pn (itr nv k (gs p)).2 (itr nv k (gs p)).1 with
            | none => simp
            | some v =>
              show (decide (v ≠ p) && decide (v < q + 1)) = ((decide (v ≠ p) && decide (v < q)) || decide (some v = some q))
              by_cases y : v = q
              · subst y; simp [z]
              · have : (v < q + 1) = (v < q) := propext (by omega)
                simp [this, y]
          · intro k _ y
            unfold isOq isO at y
            have y2 := of_decide_eq_true y.2
            rw [y2] at y
            have y1 := y.1
            simp at y1
        rw [this]
        simp only [ob, dm1, lt, nl_1, nI_add]) (fun s _ => by
      unfold bX12_pane_156
      simp (disch := omega) only [dm2, nI_leS]
      rw [if_pos (by omega)])
    have h1' : iter (bX12_pane_156 (nI p) (nI np) (nI n') gw pb) FU (nI (cnt K (fun k => isOq pn p 0 (itr nv k (gs p)).1 (itr nv k (gs p)).2)), nI 0) = some (0, (nI (cnt K (fun k => isOq pn p np (itr nv k (gs p)).1 (itr nv k (gs p)).2)), nI np)) := h1
    rw [e0] at h1'
    rw [en, nl_0]
    exact h1'
