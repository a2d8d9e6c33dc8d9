/-! the glass: near bits of the class, a fresh start of both -/
def tch (pn : Nat → Nat → Option Nat) (p q : Nat) : Prop := p ≠ q ∧ ∃ c d, pn c d = some p ∧ pn d c = some q
noncomputable def tB (pn : Nat → Nat → Option Nat) (p q : Nat) : Bool := @decide (tch pn p q) (Classical.propDecidable _)
theorem tB_i (pn : Nat → Nat → Option Nat) (p q : Nat) : tB pn p q = true ↔ tch pn p q := by unfold tB; exact @decide_eq_true_iff _ (Classical.propDecidable _)
theorem tB_ex {pn : Nat → Nat → Option Nat} {p q : Nat} {b : Bool} (h : b = true ↔ tch pn p q) : b = tB pn p q := by
  rw [Bool.eq_iff_iff, tB_i]; exact h
theorem mark_o {p : Nat} (hp : p < 128) {o : Option Nat} (ho : ∀ q, o = some q → q < 128) (H L : Nat → Int64) : ∃ H' L' : Nat → Int64, sX3_markNear (nI p) (oI o) H L = some (H', L') ∧ ∀ a b, b < 128 → bt H' L' a b = (bt H L a b || (decide (a = p) && (decide (o = some b) && decide (b ≠ p)))) := by
  cases o with
  | none =>
    refine ⟨H, L, rfl, fun a b _ => ?_⟩
    simp
  | some q =>
    have hq := ho q rfl
    show ∃ H' L' : Nat → Int64, sX3_markNear (nI p) (nI q) H L = some (H', L') ∧ _
    unfold sX3_markNear
    rw [if_neg (show ¬ nI q < 0 from nI_pos (by omega))]
    by_cases z : q = p
    · subst z
      refine ⟨H, L, by rw [if_neg (by simp)], fun a b _ => ?_⟩
      by_cases y : b = q
      · simp [y]
      · have : ¬ q = b := fun z => y z.symm
        simp [this]
    · obtain ⟨H', L', h1, h2⟩ := join_ok hp hq H L
      refine ⟨H', L', ?_, fun a b hb => ?_⟩
      · rw [if_pos (by rw [nI_eqS (by omega) (by omega)]; exact z)]
        exact h1
      · rw [h2 a b hb]
        congr 2
        by_cases y : b = q
        · subst y; simp [z]
        · have : ¬ q = b := fun z => y z.symm
          simp [y, this]
theorem near_in {nv : Nat → Nat → Nat} {fm : Nat → Nat → Bool} {o : St} {np : Nat} {gs : Nat → St} {pn : Nat → Nat → Option Nat} (h : PN nv fm np gs pn) (hWl : Wlk nv fm o np gs) {n : Nat} {F T : Nat → Nat} (hn : n ≤ 684) (hnp : np ≤ 125) {st wk tw : Nat → Nat} {sa wa pa tn : Nat → Int32} (hP : PaX nv fm o n F T np gs pa) (ht : hN n tn tw) (htw : ∀ s, s < n → tw s < n ∧ F (tw s) = T s ∧ T (tw s) = F s) (hW : WaX nv n F T np gs st wk sa wa) {p : Nat} (hp : p < np) {K : Nat} (hK : Per nv (gs p) K) (hK6 : K ≤ 684) (H L : Nat → Int64) : ∃ H' L' : Nat → Int64, iter (bX3_begin_43 pa tn sa wa (nI p)) FU ((0 : Int32), H, L) = some (0, (nI K, H', L')) ∧ ∀ a b, b < 128 → bt H' L' a b = (bt H L a b || (decide (a = p) && (decide (0 < cnt K (fun k => isO pn b (itr nv k (gs p)).1 (itr nv k (gs p)).2)) && decide (b ≠ p)))) := by
  have cn := cornX_ok hn hnp hW hp hK
  obtain ⟨s, h1, h2⟩ := iter_for (S := (Nat → Int64) × (Nat → Int64)) (B := bX3_begin_43 pa tn sa wa (nI p)) (fun i s => (nI i, s.1, s.2)) K (fun i s => ∀ a b, b < 128 → bt s.1 s.2 a b = (bt H L a b || (decide (a = p) && (decide (0 < cnt i (fun k => isO pn b (itr nv k (gs p)).1 (itr nv k (gs p)).2)) && decide (b ≠ p))))) 0 (H, L) (fun a b _ => by simp [cnt]) (by omega) (by omega) (fun i s _ hi hI => by
    have be := beyX h hWl hn hnp hP ht htw hW hp hK hi
    obtain ⟨H', L', e1, e2⟩ := mark_o (p := p) (by omega) (o := pn (itr nv i (gs p)).2 (itr nv i (gs p)).1) (fun q hq => by have := (h _ _).1 q hq; omega) s.1 s.2
    refine ⟨(H', L'), ?_, fun a b hb => ?_⟩
    · unfold bX3_begin_43
      simp only [dm3]
      rw [ob_s cn]
      simp (disch := omega) only [dm1, nI_leS]
      rw [if_neg (by omega), ob_s be]
      rw [ob_s e1]
      simp only [dm2, lt, nl_1, nI_add]
    · show bt H' L' a b = _
      rw [e2 a b hb, hI a b hb, cnt_s]
      unfold isO
      by_cases z : pn (itr nv i (gs p)).2 (itr nv i (gs p)).1 = some b
      · simp [z]
        cases bt H L a b <;> by_cases y : a = p <;> by_cases x : b = p <;> simp [y, x]
      · simp [z]) (fun s _ => by
    unfold bX3_begin_43
    simp only [dm3]
    rw [ob_s cn]
    simp (disch := omega) only [dm1, nI_leS]
    rw [if_pos (by omega)])
  refine ⟨s.1, s.2, ?_, h2⟩
  rw [nl_0]
  exact h1
theorem near_t {nv : Nat → Nat → Nat} {fm : Nat → Nat → Bool} {o : St} {np : Nat} {gs : Nat → St} {pn : Nat → Nat → Option Nat} (h : PN nv fm np gs pn) {p : Nat} (hp : p < np) (hS : ∀ k, isS fm (itr nv k (gs p))) {K : Nat} (hK : Per nv (gs p) K) (b : Nat) : (decide (0 < cnt K (fun k => isO pn b (itr nv k (gs p)).1 (itr nv k (gs p)).2)) && decide (b ≠ p)) = tB pn p b := by
  apply tB_ex
  rw [Bool.and_eq_true_iff, decide_eq_true_iff, decide_eq_true_iff]
  constructor
  · intro ⟨z1, z2⟩
    obtain ⟨k, k1, k2⟩ := cnt_ex z1
    exact ⟨fun e => z2 e.symm, (itr nv k (gs p)).1, (itr nv k (gs p)).2, ((h _ _).2 p hp).mpr ⟨hS k, ⟨k, rfl⟩⟩, of_decide_eq_true k2⟩
  · intro ⟨z1, c, d, z2, z3⟩
    obtain ⟨_, ho⟩ := ((h _ _).2 p hp).mp z2
    obtain ⟨k, hk, e⟩ := orb_lt hK ho
    refine ⟨cnt_pos hk ?_, fun e => z1 e.symm⟩
    show isO pn b (itr nv k (gs p)).1 (itr nv k (gs p)).2 = true
    rw [e]
    exact decide_eq_true z3
theorem put_0 {p : Nat} (hp : p < 128) (al co kd : Nat → Int32) : sX3_put (nI p) (0 : Int32) (255 : Int32) al co kd = some (upd al p 255, upd co p 8, upd kd p 0) := by
  obtain ⟨ia, ca⟩ := ix_c (i := p) (n := 128) hp (by omega)
  unfold sX3_put
  rw [gd_s ia, ca]
  show gd _ (gd _ _) = _
  rw [ca] at ia
  rw [gd_s ia]
  show gd _ _ = _
  rw [gd_s ia]
  rfl
theorem begin_ok {w h nl : Nat} {ld : Nat → Ln} {m : Nat} {Q : Nat → Pt3} {fm : Nat → Nat → Bool} {nv : Nat → Nat → Nat} {a np : Nat} {gs : Nat → St} {pn : Nat → Nat → Option Nat} {n : Nat} {u x y fw fe fs fr to tn pa sa wa : Nat → Int32} (hw : Wd w h nl ld m Q fm nv a np gs pn) (hx : SdX w h nl ld m Q fm nv a np gs pn n u x y fw fe fs fr to tn pa sa wa) (tot : Int32) (al co kd lb : Nat → Int32) (nH nL : Nat → Int64) : ∃ (al' co' kd' lb' : Nat → Int32) (nH' nL' : Nat → Int64), sX3_begin tot al co kd lb nH nL (nI np) pa tn sa wa = some (nI np, al', co', kd', lb', nH', nL') ∧ (∀ p, p < np → al' p = 255 ∧ co' p = 8 ∧ kd' p = 0) ∧ (∀ p, p < 128 → lb' p = 0) ∧ ∀ p q, p < np → q < 128 → bt nH' nL' p q = tB pn p q := by
  obtain ⟨F, T, fi, tw, st, wk, x1, x2, x3, x4⟩ := hx
  obtain ⟨w1, w2, w3, w4, w5, w6⟩ := hw
  obtain ⟨s1, s2, s3, s4, s5, s6, s7, s8⟩ := x2
  obtain ⟨s, h1, h2⟩ := iter_for (S := (Nat → Int32) × (Nat → Int32) × (Nat → Int32) × (Nat → Int64) × (Nat → Int64)) (B := bX3_begin_10 (nI np) pa tn sa wa) (fun i s => (nI i, s.1, s.2.1, s.2.2.1, s.2.2.2.1, s.2.2.2.2)) np (fun i s => ∀ p, p < i → (s.1 p = 255 ∧ s.2.1 p = 8 ∧ s.2.2.1 p = 0) ∧ ∀ q, q < 128 → bt s.2.2.2.1 s.2.2.2.2 p q = tB pn p q) 0 (al, co, kd, nH, nL) (fun p hp => by omega) (by omega) (by omega) (fun i s _ hi hI => by
    obtain ⟨K, hK, K6⟩ := wkK s8 x4 hi
    obtain ⟨ia, ca⟩ := ix_c (i := i) (n := 128) (by omega) (by omega)
    obtain ⟨H', L', e1, e2⟩ := near_in w6 w5 s8 w4 x3 s5 s6 x4 hi hK K6 (vp_updL s.2.2.2.1 i (0 : Int64)) (vp_updL s.2.2.2.2 i (0 : Int64))
    refine ⟨(upd s.1 i 255, upd s.2.1 i 8, upd s.2.2.1 i 0, H', L'), ?_, fun p hp => ?_⟩
    · unfold bX3_begin_10
      simp only [dm6]
      rw [if_neg (by rw [nI_leS (by omega) (by omega)]; omega), ob_s (put_0 (by omega) _ _ _)]
      simp only [dm3]
      rw [gd_s ia]
      simp only [lt]
      rw [gd_s ia, ca]
      rw [ob_s e1]
      simp only [ex1, if_true, dm3, lt, nl_1, nI_add]
    · by_cases z : p = i
      · subst z
        refine ⟨⟨pk_us, pk_us, pk_us⟩, fun q hq => ?_⟩
        show bt H' L' p q = _
        have b0 : bt (vp_updL s.2.2.2.1 p (0 : Int64)) (vp_updL s.2.2.2.2 p (0 : Int64)) p q = false := by
          unfold bt
          rw [pk_uLs, pk_uLs]
          split <;> simp
        rw [e2 p q hq, b0, near_t (o := (0, a)) w6 hi (fun k => itr_S w1 w2 (w5.1 p hi).1 k) hK q]
        simp
      · obtain ⟨⟨j1, j2, j3⟩, j4⟩ := hI p (by omega)
        refine ⟨⟨?_, ?_, ?_⟩, fun q hq => ?_⟩
        · show upd s.1 i 255 p = 255
          rw [pk_un z]; exact j1
        · show upd s.2.1 i 8 p = 8
          rw [pk_un z]; exact j2
        · show upd s.2.2.1 i 0 p = 0
          rw [pk_un z]; exact j3
        · show bt H' L' p q = _
          have b0 : bt (vp_updL s.2.2.2.1 i (0 : Int64)) (vp_updL s.2.2.2.2 i (0 : Int64)) p q = bt s.2.2.2.1 s.2.2.2.2 p q := by
            unfold bt
            rw [pk_uLn z, pk_uLn z]
          rw [e2 p q hq, b0, j4 q hq]
          simp [z]) (fun s _ => by
    unfold bX3_begin_10
    simp only [dm6]
    rw [if_pos (by rw [nI_leS (by omega) (by omega)]; omega)])
  obtain ⟨lb', k1, k2⟩ := iter_for (S := Nat → Int32) (B := bX3_begin_77) (fun i s => (nI i, s)) 128 (fun i s => ∀ p, p < i → s p = 0) 0 lb (fun p hp => by omega) (by omega) (by omega) (fun i s _ hi hI => by
    obtain ⟨ia, ca⟩ := ix_c (i := i) (n := 128) (by omega) (by omega)
    refine ⟨upd s i 0, ?_, fun p hp => ?_⟩
    · unfold bX3_begin_77
      simp only [dm2]
      rw [if_neg (by rw [show (128 : Int32) = nI 128 from rfl, nI_leS (by omega) (by omega)]; omega), gd_s ia, ca, nar_0]
      simp only [lt, nl_1, nI_add]
      rfl
    · by_cases z : p = i
      · subst z; exact pk_us
      · rw [pk_un z]; exact hI p (by omega)) (fun s _ => by
    unfold bX3_begin_77
    simp only [dm2]
    rw [if_pos (by rw [show (128 : Int32) = nI 128 from rfl, nI_leS (by omega) (by omega)]; omega)])
  refine ⟨s.1, s.2.1, s.2.2.1, lb', s.2.2.2.1, s.2.2.2.2, ?_, fun p hp => (h2 p hp).1, k2, fun p q hp hq => (h2 p hp).2 q hq⟩
  have h1' : iter (bX3_begin_10 (nI np) pa tn sa wa) FU (nI 0, al, co, kd, nH, nL) = some (0, (nI np, s.1, s.2.1, s.2.2.1, s.2.2.2.1, s.2.2.2.2)) := h1
  have k1' : iter bX3_begin_77 FU (nI 0, lb) = some (0, (nI 128, lb')) := k1
  unfold sX3_begin
  rw [nl_0, ob_s h1', ex1_0]
  simp only [dm6]
  rw [ob_s k1', ex1_0]
  rfl
theorem fresh_ok {np : Nat} (hnp : np ≤ 125) (pk hl : Int32) (al co kd : Nat → Int32) : ∃ al' co' kd' : Nat → Int32, sX12_fresh (nI np) pk hl al co kd = some (0, 0, al', co', kd') ∧ ∀ p, p < np → al' p = 255 ∧ co' p = 8 ∧ kd' p = 0 := by
  obtain ⟨s, h1, h2⟩ := iter_for (S := (Nat → Int32) × (Nat → Int32) × (Nat → Int32)) (B := bX12_fresh_2 (nI np)) (fun i s => (nI i, s.1, s.2.1, s.2.2)) np (fun i s => ∀ p, p < i → s.1 p = 255 ∧ s.2.1 p = 8 ∧ s.2.2 p = 0) 0 (al, co, kd) (fun p hp => by omega) (by omega) (by omega) (fun i s _ hi hI => by
    obtain ⟨ia, ca⟩ := ix_c (i := i) (n := 160) (by omega) (by omega)
    refine ⟨(upd s.1 i 255, upd s.2.1 i 8, upd s.2.2 i 0), ?_, fun p hp => ?_⟩
    · unfold bX12_fresh_2
      simp only [dm4]
      rw [if_neg (by rw [nI_leS (by omega) (by omega)]; omega)]
      simp only [gd_s ia]
      simp only [lt, ca, nl_1, nI_add]
    · by_cases z : p = i
      · subst z; exact ⟨pk_us, pk_us, pk_us⟩
      · obtain ⟨j1, j2, j3⟩ := hI p (by omega)
        refine ⟨?_, ?_, ?_⟩
        · show upd s.1 i 255 p = 255
          rw [pk_un z]; exact j1
        · show upd s.2.1 i 8 p = 8
          rw [pk_un z]; exact j2
        · show upd s.2.2 i 0 p = 0
          rw [pk_un z]; exact j3) (fun s _ => by
    unfold bX12_fresh_2
    simp only [dm4]
    rw [if_pos (by rw [nI_leS (by omega) (by omega)]; omega)])
  refine ⟨s.1, s.2.1, s.2.2, ?_, h2⟩
  have h1' : iter (bX12_fresh_2 (nI np)) FU (nI 0, al, co, kd) = some (0, (nI np, s.1, s.2.1, s.2.2)) := h1
  unfold sX12_fresh
  rw [nl_0, ob_s h1', ex1_0]
  rfl
