/-! at(), on both sides -/
def onF (Q : Nat → Pt3) (fm : Nat → Nat → Bool) (q : Pt3) : Prop := ∃ c d, fm c d = true ∧ c < d ∧ onP (Q c) (Q d) q
theorem Wlk_in {nv : Nat → Nat → Nat} {fm : Nat → Nat → Bool} {o : St} {np : Nat} {gs : Nat → St} (h : Wlk nv fm o np gs) {e : St} (he : isS fm e) (ho : ¬ Orb nv o e) : ∃ p, p < np ∧ Orb nv (gs p) e := by
  rcases h.2.2 e he with z | z
  · exact absurd z ho
  · exact z
theorem Wlk_uq {w h nl : Nat} {ld : Nat → Ln} {m : Nat} {Q : Nat → Pt3} {fm : Nat → Nat → Bool} (hM : Mesh w h nl ld m Q fm) {nv : Nat → Nat → Nat} (hn : NV Q fm nv) {o : St} {np : Nat} {gs : Nat → St} (h : Wlk nv fm o np gs) {e : St} {p p' : Nat} (hp : p < np) (hp' : p' < np) (h1 : Orb nv (gs p) e) (h2 : Orb nv (gs p') e) : p = p' := by
  rcases Nat.lt_trichotomy p p' with z | z | z
  · exact absurd (Orb_t h1 (Orb_s hM hn (h.1 p' hp').1 h2)) (h.2.1 p p' z hp').2
  · exact z
  · exact absurd (Orb_t h2 (Orb_s hM hn (h.1 p hp).1 h1)) (h.2.1 p' p z hp).2
theorem aroundX_ok {w h nl : Nat} {ld : Nat → Ln} {m : Nat} {Q : Nat → Pt3} {fm : Nat → Nat → Bool} (hM : Mesh w h nl ld m Q fm) {nv : Nat → Nat → Nat} (hn : NV Q fm nv) {n : Nat} {F T fi tw : Nat → Nat} {fw fe fs fr to tn : Nat → Int32} (hX : MsX (adB (KX w h ld) (nl + 4) m Q) fm m n F T fi tw fw fe fs fr to tn) {u x y : Nat → Int32} (hJ : JR m Q u x y) {a b : Nat} (ha : cn1 (onK (KX w h ld) Q 3) m 0 a) (ea : (Q a).1 = 0) (hb : cn1 (onK (KX w h ld) Q 0) m 0 b) (eb : (Q b).2.1 = 0) {np : Nat} (hnp : np ≤ 125) {gs : Nat → St} (hWk : Wlk nv fm (0, a) np gs) {st wk : Nat → Nat} {sa wa : Nat → Int32} (hWa : WaX nv n F T np gs st wk sa wa) {qx qy : Nat} (hq : inQ w h (qx, qy, 2)) : ∃ (r : Int32) (u' x' y' : Nat → Int32), sX7_around (nI qx) (nI qy) (2 : Int32) (nI np) u x y (nI n) fw fr to sa wa = some (r, u', x', y') ∧ JR m Q u' x' y' ∧ (onF Q fm (qx, qy, 2) → r = -1) ∧ (¬ onF Q fm (qx, qy, 2) → ∃ p, r = nI p ∧ p < np ∧ ∀ K, ∀ p', p' < np → Per nv (gs p') K → sm K (fun k => rho Q (qx, qy, 2) (itr nv k (gs p'))) = if p' = p then 1 else 0) := by
  obtain ⟨x1, x2, x3, x4, x5, x6, x7, x8⟩ := hX
  have hm := hM.2.2.1
  have qB := inQ_B hM.1.2.1 hM.1.2.2.2.1 hq
  have hQ : ∀ i, i < m → pB (Q i) := fun i hi => pB_of (hM.2.1.1 i hi)
  have hF : ∀ k, k < n → F k < m ∧ T k < m := fun k hk => ⟨(x1.1 k hk).1, (x1.1 k hk).2.1⟩
  have hJ' : JR m Q (upd u 128 (nI 2)) (upd x 128 (nI qx)) (upd y 128 (nI qy)) := fun i hi => by
    obtain ⟨j1, j2, j3⟩ := hJ i hi
    exact ⟨by rw [pk_un (by omega)]; exact j1, by rw [pk_un (by omega)]; exact j2, by rw [pk_un (by omega)]; exact j3⟩
  have aq : At3 (upd u 128 (nI 2)) (upd x 128 (nI qx)) (upd y 128 (nI qy)) 128 (qx, qy, 2) := ⟨pk_us, pk_us, pk_us⟩
  have main := iter_first (B := bX7_around_13 (nI n) fw fr to (upd u 128 (nI 2)) (upd x 128 (nI qx)) (upd y 128 (nI qy))) n (fun s => fm (F s) (T s) = true ∧ onPb (Q (min (F s) (T s))) (Q (max (F s) (T s))) (qx, qy, 2) = true) 0 (by omega) (by omega) (fun s _ hs => by
    have io := isOnX_ok (n := n) (by omega) (show m ≤ 128 by omega) x2 x3 hF hQ hJ' qB aq hs
    have e9 := x7.1 s hs
    dsimp only at e9
    have e0 : bX7_around_13 (nI n) fw fr to (upd u 128 (nI 2)) (upd x 128 (nI qx)) (upd y 128 (nI qy)) (nI s) = if fm (F s) (T s) = false then some (0, nI (s + 1)) else if onPb (Q (min (F s) (T s))) (Q (max (F s) (T s))) (qx, qy, 2) = false then some (0, nI (s + 1)) else some (1, nI s) := by
      simp (disch := omega) only [bX7_around_13, dm1, nI_leS, nI_lt0, nI_clampS, false_or, gd_s, e9, bI_0', lt, nI_1, io, ob]
      rw [if_neg (by omega)]
    rw [e0]
    cases h1 : fm (F s) (T s) with
    | false => exact Or.inl ⟨fun z => (by cases z.1), by simp⟩
    | true =>
      cases h2 : onPb (Q (min (F s) (T s))) (Q (max (F s) (T s))) (qx, qy, 2) with
      | false => exact Or.inl ⟨fun z => (by cases z.2), by simp⟩
      | true => exact Or.inr ⟨⟨rfl, rfl⟩, by simp⟩) (by
    simp (disch := omega) only [bX7_around_13, dm1, nI_leS]
    rw [if_pos (by omega)])
  have ask : sX4_ask (nI qx) (nI qy) (2 : Int32) u x y = some (upd u 128 (nI 2), upd x 128 (nI qx), upd y 128 (nI qy)) := ask_ok _ _ _ _ _ _
  have iffF : onF Q fm (qx, qy, 2) ↔ ∃ s, s < n ∧ fm (F s) (T s) = true ∧ onPb (Q (min (F s) (T s))) (Q (max (F s) (T s))) (qx, qy, 2) = true := by
    constructor
    · rintro ⟨c, d, f1, f2, f3⟩
      obtain ⟨s, s1, s2⟩ := sig_ex hM x1 (p := (c, d)) f1
      have e1 : F s = c := congrArg Prod.fst s2
      have e2 : T s = d := congrArg Prod.snd s2
      refine ⟨s, s1, by rw [e1, e2]; exact f1, ?_⟩
      rw [e1, e2, Nat.min_eq_left (by omega), Nat.max_eq_right (by omega)]
      exact decide_eq_true f3
    · rintro ⟨s, s1, s2, s3⟩
      have s3 := of_decide_eq_true s3
      obtain ⟨-, -, ne, s4, -⟩ := fm_ad hM s2
      rcases Nat.lt_or_gt_of_ne ne with z | z
      · refine ⟨F s, T s, s2, z, ?_⟩
        rw [Nat.min_eq_left (by omega), Nat.max_eq_right (by omega)] at s3
        exact s3
      · refine ⟨T s, F s, s4, z, ?_⟩
        rw [Nat.min_eq_right (by omega), Nat.max_eq_left (by omega)] at s3
        exact s3
  rcases main with ⟨s, -, s1, s2, -, s3⟩ | ⟨s1, s2⟩
  · refine ⟨-1, _, _, _, ?_, hJ', fun _ => rfl, fun z => absurd (iffF.mpr ⟨s, s1, s2⟩) z⟩
    unfold sX7_around
    rw [ask]
    show ob (iter (bX7_around_13 (nI n) fw fr to (upd u 128 (nI 2)) (upd x 128 (nI qx)) (upd y 128 (nI qy))) FU (nI 0)) _ = _
    rw [ob_s s3]
    rfl
  · have hno : ¬ onF Q fm (qx, qy, 2) := fun z => by
      obtain ⟨s, y1, y2⟩ := iffF.mp z
      exact s1 s (by omega) y1 y2
    have hno' : ∀ c d, fm c d = true → c < d → ¬ onP (Q c) (Q d) (qx, qy, 2) := fun c d f1 f2 f3 => hno ⟨c, d, f1, f2, f3⟩
    obtain ⟨e, e1, e2, e3⟩ := rounds_math hM hn ha ea hb eb hq hno'
    obtain ⟨p0, p1, p2⟩ := Wlk_in hWk e1 e2
    have val : ∀ p', p' < np → ∀ K, Per nv (gs p') K → sm K (fun k => rho Q (qx, qy, 2) (itr nv k (gs p'))) = if p' = p0 then 1 else 0 := by
      intro p' hp' K hK
      rw [e3 (gs p') K (hWk.1 p' hp').1 (hWk.1 p' hp').2.1 hK]
      by_cases z : p' = p0
      · subst z
        rw [if_pos rfl, orbB_t.mpr p2]; rfl
      · rw [if_neg z]
        cases h9 : orbB nv (gs p') e.1 e.2 with
        | false => rfl
        | true => exact absurd (Wlk_uq hM hn hWk hp' p1 (orbB_t.mp h9) p2) z
    have ins : ∀ p', p' < np → sX7_isInside (nI p') (upd u 128 (nI 2)) (upd x 128 (nI qx)) (upd y 128 (nI qy)) fr to sa wa = some (bI (decide (p' = p0))) := by
      intro p' hp'
      obtain ⟨K, hK, i1⟩ := inside_ok (nv := nv) x8 (show m ≤ 128 by omega) x2 x3 hF hQ hJ' qB aq hnp hWa hp'
      rw [i1]
      obtain ⟨M, hMm⟩ := par_math hM hn (hWk.1 p' hp').1 (qx, qy, 2) K
      rw [val p' hp' K hK] at hMm
      congr 2
      rw [decide_eq_decide]
      by_cases z : p' = p0
      · rw [if_pos z] at hMm; omega
      · rw [if_neg z] at hMm; omega
    have main2 := iter_first (B := bX7_around_58 (nI np) fr to sa wa (upd u 128 (nI 2)) (upd x 128 (nI qx)) (upd y 128 (nI qy))) np (fun p => p = p0) 0 (by omega) (by omega) (fun p _ hp => by
      have e0 : bX7_around_58 (nI np) fr to sa wa (upd u 128 (nI 2)) (upd x 128 (nI qx)) (upd y 128 (nI qy)) (nI p) = if decide (p = p0) = false then some (0, nI (p + 1)) else some (1, nI p) := by
        simp (disch := omega) only [bX7_around_58, dm1, nI_leS, ins p hp, ob, bI_0', lt, nI_1]
        rw [if_neg (by omega)]
      rw [e0]
      by_cases z : p = p0
      · exact Or.inr ⟨z, by simp [z]⟩
      · exact Or.inl ⟨z, by simp [z]⟩) (by
      simp (disch := omega) only [bX7_around_58, dm1, nI_leS]
      rw [if_pos (by omega)])
    rcases main2 with ⟨p, -, t1, t2, -, t3⟩ | ⟨t1, -⟩
    · subst t2
      refine ⟨nI p, _, _, _, ?_, hJ', fun z => absurd z hno, fun _ => ⟨p, rfl, t1, fun K p' hp' hK => val p' hp' K hK⟩⟩
      unfold sX7_around
      rw [ask]
      show ob (iter (bX7_around_13 (nI n) fw fr to (upd u 128 (nI 2)) (upd x 128 (nI qx)) (upd y 128 (nI qy))) FU (nI 0)) _ = _
      rw [ob_s s2]
      show ob (iter (bX7_around_58 (nI np) fr to sa wa (upd u 128 (nI 2)) (upd x 128 (nI qx)) (upd y 128 (nI qy))) FU (nI 0)) _ = _
      rw [ob_s t3]
      rfl
    · exact absurd rfl (t1 p0 (by omega) p1)
/-- along a way that goes up (or level to the right) -/
theorem lexal {ux uy px py : Int} (hu : 0 < uy ∨ (uy = 0 ∧ 0 < ux)) (hc : px * uy = py * ux) : 0 ≤ px * ux + py * uy ↔ (0 < py ∨ (py = 0 ∧ 0 ≤ px)) := by
  have s1 := sq_nn ux
  have s2 := sq_nn uy
  have hS : 0 < ux * ux + uy * uy := by
    rcases hu with h | ⟨h, h'⟩
    · have := m_pp h h; omega
    · have := m_pp h' h'; omega
  have e1 : (ux * ux + uy * uy) * px = (px * ux + py * uy) * ux := by grind
  have e2 : (ux * ux + uy * uy) * py = (px * ux + py * uy) * uy := by grind
  generalize px * ux + py * uy = g at *
  generalize ux * ux + uy * uy = S at *
  have k1 : (0 < S * px ↔ 0 < px) ∧ (S * px < 0 ↔ px < 0) := by rw [Int.mul_comm]; exact sgn_mul hS
  have k2 : (0 < S * py ↔ 0 < py) ∧ (S * py < 0 ↔ py < 0) := by rw [Int.mul_comm]; exact sgn_mul hS
  rcases hu with h | ⟨h, h'⟩
  · have k3 := sgn_mul (x := g) h
    constructor
    · intro hg
      by_cases z : g = 0
      · rw [z] at e1 e2; omega
      · left; omega
    · intro hp
      rcases Int.lt_or_le g 0 with z | z
      · exfalso
        have : py < 0 := by omega
        omega
      · exact z
  · rw [h] at e2
    have k3 := sgn_mul (x := g) h'
    have : py = 0 := by omega
    omega
theorem onPc_ok {m : Nat} {Q : Nat → Pt3} {n : Nat} {A B : Nat → Nat} {P : Nat → Nat → Prop} (hm : m ≤ 123) (hQ : ∀ i, i < m → pOK (Q i)) (hS : Srt m Q) (h : PcM P m n A B) (hn : n ≤ 342) {gr gt : Nat → Int32} (hf : hN n gr A) (ht : hN n gt B) {d x y : Nat → Int64} (hJ : JL m Q d x y) {qx qy : Nat} (hqB : pB (qx, qy, 2)) {k : Nat} (hk : k < n) : sX12_isOnPiece (nI k) (lN qx) (lN qy) d gr gt x y = some (bI (onPb (Q (A k)) (Q (B k)) (qx, qy, 2))) := by
  obtain ⟨a1, a2, -⟩ := h.1 k hk
  have a3 : A k < m := by omega
  have bA := pB_of (hQ _ a3)
  have bB := pB_of (hQ _ a2)
  have eX := wX_ok (show A k < 240 by omega) (show B k < 240 by omega) (hJ _ a3) (hJ _ a2)
  have eY := wY_ok (show A k < 240 by omega) (show B k < 240 by omega) (hJ _ a3) (hJ _ a2)
  have w1 := wX_bd bA bB
  have w2 := wY_bd bA bB
  have w3 := wX_bd bA hqB
  have w4 := wY_bd bA hqB
  obtain ⟨j1, j2, j3⟩ := hJ _ a3
  obtain ⟨j4, j5, j6⟩ := hJ _ a2
  have p1 : lN qx * lN (Q (A k)).2.2 - (2 : Int64) * lN (Q (A k)).1 = lz (vX (Q (A k)) (qx, qy, 2)) := by
    rw [show (2 : Int64) = lN 2 from rfl, ← lz_n, ← lz_n, ← lz_n, ← lz_n, lz_mul, lz_mul, lz_sub]
    congr 1
    unfold vX; dsimp only; grind
  have p2 : lN qy * lN (Q (A k)).2.2 - (2 : Int64) * lN (Q (A k)).2.1 = lz (wY (Q (A k)) (qx, qy, 2)) := by
    rw [show (2 : Int64) = lN 2 from rfl, ← lz_n, ← lz_n, ← lz_n, ← lz_n, lz_mul, lz_mul, lz_sub]
    congr 1
    unfold wY; dsimp only; grind
  have hp := hS _ _ a1 a2
  rw [plt_iff] at hp
  have hu : 0 < wY (Q (A k)) (Q (B k)) ∨ (wY (Q (A k)) (Q (B k)) = 0 ∧ 0 < vX (Q (A k)) (Q (B k))) := by
    unfold vX wY
    rw [← Int.natCast_mul, ← Int.natCast_mul, ← Int.natCast_mul, ← Int.natCast_mul]
    omega
  have hcr := cross_w (Q (A k)) (Q (B k)) (qx, qy, 2)
  have d0 : (0 : Int) < (Q (A k)).2.2 := by have := bA.1; omega
  have db : (0 : Int) < (Q (B k)).2.2 := by have := bB.1; omega
  have rX : ((Q (A k)).2.2 : Int) * vX (qx, qy, 2) (Q (B k)) = 2 * vX (Q (A k)) (Q (B k)) - (Q (B k)).2.2 * vX (Q (A k)) (qx, qy, 2) := by unfold vX; dsimp only; grind
  have rY : ((Q (A k)).2.2 : Int) * wY (qx, qy, 2) (Q (B k)) = 2 * wY (Q (A k)) (Q (B k)) - (Q (B k)).2.2 * wY (Q (A k)) (qx, qy, 2) := by unfold wY; dsimp only; grind
  have pcA : pcmp (Q (A k)) (qx, qy, 2) ≤ 0 ↔ (0 < wY (Q (A k)) (qx, qy, 2) ∨ (wY (Q (A k)) (qx, qy, 2) = 0 ∧ 0 ≤ vX (Q (A k)) (qx, qy, 2))) := by
    unfold pcmp pX pY vX wY
    simp only [Int.natCast_mul]
    split <;> omega
  have pcB : pcmp (qx, qy, 2) (Q (B k)) ≤ 0 ↔ (0 < wY (qx, qy, 2) (Q (B k)) ∨ (wY (qx, qy, 2) (Q (B k)) = 0 ∧ 0 ≤ vX (qx, qy, 2) (Q (B k)))) := by
    unfold pcmp pX pY vX wY
    simp only [Int.natCast_mul]
    split <;> omega
  have key : onPb (Q (A k)) (Q (B k)) (qx, qy, 2) = decide (vX (Q (A k)) (qx, qy, 2) * wY (Q (A k)) (Q (B k)) = wY (Q (A k)) (qx, qy, 2) * vX (Q (A k)) (Q (B k)) ∧ 0 ≤ vX (Q (A k)) (qx, qy, 2) * vX (Q (A k)) (Q (B k)) + wY (Q (A k)) (qx, qy, 2) * wY (Q (A k)) (Q (B k)) ∧ (vX (Q (A k)) (qx, qy, 2) * vX (Q (A k)) (Q (B k)) + wY (Q (A k)) (qx, qy, 2) * wY (Q (A k)) (Q (B k))) * (Q (B k)).2.2 ≤ 2 * (vX (Q (A k)) (Q (B k)) * vX (Q (A k)) (Q (B k)) + wY (Q (A k)) (Q (B k)) * wY (Q (A k)) (Q (B k)))) := by
    unfold onPb
    rw [decide_eq_decide, pcA, pcB]
    generalize vX (Q (A k)) (qx, qy, 2) = px at *
    generalize wY (Q (A k)) (qx, qy, 2) = py at *
    generalize vX (Q (A k)) (Q (B k)) = ux at *
    generalize wY (Q (A k)) (Q (B k)) = uy at *
    generalize vX (qx, qy, 2) (Q (B k)) = rx at *
    generalize wY (qx, qy, 2) (Q (B k)) = ry at *
    generalize dtp (Q (A k)) (Q (B k)) (qx, qy, 2) = D at *
    generalize ((Q (A k)).2.2 : Int) = da at *
    generalize ((Q (B k)).2.2 : Int) = dq at *
    have c0 : D = 0 ↔ px * uy = py * ux := by
      constructor
      · intro z; rw [z, Int.mul_zero] at hcr; grind
      · intro z
        have : da * D = 0 := by rw [← hcr]; grind
        rcases Int.mul_eq_zero.mp this with y | y
        · omega
        · exact y
    rw [c0]
    constructor
    · rintro ⟨h1, h2, h3⟩
      refine ⟨h1, (lexal hu h1).mpr h2, ?_⟩
      have cr : rx * uy = ry * ux := by
        have : da * (rx * uy) = da * (ry * ux) := by grind
        exact Int.eq_of_mul_eq_mul_left (by omega) this
      have k := (lexal hu cr).mpr h3
      have k2 := Int.mul_nonneg (show 0 ≤ da by omega) k
      have : da * (rx * ux + ry * uy) = 2 * (ux * ux + uy * uy) - (px * ux + py * uy) * dq := by grind
      omega
    · rintro ⟨h1, h2, h3⟩
      refine ⟨h1, (lexal hu h1).mp h2, ?_⟩
      have cr : rx * uy = ry * ux := by
        have : da * (rx * uy) = da * (ry * ux) := by grind
        exact Int.eq_of_mul_eq_mul_left (by omega) this
      refine (lexal hu cr).mp ?_
      have : da * (rx * ux + ry * uy) = 2 * (ux * ux + uy * uy) - (px * ux + py * uy) * dq := by grind
      exact Int.nonneg_of_mul_nonneg_right (show 0 ≤ da * (rx * ux + ry * uy) by omega) d0
  rw [key]
  have d2 := bB.2.1
  generalize hpx : vX (Q (A k)) (qx, qy, 2) = px at *
  generalize hpy : wY (Q (A k)) (qx, qy, 2) = py at *
  generalize hux : vX (Q (A k)) (Q (B k)) = ux at *
  generalize huy : wY (Q (A k)) (Q (B k)) = uy at *
  have m1 := mul_bd (A := 995328) (B := 995328) w3.1 w3.2 w1.1 w1.2 (by omega) (by omega)
  have m2 := mul_bd (A := 995328) (B := 995328) w4.1 w4.2 w2.1 w2.2 (by omega) (by omega)
  have m3 := mul_bd (A := 995328) (B := 995328) w3.1 w3.2 w2.1 w2.2 (by omega) (by omega)
  have m4 := mul_bd (A := 995328) (B := 995328) w4.1 w4.2 w1.1 w1.2 (by omega) (by omega)
  have m5 := mul_bd (A := 995328) (B := 995328) w1.1 w1.2 w1.1 w1.2 (by omega) (by omega)
  have m6 := mul_bd (A := 995328) (B := 995328) w2.1 w2.2 w2.1 w2.2 (by omega) (by omega)
  have m7 := mul_bd (A := 2000000000000) (B := 288) (a := px * ux + py * uy) (b := ((Q (B k)).2.2 : Int)) (by omega) (by omega) (by omega) (by omega) (by omega) (by omega)
  have c1 : (lg_cmp (lz (px * uy)) (lz (py * ux)) = 0) ↔ px * uy = py * ux := (lg_cmp_eq _ _).trans (lz_eq (by omega) (by omega) (by omega) (by omega))
  have c2 : (lg_cmp (lz (px * ux + py * uy)) 0 < 0) ↔ px * ux + py * uy < 0 := (lg_cmp_lt _ _).trans (lz_lt (b := 0) (by omega) (by omega) (by omega) (by omega))
  have c3 : (0 < lg_cmp (lz ((px * ux + py * uy) * (Q (B k)).2.2)) (lz (2 * (ux * ux + uy * uy)))) ↔ 2 * (ux * ux + uy * uy) < (px * ux + py * uy) * (Q (B k)).2.2 := (lg_cmp_gt _ _).trans (lz_lt (by omega) (by omega) (by omega) (by omega))
  have l2 : (2 : Int64) = lz 2 := rfl
  simp (disch := omega) only [sX12_isOnPiece, lt, nI_lt0, nI_clampS, false_or, gd_s, hf k hk, ht k hk, eX, eY, ob, dm1, j1, j2, j3, j6, p1, p2, lz_mul, lz_add]
  rw [← lz_n (Q (B k)).2.2, l2, lz_mul, lz_mul]
  simp only [c1, c2, c3]
  by_cases h1 : px * uy = py * ux
  · rw [if_neg (fun z => z h1)]
    by_cases h2 : px * ux + py * uy < 0
    · rw [if_pos h2, decide_eq_false (by omega)]; rfl
    · rw [if_neg h2]
      by_cases h3 : 2 * (ux * ux + uy * uy) < (px * ux + py * uy) * (Q (B k)).2.2
      · rw [if_pos h3, decide_eq_false (by omega)]; rfl
      · rw [if_neg h3, decide_eq_true ⟨h1, by omega, by omega⟩]; rfl
  · rw [if_pos h1, decide_eq_false (fun z => h1 z.1)]; rfl
