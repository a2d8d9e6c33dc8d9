/-! alike: the loop of the reference; both numbers are one -/
theorem turnsM {w h w' h' : Nat} (hw : w ≤ 12) (hh : h ≤ 12) (hw' : w' ≤ 12) (hh' : h' ≤ 12) {m m' : Nat} (hm : m ≤ 123) (hm' : m' ≤ 123) {Q Q' : Nat → Pt3} (hQ : ∀ i, i < m → pOK (Q i) ∧ (Q i).1 ≤ w * (Q i).2.2 ∧ (Q i).2.1 ≤ h * (Q i).2.2) (hQ' : ∀ i, i < m' → pOK (Q' i)) (hS' : Srt m' Q') {d x y d' x' y' : Nat → Int64} (hJ : JL m Q d x y) (hJ' : JL m' Q' d' x' y') {P P' : Nat → Nat → Prop} {ad ad' : Nat → Nat → Bool} {n n2 : Nat} (hn : n ≤ 342) (hn2 : n2 ≤ 342) {A B A2 B2 : Nat → Nat} (hP : PcM P m n A B) (hR : PcR P ad m) {gr gt : Nat → Int32} (hf : hN n gr A) (ht : hN n gt B) (hP2 : PcM P' m' n2 A2 B2) (hR2 : PcR P' ad' m') (hs2 : ∀ i j, ad' i j = ad' j i) {gr2 gt2 : Nat → Int32} (hf2 : hN n2 gr2 A2) (ht2 : hN n2 gt2 B2) (go : Nat → Int32) : ∃ go', iter (bX12_alike_v0_54 (nI w') (nI h') (nI w) (nI h) (nI m) (nI n) d gr gt x y (nI m') (nI n2) d' gr2 gt2 x' y') FU ((0 : Int32), (0 : Int32), go) = some (0, (nI (totF (fun q o => ftB w h w' h' q o m m' n n2 Q Q' ad ad') 4), nI 4, go')) := by
  obtain ⟨go', h1, _⟩ := iter_for (S := Nat → Int32) (B := bX12_alike_v0_54 (nI w') (nI h') (nI w) (nI h) (nI m) (nI n) d gr gt x y (nI m') (nI n2) d' gr2 gt2 x' y') (fun q s => (nI (totF (fun q o => ftB w h w' h' q o m m' n n2 Q Q' ad ad') q), nI q, s)) 4 (fun _ _ => True) 0 go trivial (by omega) (by omega) (fun q s _ hq _ => by
    have n4 : ¬ (4 : Int32) ≤ nI q := by rw [show (4 : Int32) = nI 4 from rfl, nI_leS (by omega) (by omega)]; omega
    obtain ⟨b0, s1, e1, e2⟩ := turnM hw hh hw' hh' hq false hm hm' hQ hQ' hS' hJ hJ' hn hn2 hP hR hf ht hP2 hR2 hs2 hf2 ht2 s
    obtain ⟨b1, s2, f1, f2⟩ := turnM hw hh hw' hh' hq true hm hm' hQ hQ' hS' hJ hJ' hn hn2 hP hR hf ht hP2 hR2 hs2 hf2 ht2 s1
    have c0 : ftB w h w' h' q false m m' n n2 Q Q' ad ad' = b0 := by rw [Bool.eq_iff_iff, ftB_i, e2]
    have c1 : ftB w h w' h' q true m m' n n2 Q Q' ad ad' = b1 := by rw [Bool.eq_iff_iff, ftB_i, f2]
    refine ⟨s2, ?_, trivial⟩
    have e1' : sX12_isTurned (nI q) (0 : Int32) s (nI w) (nI h) (nI m) (nI n) d gr gt x y (nI w') (nI h') (nI m') (nI n2) d' gr2 gt2 x' y' = some (bI b0, s1) := e1
    have f1' : sX12_isTurned (nI q) (1 : Int32) s1 (nI w) (nI h) (nI m) (nI n) d gr gt x y (nI w') (nI h') (nI m') (nI n2) d' gr2 gt2 x' y' = some (bI b1, s2) := f1
    have g0 : (if bI b0 = 0 then some (0 : Int32) else some (1 : Int32)) = some (nI (if b0 = true then 1 else 0)) := by cases b0 <;> rfl
    have g1 : (if bI b1 = 0 then some (0 : Int32) else some (1 : Int32)) = some (nI (if b1 = true then 1 else 0)) := by cases b1 <;> rfl
    have tot : totF (fun q o => ftB w h w' h' q o m m' n n2 Q Q' ad ad') (q + 1) = totF (fun q o => ftB w h w' h' q o m m' n n2 Q Q' ad ad') q + (if b0 = true then 1 else 0) + (if b1 = true then 1 else 0) := by
      show totF _ q + (if ftB w h w' h' q false m m' n n2 Q Q' ad ad' = true then 1 else 0) + (if ftB w h w' h' q true m m' n n2 Q Q' ad ad' = true then 1 else 0) = _
      rw [c0, c1]
    unfold bX12_alike_v0_54
    simp only [dm3]
    rw [if_neg n4, gd_s (by decide), ob_d2 e1', ob_d1 g0, lt_v, gd_s (by decide), ob_d2 f1', ob_d1 g1, lt_v, lt_v, nI_1, nI_add, nI_add, tot]) (fun s _ => by
    unfold bX12_alike_v0_54
    simp only [dm3]
    rw [if_pos (by decide)])
  exact ⟨go', h1⟩
theorem av1 : bX12_alike_v1_54 = bX12_alike_v0_54 := by
  funext a1 a2 a3 a4 a5 a6 a7 a8 a9 a10 a11 a12 a13 a14 a15 a16 a17 a18 t
  unfold bX12_alike_v1_54 bX12_alike_v0_54
  simp only [gd_s (show ¬ ((1 : Int32) < 0 ∨ 4 ≤ (1 : Int32).toNatClampNeg) by decide), gd_s (show ¬ ((0 : Int32) < 0 ∨ 4 ≤ (0 : Int32).toNatClampNeg) by decide)]
theorem av2 : bX12_alike_v2_54 = bX12_alike_v0_54 := by
  funext a1 a2 a3 a4 a5 a6 a7 a8 a9 a10 a11 a12 a13 a14 a15 a16 a17 a18 t
  unfold bX12_alike_v2_54 bX12_alike_v0_54
  simp only [gd_s (show ¬ ((2 : Int32) < 0 ∨ 4 ≤ (2 : Int32).toNatClampNeg) by decide), gd_s (show ¬ ((0 : Int32) < 0 ∨ 4 ≤ (0 : Int32).toNatClampNeg) by decide)]
theorem av3 : bX12_alike_v3_54 = bX12_alike_v0_54 := by
  funext a1 a2 a3 a4 a5 a6 a7 a8 a9 a10 a11 a12 a13 a14 a15 a16 a17 a18 t
  unfold bX12_alike_v3_54 bX12_alike_v0_54
  simp only [gd_s (show ¬ ((3 : Int32) < 0 ∨ 4 ≤ (3 : Int32).toNatClampNeg) by decide), gd_s (show ¬ ((0 : Int32) < 0 ∨ 4 ≤ (0 : Int32).toNatClampNeg) by decide)]
theorem ftB_n {w h w' h' q : Nat} {o : Bool} {m m' n n2 k k2 : Nat} {Q Q' : Nat → Pt3} {ad ad' : Nat → Nat → Bool} (e1 : n = 2 * k) (e2 : n2 = 2 * k2) : ftB w h w' h' q o m m' n n2 Q Q' ad ad' = ftB w h w' h' q o m m' k k2 Q Q' ad ad' := by
  rw [Bool.eq_iff_iff, ftB_i, ftB_i]
  unfold FT
  have : (n = n2) ↔ (k = k2) := by omega
  rw [this]
theorem alk {w h nl : Nat} {ld : Nat → Ln} {m : Nat} {Q : Nat → Pt3} {fm : Nat → Nat → Bool} {nv : Nat → Nat → Nat} {a np : Nat} {gs : Nat → St} {pn : Nat → Nat → Option Nat} {n : Nat} {u x y fw fe fs fr to tn pa sa wa : Nat → Int32} {n' : Nat} {d x2 y2 : Nat → Int64} {gw gr gt pb fa : Nat → Int32} (hw : Wd w h nl ld m Q fm nv a np gs pn) (hx : SdX w h nl ld m Q fm nv a np gs pn n u x y fw fe fs fr to tn pa sa wa) (hm : SdM w h nl ld m Q fm nv a np gs pn n' d x2 y2 gw gr gt pb fa) {w' h' nl' : Nat} {ld' : Nat → Ln} (hD : Dr w' h' nl' ld') {X Y U V : Nat → Int32} (hA : ∀ k, k < nl' + 4 → LnAt X Y U V k (KX w' h' ld' k)) {X' Y' U' V' : Nat → Int32} (hA' : ∀ k, k < nl' → LnAt X' Y' U' V' k (ld' k)) (img : Nat → Int32) (ot : Int32) (ou ox oy : Nat → Int32) (os : Int32) (ofw ofe ofs ofr : Nat → Int32) (oH oL : Nat → Int64) (ore oto otn : Nat → Int32) (li jo pi : Int32) (dd : Nat → Int64) (kw kr kt : Nat → Int32) (kx ky : Nat → Int64) (go : Nat → Int32) :
    ∃ (r : Int32) (img' : Nat → Int32) (p1 : Int32) (p2 p3 p4 : Nat → Int32) (p5 : Int32) (p6 p7 p8 p9 : Nat → Int32) (p10 p11 : Nat → Int64) (p12 p13 p14 : Nat → Int32) (go' : Nat → Int32) (o12 o13 o14 : Int32) (o15 o16 o17 o18 : Nat → Int32) (o19 : Nat → Int64) (o20 o21 o22 : Nat → Int32) (o23 o24 : Nat → Int64),
      sX5_turnings img (nI m) u x y (nI n) fr to ot ou ox oy os ofw ofe ofs ofr oH oL ore oto otn (nI w) (nI h) (nI w') (nI h') (nI (nl' + 4)) U V X Y = some (r, img', p1, p2, p3, p4, p5, p6, p7, p8, p9, p10, p11, p12, p13, p14) ∧
      sX10_draw (nI w') (nI h') (nI nl') li jo pi X' Y' U' V' dd kw kr kt kx ky = some (o12, o13, o14, o15, o16, o17, o18, o19, o20, o21, o22, o23, o24) ∧
      iter (bX12_alike_v0_54 (nI w') (nI h') (nI w) (nI h) (nI m) (nI n') d gr gt x2 y2 o13 o14 o19 o21 o22 o23 o24) FU ((0 : Int32), (0 : Int32), go) = some (0, (r, nI 4, go')) ∧ ∀ k, k < nl' → LnAt o15 o16 o17 o18 k (ld' k) := by
  obtain ⟨F, T, fi, tw, st, wk, x1, x2', x3, x4⟩ := hx
  obtain ⟨A, B, cs, m1, m2, m3, m4⟩ := hm
  obtain ⟨w1, w2, w3, w4, w5, w6⟩ := hw
  obtain ⟨s1, s2, s3, s4, s5, s6, s7, s8⟩ := x2'
  obtain ⟨t1, t2, t3, t4, t5⟩ := m2
  obtain ⟨m', Q', fm', hM', ⟨nn, F2, T2, fi2, tw2, u1, v1, y1, fw', fe', fs', fr', re', to', tn', H', L', e1, j1, S1⟩, ⟨nm, A2, B2, X3, Y3, U3, V3, gw', gr', gt', d1, x5, y3, e2, j2, S2, l2⟩⟩ := lay_both hD hA hA' ot ou ox oy os ofw ofe ofs ofr ore oto otn oH oL li jo pi dd kx ky kw kr kt
  have dr := w1.1
  have hQ : ∀ i, i < m → pOK (Q i) ∧ (Q i).1 ≤ w * (Q i).2.2 ∧ (Q i).2.1 ≤ h * (Q i).2.2 := fun i hi => ⟨w1.2.1.1 i hi, in_win w1.1 w1.2.1 hi⟩
  obtain ⟨S3, S4, S5, S6, S7, S8, S9, S10⟩ := S1
  obtain ⟨R1, R2, R3, R4, R5⟩ := S2
  obtain ⟨img', k1⟩ := turnsX dr.2.1 dr.2.2.2.1 hD.2.1 hD.2.2.2.1 w1.2.2.1 hM'.2.2.1 hQ hM'.2.1.1 hM'.2.1.2.1 x1 j1 s8 S10 s1 s2 s3 S3 S6 S5 img
  obtain ⟨go', k2⟩ := turnsM dr.2.1 dr.2.2.2.1 hD.2.1 hD.2.2.2.1 w1.2.2.1 hM'.2.2.1 hQ hM'.2.1.1 hM'.2.1.2.1 m1 j2 t5 R5 t1 (adB_R (KX w h ld) (nl + 4) m Q) t2 t3 R1 (adB_R (KX w' h' ld') (nl' + 4) m' Q') (fun i j => adB_s _ _ _ _ i j) R2 R3 go
  have n2 : n = 2 * n' := steps_two s1 t1 (adB_R _ _ _ _)
  have n3 : nn = 2 * nm := steps_two S3 R1 (adB_R _ _ _ _)
  have te : (fun q o => ftB w h w' h' q o m m' n nn Q Q' (adB (KX w h ld) (nl + 4) m Q) (adB (KX w' h' ld') (nl' + 4) m' Q')) = (fun q o => ftB w h w' h' q o m m' n' nm Q Q' (adB (KX w h ld) (nl + 4) m Q) (adB (KX w' h' ld') (nl' + 4) m' Q')) := by
    funext q o
    exact ftB_n n2 n3
  rw [← te] at k2
  refine ⟨_, img', nI m', u1, v1, y1, nI nn, fw', fe', fs', fr', H', L', re', to', tn', go', nI (nl' + 4), nI m', nI nm, X3, Y3, U3, V3, d1, gw', gr', gt', x5, y3, ?_, e2, k2, l2⟩
  unfold sX5_turnings
  rw [ob_s e1]
  simp only [dm14, dm8, dm7, dm2]
  rw [ob_s k1, ex1_0]
  rfl
