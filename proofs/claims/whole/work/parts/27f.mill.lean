/-! the class: a pane's area -/
def LL : Nat := 1809820685966590368064560042952294287323635791604197016496149498651944117569488965965339008662640956749790351016088336574624000
theorem LL_dv : dvL LL := by
  refine ⟨by decide +kernel, ?_⟩
  have h : ∀ d : Fin 289, 0 < d.val → LL % d.val = 0 := by decide +kernel
  exact fun d h1 h2 => Nat.dvd_of_mod_eq_zero (h ⟨d, by omega⟩ h1)
theorem LL_B : (684 : Int) * (LL * LL) < BB 32 := by decide +kernel
def crX2 (Q : Nat → Pt3) (s : St) : Int := ((Q s.1).1 : Int) * (Q s.2).2.1 - (Q s.2).1 * (Q s.1).2.1
def dnX (Q : Nat → Pt3) (s : St) : Int := ((Q s.1).2.2 : Int) * (Q s.2).2.2
theorem gX_c {Q : Nat → Pt3} {s : St} (h1 : pB (Q s.1)) (h2 : pB (Q s.2)) : ∃ c : Int, dnX Q s * c = (LL : Int) * LL ∧ gX Q LL s = crX2 Q s * c := by
  obtain ⟨a0, a1, -, -⟩ := h1
  obtain ⟨b0, b1, -, -⟩ := h2
  obtain ⟨e, he⟩ := LL_dv.2 _ a0 a1
  obtain ⟨f, hf⟩ := LL_dv.2 _ b0 b1
  have ee : LL / (Q s.1).2.2 = e := by rw [he, Nat.mul_div_cancel_left _ a0]
  have ff : LL / (Q s.2).2.2 = f := by rw [hf, Nat.mul_div_cancel_left _ b0]
  have he' : (LL : Int) = (Q s.1).2.2 * e := by rw [← Int.natCast_mul, ← he]
  have hf' : (LL : Int) = (Q s.2).2.2 * f := by rw [← Int.natCast_mul, ← hf]
  refine ⟨(e : Int) * f, ?_, ?_⟩
  · unfold dnX
    have : ((Q s.1).2.2 : Int) * (Q s.2).2.2 * (e * f) = ((Q s.1).2.2 * e) * ((Q s.2).2.2 * f) := by grind
    rw [this, ← he', ← hf']
  · unfold gX sX sY crX2
    rw [ee, ff]
    grind
theorem gv_sm (g : Nat → Nat → Int) (n : Nat) : ∀ k, gv (fun i => sm k (fun j => g j i)) n = sm k (fun j => gv (g j) n) := by
  intro k
  induction k with
  | zero =>
    show gv (fun _ => 0) n = 0
    induction n with
    | zero => rfl
    | succ n ih => show gv (fun _ => 0) n * 1073741824 + 0 = 0; omega
  | succ k ih =>
    show gv (fun i => sm k (fun j => g j i) + g k i) n = sm k (fun j => gv (g j) n) + gv (g k) n
    rw [gv_add, ih]
theorem millX_ok {w h nl : Nat} {ld : Nat → Ln} {m : Nat} {Q : Nat → Pt3} {fm : Nat → Nat → Bool} (hM : Mesh w h nl ld m Q fm) {nv : Nat → Nat → Nat} {n : Nat} {F T : Nat → Nat} (hn : n ≤ 684) {fr to : Nat → Int32} (hf : hN n fr F) (ht : hN n to T) (hF : ∀ k, k < n → F k < m ∧ T k < m) {u x y : Nat → Int32} (hJ : JR m Q u x y) {np : Nat} (hnp : np ≤ 125) {gs : Nat → St} {st wk : Nat → Nat} {sa wa : Nat → Int32} (hW : WaX nv n F T np gs st wk sa wa) {p : Nat} (hp : p < np) (o1 : Int64) (o2 : Int32) (o3 : Nat → Int64) : ∃ (K : Nat) (p1 : Int64) (p2 : Int32) (p3 : Nat → Int64), Per nv (gs p) K ∧ sX7_millionths (nI p) u x y fr to sa o1 o2 o3 wa = some (lz (500000 * sm K (fun k => gX Q LL (itr nv k (gs p))) / ((LL : Int) * LL)), p1, p2, p3) := by
  obtain ⟨K, hK, e1, e2, hw⟩ := wk_at hW hp
  have hm := hM.2.2.1
  have hQ : ∀ i, i < m → pB (Q i) := fun i hi => pB_of (hM.2.1.1 i hi)
  have sa0 := hW.2.2.1 p (by omega)
  have sa1 := hW.2.2.1 (p + 1) (by omega)
  obtain ⟨g0, c1, c2⟩ := clear_ok o1 o2 o3
  have hit : ∀ k, k < K → (itr nv k (gs p)).1 < m ∧ (itr nv k (gs p)).2 < m := fun k hk => by
    obtain ⟨w1, w2, w3⟩ := hw k hk
    have := hF _ w2
    rw [← w3]; exact this
  have bds : ∀ k, k < K → -20000000 < crX2 Q (itr nv k (gs p)) ∧ crX2 Q (itr nv k (gs p)) < 20000000 ∧ 0 < dnX Q (itr nv k (gs p)) ∧ dnX Q (itr nv k (gs p)) < 100000 := fun k hk => by
    obtain ⟨i1, i2⟩ := hit k hk
    obtain ⟨a0, a1, a2, a3⟩ := hQ _ i1
    obtain ⟨b0, b1, b2, b3⟩ := hQ _ i2
    have m1 := mbd (show (Q (itr nv k (gs p)).1).1 ≤ 3456 by omega) (show (Q (itr nv k (gs p)).2).2.1 ≤ 3456 by omega)
    have m2 := mbd (show (Q (itr nv k (gs p)).2).1 ≤ 3456 by omega) (show (Q (itr nv k (gs p)).1).2.1 ≤ 3456 by omega)
    have m3 := mbd a1 b1
    have m4 := Nat.mul_pos a0 b0
    unfold crX2 dnX
    rw [← Int.natCast_mul, ← Int.natCast_mul, ← Int.natCast_mul]
    omega
  obtain ⟨s, h1, h2⟩ := iter_for (S := Nat → Int64) (B := bX7_millionths_14 (nI p) u x y fr to sa wa) (fun k s => (nI (st p + k), lz (sm k (fun j => 500000 * crX2 Q (itr nv j (gs p)) / dnX Q (itr nv j (gs p)))), nI k, s)) K (fun k s => hL 32 s (fun i => sm k (fun j => qst (dnX Q (itr nv j (gs p))) (500000 * crX2 Q (itr nv j (gs p)) % dnX Q (itr nv j (gs p))) i)) ∧ ∀ i, 0 ≤ sm k (fun j => qst (dnX Q (itr nv j (gs p))) (500000 * crX2 Q (itr nv j (gs p)) % dnX Q (itr nv j (gs p))) i) ∧ sm k (fun j => qst (dnX Q (itr nv j (gs p))) (500000 * crX2 Q (itr nv j (gs p)) % dnX Q (itr nv j (gs p))) i) ≤ k * 1073741824) 0 g0 ⟨c2, fun i => ⟨Int.le_refl _, by show (0 : Int) ≤ 0 * 1073741824; omega⟩⟩ (by omega) (by omega) (fun k s _ hk hI => by
    obtain ⟨w1, w2, w3⟩ := hw k hk
    obtain ⟨i1, i2⟩ := hit k hk
    obtain ⟨b1, b2, b3, b4⟩ := bds k hk
    have f1 : F (wk (st p + k)) = (itr nv k (gs p)).1 := by rw [← w3]
    have f2 : T (wk (st p + k)) = (itr nv k (gs p)).2 := by rw [← w3]
    obtain ⟨g', q1, q2⟩ := plus_ok (t := 500000 * crX2 Q (itr nv k (gs p))) (b := dnX Q (itr nv k (gs p))) (by omega) (by omega) b3 b4 (wh := sm k (fun j => 500000 * crX2 Q (itr nv j (gs p)) / dnX Q (itr nv j (gs p)))) (ad := k) hI.1 (fun i _ => hI.2 i) (by omega)
    obtain ⟨a0, a1, a2, a3⟩ := hQ _ i1
    obtain ⟨d0, d1, d2, d3⟩ := hQ _ i2
    obtain ⟨j1, j2, j3⟩ := hJ _ i1
    obtain ⟨j4, j5, j6⟩ := hJ _ i2
    have eC : (500000 : Int64) * ((nI (Q (itr nv k (gs p)).1).1).toInt64 * (nI (Q (itr nv k (gs p)).2).2.1).toInt64 - (nI (Q (itr nv k (gs p)).2).1).toInt64 * (nI (Q (itr nv k (gs p)).1).2.1).toInt64) = lz (500000 * crX2 Q (itr nv k (gs p))) := by
      rw [nI_l (by omega), nI_l (by omega), nI_l (by omega), nI_l (by omega), ← lz_n, ← lz_n, ← lz_n, ← lz_n, lz_mul, lz_mul, lz_sub, show (500000 : Int64) = lz 500000 from rfl, lz_mul]
      rfl
    have eD : (nI (Q (itr nv k (gs p)).1).2.2).toInt64 * (nI (Q (itr nv k (gs p)).2).2.2).toInt64 = lz (dnX Q (itr nv k (gs p))) := by
      rw [nI_l (by omega), nI_l (by omega), ← lz_n, ← lz_n, lz_mul]
      rfl
    refine ⟨g', ?_, q2, fun i => ?_⟩
    · have e9 : nI (st p + k) + 1 = nI (st p + (k + 1)) := by rw [nI_1]; rfl
      simp (disch := omega) only [bX7_millionths_14, dm4, nl_1, nI_add, nI_lt0, nI_clampS, false_or, gd_s, sa1, nI_leS, lt, w1, hf _ w2, ht _ w2, f1, f2, j1, j2, j3, j4, j5, j6, eC, eD, q1, ob, dm3]
      rw [if_neg (by omega)]
      rfl
    · have r0 := Int.emod_nonneg (500000 * crX2 Q (itr nv k (gs p))) (show dnX Q (itr nv k (gs p)) ≠ 0 by omega)
      have r1 := Int.emod_lt_of_pos (500000 * crX2 Q (itr nv k (gs p))) b3
      have := qst_bd b3 r0 r1 i
      have := hI.2 i
      rw [sm_s]
      omega) (fun s _ => by
    simp (disch := omega) only [bX7_millionths_14, dm4, nl_1, nI_add, nI_lt0, nI_clampS, false_or, gd_s, sa1, nI_leS]
    rw [if_pos (by omega)])
  obtain ⟨i1, i2⟩ := h2
  have wp := wpart_ok (wh := sm K (fun j => 500000 * crX2 Q (itr nv j (gs p)) / dnX Q (itr nv j (gs p)))) (ad := K) i1 (fun i _ => i2 i) (by omega)
  -- the sum is exact
  have hex : ∀ j, ∃ c : Int, j < K → (dnX Q (itr nv j (gs p)) * c = (LL : Int) * LL ∧ gX Q LL (itr nv j (gs p)) = crX2 Q (itr nv j (gs p)) * c) := fun j => by
    by_cases hj : j < K
    · obtain ⟨c, h⟩ := gX_c (hQ _ (hit j hj).1) (hQ _ (hit j hj).2)
      exact ⟨c, fun _ => h⟩
    · exact ⟨0, fun z => absurd z hj⟩
  obtain ⟨c, hc⟩ := Classical.axiomOfChoice hex
  have M0 : (0 : Int) < (LL : Int) * LL := by decide +kernel
  have hB : (K : Int) * ((LL : Int) * LL) < BB 32 := by
    have h1 := LL_B
    have h2 := Int.mul_le_mul_of_nonneg_right (show (K : Int) ≤ 684 by omega) (show (0 : Int) ≤ (LL : Int) * LL by omega)
    omega
  have em := exact_math (n := K) hK.1 (r := fun j => 500000 * crX2 Q (itr nv j (gs p)) % dnX Q (itr nv j (gs p))) (b := fun j => dnX Q (itr nv j (gs p))) (c := c) M0 hB (fun j hj => (bds j hj).2.2.1) (fun j hj => (hc j hj).1) (fun j hj => ⟨Int.emod_nonneg _ (by have := (bds j hj).2.2.1; omega), Int.emod_lt_of_pos _ (bds j hj).2.2.1⟩)
  have eg : gv (fun i => sm K (fun j => qst (dnX Q (itr nv j (gs p))) (500000 * crX2 Q (itr nv j (gs p)) % dnX Q (itr nv j (gs p))) i)) 32 = sm K (fun j => (500000 * crX2 Q (itr nv j (gs p)) % dnX Q (itr nv j (gs p))) * BB 32 / dnX Q (itr nv j (gs p))) := by
    rw [gv_sm (fun j i => qst (dnX Q (itr nv j (gs p))) (500000 * crX2 Q (itr nv j (gs p)) % dnX Q (itr nv j (gs p))) i) 32 K]
    refine sm_congr (fun j hj => ?_)
    have b3 := (bds j hj).2.2.1
    have r0 := Int.emod_nonneg (500000 * crX2 Q (itr nv j (gs p))) (show dnX Q (itr nv j (gs p)) ≠ 0 by omega)
    have r1 := Int.emod_lt_of_pos (500000 * crX2 Q (itr nv j (gs p))) b3
    have k := gv_qst (r := 500000 * crX2 Q (itr nv j (gs p)) % dnX Q (itr nv j (gs p))) b3 32
    obtain ⟨x0, x1⟩ := rst_bd b3 r0 r1 32
    rw [k, Int.add_comm, Int.add_mul_ediv_left _ _ (by omega), Int.ediv_eq_zero_of_lt x0 x1]
    exact (Int.zero_add _).symm
  rw [eg, em] at wp
  have fin : sm K (fun j => 500000 * crX2 Q (itr nv j (gs p)) / dnX Q (itr nv j (gs p))) + sm K (fun j => (500000 * crX2 Q (itr nv j (gs p)) % dnX Q (itr nv j (gs p))) * c j) / ((LL : Int) * LL) = 500000 * sm K (fun k => gX Q LL (itr nv k (gs p))) / ((LL : Int) * LL) := by
    have e : 500000 * sm K (fun k => gX Q LL (itr nv k (gs p))) = sm K (fun j => (500000 * crX2 Q (itr nv j (gs p)) % dnX Q (itr nv j (gs p))) * c j) + ((LL : Int) * LL) * sm K (fun j => 500000 * crX2 Q (itr nv j (gs p)) / dnX Q (itr nv j (gs p))) := by
      rw [← sm_mul, ← sm_mul, ← sm_add]
      refine sm_congr (fun j hj => ?_)
      obtain ⟨k1, k2⟩ := hc j hj
      have k3 := Int.mul_ediv_add_emod (500000 * crX2 Q (itr nv j (gs p))) (dnX Q (itr nv j (gs p)))
      rw [k2, ← k1]
      generalize 500000 * crX2 Q (itr nv j (gs p)) / dnX Q (itr nv j (gs p)) = q at *
      generalize 500000 * crX2 Q (itr nv j (gs p)) % dnX Q (itr nv j (gs p)) = r at *
      grind
    rw [e, Int.add_mul_ediv_left _ _ (by omega)]
    omega
  rw [fin] at wp
  refine ⟨K, lz (sm K (fun j => 500000 * crX2 Q (itr nv j (gs p)) / dnX Q (itr nv j (gs p)))), nI K, s, hK, ?_⟩
  unfold sX7_millionths
  rw [c1]
  have h1' : iter (bX7_millionths_14 (nI p) u x y fr to sa wa) FU (nI (st p), lz 0, nI 0, g0) = some (0, (nI (st p + K), lz (sm K (fun j => 500000 * crX2 Q (itr nv j (gs p)) / dnX Q (itr nv j (gs p)))), nI K, s)) := h1
  simp (disch := omega) only [ob, dm3, nI_lt0, nI_clampS, false_or, gd_s, lt, sa0, h1', ex1, if_true, dm4, wp, dm1]
