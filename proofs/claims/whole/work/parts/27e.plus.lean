/-! the class's exact sum: programs -/
theorem nl_32 : (32 : Int32) = nI 32 := by decide
theorem sh30 : (((30 : Int32).toInt64 &&& 63).toBitVec.smod 64).toNat = 30 := by decide
theorem lz_shl30 {z : Int} : lz z <<< ((30 : Int32).toInt64 &&& 63) = lz (z * 1073741824) := by
  apply Int64.toBitVec_inj.mp
  show (lz z).toBitVec <<< (((30 : Int32).toInt64 &&& 63).toBitVec.smod 64).toNat = _
  rw [sh30]
  apply BitVec.eq_of_toNat_eq
  rw [BitVec.toNat_shiftLeft, Nat.shiftLeft_eq, lz_nat, lz_nat]
  have e : (z * 1073741824) % 18446744073709551616 = ((z % 18446744073709551616) * 1073741824) % 18446744073709551616 := by omega
  rw [e]
  have h0 := Int.emod_nonneg z (show (18446744073709551616 : Int) ≠ 0 by omega)
  generalize z % 18446744073709551616 = y at *
  obtain ⟨j, rfl⟩ : ∃ j : Nat, y = j := ⟨y.toNat, by omega⟩
  omega
theorem lz_shr30 {z : Int} (h1 : -4611686018427387904 < z) (h2 : z < 4611686018427387904) : lz z >>> ((30 : Int32).toInt64 &&& 63) = lz (z / 1073741824) := by
  apply Int64.toInt_inj.mp
  show ((lz z).toBitVec.sshiftRight (((30 : Int32).toInt64 &&& 63).toBitVec.smod 64).toNat).toInt = _
  rw [sh30, BitVec.toInt_sshiftRight]
  show (lz z).toInt >>> 30 = _
  rw [lz_toInt (by omega) (by omega), Int.shiftRight_eq_div_pow, lz_toInt (by omega) (by omega)]
  rfl
def hL (n : Nat) (f : Nat → Int64) (g : Nat → Int) : Prop := ∀ i, i < n → f i = lz (g i)
theorem clear_ok (a : Int64) (b : Int32) (g : Nat → Int64) : ∃ g' : Nat → Int64, sX2_clear a b g = some (lz 0, nI 0, g') ∧ hL 32 g' (fun _ => 0) := by
  obtain ⟨s, h1, h2⟩ := iter_for (S := Nat → Int64) (B := bX2_clear_12) (fun i s => (nI i, s)) 32 (fun i s => hL i s (fun _ => 0)) 0 g (fun k hk => absurd hk (Nat.not_lt_zero _)) (by omega) (by omega) (fun i s _ hi hI => by
    refine ⟨vp_updL s i 0, ?_, fun k hk => ?_⟩
    · simp (disch := omega) only [bX2_clear_12, dm2, nl_32, nI_leS, nI_lt0, nI_clampS, false_or, gd_s, lt, nI_1]
      rw [if_neg (by omega)]
    · by_cases q : k = i
      · subst q; rw [pk_uLs]; rfl
      · rw [pk_uLn q]; exact hI k (by omega)) (fun s _ => by
    simp (disch := omega) only [bX2_clear_12, dm2, nl_32, nI_leS]
    rw [if_pos (by omega)])
  refine ⟨s, ?_, h2⟩
  unfold sX2_clear
  rw [nl_0, ob_s h1]
  rfl
theorem plus_ok {t b : Int} (t1 : -1000000000000000 < t) (t2 : t < 1000000000000000) (b1 : 0 < b) (b2 : b < 100000) {wh : Int} {ad : Nat} {G : Nat → Int} {g : Nat → Int64} (hG : hL 32 g G) (hb : ∀ i, i < 32 → 0 ≤ G i ∧ G i ≤ ad * 1073741824) (had : ad < 1000) : ∃ g' : Nat → Int64, sX2_plus (lz t) (lz b) (lz wh) (nI ad) g = some (lz (wh + t / b), nI (ad + 1), g') ∧ hL 32 g' (fun i => G i + qst b (t % b) i) := by
  have r0 := Int.emod_nonneg t (show b ≠ 0 by omega)
  have r1 := Int.emod_lt_of_pos t b1
  have z2 : ¬ lz b = 0 := lz_ne0 b1 (by omega)
  obtain ⟨s, h1, h2⟩ := iter_for (S := Nat → Int64) (B := bX2_plus_31 (lz b)) (fun i s => (lz (rst b i (t % b)), nI i, s)) 32 (fun i s => (∀ k, k < i → s k = lz (G k + qst b (t % b) k)) ∧ ∀ k, i ≤ k → k < 32 → s k = lz (G k)) 0 g ⟨fun k hk => absurd hk (Nat.not_lt_zero _), fun k _ hk => hG k hk⟩ (by omega) (by omega) (fun i s _ hi hI => by
    obtain ⟨x, y⟩ := rst_bd b1 r0 r1 i
    have e0 := hI.2 i (Nat.le_refl _) hi
    have dv : lz (rst b i (t % b) * 1073741824) / lz b = lz (qst b (t % b) i) := by
      rw [lz_div (by omega) (by omega) b1 (by omega), Int.tdiv_eq_ediv_of_nonneg (by omega)]; rfl
    refine ⟨vp_updL s i (lz (G i + qst b (t % b) i)), ?_, fun k hk => ?_, fun k hk1 hk2 => ?_⟩
    · have em : lz (rst b i (t % b) * 1073741824) - lz (qst b (t % b) i) * lz b = lz (rst b (i + 1) (t % b)) := by
        rw [lz_mul, lz_sub]
        congr 1
        show _ = rst b i (t % b) * 1073741824 % b
        have := Int.mul_ediv_add_emod (rst b i (t % b) * 1073741824) b
        unfold qst
        rw [Int.mul_comm _ b]; omega
      simp (disch := omega) only [bX2_plus_31, dm3, nl_32, nI_leS, lt, nI_lt0, nI_clampS, false_or, gd_s, lz_shl30, dv, e0, lz_add, nI_1]
      rw [if_neg (by omega), em]
    · by_cases q : k = i
      · subst q; rw [pk_uLs]
      · rw [pk_uLn q]; exact hI.1 k (by omega)
    · rw [pk_uLn (by omega)]; exact hI.2 k (by omega) hk2) (fun s _ => by
    simp (disch := omega) only [bX2_plus_31, dm3, nl_32, nI_leS]
    rw [if_pos (by omega)])
  refine ⟨s, ?_, fun i hi => h2.1 i hi⟩
  unfold sX2_plus
  have c : 0 ≤ lg_cmp (lz b) (1 : Int64) := by
    have h := lg_cmp_lt (lz b) (1 : Int64)
    rw [show (1 : Int64) = lz 1 from rfl] at *
    rw [lz_lt (by omega) (by omega) (by omega) (by omega)] at h
    exact Int32.not_lt.mp (fun w => by have := h.mp w; omega)
  rw [if_pos c, fdiv_ok t1 t2 b1 (by omega)]
  simp only [ob, dm1, lt]
  rw [fmod_ok t1 t2 b1 (by omega)]
  simp only [lz_add]
  have h1' : iter (bX2_plus_31 (lz b)) FU (lz (t % b), nI 0, g) = some (0, (lz (rst b 32 (t % b)), nI 32, s)) := h1
  rw [nl_0, h1']
  simp only [ex1, dm3, if_true, nl_1, nI_add]
theorem wpart_ok {wh : Int} {ad : Nat} {G : Nat → Int} {g : Nat → Int64} (hG : hL 32 g G) (hb : ∀ i, i < 32 → 0 ≤ G i ∧ G i ≤ ad * 1073741824) (had : ad < 1000) : sX2_wholePart (lz wh) (nI ad) g = some (lz (wh + (gv G 32 + ad) / BB 32)) := by
  have cb : ∀ (i : Nat) (c : Int), i < 32 → 0 ≤ c → c ≤ 1000 → 0 ≤ (G i + c) / 1073741824 ∧ (G i + c) / 1073741824 ≤ 1000 := by
    intro i c hi h0 h1
    obtain ⟨x, y⟩ := hb i hi
    omega
  have main : ∀ (n : Nat) (c : Int) (f : Nat), n ≤ 32 → 0 ≤ c → c ≤ 1000 → n < f → ∃ v : Int32, iter (bX2_wholePart_9 g) f (lz c, iz ((n : Int) - 1)) = some (0, (lz (cry G c n), v)) := by
    intro n
    induction n with
    | zero =>
      intro c f _ _ _ hf
      obtain ⟨f, rfl⟩ : ∃ h, f = h + 1 := ⟨f - 1, by omega⟩
      refine ⟨iz (((0 : Nat) : Int) - 1), iter_out ?_ f⟩
      simp only [bX2_wholePart_9, dm2]
      rw [if_pos (by decide)]
      rfl
    | succ n ih =>
      intro c f hn h0 h1 hf
      obtain ⟨f, rfl⟩ : ∃ h, f = h + 1 := ⟨f - 1, by omega⟩
      obtain ⟨x, y⟩ := hb n (by omega)
      obtain ⟨c1, c2⟩ := cb n c (by omega) h0 h1
      obtain ⟨v, e⟩ := ih ((G n + c) / 1073741824) f (by omega) c1 c2 (by omega)
      refine ⟨v, ?_⟩
      have e1 : iz (((n + 1 : Nat) : Int) - 1) = nI n := by rw [← iz_n]; congr 1; omega
      have e2 : bX2_wholePart_9 g (lz c, nI n) = some (0, (lz ((G n + c) / 1073741824), iz ((n : Int) - 1))) := by
        simp (disch := omega) only [bX2_wholePart_9, dm2, lt, nI_lt0, if_false, nI_clampS, false_or, gd_s, hG n (by omega), lz_add]
        rw [lz_shr30 (by omega) (by omega), ← iz_n, show (-1 : Int32) = iz (-1) by decide, iz_add]
        rfl
      rw [e1, iter_go e2]
      exact e
  obtain ⟨v, e⟩ := main 32 ad FU (by omega) (by omega) (by omega) (FU_lt (by omega))
  unfold sX2_wholePart lt
  rw [nI_l (by omega), ← lz_n]
  have e' : iter (bX2_wholePart_9 g) FU (lz ad, (31 : Int32)) = some (0, (lz (cry G ad 32), v)) := e
  dsimp only
  rw [e']
  simp only [ob, ex1, dm2, if_true, lz_add, cry_ok]
/-- what was cut off never matters -/
theorem exact_math {n : Nat} (hn : 0 < n) {r b c : Nat → Int} {M B : Int} (hM : 0 < M) (hB : n * M < B) (hb : ∀ j, j < n → 0 < b j) (hc : ∀ j, j < n → b j * c j = M) (hr : ∀ j, j < n → 0 ≤ r j ∧ r j < b j) : (sm n (fun j => r j * B / b j) + n) / B = sm n (fun j => r j * c j) / M := by
  have hB0 : 0 < B := by
    have : (0 : Int) < n * M := m_pp (by omega) hM
    omega
  have c0 : ∀ j, j < n → 0 < c j := fun j hj => by
    rcases Int.lt_or_le 0 (c j) with z | z
    · exact z
    · have := m_pn0 (hb j hj) z
      have := hc j hj
      omega
  -- M F + σ = ρ B
  have key : M * sm n (fun j => r j * B / b j) + sm n (fun j => (r j * B % b j) * c j) = sm n (fun j => r j * c j) * B := by
    rw [← sm_mul, ← sm_add, Int.mul_comm _ B, ← sm_mul]
    refine sm_congr (fun j hj => ?_)
    have h := Int.mul_ediv_add_emod (r j * B) (b j)
    rw [← hc j hj]
    generalize r j * B / b j = q at *
    generalize r j * B % b j = s at *
    have : b j * c j * q + s * c j = c j * (b j * q + s) := by grind
    rw [this, h]; grind
  have s0 : 0 ≤ sm n (fun j => (r j * B % b j) * c j) := sm_nn (fun j hj => Int.mul_nonneg (Int.emod_nonneg _ (by have := hb j hj; omega)) (by have := c0 j hj; omega))
  have s1 : sm n (fun j => (r j * B % b j) * c j) ≤ n * (M - 1) := by
    have e : sm n (fun _ => M - 1) = n * (M - 1) := by
      generalize M - 1 = x
      clear hB key s0 hc hb hr c0 hn
      induction n with
      | zero => rw [show sm 0 _ = 0 from rfl]; simp
      | succ n ih => rw [sm_s, ih, Int.natCast_add, Int.add_mul]; omega
    rw [← e]
    refine sm_le (fun j hj => ?_)
    have h1 := Int.emod_lt_of_pos (r j * B) (hb j hj)
    have h2 := Int.mul_le_mul_of_nonneg_right (show r j * B % b j ≤ b j - 1 by omega) (show 0 ≤ c j by have := c0 j hj; omega)
    have h3 : (b j - 1) * c j = M - c j := by rw [← hc j hj]; grind
    have := c0 j hj
    omega
  have hρ := Int.mul_ediv_add_emod (sm n (fun j => r j * c j)) M
  have t0 := Int.emod_nonneg (sm n (fun j => r j * c j)) (show M ≠ 0 by omega)
  have t1 := Int.emod_lt_of_pos (sm n (fun j => r j * c j)) hM
  generalize sm n (fun j => r j * c j) = ρ at *
  generalize sm n (fun j => (r j * B % b j) * c j) = σ at *
  generalize sm n (fun j => r j * B / b j) = F at *
  generalize ρ / M = q at *
  generalize ρ % M = τ at *
  -- F + n lies from q B to (q + 1) B
  have lo : q * B ≤ F + n := by
    have e : M * (F + n) = M * (q * B) + (τ * B + (n * M - σ)) := by
      have : ρ * B = M * q * B + τ * B := by rw [← hρ]; grind
      have h2 : M * (F + n) = M * F + n * M := by grind
      have h3 : M * q * B = M * (q * B) := by grind
      omega
    have h1 := Int.mul_nonneg t0 (show 0 ≤ B by omega)
    have h2 : (n : Int) * (M - 1) = n * M - n := by grind
    exact Int.le_of_mul_le_mul_left (a := M) (by omega) hM
  have hi : F + n < (q + 1) * B := by
    have e : M * (F + n) = M * (q * B) + (τ * B + (n * M - σ)) := by
      have : ρ * B = M * q * B + τ * B := by rw [← hρ]; grind
      have h2 : M * (F + n) = M * F + n * M := by grind
      have h3 : M * q * B = M * (q * B) := by grind
      omega
    have h1 := Int.mul_le_mul_of_nonneg_right (show τ ≤ M - 1 by omega) (show 0 ≤ B by omega)
    have h2 : (M - 1) * B = M * B - B := by grind
    have h3 : M * ((q + 1) * B) = M * (q * B) + M * B := by grind
    exact Int.lt_of_mul_lt_mul_left (a := M) (by omega) (by omega)
  have e1 := Int.le_ediv_of_mul_le hB0 lo
  have e2 := Int.ediv_lt_of_lt_mul hB0 hi
  omega
