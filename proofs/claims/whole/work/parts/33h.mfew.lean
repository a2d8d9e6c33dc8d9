/-! fewest sheets: the reference -/
theorem sing_ok {c : Nat} {W H : Nat → Nat} {tn : Nat → Bool} (hb : BxOk c W H) {a b : Nat} (ha : a ≤ 12) (hb2 : b ≤ 12) {cu : Nat → Int32} (ht : ∀ s, s < 2 ^ c → CT c W H tn cu s a b) : (∃ k z, k < c ∧ ¬ CutP c W H tn (2 ^ k) a b ∧ iter (bX12_sheets_210 (nI a) (nI b) (nI c) cu) FU (0 : Int32) = some (0, z)) ∨ ((∀ k, k < c → CutP c W H tn (2 ^ k) a b) ∧ ∃ z, iter (bX12_sheets_210 (nI a) (nI b) (nI c) cu) FU (0 : Int32) = some (1, z)) := by
  have hc6 := hb.1
  rcases iter_first (B := bX12_sheets_210 (nI a) (nI b) (nI c) cu) c (fun k => ¬ CutP c W H tn (2 ^ k) a b) 0 (by omega) (by omega) (fun k _ k2 => by
    have pk := bs_p2 k (by omega)
    have pm := bs_p2m c (by omega) k k2
    obtain ⟨v, v1, v2⟩ := ht (2 ^ k) pm
    have il := ixc_lt (s := 2 ^ k) (w := a) (h := b) (by omega) ha hb2
    obtain ⟨ia, ca⟩ := ix_c il (by omega)
    unfold bX12_sheets_210
    rw [dm1, if_neg (by rw [nI_leS (by omega) (by omega)]; omega), bs_sh k (by omega), ob_d1 (plc (2 ^ k) a b), gd_s ia, ca, v1]
    cases v with
    | false => exact Or.inr ⟨fun z => absurd (v2.mpr z) (by simp), by rw [if_neg (by decide)]⟩
    | true => exact Or.inl ⟨fun z => z (v2.mp rfl), by rw [if_pos (by decide), lt_v, nI_1]⟩) (by
    unfold bX12_sheets_210
    rw [dm1, if_pos (by rw [nI_leS (by omega) (by omega)]; omega)]) with ⟨k, _, k2, k3, _, k5⟩ | ⟨k1, k2⟩
  · exact Or.inl ⟨k, nI k, k2, k3, k5⟩
  · exact Or.inr ⟨fun k hk => Classical.byContradiction (fun z => k1 k (Nat.zero_le _) hk z), nI c, k2⟩
def FwP (C : Nat → Prop) (l : Nat → Int32) (t : Nat) : Prop := ∃ u, l t = nI u ∧ u ≤ 7 ∧ ∀ d, d < 7 → (u ≤ d ↔ Cov C d t)
theorem fewS_ok {c : Nat} {W H : Nat → Nat} {tn : Nat → Bool} (hb : BxOk c W H) {a b s : Nat} (hs1 : 1 ≤ s) (hs2 : s < 2 ^ c) (ha : a ≤ 12) (hb2 : b ≤ 12) {cu : Nat → Int32} (ht : ∀ s, s < 2 ^ c → CT c W H tn cu s a b) {l : Nat → Int32} (hl : ∀ t, t < s → FwP (fun o => CutP c W H tn o a b) l t) (hls : l s = nI 7) : ∃ l' z, iter (bX12_sheets_280 (nI a) (nI b) cu (nI s)) FU (nI s, l) = some (0, (z, l')) ∧ (∀ t, t ≤ s → FwP (fun o => CutP c W H tn o a b) l' t) := by
  have hc6 := hb.1
  have p2c := bs_p2 c (by omega)
  have s64 : s < 64 := by omega
  have c64 : ((64 : Int32).toNatClampNeg) = 64 := rfl
  obtain ⟨k, t', h1, h2, h3⟩ := iter_whE (S := Nat × (Nat → Int32)) (B := bX12_sheets_280 (nI a) (nI b) cu (nI s)) (fun q => (nI q.1, q.2)) (fun q => q.1 &&& s = q.1 ∧ (∀ t, t < s → FwP (fun o => CutP c W H tn o a b) q.2 t) ∧ ∃ u, q.2 s = nI u ∧ u ≤ 7 ∧ ∀ d, d < 7 → (u ≤ d ↔ ∃ o, q.1 < o ∧ 1 ≤ o ∧ o &&& s = o ∧ CutP c W H tn o a b ∧ 1 ≤ d ∧ Cov (fun o => CutP c W H tn o a b) (d - 1) (s ^^^ o))) (fun q => q.1) (fun k t' => k = 0 ∧ ∀ t, t ≤ s → FwP (fun o => CutP c W H tn o a b) t'.2 t) (fun q hq => by
    obtain ⟨v, l⟩ := q
    obtain ⟨q1, q2, u, u1, u2, u3⟩ := hq
    dsimp only at q1 q2 u1 u3 ⊢
    have vl := bs_ltof s64 q1
    by_cases v0 : v = 0
    · subst v0
      right
      refine ⟨0, (nI 0, l), ?_, rfl, fun t t1 => ?_⟩
      · unfold bX12_sheets_280
        simp only [dm2]
        rw [if_pos (by decide)]
      · by_cases z : t = s
        · subst z
          refine ⟨u, u1, u2, fun d d1 => ?_⟩
          rw [u3 d d1]
          constructor
          · intro ⟨o, o1, o2, o3, o4, o5, o6⟩
            obtain ⟨e, rfl⟩ : ∃ e, d = e + 1 := ⟨d - 1, by omega⟩
            exact Or.inr ⟨o, o2, o3, o4, o6⟩
          · intro z
            cases d with
            | zero =>
              have z' : t = 0 := z
              omega
            | succ e =>
              rcases z with z | ⟨o, o1, o2, o3, o4⟩
              · omega
              · exact ⟨o, by omega, o1, o2, o3, by omega, o4⟩
        · exact q2 t (by omega)
    · left
      obtain ⟨r1, r2, r3, r4, r5, r6⟩ := bs_sub v vl s s64 q1
      have r7 := r3 v0
      obtain ⟨n1, n2, n3⟩ := bs_next s s64 v vl (by omega)
      obtain ⟨bb, b1, b2⟩ := ht v (by omega)
      have il := ixc_lt (s := v) (w := a) (h := b) vl ha hb2
      obtain ⟨ia, ca⟩ := ix_c il (by omega)
      obtain ⟨ib, cb⟩ := ix_c (i := s) (n := 64) s64 (by omega)
      obtain ⟨ic, cc⟩ := ix_c (i := s ^^^ v) (n := 64) (by omega) (by omega)
      obtain ⟨g, g1, g2, g3⟩ := q2 (s ^^^ v) r7
      have st : bX12_sheets_280 (nI a) (nI b) cu (nI s) (nI v, l) = ob (if bI bb = 0 then some l else some (upd l s (nI (min (1 + g) u)))) (fun t => dm1 t (fun v64 => some (0, (nI ((v - 1) &&& s), v64)))) := by
        unfold bX12_sheets_280
        simp only [dm2]
        rw [if_neg (by rw [nl_0, nI_leS (by omega) (by omega)]; omega), ob_d1 (plc v a b), gd_s ia, ca, b1, c64, bs_not v vl s s64 q1, n1]
        simp only [gd_s ib, gd_s ic]
        simp only [cb, cc, u1, g1, nl_1, nI_add, lt]
        rw [if_nIlt (by omega) (by omega)]
      cases bb with
      | false =>
        refine ⟨((v - 1) &&& s, l), ?_, ⟨n3, q2, u, u1, u2, fun d d1 => ?_⟩, n2⟩
        · rw [st]; rfl
        · rw [u3 d d1]
          constructor
          · intro ⟨o, o1, o2⟩
            exact ⟨o, by show (v - 1) &&& s < o; omega, o2⟩
          · intro ⟨o, o1, o2, o3, o4, o5⟩
            have o1' : (v - 1) &&& s < o := o1
            refine ⟨o, ?_, o2, o3, o4, o5⟩
            have ol := bs_ltof s64 o3
            by_cases z : o = v
            · subst z; exact absurd (b2.mpr o4) (by simp)
            · by_cases z2 : o < v
              · have := bs_gap s s64 v vl (by omega) q1 o ol o3 z2
                omega
              · omega
      | true =>
        refine ⟨((v - 1) &&& s, upd l s (nI (min (1 + g) u))), ?_, ⟨n3, fun t t1 => ?_, min (1 + g) u, pk_us, by omega, fun d d1 => ?_⟩, n2⟩
        · rw [st]; rfl
        · obtain ⟨y, y1, y2⟩ := q2 t t1
          refine ⟨y, ?_, y2⟩
          show upd l s (nI (min (1 + g) u)) t = nI y
          rw [pk_un (by omega)]; exact y1
        · constructor
          · intro z
            by_cases z1 : u ≤ d
            · obtain ⟨o, o1, o2⟩ := (u3 d d1).mp z1
              exact ⟨o, by show (v - 1) &&& s < o; omega, o2⟩
            · exact ⟨v, n2, by omega, q1, b2.mp rfl, by omega, (g3 (d - 1) (by omega)).mp (by omega)⟩
          · intro ⟨o, o1, o2, o3, o4, o5, o6⟩
            have o1' : (v - 1) &&& s < o := o1
            have ol := bs_ltof s64 o3
            by_cases z : o = v
            · subst z
              have := (g3 (d - 1) (by omega)).mpr o6
              omega
            · by_cases z2 : o < v
              · have := bs_gap s s64 v vl (by omega) q1 o ol o3 z2
                omega
              · have := (u3 d d1).mpr ⟨o, by omega, o2, o3, o4, o5, o6⟩
                omega) (s, l) ⟨bs_self s, hl, 7, hls, by omega, fun d d1 => ⟨fun z => by omega, fun ⟨o, o1, o2, o3, _⟩ => by
      have o1' : s < o := o1
      have : o &&& s ≤ s := Nat.and_le_right
      omega⟩⟩ (by show s < 999999999; omega)
  subst h2
  exact ⟨t'.2, t'.1, h1, h3⟩
theorem fewM_ok {c : Nat} {W H : Nat → Nat} {tn : Nat → Bool} (hb : BxOk c W H) {a b : Nat} (ha : a ≤ 12) (hb2 : b ≤ 12) {cu : Nat → Int32} (ht : ∀ s, s < 2 ^ c → CT c W H tn cu s a b) : ∃ few', iter (bX12_sheets_258 (nI a) (nI b) (nI c) cu) FU ((1 : Int32), fun _ => (0 : Int32)) = some (0, (nI (2 ^ c), few')) ∧ ∀ t, t < 2 ^ c → FwP (fun o => CutP c W H tn o a b) few' t := by
  have hc6 := hb.1
  have p2c := bs_p2 c (by omega)
  have c64 : ((64 : Int32).toNatClampNeg) = 64 := rfl
  obtain ⟨few', h1, h2⟩ := iter_for (S := Nat → Int32) (B := bX12_sheets_258 (nI a) (nI b) (nI c) cu) (fun i l => (nI i, l)) (2 ^ c) (fun i l => ∀ t, t < i → FwP (fun o => CutP c W H tn o a b) l t) 1 (fun _ => (0 : Int32)) (fun t t1 => by
      have e : t = 0 := by omega
      subst e
      exact ⟨0, rfl, by omega, fun d _ => ⟨fun _ => Cov_z d, fun _ => by omega⟩⟩) p2c.1 (by omega) (fun s l hs1 hs2 hI => by
    obtain ⟨ia, ca⟩ := ix_c (i := s) (n := 64) (by omega) (by omega)
    obtain ⟨l', z, e1, e2⟩ := fewS_ok hb hs1 hs2 ha hb2 ht (l := upd l s (nI 7)) (fun t t1 => by
      obtain ⟨u, u1, u2⟩ := hI t t1
      exact ⟨u, by rw [pk_un (by omega)]; exact u1, u2⟩) pk_us
    refine ⟨l', ?_, fun t t1 => e2 t (by omega)⟩
    unfold bX12_sheets_258
    simp only [dm2]
    rw [bs_sh c (by omega), if_neg (by rw [nI_leS (by omega) (by omega)]; omega), c64, gd_s ia, ca, lt_v, show (7 : Int32) = nI 7 from rfl, ob_s e1, ex1_0]
    simp only [lt, nI_1]) (fun l _ => by
    unfold bX12_sheets_258
    simp only [dm2]
    rw [bs_sh c (by omega), if_pos (by rw [nI_leS (by omega) (by omega)]; omega)])
  exact ⟨few', h1, h2⟩
