/-! the class finds the panes -/
def leS (p q : St) : Prop := p.1 < q.1 ∨ (p.1 = q.1 ∧ p.2 ≤ q.2)
def ltS (p q : St) : Prop := p.1 < q.1 ∨ (p.1 = q.1 ∧ p.2 < q.2)
/-- panes 0 .. np - 1 begin with the steps fs; the walk of o is the outside -/
def Wlk (nv : Nat → Nat → Nat) (fm : Nat → Nat → Bool) (o : St) (np : Nat) (fs : Nat → St) : Prop := (∀ p, p < np → isS fm (fs p) ∧ ¬ Orb nv o (fs p) ∧ ∀ q, Orb nv (fs p) q → leS (fs p) q) ∧ (∀ p q, p < q → q < np → ltS (fs p) (fs q) ∧ ¬ Orb nv (fs p) (fs q)) ∧ ∀ s, isS fm s → Orb nv o s ∨ ∃ p, p < np ∧ Orb nv (fs p) s
def PaX (nv : Nat → Nat → Nat) (fm : Nat → Nat → Bool) (o : St) (n : Nat) (F T : Nat → Nat) (np : Nat) (fs : Nat → St) (pa : Nat → Int32) : Prop := ∀ s, s < n → (fm (F s) (T s) = false → pa s = -1) ∧ (Orb nv o (F s, T s) → pa s = -1) ∧ ∀ p, p < np → Orb nv (fs p) (F s, T s) → pa s = nI p
def WaX (nv : Nat → Nat → Nat) (n : Nat) (F T : Nat → Nat) (np : Nat) (fs : Nat → St) (st wk : Nat → Nat) (sa wa : Nat → Int32) : Prop := st 0 = 0 ∧ (∀ p, p < np → ∃ K, Per nv (fs p) K ∧ st (p + 1) = st p + K ∧ ∀ k, k < K → wk (st p + k) < n ∧ ((F (wk (st p + k)), T (wk (st p + k))) : St) = itr nv k (fs p)) ∧ (∀ p, p ≤ np → sa p = nI (st p)) ∧ hN (st np) wa wk ∧ st np ≤ n ∧ (∀ i j, i < j → j < st np → wk i ≠ wk j) ∧ ∀ j, j < st np → ∃ p, p < np ∧ wk j < n ∧ Orb nv (fs p) (F (wk j), T (wk j))
theorem out_ok {w h nl : Nat} {ld : Nat → Ln} {m : Nat} {Q : Nat → Pt3} {fm : Nat → Nat → Bool} (hM : Mesh w h nl ld m Q fm) {n : Nat} {F T fi tw : Nat → Nat} {fw fe fs fr to tn : Nat → Int32} (hX : MsX (adB (KX w h ld) (nl + 4) m Q) fm m n F T fi tw fw fe fs fr to tn) {u x y : Nat → Int32} (hJ : JR m Q u x y) {a : Nat} (ha : cn1 (onK (KX w h ld) Q 3) m 0 a) (ea : (Q a).1 = 0) : ∃ s, s < n ∧ F s = 0 ∧ T s = a ∧ sX7_stepWithOutside x fs to = some (nI s) := by
  obtain ⟨x1, x2, x3, x4, x5, x6, x7, x8⟩ := hX
  obtain ⟨m0, e0⟩ := jt_0 hM.2.1
  have hm := hM.2.2.1
  have hM2 := Mesh_Mx hM
  have pa0 : Pc (onK (KX w h ld) Q) (nl + 4) m 0 a := ⟨3, by omega, ha⟩
  obtain ⟨s, s1, s2, s3⟩ := x1.2.2.1 0 a m0 ha.2.1 (adB_t.mpr (Or.inl pa0))
  have one : ∀ k, k < n → F k = 0 → ((Q (T k)).1 = 0 ↔ k = s) := by
    intro k hk fk
    constructor
    · intro ex
      obtain ⟨o1, o2, o3⟩ := x1.1 k hk
      rw [fk] at o3
      have pk : Pc (onK (KX w h ld) Q) (nl + 4) m 0 (T k) := by
        rcases adB_t.mp o3 with p | p
        · exact p
        · have := Pc_lt p; omega
      have et : T k = a := by
        have l1 := Pc_lt pk
        have l2 := Pc_lt pa0
        rcases Nat.lt_trichotomy (T k) a with q | q | q
        · exact absurd (by unfold dtp; rw [e0, ea, ex]; grind) (pl_in hM2 pa0 l1.1 q)
        · exact q
        · exact absurd (by unfold dtp; rw [e0, ea, ex]; grind) (pl_in hM2 pk l2.1 q)
      exact St_uniq x1 hk s1 (by rw [fk, s2]) (by rw [et, s3])
    · intro e; rw [e, s3]; exact ea
  have f1 := fi_mono x1 m0
  have f2 := (x1.2.2.2 1 (by omega)).1
  obtain ⟨q1, q2⟩ := (fi_in x1 m0).mpr ⟨s1, s2⟩
  have c1 : (1 : Int32).toNatClampNeg = 1 := by decide
  have c0 : (0 : Int32).toNatClampNeg = 0 := by decide
  have l1 : ¬ ((1 : Int32) < 0) := by decide
  have l0 : ¬ ((0 : Int32) < 0) := by decide
  obtain ⟨r, h1, h2⟩ := iter_for (S := Nat) (B := bX7_stepWithOutside_12 x fs to) (fun j b => (nI b, nI j)) (fi 1) (fun j b => s < j → b = s) (fi 0) 0 (fun h => by omega) f1 (by omega) (fun j b hj1 hj2 hI => by
    obtain ⟨k1, k2⟩ := (fi_in x1 m0).mp ⟨hj1, hj2⟩
    have o2 := (x1.1 j k1).2.1
    have ej : x (T j) = nI (Q (T j)).1 := (hJ (T j) o2).1
    have bd := pB_of (hM.2.1.1 (T j) o2)
    obtain ⟨b1, b2, b3, b4⟩ := bd
    have e0 : bX7_stepWithOutside_12 x fs to (nI b, nI j) = ob (if ¬ (Q (T j)).1 = 0 then some (nI b) else some (nI j)) (fun t => dm1 t (fun v4 => some (0, (v4, nI (j + 1))))) := by
      simp (disch := omega) only [bX7_stepWithOutside_12, dm2, c1, l1, false_or, gd_s, x4 1 (by omega), nI_leS, nI_lt0, nI_clampS, x3 j k1, ej, lt, nI_1]
      rw [if_neg (by omega), nl_0]
      simp (disch := omega) only [nI_eqS]
    by_cases z : (Q (T j)).1 = 0
    · rw [if_neg (fun q => q z)] at e0
      have := (one j k1 k2).mp z
      exact ⟨j, e0, fun _ => this⟩
    · rw [if_pos z] at e0
      refine ⟨b, e0, fun hj => ?_⟩
      have : j ≠ s := fun q => z ((one j k1 k2).mpr q)
      exact hI (by omega)) (fun b hI => by
    simp (disch := omega) only [bX7_stepWithOutside_12, dm2, c1, l1, false_or, gd_s, x4 1 (by omega), nI_leS]
    rw [if_pos (by omega)])
  refine ⟨s, s1, s2, s3, ?_⟩
  have er : r = s := h2 q2
  subst er
  unfold sX7_stepWithOutside
  rw [gd_s (by decide), c0]
  show ob (iter (bX7_stepWithOutside_12 x fs to) FU ((0 : Int32), fs 0)) _ = _
  rw [x4 0 (by omega), nl_0, ob_s h1]
  rfl
theorem findX_ok {w h nl : Nat} {ld : Nat → Ln} {m : Nat} {Q : Nat → Pt3} {fm : Nat → Nat → Bool} (hM : Mesh w h nl ld m Q fm) {nv : Nat → Nat → Nat} (hn : NV Q fm nv) {n : Nat} {F T fi tw : Nat → Nat} {fw fe fs fr to tn : Nat → Int32} (hX : MsX (adB (KX w h ld) (nl + 4) m Q) fm m n F T fi tw fw fe fs fr to tn) {u x y : Nat → Int32} (hJ : JR m Q u x y) {a b : Nat} (ha : cn1 (onK (KX w h ld) Q 3) m 0 a) (ea : (Q a).1 = 0) (hb : cn1 (onK (KX w h ld) Q 0) m 0 b) (eb : (Q b).2.1 = 0) (tot : Int32) (pa sa wa : Nat → Int32) : ∃ (np : Nat) (gs : Nat → St) (st wk : Nat → Nat) (pa' sa' wa' : Nat → Int32), sX7_find tot u x y pa (nI n) fw fs fr to tn sa wa = some (nI np, pa', sa', wa') ∧ np ≤ 125 ∧ Wlk nv fm (0, a) np gs ∧ PaX nv fm (0, a) n F T np gs pa' ∧ WaX nv n F T np gs st wk sa' wa' := by
  have hn6 : n ≤ 684 := hX.2.2.2.2.2.2.2
  have x1 := hX.1
  have x7 := hX.2.2.2.2.2.2.1
  have fo : fm 0 a = true := (sd_fm hM (k := 3) (by omega) ha).1
  have So : isS fm (0, a) := fo
  -- the walk with the bottom
  have ob1 : ∀ p, isS fm p → (Orb nv p (b, 0) ↔ Orb nv p (0, a)) := by
    intro p hp
    have := W_lft hM hn (orbB_WS hM hn hp) ha ea hb eb
    rw [← orbB_t, ← orbB_t, this]
  obtain ⟨p0, g1, g2⟩ := iter_for (S := Nat → Int32) (B := bX7_find_2 (nI n) fw) (fun i s => (nI i, s)) n (fun i s => ∀ k, k < i → s k = if fm (F k) (T k) = false then (-1 : Int32) else (-2 : Int32)) 0 pa (fun k hk => absurd hk (Nat.not_lt_zero _)) (by omega) (by omega) (fun i s _ hi hI => by
    have e9 := x7.1 i hi
    dsimp only at e9
    refine ⟨upd s i (if fm (F i) (T i) = false then (-1 : Int32) else (-2 : Int32)), ?_, fun k hk => ?_⟩
    · simp (disch := omega) only [bX7_find_2, dm2, nI_leS, nI_lt0, nI_clampS, false_or, gd_s, e9, bI_0', lt, nI_1]
      rw [if_neg (by omega)]
      split <;> rfl
    · by_cases q : k = i
      · subst q; rw [pk_us]
      · rw [pk_un q]; exact hI k (by omega)) (fun s _ => by
    simp (disch := omega) only [bX7_find_2, dm2, nI_leS]
    rw [if_pos (by omega)])
  obtain ⟨s0, t1, t2, t3, t4⟩ := out_ok hM hX hJ ha ea
  have es0 : ((F s0, T s0) : St) = (0, a) := Prod.ext t2 t3
  obtain ⟨K0, hK0⟩ := per_ex2 hM hn So
  have hfs0 : fm (F s0) (T s0) = true := by rw [t2, t3]; exact fo
  have hex : ∀ k, ∃ s, s < n ∧ ((F s, T s) : St) = itr nv k (0, a) := fun k => sig_ex hM x1 (itr_S hM hn So k)
  have hK0n : K0 ≤ n := by
    obtain ⟨σ, hσ⟩ := Classical.axiomOfChoice hex
    exact fb_holes n K0 σ (fun i _ => (hσ i).1) (fun i j hij hj e => per_inj hM hn So hK0 hij hj (by rw [← (hσ i).2, ← (hσ j).2, e]))
  obtain ⟨p1, w1, σ0, j1, j2, j3, -, -⟩ := follow_ok hM hn hX hJ t1 hfs0 (K := K0) (by rw [es0]; exact hK0) (pa := p0) (wa := wa) (fun s hs o => by
    rw [g2 s hs, if_neg]
    have := Orb_S hM hn (p := (F s0, T s0)) hfs0 o
    unfold isS at this
    dsimp only at this
    rw [this]; simp) (fl := 0) (by omega) (num := -1) (by decide)
  rw [es0] at j2 j3
  -- all walks
  obtain ⟨s, h1, h2⟩ := iter_for (S := Nat × (Nat → St) × (Nat → Nat) × (Nat → Nat) × (Nat → Int32) × (Nat → Int32) × (Nat → Int32)) (B := bX7_find_68 u x y (nI n) fw fs fr to tn) (fun i s => (nI i, nI s.1, s.2.2.2.2.1, s.2.2.2.2.2.1, s.2.2.2.2.2.2)) n (fun i s => (∀ p, p < s.1 → isS fm (s.2.1 p) ∧ ¬ Orb nv (0, a) (s.2.1 p) ∧ (∀ q, Orb nv (s.2.1 p) q → leS (s.2.1 p) q) ∧ ∃ k, k < i ∧ s.2.1 p = (F k, T k)) ∧ (∀ p q, p < q → q < s.1 → ltS (s.2.1 p) (s.2.1 q) ∧ ¬ Orb nv (s.2.1 p) (s.2.1 q)) ∧ (∀ k, k < i → fm (F k) (T k) = true → Orb nv (0, a) (F k, T k) ∨ ∃ p, p < s.1 ∧ Orb nv (s.2.1 p) (F k, T k)) ∧ PaX nv fm (0, a) n F T s.1 s.2.1 s.2.2.2.2.1 ∧ (∀ k, k < n → fm (F k) (T k) = true → ¬ Orb nv (0, a) (F k, T k) → (∀ p, p < s.1 → ¬ Orb nv (s.2.1 p) (F k, T k)) → s.2.2.2.2.1 k = -2) ∧ WaX nv n F T s.1 s.2.1 s.2.2.1 s.2.2.2.1 s.2.2.2.2.2.1 s.2.2.2.2.2.2) 0 (0, fun _ => (0, 0), fun _ => 0, fun _ => 0, p1, upd sa 0 0, w1) (by
      refine ⟨fun p hp => absurd hp (Nat.not_lt_zero _), fun p q _ hq => absurd hq (Nat.not_lt_zero _), fun k hk => absurd hk (Nat.not_lt_zero _), fun s hs => ⟨fun hf => ?_, fun o => j2 s hs o, fun p hp => absurd hp (Nat.not_lt_zero _)⟩, fun k hk hf no _ => ?_, rfl, fun p hp => absurd hp (Nat.not_lt_zero _), fun p hp => ?_, fun s hs => absurd hs (Nat.not_lt_zero _), Nat.zero_le _, fun i j _ hj => absurd hj (Nat.not_lt_zero _), fun j hj => absurd hj (Nat.not_lt_zero _)⟩
      · dsimp only
        rw [j3 s hs (fun o => by have := Orb_S hM hn So o; unfold isS at this; dsimp only at this; rw [hf] at this; cases this), g2 s hs, if_pos hf]
      · dsimp only
        rw [j3 k hk no, g2 k hk, if_neg (by rw [hf]; simp)]
      · dsimp only at hp ⊢
        obtain rfl : p = 0 := by omega
        exact pk_us) (by omega) (by omega) (fun i s _ hi hI => by
    obtain ⟨tt, gs, st, wk, pa1, sa1, wa1⟩ := s
    obtain ⟨i1, i2, i3, i4, i5, i6⟩ := hI
    dsimp only at i1 i2 i3 i4 i5 i6 ⊢
    have cap : tt ≤ 125 := Cap_W hM hn hb eb tt gs (fun p hp => ⟨(i1 p hp).1, fun o => (i1 p hp).2.1 (Orb_s hM hn (i1 p hp).1 ((ob1 _ (i1 p hp).1).mp o))⟩) (fun p q hpq hq => (i2 p q hpq hq).2)
    obtain ⟨v1, v2, v3, v4, v5, v6, v7⟩ := i6
    by_cases hw : fm (F i) (T i) = true ∧ ¬ Orb nv (0, a) (F i, T i) ∧ ∀ p, p < tt → ¬ Orb nv (gs p) (F i, T i)
    · obtain ⟨c1, c2, c3⟩ := hw
      have c4 := i5 i hi c1 c2 c3
      obtain ⟨K, hK⟩ := per_ex2 hM hn (p := (F i, T i)) c1
      have Si : isS fm (F i, T i) := c1
      -- room for the walk
      have hroom : st tt + K ≤ n := by
        have hex : ∀ k, ∃ s, s < n ∧ ((F s, T s) : St) = itr nv k (F i, T i) := fun k => sig_ex hM x1 (itr_S hM hn Si k)
        obtain ⟨σ, hσ⟩ := Classical.axiomOfChoice hex
        refine fb_holes n (st tt + K) (fun j => if j < st tt then wk j else σ (j - st tt)) (fun j hj => ?_) (fun j j' hjj hj' e => ?_)
        · by_cases q : j < st tt
          · simp only [q, if_true]; exact (v7 j q).choose_spec.2.1
          · simp only [q, if_false]; exact (hσ _).1
        · by_cases q : j < st tt
          · by_cases q' : j' < st tt
            · simp only [q, q', if_true] at e; exact v6 j j' hjj q' e
            · simp only [q, q', if_true, if_false] at e
              obtain ⟨p, z1, z2, z3⟩ := v7 j q
              rw [e, (hσ _).2] at z3
              exact c3 p z1 (Orb_t z3 (Orb_s hM hn Si ⟨_, rfl⟩))
          · have q' : ¬ j' < st tt := by omega
            simp only [q, q', if_false] at e
            exact per_inj hM hn Si hK (show j - st tt < j' - st tt by omega) (by omega) (by rw [← (hσ _).2, ← (hσ (j' - st tt)).2, e])
      obtain ⟨pa2, wa2, σ, f1, f2, f3, f4, f5⟩ := follow_ok hM hn hX hJ hi c1 hK (pa := pa1) (wa := wa1) (fun s hs o => i5 s hs (Orb_S hM hn Si o) (fun z => c2 (Orb_t z (Orb_s hM hn Si o))) (fun p hp z => c3 p hp (Orb_t z (Orb_s hM hn Si o)))) (fl := st tt) (by omega) (num := nI tt) (by
        rw [nm_2, ← iz_n]
        intro z
        have := (iz_eq (by omega) (by omega) (by omega) (by omega)).mp z
        omega)
      have least : ∀ q, Orb nv (F i, T i) q → leS (F i, T i) q := by
        intro q o
        have Sq := Orb_S hM hn Si o
        obtain ⟨s, z1, z2⟩ := sig_ex hM x1 Sq
        rcases Nat.lt_or_ge s i with y | y
        · exfalso
          have fs : fm (F s) (T s) = true := by rw [← z2] at Sq; exact Sq
          rcases i3 s y fs with w | ⟨p, w1, w2⟩
          · rw [z2] at w; exact c2 (Orb_t w (Orb_s hM hn Si o))
          · rw [z2] at w2; exact c3 p w1 (Orb_t w2 (Orb_s hM hn Si o))
        · rw [← z2]
          rcases Nat.lt_or_ge i s with y2 | y2
          · rcases x1.2.1 i s y2 z1 with w | w
            · exact Or.inl w
            · exact Or.inr ⟨w.1, by have := w.2; dsimp only; omega⟩
          · obtain rfl : s = i := by omega
            exact Or.inr ⟨rfl, Nat.le_refl _⟩
      refine ⟨(tt + 1, (fun p => if p = tt then (F i, T i) else gs p), (fun p => if p = tt + 1 then st tt + K else st p), (fun j => if j < st tt then wk j else σ (j - st tt)), pa2, upd sa1 (tt + 1) (nI (st tt + K)), wa2), ?_, fun p hp => ?_, fun p q hpq hq => ?_, fun k hk hf => ?_, fun s hs => ⟨fun hf => ?_, fun o => ?_, fun p hp o => ?_⟩, fun k hk hf no hp => ?_, ?_⟩
      · simp (disch := omega) only [bX7_find_68, dm5, nI_leS, nI_lt0, nI_clampS, false_or, gd_s, c4, v3 tt (Nat.le_refl _), f1, ob, dm3, nl_1, nI_add, lt, dm4]
        rw [if_neg (by omega), if_neg (by rw [show (128 : Int32) = nI 128 from rfl, nI_leS (by omega) (by omega)]; omega), if_neg (by simp)]
      · dsimp only at hp ⊢
        by_cases q : p = tt
        · subst q
          simp only [if_true]
          exact ⟨c1, c2, least, i, by omega, rfl⟩
        · simp only [q, if_false]
          obtain ⟨z1, z2, z3, k, z4, z5⟩ := i1 p (by omega)
          exact ⟨z1, z2, z3, k, by omega, z5⟩
      · dsimp only at hq ⊢
        by_cases q1 : q = tt
        · subst q1
          simp only [show p ≠ q by omega, if_true, if_false]
          refine ⟨?_, c3 p (by omega)⟩
          obtain ⟨-, -, -, k, z4, z5⟩ := i1 p (by omega)
          rw [z5]
          exact x1.2.1 k i z4 hi
        · simp only [show p ≠ tt by omega, q1, if_false]
          exact i2 p q hpq (by omega)
      · dsimp only
        by_cases q : k = i
        · subst q
          exact Or.inr ⟨tt, by omega, by simp only [if_true]; exact Orb_r nv _⟩
        · rcases i3 k (by omega) hf with z | ⟨p, z1, z2⟩
          · exact Or.inl z
          · exact Or.inr ⟨p, by omega, by simp only [show p ≠ tt by omega, if_false]; exact z2⟩
      · dsimp only
        rw [f3 s hs (fun o => by have := Orb_S hM hn Si o; unfold isS at this; dsimp only at this; rw [hf] at this; cases this)]
        exact (i4 s hs).1 hf
      · dsimp only
        rw [f3 s hs (fun o' => c2 (Orb_t o (Orb_s hM hn Si o')))]
        exact (i4 s hs).2.1 o
      · dsimp only at hp o ⊢
        by_cases q : p = tt
        · subst q
          simp only [if_true] at o
          exact f2 s hs o
        · simp only [q, if_false] at o
          rw [f3 s hs (fun o' => c3 p (by omega) (Orb_t o (Orb_s hM hn Si o')))]
          exact (i4 s hs).2.2 p (by omega) o
      · dsimp only at hp ⊢
        have h9 := hp tt (by omega)
        simp only [if_true] at h9
        rw [f3 k hk h9]
        refine i5 k hk hf no (fun p hp2 => ?_)
        have := hp p (by omega)
        simp only [show p ≠ tt by omega, if_false] at this
        exact this
      · refine ⟨?_, fun p hp => ?_, fun p hp => ?_, fun s hs => ?_, ?_, fun i' j hij hj => ?_, fun j hj => ?_⟩
        · dsimp only; rw [if_neg (by omega)]; exact v1
        · dsimp only at hp ⊢
          by_cases q : p = tt
          · subst q
            refine ⟨K, by simp only [if_true]; exact hK, by simp, fun k hk => ?_⟩
            rw [if_neg (show ¬ p = p + 1 by omega), if_neg (show ¬ st p + k < st p by omega), show st p + k - st p = k by omega, if_pos rfl]
            exact ⟨(f4 k hk).1, (f4 k hk).2.1⟩
          · obtain ⟨K', z1, z2, z3⟩ := v2 p (by omega)
            have le : st (p + 1) ≤ st tt := by
              have mono : ∀ d, p + 1 + d ≤ tt → st (p + 1) ≤ st (p + 1 + d) := by
                intro d
                induction d with
                | zero => intro _; exact Nat.le_refl _
                | succ d ih =>
                  intro hd
                  obtain ⟨K'', -, y2, -⟩ := v2 (p + 1 + d) (by omega)
                  have := ih (by omega)
                  rw [show p + 1 + (d + 1) = p + 1 + d + 1 by omega, y2]; omega
              have := mono (tt - (p + 1)) (by omega)
              rw [show p + 1 + (tt - (p + 1)) = tt by omega] at this
              exact this
            refine ⟨K', by simp only [q, if_false]; exact z1, ?_, fun k hk => ?_⟩
            · rw [if_neg (by omega), if_neg (by omega)]; exact z2
            · rw [if_neg (show ¬ p = tt + 1 by omega), if_pos (show st p + k < st tt by omega), if_neg q]
              exact z3 k hk
        · dsimp only at hp ⊢
          by_cases q : p = tt + 1
          · subst q; rw [pk_us, if_pos rfl]
          · rw [pk_un q, if_neg q]; exact v3 p (by omega)
        · dsimp only at hs ⊢
          rw [if_pos rfl] at hs
          by_cases q : s < st tt
          · rw [if_pos q, f5 s q]; exact v4 s q
          · rw [if_neg q]
            have := (f4 (s - st tt) (by omega)).2.2
            rw [show st tt + (s - st tt) = s by omega] at this
            exact this
        · dsimp only; rw [if_pos rfl]; exact hroom
        · dsimp only at hj ⊢
          rw [if_pos rfl] at hj
          by_cases q : i' < st tt
          · by_cases q' : j < st tt
            · rw [if_pos q, if_pos q']; exact v6 i' j hij q'
            · rw [if_pos q, if_neg q']
              intro e
              obtain ⟨p, z1, z2, z3⟩ := v7 i' q
              rw [e, (f4 _ (by omega)).2.1] at z3
              exact c3 p z1 (Orb_t z3 (Orb_s hM hn Si ⟨_, rfl⟩))
          · have q' : ¬ j < st tt := by omega
            rw [if_neg q, if_neg q']
            intro e
            exact per_inj hM hn Si hK (show i' - st tt < j - st tt by omega) (by omega) (by rw [← (f4 _ (by omega)).2.1, ← (f4 (j - st tt) (by omega)).2.1, e])
        · dsimp only at hj ⊢
          rw [if_pos rfl] at hj
          by_cases q : j < st tt
          · obtain ⟨p, z1, z2, z3⟩ := v7 j q
            refine ⟨p, by omega, ?_, ?_⟩
            · rw [if_pos q]; exact z2
            · rw [if_pos q, if_neg (by omega)]; exact z3
          · refine ⟨tt, by omega, ?_, ?_⟩
            · rw [if_neg q]; exact (f4 _ (by omega)).1
            · rw [if_neg q, if_pos rfl, (f4 _ (by omega)).2.1]; exact ⟨_, rfl⟩
    · -- walked already, or loose
      have c4 : pa1 i ≠ -2 := by
        obtain ⟨z1, z2, z3⟩ := i4 i hi
        cases hf : fm (F i) (T i) with
        | false => rw [z1 hf]; decide
        | true =>
          by_cases o : Orb nv (0, a) (F i, T i)
          · rw [z2 o]; decide
          · by_cases hp : ∃ p, p < tt ∧ Orb nv (gs p) (F i, T i)
            · obtain ⟨p, p1, p2⟩ := hp
              rw [z3 p p1 p2, nm_2, ← iz_n]
              intro z
              have := (iz_eq (by omega) (by omega) (by omega) (by omega)).mp z
              omega
            · exact absurd ⟨hf, o, fun p p1 p2 => hp ⟨p, p1, p2⟩⟩ hw
      refine ⟨(tt, gs, st, wk, pa1, sa1, wa1), ?_, fun p hp => ?_, i2, fun k hk hf => ?_, i4, i5, v1, v2, v3, v4, v5, v6, v7⟩
      · simp (disch := omega) only [bX7_find_68, dm5, nI_leS, nI_lt0, nI_clampS, false_or, gd_s, c4, lt, ob, dm4, nI_1]
        rw [if_neg (by omega), if_neg (by rw [show (128 : Int32) = nI 128 from rfl, nI_leS (by omega) (by omega)]; omega), if_pos (by simp)]
      · obtain ⟨z1, z2, z3, k, z4, z5⟩ := i1 p hp
        exact ⟨z1, z2, z3, k, by omega, z5⟩
      · by_cases q : k = i
        · subst q
          by_cases o : Orb nv (0, a) (F k, T k)
          · exact Or.inl o
          · by_cases hp : ∃ p, p < tt ∧ Orb nv (gs p) (F k, T k)
            · exact Or.inr hp
            · exact absurd ⟨hf, o, fun p p1 p2 => hp ⟨p, p1, p2⟩⟩ hw
        · exact i3 k (by omega) hf) (fun s hI => by
    simp (disch := omega) only [bX7_find_68, dm5, nI_leS]
    rw [if_pos (by omega)])
  obtain ⟨tt, gs, st, wk, pa1, sa1, wa1⟩ := s
  obtain ⟨i1, i2, i3, i4, i5, i6⟩ := h2
  dsimp only at h1 i1 i2 i3 i4 i5 i6
  have cap : tt ≤ 125 := Cap_W hM hn hb eb tt gs (fun p hp => ⟨(i1 p hp).1, fun o => (i1 p hp).2.1 (Orb_s hM hn (i1 p hp).1 ((ob1 _ (i1 p hp).1).mp o))⟩) (fun p q hpq hq => (i2 p q hpq hq).2)
  refine ⟨tt, gs, st, wk, pa1, sa1, wa1, ?_, cap, ⟨fun p hp => ⟨(i1 p hp).1, (i1 p hp).2.1, (i1 p hp).2.2.1⟩, i2, fun s hs => ?_⟩, i4, i6⟩
  · have c0 : (0 : Int32).toNatClampNeg = 0 := by decide
    have j1' : sX7_follow (nI s0) (-1) (nI 0) u x y p0 (nI n) fw fs fr to tn wa = some (nI (0 + K0), p1, w1) := j1
    unfold sX7_find
    show ob (iter (bX7_find_2 (nI n) fw) FU (nI 0, pa)) _ = _
    rw [ob_s g1]
    show ob (sX7_stepWithOutside x fs to) _ = _
    rw [ob_s t4]
    show ob (sX7_follow (nI s0) (-1) (nI 0) u x y p0 (nI n) fw fs fr to tn wa) _ = _
    rw [ob_s j1']
    show gd _ _ = _
    rw [gd_s (by decide), c0]
    show ob (iter (bX7_find_68 u x y (nI n) fw fs fr to tn) FU (nI 0, nI 0, p1, upd sa 0 0, w1)) _ = _
    rw [ob_s h1]
    rfl
  · obtain ⟨k, k1, k2⟩ := sig_ex hM x1 hs
    have := i3 k k1 (by have h9 := hs; rw [← k2] at h9; exact h9)
    rw [k2] at this
    exact this
