/-! the reference finds the panes -/
def PaM (nv : Nat → Nat → Nat) (o : St) (n : Nat) (A B : Nat → Nat) (np : Nat) (gs : Nat → St) (pa : Nat → Int32) : Prop := ∀ c, c < 2 * n → (Orb nv o (bg A B c, ed A B c) → pa c = -1) ∧ ∀ p, p < np → Orb nv (gs p) (bg A B c, ed A B c) → pa c = nI p
def FsM (n : Nat) (A B : Nat → Nat) (np : Nat) (gs : Nat → St) (cs : Nat → Nat) (fa : Nat → Int32) : Prop := ∀ p, p < np → fa p = nI (cs p) ∧ cs p < 2 * n ∧ ((bg A B (cs p), ed A B (cs p)) : St) = gs p
def Un (nv : Nat → Nat → Nat) (fm : Nat → Nat → Bool) (o : St) (od : Bool) (tt : Nat) (gs : Nat → St) (q : St) : Prop := isS fm q ∧ (od = true → ¬ Orb nv o q) ∧ ∀ p, p < tt → ¬ Orb nv (gs p) q
theorem nI_ne2 {p : Nat} (h : p < 1000) : nI p ≠ -2 := by
  rw [nm_2, ← iz_n]
  intro z
  have := (iz_eq (by omega) (by omega) (by omega) (by omega)).mp z
  omega
theorem marr_ok {w h nl : Nat} {ld : Nat → Ln} {m : Nat} {Q : Nat → Pt3} {fm : Nat → Nat → Bool} (hM : Mesh w h nl ld m Q fm) {nv : Nat → Nat → Nat} (hn : NV Q fm nv) {n : Nat} {A B : Nat → Nat} {gw gr gt : Nat → Int32} (hX : MsM (Pc (onK (KX w h ld) Q) (nl + 4) m) fm m n A B gw gr gt) {d x y : Nat → Int64} (hJ : JL m Q d x y) {a b : Nat} (ha : cn1 (onK (KX w h ld) Q 3) m 0 a) (ea : (Q a).1 = 0) (hb : cn1 (onK (KX w h ld) Q 0) m 0 b) (eb : (Q b).2.1 = 0) (fa pa : Nat → Int32) : ∃ (np : Nat) (gs : Nat → St) (cs : Nat → Nat) (r v : Int32) (pa1 pa2 fa' : Nat → Int32), iter (bX12_arrange_9 (nI n)) FU ((0 : Int32), pa) = some (0, (nI (2 * n), pa1)) ∧ sX12_least (nI n) gw gr gt pa1 = some r ∧ iter (bX12_arrange_46 (nI n) d gw gr gt x y) FU (r, (0 : Int32), fa, pa1) = some (0, (v, nI np, fa', pa2)) ∧ np ≤ 125 ∧ Wlk nv fm (0, a) np gs ∧ PaM nv (0, a) n A B np gs pa2 ∧ FsM n A B np gs cs fa' := by
  have x5 := hX.2.2.2.2
  have x1 := hX.1
  have hm := hM.2.2.1
  have hsy := hM.2.2.2.1.2.1
  have So : isS fm (0, a) := (sd_fm hM (k := 3) (by omega) ha).1
  have tm : (2 : Int32) * nI n = nI (2 * n) := by rw [nl_2, pk_mul]
  have ob1 : ∀ p, isS fm p → (Orb nv p (b, 0) ↔ Orb nv p (0, a)) := by
    intro p hp
    have := W_lft hM hn (orbB_WS hM hn hp) ha ea hb eb
    rw [← orbB_t, ← orbB_t, this]
  have cap : ∀ (tt : Nat) (gs : Nat → St), (∀ p, p < tt → isS fm (gs p) ∧ ¬ Orb nv (0, a) (gs p)) → (∀ p q, p < q → q < tt → ¬ Orb nv (gs p) (gs q)) → tt ≤ 125 := fun tt gs h1 h2 => Cap_W hM hn hb eb tt gs (fun p hp => ⟨(h1 p hp).1, fun o => (h1 p hp).2 (Orb_s hM hn (h1 p hp).1 ((ob1 _ (h1 p hp).1).mp o))⟩) h2
  -- outside: the walk with a step to the left along the bottom
  have out1 : ∀ p, isS fm p → ((∃ q, Orb nv p q ∧ otB (Q q.1) (Q q.2) = true) ↔ Orb nv p (0, a)) := by
    intro p hp
    constructor
    · rintro ⟨q, o, e⟩
      unfold otB at e
      obtain ⟨e1, e2, e3⟩ := of_decide_eq_true e
      have Sq := Orb_S hM hn hp o
      obtain ⟨l1, l2, l3, -⟩ := fm_ad hM Sq
      have hlt : q.2 < q.1 := by
        rcases Nat.lt_or_gt_of_ne l3 with z | z
        · exfalso
          have p1 := hM.2.1.2.1 q.1 q.2 z l2
          rw [plt_iff, e1, e2] at p1
          unfold vX at e3
          rw [← Int.natCast_mul, ← Int.natCast_mul] at e3
          omega
        · exact z
      have := W_bot hM hn (orbB_WS hM hn hp) hb eb Sq hlt e1 e2
      rw [orbB_t.mpr o] at this
      exact (ob1 p hp).mp (orbB_t.mp this.symm)
    · intro o
      refine ⟨(b, 0), (ob1 p hp).mpr o, decide_eq_true ⟨eb, by rw [(jt_0 hM.2.1).2], ?_⟩⟩
      have p1 := hM.2.1.2.1 0 b hb.1 hb.2.1
      rw [plt_iff, (jt_0 hM.2.1).2, eb] at p1
      dsimp only at p1 ⊢
      unfold vX
      rw [(jt_0 hM.2.1).2]
      dsimp only
      omega
  obtain ⟨pa1, g1, g2⟩ := iter_for (S := Nat → Int32) (B := bX12_arrange_9 (nI n)) (fun i s => (nI i, s)) (2 * n) (fun i s => ∀ k, k < i → s k = (-2 : Int32)) 0 pa (fun k hk => absurd hk (Nat.not_lt_zero _)) (by omega) (by omega) (fun i s _ hi hI => by
    refine ⟨upd s i (-2), ?_, fun k hk => ?_⟩
    · simp (disch := omega) only [bX12_arrange_9, dm2, tm, nI_leS, nI_lt0, nI_clampS, false_or, gd_s, lt, nI_1]
      rw [if_neg (by omega)]
    · by_cases q : k = i
      · subst q; rw [pk_us]
      · rw [pk_un q]; exact hI k (by omega)) (fun s _ => by
    simp (disch := omega) only [bX12_arrange_9, dm2, tm, nI_leS]
    rw [if_pos (by omega)])
  -- the least one that is left
  have lsp : ∀ (od : Bool) (tt : Nat) (gs : Nat → St) (p1 : Nat → Int32), (∀ c, c < 2 * n → fm (bg A B c) (ed A B c) = true → (p1 c = -2 ↔ Un nv fm (0, a) od tt gs (bg A B c, ed A B c))) → ∃ r, sX12_least (nI n) gw gr gt p1 = some r ∧ ((∃ c, r = nI c ∧ c < 2 * n ∧ Un nv fm (0, a) od tt gs (bg A B c, ed A B c) ∧ ∀ q, Un nv fm (0, a) od tt gs q → leS (bg A B c, ed A B c) q) ∨ (r = -1 ∧ ∀ q, ¬ Un nv fm (0, a) od tt gs q)) := by
    intro od tt gs p1 hp
    obtain ⟨r, r1, r2⟩ := least_ok hm hsy hX p1
    refine ⟨r, r1, ?_⟩
    rcases r2 with ⟨c, c1, c2, c3, c4, c5⟩ | ⟨c1, c2⟩
    · refine Or.inl ⟨c, c1, c2, (hp c c2 c3).mp c4, fun q hq => ?_⟩
      obtain ⟨k, k1, k2⟩ := msig_ex hM x1 hq.1
      have fk : fm (bg A B k) (ed A B k) = true := by have := hq.1; rw [← k2] at this; exact this
      rw [← k2]
      exact c5 k k1 fk ((hp k k1 fk).mpr (by rw [k2]; exact hq))
    · refine Or.inr ⟨c1, fun q hq => ?_⟩
      obtain ⟨k, k1, k2⟩ := msig_ex hM x1 hq.1
      have fk : fm (bg A B k) (ed A B k) = true := by have := hq.1; rw [← k2] at this; exact this
      exact c2 k k1 fk ((hp k k1 fk).mpr (by rw [k2]; exact hq))
  obtain ⟨r0, r1, r2⟩ := lsp false 0 (fun _ => (0, 0)) pa1 (fun c hc hf => ⟨fun _ => ⟨hf, fun z => (by cases z), fun p hp => absurd hp (Nat.not_lt_zero _)⟩, fun _ => g2 c hc⟩)
  obtain ⟨t', h1, np, gs, cs, e1, e2, e3, e4, e5⟩ := iter_wh (S := Bool × Nat × (Nat → St) × (Nat → Nat) × Int32 × (Nat → Int32) × (Nat → Int32)) (B := bX12_arrange_46 (nI n) d gw gr gt x y) (fun s => (s.2.2.2.2.1, nI s.2.1, s.2.2.2.2.2.1, s.2.2.2.2.2.2)) (fun s => (∀ p, p < s.2.1 → isS fm (s.2.2.1 p) ∧ ¬ Orb nv (0, a) (s.2.2.1 p) ∧ ∀ q, Orb nv (s.2.2.1 p) q → leS (s.2.2.1 p) q) ∧ (∀ p q, p < q → q < s.2.1 → ltS (s.2.2.1 p) (s.2.2.1 q) ∧ ¬ Orb nv (s.2.2.1 p) (s.2.2.1 q)) ∧ (∀ p q, p < s.2.1 → Un nv fm (0, a) s.1 s.2.1 s.2.2.1 q → ltS (s.2.2.1 p) q) ∧ (∀ c, c < 2 * n → (s.1 = true → Orb nv (0, a) (bg A B c, ed A B c) → s.2.2.2.2.2.2 c = -1) ∧ (∀ p, p < s.2.1 → Orb nv (s.2.2.1 p) (bg A B c, ed A B c) → s.2.2.2.2.2.2 c = nI p) ∧ (Un nv fm (0, a) s.1 s.2.1 s.2.2.1 (bg A B c, ed A B c) → s.2.2.2.2.2.2 c = -2)) ∧ ((∃ c, s.2.2.2.2.1 = nI c ∧ c < 2 * n ∧ Un nv fm (0, a) s.1 s.2.1 s.2.2.1 (bg A B c, ed A B c) ∧ ∀ q, Un nv fm (0, a) s.1 s.2.1 s.2.2.1 q → leS (bg A B c, ed A B c) q) ∨ (s.2.2.2.2.1 = -1 ∧ ∀ q, ¬ Un nv fm (0, a) s.1 s.2.1 s.2.2.1 q)) ∧ FsM n A B s.2.1 s.2.2.1 s.2.2.2.1 s.2.2.2.2.2.1) (fun s => 2 * (126 - s.2.1) + (if s.1 = true then 0 else 1)) (fun t => ∃ (np : Nat) (gs : Nat → St) (cs : Nat → Nat), t.2.1 = nI np ∧ np ≤ 125 ∧ Wlk nv fm (0, a) np gs ∧ PaM nv (0, a) n A B np gs t.2.2.2 ∧ FsM n A B np gs cs t.2.2.1) (fun s hI => by
    obtain ⟨od, tt, gs, cs, ls, f1, p1⟩ := s
    obtain ⟨i1, i2, i3, i4, i5, i6⟩ := hI
    dsimp only at i1 i2 i3 i4 i5 i6 ⊢
    have hcap : tt ≤ 125 := cap tt gs (fun p hp => ⟨(i1 p hp).1, (i1 p hp).2.1⟩) (fun p q hpq hq => (i2 p q hpq hq).2)
    rcases i5 with ⟨c, c1, c2, c3, c4⟩ | ⟨c1, c2⟩
    · left
      subst c1
      obtain ⟨u1, u2, u3⟩ := id c3
      have fc : fm (bg A B c) (ed A B c) = true := u1
      obtain ⟨ou, p2, w1, w2, w3, w4⟩ := walk1_ok hM hn hX hJ c2 fc (nI tt) p1
      rw [out1 _ u1] at w2
      have e0 : bX12_arrange_46 (nI n) d gw gr gt x y (nI c, nI tt, f1, p1) = ob (if bI ou = 0 then some (nI (tt + 1), upd f1 tt (nI c), p2) else ob (iter (bX12_arrange_97 (nI n) d gw gr gt x y (nI c)) FU (nI c, p2)) (fun kt => ex1 kt (fun t => dm2 t (fun v45 v46 => some (nI tt, f1, v46))))) (fun t => dm3 t (fun v35 v36 v37 => ob (sX12_least (nI n) gw gr gt v37) (fun o => dm1 o (fun r38 => some (0, (r38, v35, v36, v37)))))) := by
        rw [nl_0] at w1
        simp (disch := omega) only [bX12_arrange_46, dm4, nl_0, nI_lt0', if_false, w1, ob, ex1, if_true, dm3, nI_clampS, false_or, gd_s, lt, nl_1, nI_add]
      cases hou : ou with
      | false =>
        rw [hou] at e0 w2
        rw [if_pos (show bI false = 0 from nI_0)] at e0
        have no : ¬ Orb nv (bg A B c, ed A B c) (0, a) := fun z => by have := w2.mpr z; cases this
        have no2 : ¬ Orb nv (0, a) (bg A B c, ed A B c) := fun z => no (Orb_s hM hn So z)
        have gt1 : ∀ p, p < tt → (fun p => if p = tt then ((bg A B c, ed A B c) : St) else gs p) p = gs p := fun p hp => by dsimp only; rw [if_neg (by omega)]
        have gt2 : (fun p => if p = tt then ((bg A B c, ed A B c) : St) else gs p) tt = (bg A B c, ed A B c) := by dsimp only; rw [if_pos rfl]
        generalize hg' : (fun p => if p = tt then ((bg A B c, ed A B c) : St) else gs p) = gs' at gt1 gt2
        have unn : ∀ q, Un nv fm (0, a) od (tt + 1) gs' q ↔ (Un nv fm (0, a) od tt gs q ∧ ¬ Orb nv (bg A B c, ed A B c) q) := by
          intro q
          constructor
          · rintro ⟨z1, z2, z3⟩
            refine ⟨⟨z1, z2, fun p hp => ?_⟩, ?_⟩
            · have := z3 p (by omega); rw [gt1 p hp] at this; exact this
            · have := z3 tt (by omega); rw [gt2] at this; exact this
          · rintro ⟨⟨z1, z2, z3⟩, z4⟩
            refine ⟨z1, z2, fun p hp => ?_⟩
            by_cases e : p = tt
            · rw [e, gt2]; exact z4
            · rw [gt1 p (by omega)]; exact z3 p (by omega)
        have pan : ∀ k, k < 2 * n → (od = true → Orb nv (0, a) (bg A B k, ed A B k) → p2 k = -1) ∧ (∀ p, p < tt + 1 → Orb nv (gs' p) (bg A B k, ed A B k) → p2 k = nI p) ∧ (Un nv fm (0, a) od (tt + 1) gs' (bg A B k, ed A B k) → p2 k = -2) := by
          intro k hk
          obtain ⟨z1, z2, z3⟩ := i4 k hk
          refine ⟨fun h1 h2 => ?_, fun p hp h2 => ?_, fun h1 => ?_⟩
          · rw [w4 k hk (fun z => no2 (Orb_t h2 (Orb_s hM hn u1 z)))]; exact z1 h1 h2
          · by_cases e : p = tt
            · subst e; rw [gt2] at h2; exact w3 k hk h2
            · rw [gt1 p (by omega)] at h2
              rw [w4 k hk (fun z => u3 p (by omega) (Orb_t h2 (Orb_s hM hn u1 z)))]
              exact z2 p (by omega) h2
          · obtain ⟨y1, y2⟩ := (unn _).mp h1
            rw [w4 k hk y2]; exact z3 y1
        have iffp : ∀ k, k < 2 * n → fm (bg A B k) (ed A B k) = true → (p2 k = -2 ↔ Un nv fm (0, a) od (tt + 1) gs' (bg A B k, ed A B k)) := by
          intro k hk fk
          obtain ⟨z1, z2, z3⟩ := pan k hk
          refine ⟨fun h9 => ⟨fk, fun y1 y2 => ?_, fun p hp y2 => ?_⟩, z3⟩
          · rw [z1 y1 y2] at h9; cases h9
          · rw [z2 p hp y2] at h9; exact nI_ne2 (by omega) h9
        obtain ⟨r, r1, r2⟩ := lsp od (tt + 1) gs' p2 iffp
        refine ⟨(od, tt + 1, gs', (fun p => if p = tt then c else cs p), r, upd f1 tt (nI c), p2), ?_, ⟨fun p hp => ?_, fun p q hpq hq => ?_, fun p q hp hq => ?_, pan, r2, fun p hp => ?_⟩, ?_⟩
        · rw [e0]
          simp only [ob, dm3, r1, dm1]
        · dsimp only at hp ⊢
          by_cases e : p = tt
          · rw [e, gt2]
            refine ⟨u1, no2, fun q o => ?_⟩
            exact c4 q ⟨Orb_S hM hn u1 o, fun y1 y2 => u2 y1 (Orb_t y2 (Orb_s hM hn u1 o)), fun p hp y2 => u3 p hp (Orb_t y2 (Orb_s hM hn u1 o))⟩
          · rw [gt1 p (by omega)]; exact i1 p (by omega)
        · dsimp only at hq ⊢
          by_cases e : q = tt
          · rw [e, gt2, gt1 p (by omega)]
            exact ⟨i3 p _ (by omega) c3, u3 p (by omega)⟩
          · rw [gt1 p (by omega), gt1 q (by omega)]; exact i2 p q hpq (by omega)
        · dsimp only at hp hq ⊢
          obtain ⟨y1, y2⟩ := (unn q).mp hq
          by_cases e : p = tt
          · rw [e, gt2]
            have := c4 q y1
            have ne : q ≠ (bg A B c, ed A B c) := fun z => y2 (by rw [z]; exact Orb_r nv _)
            unfold leS at this
            unfold ltS
            rcases this with z | ⟨z1, z2⟩
            · exact Or.inl z
            · refine Or.inr ⟨z1, ?_⟩
              rcases Nat.lt_or_ge (bg A B c, ed A B c).2 q.2 with y | y
              · exact y
              · exact absurd (Prod.ext z1.symm (by omega)) ne
          · rw [gt1 p (by omega)]; exact i3 p q (by omega) y1
        · dsimp only at hp ⊢
          by_cases e : p = tt
          · subst e
            rw [gt2, pk_us, if_pos rfl]
            exact ⟨rfl, c2, rfl⟩
          · rw [gt1 p (by omega), pk_un e, if_neg e]; exact i6 p (by omega)
        · dsimp only; omega
      | true =>
        rw [hou] at e0 w2
        rw [if_neg (show ¬ bI true = 0 by rw [bI_0']; simp)] at e0
        have yes : Orb nv (bg A B c, ed A B c) (0, a) := w2.mp rfl
        have yes2 := Orb_s hM hn u1 yes
        have od0 : od = false := by
          cases e : od with
          | false => rfl
          | true => exact absurd yes2 (u2 e)
        subst od0
        obtain ⟨p3, v1, v2, v3⟩ := walk2_ok hM hn hX hJ c2 fc p2
        have oo : ∀ q, Orb nv (bg A B c, ed A B c) q ↔ Orb nv (0, a) q := fun q => ⟨fun z => Orb_t yes2 z, fun z => Orb_t yes z⟩
        have pan : ∀ k, k < 2 * n → (true = true → Orb nv (0, a) (bg A B k, ed A B k) → p3 k = -1) ∧ (∀ p, p < tt → Orb nv (gs p) (bg A B k, ed A B k) → p3 k = nI p) ∧ (Un nv fm (0, a) true tt gs (bg A B k, ed A B k) → p3 k = -2) := by
          intro k hk
          obtain ⟨z1, z2, z3⟩ := i4 k hk
          refine ⟨fun _ h2 => v2 k hk ((oo _).mpr h2), fun p hp h2 => ?_, fun h1 => ?_⟩
          · have nk : ¬ Orb nv (bg A B c, ed A B c) (bg A B k, ed A B k) := fun z => u3 p hp (Orb_t h2 (Orb_s hM hn u1 z))
            rw [v3 k hk nk, w4 k hk nk]; exact z2 p hp h2
          · have nk : ¬ Orb nv (bg A B c, ed A B c) (bg A B k, ed A B k) := fun z => h1.2.1 rfl ((oo _).mp z)
            rw [v3 k hk nk, w4 k hk nk]
            exact z3 ⟨h1.1, fun y => (by cases y), h1.2.2⟩
        have iffp : ∀ k, k < 2 * n → fm (bg A B k) (ed A B k) = true → (p3 k = -2 ↔ Un nv fm (0, a) true tt gs (bg A B k, ed A B k)) := by
          intro k hk fk
          obtain ⟨z1, z2, z3⟩ := pan k hk
          refine ⟨fun h9 => ⟨fk, fun y1 y2 => ?_, fun p hp y2 => ?_⟩, z3⟩
          · rw [z1 y1 y2] at h9; cases h9
          · rw [z2 p hp y2] at h9; exact nI_ne2 (by omega) h9
        obtain ⟨r, r1, r2⟩ := lsp true tt gs p3 iffp
        refine ⟨(true, tt, gs, cs, r, f1, p3), ?_, ⟨i1, i2, fun p q hp hq => i3 p q hp ⟨hq.1, fun y => (by cases y), hq.2.2⟩, pan, r2, i6⟩, ?_⟩
        · rw [e0, v1]
          simp only [ob, ex1, if_true, dm2, dm3, r1, dm1]
        · simp
    · right
      subst c1
      have hod : od = true := by
        cases e : od with
        | true => rfl
        | false =>
          exfalso
          apply c2 (0, a)
          refine ⟨So, fun y => (by rw [e] at y; cases y), fun p hp o => ?_⟩
          exact (i1 p hp).2.1 (Orb_s hM hn (i1 p hp).1 o)
      refine ⟨(-1, nI tt, f1, p1), ?_, tt, gs, cs, rfl, hcap, ⟨i1, i2, fun s hs => ?_⟩, fun k hk => ⟨(i4 k hk).1 hod, (i4 k hk).2.1⟩, i6⟩
      · simp only [bX12_arrange_46, dm4]
        rw [if_pos (by decide)]
      · by_cases o : Orb nv (0, a) s
        · exact Or.inl o
        · right
          by_cases hp : ∃ p, p < tt ∧ Orb nv (gs p) s
          · exact hp
          · exact absurd ⟨hs, fun _ => o, fun p h1 h2 => hp ⟨p, h1, h2⟩⟩ (c2 s)) (false, 0, fun _ => (0, 0), fun _ => 0, r0, fa, pa1) ⟨fun p hp => absurd hp (Nat.not_lt_zero _), fun p q _ hq => absurd hq (Nat.not_lt_zero _), fun p q hp => absurd hp (Nat.not_lt_zero _), fun c hc => ⟨fun z => (by cases z), fun p hp => absurd hp (Nat.not_lt_zero _), fun _ => g2 c hc⟩, r2, fun p hp => absurd hp (Nat.not_lt_zero _)⟩ (by simp)
  obtain ⟨v, u1, u2, u3⟩ := t'
  dsimp only at e1 e4 e5
  subst e1
  exact ⟨np, gs, cs, r0, v, pa1, u3, u2, g1, r1, h1, e2, e3, e4, e5⟩
/-- the panes are one row -/
theorem Wlk_one {w h nl : Nat} {ld : Nat → Ln} {m : Nat} {Q : Nat → Pt3} {fm : Nat → Nat → Bool} (hM : Mesh w h nl ld m Q fm) {nv : Nat → Nat → Nat} (hn : NV Q fm nv) {o : St} {np np' : Nat} {gs gs' : Nat → St} (h1 : Wlk nv fm o np gs) (h2 : Wlk nv fm o np' gs') : np = np' ∧ ∀ p, p < np → gs p = gs' p := by
  have anti : ∀ p q : St, leS p q → leS q p → p = q := fun p q h1 h2 => by
    unfold leS at h1 h2
    exact Prod.ext (by omega) (by omega)
  have irr : ∀ p : St, ¬ ltS p p := fun p h => by unfold ltS at h; omega
  have tr : ∀ p q r : St, ltS p q → ltS q r → ltS p r := fun p q r h1 h2 => by unfold ltS at *; omega
  have sub : ∀ (np np' : Nat) (gs gs' : Nat → St), Wlk nv fm o np gs → Wlk nv fm o np' gs' → ∀ p, p < np → ∃ q, q < np' ∧ gs' q = gs p := by
    intro np np' gs gs' h1 h2 p hp
    obtain ⟨a1, a2, a3⟩ := h1.1 p hp
    rcases h2.2.2 _ a1 with z | ⟨q, q1, q2⟩
    · exact absurd z a2
    · refine ⟨q, q1, anti _ _ ((h2.1 q q1).2.2 _ q2) (a3 _ (Orb_s hM hn (h2.1 q q1).1 q2))⟩
  have key : ∀ (np np' : Nat) (gs gs' : Nat → St), Wlk nv fm o np gs → Wlk nv fm o np' gs' → ∀ p, p < np → p < np' ∧ gs p = gs' p := by
    intro np np' gs gs' h1 h2 p
    induction p using Nat.strongRecOn with
    | _ p ih =>
      intro hp
      obtain ⟨q, q1, q2⟩ := sub np np' gs gs' h1 h2 p hp
      rcases Nat.lt_trichotomy q p with z | z | z
      · have := (ih q z (by omega)).2
        have h9 := (h1.2.1 q p z hp).1
        rw [this, q2] at h9
        exact absurd h9 (irr _)
      · subst z; exact ⟨q1, q2.symm⟩
      · exfalso
        obtain ⟨r, r1, r2⟩ := sub np' np gs' gs h2 h1 p (by omega)
        have h8 := (h2.2.1 p q z q1).1
        rw [q2] at h8
        rcases Nat.lt_trichotomy r p with y | y | y
        · have := (ih r y r1).2
          have h9 := (h2.2.1 r p y (by omega)).1
          rw [← this, r2] at h9
          exact irr _ h9
        · subst y; rw [r2] at h8; exact irr _ h8
        · have h9 := (h1.2.1 p r y r1).1
          rw [r2] at h9
          exact irr _ (tr _ _ _ h8 h9)
  have k1 := key np np' gs gs' h1 h2
  have k2 := key np' np gs' gs h2 h1
  refine ⟨?_, fun p hp => (k1 p hp).2⟩
  rcases Nat.lt_trichotomy np np' with z | z | z
  · have := (k2 np z).1; omega
  · exact z
  · have := (k1 np' z).1; omega
