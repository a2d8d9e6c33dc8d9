/-! the pane of a step -/
def oI : Option Nat → Int32
  | none => -1
  | some p => nI p
def PN (nv : Nat → Nat → Nat) (fm : Nat → Nat → Bool) (np : Nat) (gs : Nat → St) (pn : Nat → Nat → Option Nat) : Prop := ∀ a b, (∀ p, pn a b = some p → p < np) ∧ ∀ p, p < np → (pn a b = some p ↔ (fm a b = true ∧ Orb nv (gs p) (a, b)))
theorem Wlk_uniq {w h nl : Nat} {ld : Nat → Ln} {m : Nat} {Q : Nat → Pt3} {fm : Nat → Nat → Bool} (hM : Mesh w h nl ld m Q fm) {nv : Nat → Nat → Nat} (hn : NV Q fm nv) {o : St} {np : Nat} {gs : Nat → St} (hW : Wlk nv fm o np gs) {p q : Nat} (hp : p < np) (hq : q < np) {s : St} (h1 : Orb nv (gs p) s) (h2 : Orb nv (gs q) s) : p = q := by
  have sp := (hW.1 p hp).1
  have sq := (hW.1 q hq).1
  rcases Nat.lt_trichotomy p q with z | z | z
  · exact absurd (Orb_t h1 (Orb_s hM hn sq h2)) (hW.2.1 p q z hq).2
  · exact z
  · exact absurd (Orb_t h2 (Orb_s hM hn sp h1)) (hW.2.1 q p z hp).2
theorem pn_ex {w h nl : Nat} {ld : Nat → Ln} {m : Nat} {Q : Nat → Pt3} {fm : Nat → Nat → Bool} (hM : Mesh w h nl ld m Q fm) {nv : Nat → Nat → Nat} (hn : NV Q fm nv) {o : St} {np : Nat} {gs : Nat → St} (hW : Wlk nv fm o np gs) : ∃ pn, PN nv fm np gs pn := by
  have h1 : ∀ a b, ∃ v : Option Nat, (∀ p, v = some p → p < np) ∧ ∀ p, p < np → (v = some p ↔ (fm a b = true ∧ Orb nv (gs p) (a, b))) := by
    intro a b
    by_cases z : ∃ p, p < np ∧ fm a b = true ∧ Orb nv (gs p) (a, b)
    · obtain ⟨p, hp, h1, h2⟩ := z
      refine ⟨some p, fun q e => (by cases e; exact hp), fun q hq => ⟨fun e => (by cases e; exact ⟨h1, h2⟩), fun e => ?_⟩⟩
      rw [Wlk_uniq hM hn hW hp hq h2 e.2]
    · refine ⟨none, fun q e => (by cases e), fun q hq => ⟨fun e => (by cases e), fun e => absurd ⟨q, hq, e⟩ z⟩⟩
  exact ⟨fun a b => Classical.choose (h1 a b), fun a b => Classical.choose_spec (h1 a b)⟩
theorem pn_fm {nv : Nat → Nat → Nat} {fm : Nat → Nat → Bool} {np : Nat} {gs : Nat → St} {pn : Nat → Nat → Option Nat} (h : PN nv fm np gs pn) {a b : Nat} (e : fm a b = false) : pn a b = none := by
  cases z : pn a b with
  | none => rfl
  | some p => exact absurd ((((h a b).2 p ((h a b).1 p z)).mp z).1) (by rw [e]; simp)
theorem pnX {nv : Nat → Nat → Nat} {fm : Nat → Nat → Bool} {o : St} {np : Nat} {gs : Nat → St} {pn : Nat → Nat → Option Nat} (h : PN nv fm np gs pn) (hW : Wlk nv fm o np gs) {n : Nat} {F T : Nat → Nat} {pa : Nat → Int32} (hP : PaX nv fm o n F T np gs pa) {s : Nat} (hs : s < n) : pa s = oI (pn (F s) (T s)) := by
  obtain ⟨h1, h2, h3⟩ := hP s hs
  cases z : pn (F s) (T s) with
  | none =>
    show pa s = -1
    cases e : fm (F s) (T s) with
    | false => exact h1 e
    | true =>
      rcases hW.2.2 (F s, T s) e with q | ⟨p, hp, q⟩
      · exact h2 q
      · have := ((h (F s) (T s)).2 p hp).mpr ⟨e, q⟩
        rw [z] at this; cases this
  | some p =>
    have hp := (h (F s) (T s)).1 p z
    exact h3 p hp (((h (F s) (T s)).2 p hp).mp z).2
theorem pnM {nv : Nat → Nat → Nat} {fm : Nat → Nat → Bool} {o : St} {np : Nat} {gs : Nat → St} {pn : Nat → Nat → Option Nat} (h : PN nv fm np gs pn) (hW : Wlk nv fm o np gs) {n : Nat} {A B : Nat → Nat} {pa : Nat → Int32} (hP : PaM nv o n A B np gs pa) {c : Nat} (hc : c < 2 * n) (hf : fm (bg A B c) (ed A B c) = true) : pa c = oI (pn (bg A B c) (ed A B c)) := by
  obtain ⟨h2, h3⟩ := hP c hc
  cases z : pn (bg A B c) (ed A B c) with
  | none =>
    show pa c = -1
    rcases hW.2.2 (bg A B c, ed A B c) hf with q | ⟨p, hp, q⟩
    · exact h2 q
    · have := ((h (bg A B c) (ed A B c)).2 p hp).mpr ⟨hf, q⟩
      rw [z] at this; cases this
  | some p =>
    have hp := (h (bg A B c) (ed A B c)).1 p z
    exact h3 p hp (((h (bg A B c) (ed A B c)).2 p hp).mp z).2
theorem oI_eq {o : Option Nat} {q : Nat} (h : ∀ p, o = some p → p < 1000) (hq : q < 1000) : (oI o = nI q) = (o = some q) := by
  cases o with
  | none =>
    apply propext
    refine ⟨fun e => ?_, fun e => (by cases e)⟩
    exfalso
    have e' : (-1 : Int32) = nI q := e
    have z : (-1 : Int32) < 0 := by decide
    rw [e'] at z
    exact nI_pos (by omega) z
  | some p =>
    have := h p rfl
    apply propext
    show nI p = nI q ↔ _
    rw [nI_eqS (by omega) (by omega)]
    exact ⟨fun e => by rw [e], fun e => by cases e; rfl⟩
theorem oI_lt {o : Option Nat} (h : ∀ p, o = some p → p < 1000) : (oI o < 0) = (o = none) := by
  cases o with
  | none => exact propext ⟨fun _ => rfl, fun _ => (by decide)⟩
  | some p =>
    have := h p rfl
    apply propext
    show nI p < 0 ↔ _
    rw [nI_lt0 (by omega)]
    exact ⟨fun e => e.elim, fun e => by cases e⟩
/-- the class: the pane beyond a step of a walk -/
theorem beyX {nv : Nat → Nat → Nat} {fm : Nat → Nat → Bool} {o : St} {np : Nat} {gs : Nat → St} {pn : Nat → Nat → Option Nat} (h : PN nv fm np gs pn) (hWl : Wlk nv fm o np gs) {n : Nat} {F T : Nat → Nat} (hn : n ≤ 684) (hnp : np ≤ 125) {st wk tw : Nat → Nat} {sa wa pa tn : Nat → Int32} (hP : PaX nv fm o n F T np gs pa) (ht : hN n tn tw) (htw : ∀ s, s < n → tw s < n ∧ F (tw s) = T s ∧ T (tw s) = F s) (hW : WaX nv n F T np gs st wk sa wa) {p : Nat} (hp : p < np) {K : Nat} (hK : Per nv (gs p) K) {k : Nat} (hk : k < K) : sX7_beyond (nI p) (nI k) pa tn sa wa = some (oI (pn (itr nv k (gs p)).2 (itr nv k (gs p)).1)) := by
  obtain ⟨K', h1, h2, h3, h4⟩ := wk_at hW hp
  have eK := Per_one hK h1
  subst eK
  obtain ⟨h5, h6, h7⟩ := h4 k hk
  obtain ⟨t1, t2, t3⟩ := htw _ h6
  have s0 := hW.2.2.1 p (by omega)
  have e1 : ((F (wk (st p + k)), T (wk (st p + k))) : St).1 = (itr nv k (gs p)).1 := by rw [h7]
  have e2 : ((F (wk (st p + k)), T (wk (st p + k))) : St).2 = (itr nv k (gs p)).2 := by rw [h7]
  have e1' : F (wk (st p + k)) = (itr nv k (gs p)).1 := e1
  have e2' : T (wk (st p + k)) = (itr nv k (gs p)).2 := e2
  have i1 : ¬ (nI p < 0 ∨ 129 ≤ (nI p).toNatClampNeg) := ix_ok (by omega) (by omega)
  have i2 : ¬ (nI (st p + k) < 0 ∨ 768 ≤ (nI (st p + k)).toNatClampNeg) := ix_ok (by omega) (by omega)
  have i3 : ¬ (nI (wk (st p + k)) < 0 ∨ 768 ≤ (nI (wk (st p + k))).toNatClampNeg) := ix_ok (by omega) (by omega)
  have i4 : ¬ (nI (tw (wk (st p + k))) < 0 ∨ 768 ≤ (nI (tw (wk (st p + k)))).toNatClampNeg) := ix_ok (by omega) (by omega)
  have c1 : (nI p).toNatClampNeg = p := nI_clampS (by omega)
  have c2 : (nI (st p + k)).toNatClampNeg = st p + k := nI_clampS (by omega)
  have c3 : (nI (wk (st p + k))).toNatClampNeg = wk (st p + k) := nI_clampS (by omega)
  have c4 : (nI (tw (wk (st p + k)))).toNatClampNeg = tw (wk (st p + k)) := nI_clampS (by omega)
  unfold sX7_beyond
  rw [gd_s i1, c1, s0, nI_add, gd_s i2, c2, h5, gd_s i3, c3, ht _ h6, gd_s i4, c4, pnX h hWl hP t1, t2, t3, e1', e2']
/-- over a pane's walk, over all steps -/
theorem walk_cnt {w h nl : Nat} {ld : Nat → Ln} {m : Nat} {Q : Nat → Pt3} {fm : Nat → Nat → Bool} (hM : Mesh w h nl ld m Q fm) {nv : Nat → Nat → Nat} (hn : NV Q fm nv) {o : St} {np : Nat} {gs : Nat → St} {pn : Nat → Nat → Option Nat} (hPN : PN nv fm np gs pn) (hWl : Wlk nv fm o np gs) {n : Nat} {F T fi : Nat → Nat} (hS : Stps (adB (KX w h ld) (nl + 4) m Q) m n F T fi) {st wk : Nat → Nat} {sa wa : Nat → Int32} (hW : WaX nv n F T np gs st wk sa wa) {p : Nat} (hp : p < np) {K : Nat} (hK : Per nv (gs p) K) (g : Nat → Nat → Bool) : cnt K (fun k => g (itr nv k (gs p)).1 (itr nv k (gs p)).2) = cnt n (fun s => decide (pn (F s) (T s) = some p) && g (F s) (T s)) := by
  obtain ⟨K', h1, h2, h3, h4⟩ := wk_at hW hp
  have eK := Per_one hK h1
  subst eK
  have sp := (hWl.1 p hp).1
  have ee : ∀ k, k < K → F (wk (st p + k)) = (itr nv k (gs p)).1 ∧ T (wk (st p + k)) = (itr nv k (gs p)).2 := by
    intro k hk
    have h7 := (h4 k hk).2.2
    exact ⟨by rw [← h7], by rw [← h7]⟩
  apply cnt_bij (fun k => wk (st p + k))
  · intro k hk e
    obtain ⟨e1, e2⟩ := ee k hk
    refine ⟨(h4 k hk).2.1, ?_⟩
    have z : pn (F (wk (st p + k))) (T (wk (st p + k))) = some p := by
      rw [e1, e2]
      exact ((hPN _ _).2 p hp).mpr ⟨itr_S hM hn sp k, ⟨k, rfl⟩⟩
    simp only [z, decide_true, Bool.true_and]
    rw [e1, e2]; exact e
  · intro k l hk hl _ _ e
    rcases Nat.lt_trichotomy k l with z | z | z
    · have := per_inj hM hn sp hK z hl
      obtain ⟨e1, e2⟩ := ee k hk
      obtain ⟨e3, e4⟩ := ee l hl
      exfalso; apply this
      have e' : wk (st p + k) = wk (st p + l) := e
      rw [e'] at e1 e2
      exact Prod.ext (by rw [← e1, e3]) (by rw [← e2, e4])
    · exact z
    · have := per_inj hM hn sp hK z hk
      obtain ⟨e1, e2⟩ := ee k hk
      obtain ⟨e3, e4⟩ := ee l hl
      exfalso; apply this
      have e' : wk (st p + k) = wk (st p + l) := e
      rw [e'] at e1 e2
      exact Prod.ext (by rw [← e1, e3]) (by rw [← e2, e4])
  · intro s hs e
    have e' : pn (F s) (T s) = some p ∧ g (F s) (T s) = true := by
      have := Bool.and_eq_true_iff.mp e
      exact ⟨of_decide_eq_true this.1, this.2⟩
    obtain ⟨_, ho⟩ := ((hPN _ _).2 p hp).mp e'.1
    obtain ⟨k, hk, e2⟩ := orb_lt hK ho
    obtain ⟨e3, e4⟩ := ee k hk
    refine ⟨k, hk, ?_, ?_⟩
    · show g (itr nv k (gs p)).1 (itr nv k (gs p)).2 = true
      rw [e2]; exact e'.2
    · have := St_uniq hS (h4 k hk).2.1 hs (by rw [e3, e2]) (by rw [e4, e2])
      exact this
theorem cnt_cs {P : Nat → Nat → Prop} {ad : Nat → Nat → Bool} {m n n' : Nat} {F T fi A B : Nat → Nat} (hS : Stps ad m n F T fi) (hP : PcM P m n' A B) (hR : PcR P ad m) (g : Nat → Nat → Bool) : cnt n (fun s => g (F s) (T s)) = cnt n' (fun k => g (A k) (B k)) + cnt n' (fun k => g (B k) (A k)) := by
  have h := enum_cs hS hP hR (fun a b => if g a b = true then 1 else 0)
  have h1 := cnt_sm n (fun s => g (F s) (T s))
  have h2 := cnt_sm n' (fun k => g (A k) (B k))
  have h4 := cnt_sm n' (fun k => g (B k) (A k))
  rw [sm_add] at h
  omega
theorem nI_mul (a b : Nat) : nI a * nI b = nI (a * b) := by
  rw [← iz_n, ← iz_n, ← iz_n, iz_mul, Int.natCast_mul]
