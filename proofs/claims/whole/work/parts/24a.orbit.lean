/-! walks: the next step as a turning of the firm steps -/
abbrev St : Type := Nat × Nat
def nxs (nv : Nat → Nat → Nat) (p : St) : St := (p.2, nv p.1 p.2)
def itr (nv : Nat → Nat → Nat) : Nat → St → St
  | 0, p => p
  | k + 1, p => nxs nv (itr nv k p)
theorem itr_s (nv : Nat → Nat → Nat) (k : Nat) (p : St) : itr nv (k + 1) p = nxs nv (itr nv k p) := rfl
theorem itr_add (nv : Nat → Nat → Nat) (a b : Nat) (p : St) : itr nv (a + b) p = itr nv a (itr nv b p) := by
  induction a with
  | zero => rw [Nat.zero_add]; rfl
  | succ a ih => rw [show a + 1 + b = (a + b) + 1 by omega, itr_s, itr_s, ih]
theorem itr_1 (nv : Nat → Nat → Nat) (k : Nat) (p : St) : itr nv (k + 1) p = itr nv k (nxs nv p) := by rw [itr_add]; rfl
/-- nv tells the next joint -/
def NV (Q : Nat → Pt3) (fm : Nat → Nat → Bool) (nv : Nat → Nat → Nat) : Prop := ∀ x y, fm x y = true → NX Q fm y x (nv x y)
def isS (fm : Nat → Nat → Bool) (p : St) : Prop := fm p.1 p.2 = true
theorem nx_S {w h nl : Nat} {ld : Nat → Ln} {m : Nat} {Q : Nat → Pt3} {fm : Nat → Nat → Bool} (hM : Mesh w h nl ld m Q fm) {nv : Nat → Nat → Nat} (hn : NV Q fm nv) {p : St} (hp : isS fm p) : isS fm (nxs nv p) := by
  rcases hn p.1 p.2 hp with ⟨a, -, -⟩ | ⟨a, b⟩
  · exact a
  · show fm p.2 (nv p.1 p.2) = true
    rw [a]
    exact (fm_ad hM hp).2.2.2.1
/-- never straight back -/
theorem nx_ne {w h nl : Nat} {ld : Nat → Ln} {m : Nat} {Q : Nat → Pt3} {fm : Nat → Nat → Bool} (hM : Mesh w h nl ld m Q fm) {nv : Nat → Nat → Nat} (hn : NV Q fm nv) {x y : Nat} (hp : fm x y = true) : fm y (nv x y) = true ∧ nv x y ≠ x ∧ ∀ u, fm y u = true → u ≠ x → u ≠ nv x y → soonB (Q y) (Q x) (Q (nv x y)) (Q u) = true := by
  rcases hn x y hp with a | ⟨a, b⟩
  · exact a
  · exfalso
    obtain ⟨q1, q2, q3, q4, -⟩ := fm_ad hM hp
    obtain ⟨j, j1, j2, j3⟩ := cnt_two (hM.2.2.2.2 y x q4) q1 q4
    exact j2 (b j j3)
theorem nx_inj {w h nl : Nat} {ld : Nat → Ln} {m : Nat} {Q : Nat → Pt3} {fm : Nat → Nat → Bool} (hM : Mesh w h nl ld m Q fm) {nv : Nat → Nat → Nat} (hn : NV Q fm nv) {p q : St} (hp : isS fm p) (hq : isS fm q) (e : nxs nv p = nxs nv q) : p = q := by
  obtain ⟨x, y⟩ := p
  obtain ⟨x', y'⟩ := q
  have ey : y = y' := congrArg Prod.fst e
  have ez : nv x y = nv x' y' := congrArg Prod.snd e
  subst ey
  have hp' : fm x y = true := hp
  have hq' : fm x' y = true := hq
  by_cases hne : x = x'
  · rw [hne]
  · exfalso
    obtain ⟨a1, a2, a3⟩ := nx_ne hM hn hp'
    obtain ⟨b1, b2, b3⟩ := nx_ne hM hn hq'
    rw [← ez] at b1 b2 b3
    have nb := nb_fm hM y
    have fx := (fm_ad hM hp').2.2.2.1
    have fx' := (fm_ad hM hq').2.2.2.1
    have s1 := a3 x' fx' (Ne.symm hne) (Ne.symm b2)
    have s2 := b3 x fx hne (Ne.symm a2)
    generalize nv x y = z at *
    have c1 := nb x x' fx fx' hne
    have c2 := nb x' x fx' fx (Ne.symm hne)
    have k := hh3 (Q y) (Q x) (Q z) (Q x')
    have w1 : dtp (Q y) (Q x') (Q z) = - dtp (Q y) (Q z) (Q x') := dtp_sw2 _ _ _
    have w2 : dtp (Q y) (Q x') (Q x) = - dtp (Q y) (Q x) (Q x') := dtp_sw2 _ _ _
    have w3 : dtp (Q y) (Q z) (Q x) = - dtp (Q y) (Q x) (Q z) := dtp_sw2 _ _ _
    unfold soonB at s1 s2
    simp only [decide_eq_true_eq] at s1 s2
    rw [w1, w2, w3] at s2
    generalize dtp (Q y) (Q x) (Q z) = P at *
    generalize hR : dtp (Q y) (Q x) (Q x') = R at *
    generalize dtp (Q y) (Q z) (Q x') = S at *
    have g1 := sg_cases P
    have g2 := sg_cases R
    have g3 := sg_cases S
    have g4 := sg_cases (-S)
    have g5 := sg_cases (-R)
    have hP : P < 0 := by omega
    have hR0 : R = 0 := by omega
    have hS0 : 0 < S := by omega
    rw [hR0, Int.mul_zero] at k
    have ud : ¬ (y < x ↔ y < x') := fun z => c1.2.2.2 z (by omega)
    have hs : (y < x ∧ x' < y) ∨ (x < y ∧ y < x') := by
      have := c1.1
      have := c2.1
      omega
    rcases hs with ⟨v1, v2⟩ | ⟨v1, v2⟩
    · have r1 := Int.mul_pos (c1.2.1 v1) hS0
      have r2 := Int.mul_pos_of_neg_of_neg (c2.2.2.1 v2) hP
      omega
    · have r1 := Int.mul_neg_of_neg_of_pos (c1.2.2.1 v1) hS0
      have r2 := Int.mul_neg_of_pos_of_neg (c2.2.1 v2) hP
      omega
theorem itr_S {w h nl : Nat} {ld : Nat → Ln} {m : Nat} {Q : Nat → Pt3} {fm : Nat → Nat → Bool} (hM : Mesh w h nl ld m Q fm) {nv : Nat → Nat → Nat} (hn : NV Q fm nv) {p : St} (hp : isS fm p) (k : Nat) : isS fm (itr nv k p) := by
  induction k with
  | zero => exact hp
  | succ k ih => exact nx_S hM hn ih
theorem itr_inj {w h nl : Nat} {ld : Nat → Ln} {m : Nat} {Q : Nat → Pt3} {fm : Nat → Nat → Bool} (hM : Mesh w h nl ld m Q fm) {nv : Nat → Nat → Nat} (hn : NV Q fm nv) {p q : St} (hp : isS fm p) (hq : isS fm q) (k : Nat) (e : itr nv k p = itr nv k q) : p = q := by
  induction k with
  | zero => exact e
  | succ k ih => exact ih (nx_inj hM hn (itr_S hM hn hp k) (itr_S hM hn hq k) e)
theorem per_ex {w h nl : Nat} {ld : Nat → Ln} {m : Nat} {Q : Nat → Pt3} {fm : Nat → Nat → Bool} (hM : Mesh w h nl ld m Q fm) {nv : Nat → Nat → Nat} (hn : NV Q fm nv) {p : St} (hp : isS fm p) : ∃ k, (0 < k ∧ itr nv k p = p) ∧ ∀ j, j < k → ¬ (0 < j ∧ itr nv j p = p) := by
  apply pk_least
  have hm := hM.2.2.1
  by_cases hx : ∃ i j, i < j ∧ itr nv i p = itr nv j p
  · obtain ⟨i, j, hij, e⟩ := hx
    refine ⟨j - i, by omega, ?_⟩
    have e2 : itr nv j p = itr nv i (itr nv (j - i) p) := by rw [← itr_add]; congr 1; omega
    exact (itr_inj hM hn hp (itr_S hM hn hp _) i (e.trans e2)).symm
  · exfalso
    have := fb_holes 16384 16385 (fun i => 128 * (itr nv i p).1 + (itr nv i p).2) (fun i _ => by
      obtain ⟨a, b, -⟩ := fm_ad hM (itr_S hM hn hp i)
      show 128 * (itr nv i p).1 + (itr nv i p).2 < 16384
      omega) (fun i j hij _ e => by
      obtain ⟨a, b, -⟩ := fm_ad hM (itr_S hM hn hp i)
      obtain ⟨c, d, -⟩ := fm_ad hM (itr_S hM hn hp j)
      have e' : 128 * (itr nv i p).1 + (itr nv i p).2 = 128 * (itr nv j p).1 + (itr nv j p).2 := e
      exact hx ⟨i, j, hij, Prod.ext (by omega) (by omega)⟩)
    omega
/-- q is on the walk of p -/
def Orb (nv : Nat → Nat → Nat) (p q : St) : Prop := ∃ k, itr nv k p = q
theorem Orb_r (nv : Nat → Nat → Nat) (p : St) : Orb nv p p := ⟨0, rfl⟩
theorem Orb_n (nv : Nat → Nat → Nat) (p : St) : Orb nv p (nxs nv p) := ⟨1, rfl⟩
theorem Orb_t {nv : Nat → Nat → Nat} {p q r : St} (h1 : Orb nv p q) (h2 : Orb nv q r) : Orb nv p r := by
  obtain ⟨a, e1⟩ := h1
  obtain ⟨b, e2⟩ := h2
  exact ⟨b + a, by rw [itr_add, e1, e2]⟩
theorem itr_per {nv : Nat → Nat → Nat} {p : St} {K : Nat} (h : itr nv K p = p) (j : Nat) : itr nv (j * K) p = p := by
  induction j with
  | zero => rw [Nat.zero_mul]; rfl
  | succ j ih => rw [Nat.succ_mul, itr_add, h, ih]
theorem Orb_s {w h nl : Nat} {ld : Nat → Ln} {m : Nat} {Q : Nat → Pt3} {fm : Nat → Nat → Bool} (hM : Mesh w h nl ld m Q fm) {nv : Nat → Nat → Nat} (hn : NV Q fm nv) {p q : St} (hp : isS fm p) (h : Orb nv p q) : Orb nv q p := by
  obtain ⟨k, e⟩ := h
  obtain ⟨K, ⟨hK, eK⟩, -⟩ := per_ex hM hn hp
  refine ⟨k * K - k, ?_⟩
  have h1 : k ≤ k * K := Nat.le_mul_of_pos_right k hK
  rw [← e, ← itr_add, show k * K - k + k = k * K by omega]
  exact itr_per eK k
theorem Orb_S {w h nl : Nat} {ld : Nat → Ln} {m : Nat} {Q : Nat → Pt3} {fm : Nat → Nat → Bool} (hM : Mesh w h nl ld m Q fm) {nv : Nat → Nat → Nat} (hn : NV Q fm nv) {p q : St} (hp : isS fm p) (h : Orb nv p q) : isS fm q := by
  obtain ⟨k, e⟩ := h
  rw [← e]; exact itr_S hM hn hp k
theorem itr_mod {nv : Nat → Nat → Nat} {p : St} {K : Nat} (hK : 0 < K) (h : itr nv K p = p) (k : Nat) : itr nv k p = itr nv (k % K) p := by
  have e : k = k % K + (k / K) * K := by rw [Nat.mul_comm]; exact (Nat.mod_add_div k K).symm
  conv => lhs; rw [e]
  rw [itr_add, itr_per h]
theorem nv_ex {w h nl : Nat} {ld : Nat → Ln} {m : Nat} {Q : Nat → Pt3} {fm : Nat → Nat → Bool} (hM : Mesh w h nl ld m Q fm) {n : Nat} {F T fi tw : Nat → Nat} {fw fe fs fr to tn : Nat → Int32} (hX : MsX (adB (KX w h ld) (nl + 4) m Q) fm m n F T fi tw fw fe fs fr to tn) {u x y : Nat → Int32} (hJ : JR m Q u x y) : ∃ nv, NV Q fm nv := by
  have hex : ∀ p : St, ∃ z, fm p.1 p.2 = true → NX Q fm p.2 p.1 z := by
    intro p
    cases e : fm p.1 p.2 with
    | false => exact ⟨0, fun z => by cases z⟩
    | true =>
      obtain ⟨a1, a2, a3, -⟩ := hM.2.2.2.1.1 _ _ e
      obtain ⟨s, s1, s2, s3⟩ := hX.1.2.2.1 _ _ a1 a2 a3
      obtain ⟨s', -, -, -, -, c⟩ := after_ok hM hX hJ s1 (by rw [s2, s3]; exact e)
      rw [s2, s3] at c
      exact ⟨_, fun _ => c⟩
  obtain ⟨f, hf⟩ := Classical.axiomOfChoice hex
  exact ⟨fun x y => f (x, y), fun x y h => hf (x, y) h⟩
