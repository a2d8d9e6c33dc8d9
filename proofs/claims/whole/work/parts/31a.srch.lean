/-! the search for colours, told once for both sides -/
theorem iter_whE {S T : Type} {B : T → Option (Nat × T)} (mk : S → T) (I : S → Prop) (μ : S → Nat) (E : Nat → T → Prop) (h : ∀ s, I s → (∃ s', B (mk s) = some (0, mk s') ∧ I s' ∧ μ s' < μ s) ∨ (∃ k t', B (mk s) = some (k + 1, t') ∧ E k t')) (s : S) (hI : I s) (hm : μ s < 999999999) : ∃ k t', iter B FU (mk s) = some (k, t') ∧ E k t' := by
  have g : ∀ (c n : Nat) (s : S), μ s ≤ c → I s → c < n → ∃ k t', iter B n (mk s) = some (k, t') ∧ E k t' := by
    intro c
    induction c with
    | zero =>
      intro n s h1 h2 h3
      cases n with
      | zero => omega
      | succ n =>
        rcases h s h2 with ⟨s', _, _, z⟩ | ⟨k, t', e1, e2⟩
        · omega
        · exact ⟨k, t', by unfold iter; rw [e1], e2⟩
    | succ c ih =>
      intro n s h1 h2 h3
      cases n with
      | zero => omega
      | succ n =>
        rcases h s h2 with ⟨s', e1, e2, z⟩ | ⟨k, t', e1, e2⟩
        · obtain ⟨k, t', f1, f2⟩ := ih n s' (by omega) e2 (by omega)
          exact ⟨k, t', by unfold iter; rw [e1]; exact f1, f2⟩
        · exact ⟨k, t', by unfold iter; rw [e1], e2⟩
  exact g (μ s) FU s (Nat.le_refl _) hI (by unfold FU; omega)
def upF (t : Nat → Nat) (k v : Nat) : Nat → Nat := fun i => if i = k then v else t i
theorem upF_s {t : Nat → Nat} {k v : Nat} : upF t k v k = v := if_pos rfl
theorem upF_n {t : Nat → Nat} {k v i : Nat} (h : i ≠ k) : upF t k v i = t i := if_neg h
abbrev Sc : Type := Nat × Nat × (Nat → Nat)
/-- no place before a has colour c and touches place a -/
def okB (tb : Nat → Nat → Bool) (ord : Nat → Nat) (t : Nat → Nat) (a c : Nat) : Nat → Bool
  | 0 => true
  | i + 1 => okB tb ord t a c i && !(tb (ord a) (ord i) && decide (t i = c))
theorem okB_i {tb : Nat → Nat → Bool} {ord t : Nat → Nat} {a c : Nat} : ∀ n, okB tb ord t a c n = true ↔ ∀ i, i < n → ¬ (tb (ord a) (ord i) = true ∧ t i = c) := by
  intro n
  induction n with
  | zero => exact ⟨fun _ i hi => by omega, fun _ => rfl⟩
  | succ n ih =>
    show (okB tb ord t a c n && !(tb (ord a) (ord n) && decide (t n = c))) = true ↔ _
    rw [Bool.and_eq_true_iff, ih]
    constructor
    · intro ⟨z1, z2⟩ i hi z3
      by_cases y : i = n
      · subst y
        rw [z3.1, decide_eq_true z3.2] at z2
        cases z2
      · exact z1 i (by omega) z3
    · intro z
      refine ⟨fun i hi => z i (by omega), ?_⟩
      have := z n (by omega)
      cases y1 : tb (ord a) (ord n) with
      | false => rfl
      | true =>
        by_cases y2 : t n = c
        · exact absurd ⟨y1, y2⟩ this
        · rw [decide_eq_false y2]; rfl
/-- one step: none at the end -/
def stp (al : Nat → Nat → Bool) (tb : Nat → Nat → Bool) (ord : Nat → Nat) (P : Nat) (s : Sc) : Option Sc :=
  if s.1 = P then none
  else if 8 ≤ s.2.2 s.1 then (if s.1 = 0 then none else some (s.1 - 1, s.2.1, upF s.2.2 (s.1 - 1) (s.2.2 (s.1 - 1) + 1)))
  else if al (ord s.1) (s.2.2 s.1) = false then some (s.1, s.2.1, upF s.2.2 s.1 (s.2.2 s.1 + 1))
  else if s.2.1 = 0 then none
  else if okB tb ord s.2.2 s.1 (s.2.2 s.1) s.1 = true then some (s.1 + 1, s.2.1 - 1, upF s.2.2 (s.1 + 1) 0)
  else some (s.1, s.2.1 - 1, upF s.2.2 s.1 (s.2.2 s.1 + 1))
/-- what the end says: 1 there, 0 not there, 2 spent -/
def cdF (P : Nat) (s : Sc) : Nat := if s.1 = P then 1 else if 8 ≤ s.2.2 s.1 then 0 else 2
def its (al : Nat → Nat → Bool) (tb : Nat → Nat → Bool) (ord : Nat → Nat) (P : Nat) : Nat → Sc → Option Sc
  | 0, s => some s
  | k + 1, s => match stp al tb ord P s with
    | none => none
    | some s' => its al tb ord P k s'
def FinS (al : Nat → Nat → Bool) (tb : Nat → Nat → Bool) (ord : Nat → Nat) (P : Nat) (s : Sc) (r : Nat) (col : Nat → Nat) : Prop := ∃ k s', its al tb ord P k s = some s' ∧ stp al tb ord P s' = none ∧ cdF P s' = r ∧ (r = 1 → ∀ i, i < P → s'.2.2 i = col i)
theorem Fin_b {al tb : Nat → Nat → Bool} {ord : Nat → Nat} {P : Nat} {s s' : Sc} (h : stp al tb ord P s = some s') {r : Nat} {col : Nat → Nat} (hF : FinS al tb ord P s' r col) : FinS al tb ord P s r col := by
  obtain ⟨k, e, h1, h2, h3, h4⟩ := hF
  exact ⟨k + 1, e, by show (match stp al tb ord P s with | none => none | some s' => its al tb ord P k s') = _; rw [h]; exact h1, h2, h3, h4⟩
theorem Fin_e {al tb : Nat → Nat → Bool} {ord : Nat → Nat} {P : Nat} {s : Sc} (h : stp al tb ord P s = none) {r : Nat} {col : Nat → Nat} (h1 : cdF P s = r) (h2 : r = 1 → ∀ i, i < P → s.2.2 i = col i) : FinS al tb ord P s r col := ⟨0, s, rfl, h, h1, h2⟩
theorem Fin_one {al tb : Nat → Nat → Bool} {ord : Nat → Nat} {P : Nat} {s : Sc} {r r' : Nat} {col col' : Nat → Nat} (h : FinS al tb ord P s r col) (h' : FinS al tb ord P s r' col') : r = r' ∧ (r = 1 → ∀ i, i < P → col i = col' i) := by
  obtain ⟨k, e, h1, h2, h3, h4⟩ := h
  obtain ⟨k', e', h1', h2', h3', h4'⟩ := h'
  have g : ∀ (k k' : Nat) (s e e' : Sc), its al tb ord P k s = some e → stp al tb ord P e = none → its al tb ord P k' s = some e' → stp al tb ord P e' = none → e = e' := by
    intro k
    induction k with
    | zero =>
      intro k' s e e' z1 z2 z3 z4
      have z1' : some s = some e := z1
      cases z1'
      cases k' with
      | zero =>
        have z3' : some s = some e' := z3
        cases z3'; rfl
      | succ k' =>
        have z3' : (match stp al tb ord P s with | none => none | some s' => its al tb ord P k' s') = some e' := z3
        rw [z2] at z3'; cases z3'
    | succ k ih =>
      intro k' s e e' z1 z2 z3 z4
      have z1' : (match stp al tb ord P s with | none => none | some s' => its al tb ord P k s') = some e := z1
      cases y : stp al tb ord P s with
      | none => rw [y] at z1'; cases z1'
      | some s' =>
        rw [y] at z1'
        cases k' with
        | zero =>
          have z3' : some s = some e' := z3
          cases z3'
          rw [y] at z4; cases z4
        | succ k' =>
          have z3' : (match stp al tb ord P s with | none => none | some s' => its al tb ord P k' s') = some e' := z3
          rw [y] at z3'
          exact ih k' s' e e' z1' z2 z3' z4
  have := g k k' s e e' h1 h2 h1' h2'
  subst this
  refine ⟨by rw [← h3, ← h3'], fun z i hi => ?_⟩
  rw [← h4 z i hi, ← h4' (by rw [← h3', h3]; exact z) i hi]
/-- colours that aren't allowed are passed over -/
theorem Fin_skip {al tb : Nat → Nat → Bool} {ord : Nat → Nat} {P a l : Nat} (ha : a < P) {r : Nat} {col : Nat → Nat} : ∀ (k : Nat) (t : Nat → Nat), (∀ j, t a ≤ j → j < t a + k → j < 8 ∧ al (ord a) j = false) → FinS al tb ord P (a, l, upF t a (t a + k)) r col → FinS al tb ord P (a, l, t) r col := by
  intro k
  induction k with
  | zero =>
    intro t h1 h2
    have : upF t a (t a + 0) = t := by
      funext i
      by_cases z : i = a
      · subst z; rw [upF_s]; omega
      · rw [upF_n z]
    rw [this] at h2
    exact h2
  | succ k ih =>
    intro t h1 h2
    have st : stp al tb ord P (a, l, t) = some (a, l, upF t a (t a + 1)) := by
      have z := h1 (t a) (Nat.le_refl _) (by omega)
      unfold stp
      show (if a = P then none else if 8 ≤ t a then _ else if al (ord a) (t a) = false then some (a, l, upF t a (t a + 1)) else _) = _
      rw [if_neg (by omega), if_neg (by omega), if_pos z.2]
    apply Fin_b st
    apply ih (upF t a (t a + 1))
    · intro j hj1 hj2
      rw [upF_s] at hj1 hj2
      exact h1 j (by omega) (by omega)
    · have : upF (upF t a (t a + 1)) a (upF t a (t a + 1) a + k) = upF t a (t a + (k + 1)) := by
        funext i
        by_cases z : i = a
        · subst z; rw [upF_s, upF_s, upF_s]; omega
        · rw [upF_n z, upF_n z, upF_n z]
      rw [this]
      exact h2
