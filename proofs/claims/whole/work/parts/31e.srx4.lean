/-! the class's search as a whole -/
def rI (r : Nat) : Int32 := if r = 2 then -6 else nI r
theorem ob_x3c {A R : Type} {e : Option (Nat × A)} {a : A} (h : e = some (2, a)) (f g k : A → Option R) : ob e (fun kt => ex3 kt f g k) = k a := by subst h; rfl
theorem ob_x3b {A R : Type} {e : Option (Nat × A)} {a : A} (h : e = some (1, a)) (f g k : A → Option R) : ob e (fun kt => ex3 kt f g k) = g a := by subst h; rfl
theorem ob_x3a {A R : Type} {e : Option (Nat × A)} {a : A} (h : e = some (0, a)) (f g k : A → Option R) : ob e (fun kt => ex3 kt f g k) = f a := by subst h; rfl
theorem ob_d5 {X Y Z W V R : Type} {e : Option (X × Y × Z × W × V)} {a : X} {b : Y} {c : Z} {d : W} {v : V} (h : e = some (a, b, c, d, v)) (F : X → Y → Z → W → V → Option R) : ob e (fun o => dm5 o F) = F a b c d v := by subst h; rfl
theorem dm7_e {A1 A2 A3 A4 A5 A6 A7 R : Type} (t : A1 × A2 × A3 × A4 × A5 × A6 × A7) (F : A1 → A2 → A3 → A4 → A5 → A6 → A7 → Option R) : dm7 t F = F t.1 t.2.1 t.2.2.1 t.2.2.2.1 t.2.2.2.2.1 t.2.2.2.2.2.1 t.2.2.2.2.2.2 := rfl
theorem srchX_ok {np tries : Nat} (hnp : np ≤ 125) (htr : tries ≤ 100000) {lf : Nat → Bool} {la : Nat → Int32} (hl : hB np la lf) {al : Nat → Int32} {tb : Nat → Nat → Bool} {nH nL : Nat → Int64} (hnr : ∀ p q, p < np → q < 128 → bt nH nL p q = tb p q) (pt : Nat → Int32) (H L : Nat → Int64) (sd up : Nat → Int32) : ∃ (r : Nat) (col : Nat → Nat) (pt' : Nat → Int32) (H' L' : Nat → Int64) (sd' up' : Nat → Int32), sX3_search (nI tries) (nI np) al la nH nL pt H L sd up = some (rI r, pt', H', L', sd', up') ∧ FinS (alB al) tb (ordF lf np).2 (ordF lf np).1 (0, tries, fun _ => 0) r col ∧ (r = 0 ∨ r = 1 ∨ r = 2) ∧ (r = 1 → ∀ i, i < (ordF lf np).1 → pt' ((ordF lf np).2 i) = nI (col i)) := by
  obtain ⟨H0, L0, sd', up0, e0, e1, e2⟩ := listS_ok hnp hl H L sd up
  obtain ⟨o1, o2, o3⟩ := ordF_ok lf np
  obtain ⟨k, t', f1, f2⟩ := iter_whE (S := Sc × Nat × (Nat → Int32) × (Nat → Int64) × (Nat → Int64) × (Nat → Int32)) (B := bX3_search_13 (nI tries) al nH nL (nI (ordF lf np).1) sd') (fun q => (nI q.1.1, nI (tries - q.1.2.1), nI q.2.1, q.2.2.1, q.2.2.2.1, q.2.2.2.2.1, q.2.2.2.2.2)) (fun q => CXi (ordF lf np).1 tries (ordF lf np).2 q.1 q.2.1 q.2.2.1 q.2.2.2.1 q.2.2.2.2.1 q.2.2.2.2.2 ∧ ∀ r col, FinS (alB al) tb (ordF lf np).2 (ordF lf np).1 q.1 r col → FinS (alB al) tb (ordF lf np).2 (ordF lf np).1 (0, tries, fun _ => 0) r col) (fun q => 2 * q.1.2.1 + q.1.1) (fun k t' => (k = 0 ∧ ∃ col, FinS (alB al) tb (ordF lf np).2 (ordF lf np).1 (0, tries, fun _ => 0) 2 col) ∨ (k = 1 ∧ ∃ col, FinS (alB al) tb (ordF lf np).2 (ordF lf np).1 (0, tries, fun _ => 0) 0 col) ∨ (k = 2 ∧ t'.1 = nI (ordF lf np).1 ∧ ∃ col, FinS (alB al) tb (ordF lf np).2 (ordF lf np).1 (0, tries, fun _ => 0) 1 col ∧ ∀ i, i < (ordF lf np).1 → t'.2.2.2.1 ((ordF lf np).2 i) = nI (col i))) (fun q hq => by
    obtain ⟨s, T, pt, H, L, up⟩ := q
    obtain ⟨hI, hB⟩ := hq
    rcases turnX hnp o1 htr o2 o3 hnr (fun i hi => (e2 i hi).1) hI with ⟨s', T', pt', H', L', up', z1, z2, z3, z4⟩ | ⟨k, t', z1, z2⟩
    · exact Or.inl ⟨(s', T', pt', H', L', up'), z1, ⟨z2, fun r col y => hB r col (z3 r col y)⟩, z4⟩
    · refine Or.inr ⟨k, t', z1, ?_⟩
      rcases z2 with ⟨y1, col, y2⟩ | ⟨y1, col, y2⟩ | ⟨y1, y3, col, y2, y4⟩
      · exact Or.inl ⟨y1, col, hB _ _ y2⟩
      · exact Or.inr (Or.inl ⟨y1, col, hB _ _ y2⟩)
      · exact Or.inr (Or.inr ⟨y1, y3, col, hB _ _ y2, y4⟩)) ((0, tries, fun _ => 0), 0, pt, H0, L0, up0) ⟨⟨⟨Nat.zero_le _, Nat.le_refl _, fun i hi => absurd hi (Nat.not_lt_zero _), by show (0 : Nat) ≤ 8; omega, by show 0 + 0 + 2 * tries ≤ 2 * tries; omega⟩, fun i hi => absurd hi (Nat.not_lt_zero _), ⟨fun i hi => absurd hi (Nat.not_lt_zero _), fun hi => (e2 0 hi).2, fun i _ hi => (e2 i hi).2⟩, fun c q hc hq => by
      rw [e1 c q hc]
      exact ⟨fun z => (by cases z), fun ⟨i, hi, _⟩ => absurd hi (Nat.not_lt_zero _)⟩⟩, fun _ _ y => y⟩ (by show 2 * tries + 0 < 999999999; omega)
  have f1' : iter (bX3_search_13 (nI tries) al nH nL (nI (ordF lf np).1) sd') FU ((0 : Int32), (0 : Int32), (0 : Int32), pt, H0, L0, up0) = some (k, t') := by
    have : (nI (tries - tries)) = (0 : Int32) := by rw [Nat.sub_self]; rfl
    rw [← f1]
    show iter _ FU _ = iter _ FU (nI 0, nI (tries - tries), nI 0, pt, H0, L0, up0)
    rw [this]; rfl
  rcases f2 with ⟨y1, col, y2⟩ | ⟨y1, col, y2⟩ | ⟨y1, y3, col, y2, y4⟩
  · subst y1
    refine ⟨2, col, t'.2.2.2.1, t'.2.2.2.2.1, t'.2.2.2.2.2.1, sd', t'.2.2.2.2.2.2, ?_, y2, by omega, fun z => by cases z⟩
    unfold sX3_search
    rw [ob_d5 e0, ob_x3a f1', dm7_e]
    rfl
  · subst y1
    refine ⟨0, col, t'.2.2.2.1, t'.2.2.2.2.1, t'.2.2.2.2.2.1, sd', t'.2.2.2.2.2.2, ?_, y2, by omega, fun z => by cases z⟩
    unfold sX3_search
    rw [ob_d5 e0, ob_x3b f1', dm7_e]
    rfl
  · subst y1
    refine ⟨1, col, t'.2.2.2.1, t'.2.2.2.2.1, t'.2.2.2.2.2.1, sd', t'.2.2.2.2.2.2, ?_, y2, by omega, fun _ => y4⟩
    unfold sX3_search
    rw [ob_d5 e0, ob_x3c f1', dm7_e, y3, if_pos (by rw [nI_leS (by omega) (by omega)]; omega)]
    rfl
