/-! touches -/
def isO (pn : Nat → Nat → Option Nat) (q : Nat) (a b : Nat) : Bool := decide (pn b a = some q)
def isOt (pn : Nat → Nat → Option Nat) (p : Nat) (a b : Nat) : Bool := match pn b a with
  | none => false
  | some r => decide (r ≠ p)
theorem touX {nv : Nat → Nat → Nat} {fm : Nat → Nat → Bool} {o : St} {np : Nat} {gs : Nat → St} {pn : Nat → Nat → Option Nat} (h : PN nv fm np gs pn) (hWl : Wlk nv fm o np gs) {n : Nat} {F T : Nat → Nat} (hn : n ≤ 684) (hnp : np ≤ 125) {st wk tw : Nat → Nat} {sa wa pa tn : Nat → Int32} (hP : PaX nv fm o n F T np gs pa) (ht : hN n tn tw) (htw : ∀ s, s < n → tw s < n ∧ F (tw s) = T s ∧ T (tw s) = F s) (hW : WaX nv n F T np gs st wk sa wa) {p : Nat} (hp : p < np) {K : Nat} (hK : Per nv (gs p) K) (hK6 : K ≤ 684) {q : Nat} (hq : q < np) : iter (bX7_touches_5 (nI p) (nI q) pa tn sa wa) FU ((0 : Int32), (0 : Int32)) = some (0, (nI (cnt K (fun k => isO pn q (itr nv k (gs p)).1 (itr nv k (gs p)).2)), nI K)) := by
  have cn := cornX_ok hn hnp hW hp hK
  obtain ⟨s, h1, h2⟩ := iter_for (S := Unit) (B := bX7_touches_5 (nI p) (nI q) pa tn sa wa) (fun i _ => (nI (cnt i (fun k => isO pn q (itr nv k (gs p)).1 (itr nv k (gs p)).2)), nI i)) K (fun _ _ => True) 0 () trivial (by omega) (by omega) (fun i s _ hi _ => by
    refine ⟨(), ?_, trivial⟩
    have be := beyX h hWl hn hnp hP ht htw hW hp hK hi
    have oe := oI_eq (o := pn (itr nv i (gs p)).2 (itr nv i (gs p)).1) (q := q) (fun r hr => (by have := (h _ _).1 r hr; omega)) (by omega)
    unfold bX7_touches_5
    simp only [dm2]
    rw [ob_s cn]
    simp (disch := omega) only [dm1, nI_leS]
    rw [if_neg (by omega), ob_s be]
    simp only [oe, lt, nl_1, nI_add]
    rw [cnt_s]
    unfold isO
    by_cases z : pn (itr nv i (gs p)).2 (itr nv i (gs p)).1 = some q
    · simp [z, ob]
    · simp [z, ob]) (fun s _ => by
    unfold bX7_touches_5
    simp only [dm2]
    rw [ob_s cn]
    simp (disch := omega) only [dm1, nI_leS]
    rw [if_pos (by omega)])
  rw [nl_0]
  exact h1
theorem othX {nv : Nat → Nat → Nat} {fm : Nat → Nat → Bool} {o : St} {np : Nat} {gs : Nat → St} {pn : Nat → Nat → Option Nat} (h : PN nv fm np gs pn) (hWl : Wlk nv fm o np gs) {n : Nat} {F T : Nat → Nat} (hn : n ≤ 684) (hnp : np ≤ 125) {st wk tw : Nat → Nat} {sa wa pa tn : Nat → Int32} (hP : PaX nv fm o n F T np gs pa) (ht : hN n tn tw) (htw : ∀ s, s < n → tw s < n ∧ F (tw s) = T s ∧ T (tw s) = F s) (hW : WaX nv n F T np gs st wk sa wa) {p : Nat} (hp : p < np) {K : Nat} (hK : Per nv (gs p) K) (hK6 : K ≤ 684) : sX7_touchesOthers (nI p) pa tn sa wa = some (nI (cnt K (fun k => isOt pn p (itr nv k (gs p)).1 (itr nv k (gs p)).2))) := by
  have cn := cornX_ok hn hnp hW hp hK
  obtain ⟨s, h1, h2⟩ := iter_for (S := Unit) (B := bX7_touchesOthers_4 (nI p) pa tn sa wa) (fun i _ => (nI (cnt i (fun k => isOt pn p (itr nv k (gs p)).1 (itr nv k (gs p)).2)), nI i)) K (fun _ _ => True) 0 () trivial (by omega) (by omega) (fun i s _ hi _ => by
    refine ⟨(), ?_, trivial⟩
    have be := beyX h hWl hn hnp hP ht htw hW hp hK hi
    have ol : ∀ r, pn (itr nv i (gs p)).2 (itr nv i (gs p)).1 = some r → r < 1000 := fun r hr => (by have := (h _ _).1 r hr; omega)
    have oe := oI_eq (o := pn (itr nv i (gs p)).2 (itr nv i (gs p)).1) (q := p) ol (by omega)
    have o1 := oI_lt (o := pn (itr nv i (gs p)).2 (itr nv i (gs p)).1) ol
    unfold bX7_touchesOthers_4
    simp only [dm2]
    rw [ob_s cn]
    simp (disch := omega) only [dm1, nI_leS]
    rw [if_neg (by omega), ob_s be]
    simp only [oe, o1, lt, nl_1, nI_add]
    rw [cnt_s]
    unfold isOt
    cases z : pn (itr nv i (gs p)).2 (itr nv i (gs p)).1 with
    | none => simp [ob]
    | some r =>
      by_cases y : r = p
      · simp [y, ob]
      · simp [y, ob]) (fun s _ => by
    unfold bX7_touchesOthers_4
    simp only [dm2]
    rw [ob_s cn]
    simp (disch := omega) only [dm1, nI_leS]
    rw [if_pos (by omega)])
  have h1' : iter (bX7_touchesOthers_4 (nI p) pa tn sa wa) FU (nI 0, nI 0) = some (0, (nI (cnt K (fun k => isOt pn p (itr nv k (gs p)).1 (itr nv k (gs p)).2)), nI K)) := h1
  unfold sX7_touchesOthers
  rw [nl_0, ob_s h1']
  rfl
def mT (pn : Nat → Nat → Option Nat) (p q : Nat) (a b : Nat) : Bool := (decide (pn a b = some p) && decide (pn b a = some q)) || (decide (pn a b = some q) && decide (pn b a = some p))
theorem mT_aux (c i : Nat) (P1 P2 P3 P4 : Prop) [Decidable P1] [Decidable P2] [Decidable P3] [Decidable P4] : ob (if ¬ P1 then if ¬ P2 then some (nI c) else if ¬ P3 then some (nI c) else some (nI (c + 1)) else if P4 then some (nI (c + 1)) else if ¬ P2 then some (nI c) else if ¬ P3 then some (nI c) else some (nI (c + 1))) (fun t => dm1 t (fun v3 => some ((0 : Nat), (v3, nI (i + 1))))) = some (0, (nI (c + (if ((decide P1 && decide P4) || (decide P2 && decide P3)) = true then 1 else 0)), nI (i + 1))) := by
  by_cases a1 : P1 <;> by_cases a2 : P2 <;> by_cases a3 : P3 <;> by_cases a4 : P4 <;> simp [a1, a2, a3, a4, ob, dm1]
theorem bg_2 (A B : Nat → Nat) (k : Nat) : bg A B (2 * k) = A k ∧ ed A B (2 * k) = B k ∧ bg A B (2 * k + 1) = B k ∧ ed A B (2 * k + 1) = A k := by
  refine ⟨?_, ?_, ?_, ?_⟩
  · unfold bg; rw [if_pos (by omega)]; congr 1; omega
  · unfold ed; rw [if_pos (by omega)]; congr 1; omega
  · unfold bg; rw [if_neg (by omega)]; congr 1; omega
  · unfold ed; rw [if_neg (by omega)]; congr 1; omega
theorem touM {nv : Nat → Nat → Nat} {fm : Nat → Nat → Bool} (hs : ∀ i j, fm i j = fm j i) {o : St} {np : Nat} {gs : Nat → St} {pn : Nat → Nat → Option Nat} (h : PN nv fm np gs pn) (hWl : Wlk nv fm o np gs) {n : Nat} {A B : Nat → Nat} (hn : n ≤ 342) (hnp : np ≤ 125) {pa gw : Nat → Int32} (hP : PaM nv o n A B np gs pa) (hw : hB n gw (fun k => fm (A k) (B k))) {p q : Nat} (hp : p < np) (hq : q < np) : sX12_touched (nI p) (nI q) (nI n) gw pa = some (nI (cnt n (fun k => mT pn p q (A k) (B k)))) := by
  obtain ⟨s, h1, h2⟩ := iter_for (S := Unit) (B := bX12_touched_5 (nI p) (nI q) (nI n) gw pa) (fun i _ => (nI (cnt i (fun k => mT pn p q (A k) (B k))), nI i)) n (fun _ _ => True) 0 () trivial (by omega) (by omega) (fun i s _ hi _ => by
    refine ⟨(), ?_, trivial⟩
    obtain ⟨g1, g2, g3, g4⟩ := bg_2 A B i
    have ol : ∀ a b r, pn a b = some r → r < 1000 := fun a b r hr => (by have := (h _ _).1 r hr; omega)
    unfold bX12_touched_5
    simp (disch := omega) only [dm2, nI_leS, nl_0, nl_1, nl_2, nI_mul, nI_add, nI_lt0', nI_clampS, false_or, gd_s, hw i hi, bI_0, lt]
    rw [if_neg (by omega), cnt_s]
    cases hf : fm (A i) (B i) with
    | false =>
      have z1 := pn_fm h hf
      have z2 := pn_fm h (show fm (B i) (A i) = false by rw [hs]; exact hf)
      simp [ob, dm1, mT, z1, z2]
    | true =>
      have p1 := pnM h hWl hP (c := 2 * i) (by omega) (by rw [g1, g2]; exact hf)
      have p2 := pnM h hWl hP (c := 2 * i + 1) (by omega) (by rw [g3, g4, hs]; exact hf)
      rw [g1, g2] at p1
      rw [g3, g4] at p2
      have q1 := oI_eq (q := p) (ol (A i) (B i)) (by omega)
      have q2 := oI_eq (q := q) (ol (A i) (B i)) (by omega)
      have q3 := oI_eq (q := p) (ol (B i) (A i)) (by omega)
      have q4 := oI_eq (q := q) (ol (B i) (A i)) (by omega)
      simp only [p1, p2, q1, q2, q3, q4]
      simp only [Nat.add_zero]
      exact mT_aux _ _ _ _ _ _) (fun s _ => by
    unfold bX12_touched_5
    simp (disch := omega) only [dm2, nI_leS]
    rw [if_pos (by omega)])
  have h1' : iter (bX12_touched_5 (nI p) (nI q) (nI n) gw pa) FU (nI 0, nI 0) = some (0, (nI (cnt n (fun k => mT pn p q (A k) (B k))), nI n)) := h1
  unfold sX12_touched
  rw [nl_0, ob_s h1']
  rfl
