/-! the class: firm pieces -/
/-- no dead ends -/
def Good (ad : Nat → Nat → Bool) (m : Nat) (b : Nat → Bool) (G : Nat → Nat → Prop) : Prop := ∀ i j, G i j → i < m ∧ j < m ∧ ad i j = true ∧ b i = true ∧ G j i ∧ ∃ j', j' ≠ j ∧ G i j'
/-- what is kept while dead ends go -/
def Prn (ad : Nat → Nat → Bool) (m : Nat) (b : Nat → Bool) (fm : Nat → Nat → Bool) : Prop := (∀ i j, fm i j = true → i < m ∧ j < m ∧ ad i j = true ∧ b i = true) ∧ (∀ i j, fm i j = fm j i) ∧ (∀ G, Good ad m b G → ∀ i j, G i j → fm i j = true) ∧ ∀ i j, fm i j = true → Rch (fun x y => fm x y = true) 0 i
def rm2 (fm : Nat → Nat → Bool) (x y : Nat) : Nat → Nat → Bool := fun i j => if (i = x ∧ j = y) ∨ (i = y ∧ j = x) then false else fm i j
theorem rm2_x {fm : Nat → Nat → Bool} {x y i j : Nat} (h : (i = x ∧ j = y) ∨ (i = y ∧ j = x)) : rm2 fm x y i j = false := if_pos h
theorem rm2_n {fm : Nat → Nat → Bool} {x y i j : Nat} (h : ¬ ((i = x ∧ j = y) ∨ (i = y ∧ j = x))) : rm2 fm x y i j = fm i j := if_neg h
theorem Prn_rm {ad : Nat → Nat → Bool} {m : Nat} {b : Nat → Bool} {fm : Nat → Nat → Bool} (h : Prn ad m b fm) {x y : Nat} (hx : x < m) (hy : y < m) (hf : fm x y = true) (h1 : cnt m (fm x) = 1) (h0 : x ≠ 0) (hne : x ≠ y) : Prn ad m b (rm2 fm x y) := by
  obtain ⟨a1, a2, a3, a4⟩ := h
  have only : ∀ z, fm x z = true → z = y := fun z hz => cnt_one h1 (a1 x z hz).2.1 hy hz hf
  have back : ∀ i j, rm2 fm x y i j = true → fm i j = true ∧ i ≠ x ∧ j ≠ x := by
    intro i j hz
    by_cases q : (i = x ∧ j = y) ∨ (i = y ∧ j = x)
    · rw [rm2_x q] at hz; cases hz
    · rw [rm2_n q] at hz
      refine ⟨hz, fun z => ?_, fun z => ?_⟩
      · subst z; exact q (Or.inl ⟨rfl, only j hz⟩)
      · subst z; rw [a2] at hz; exact q (Or.inr ⟨only i hz, rfl⟩)
  refine ⟨fun i j hz => a1 i j (back i j hz).1, fun i j => ?_, fun G hG i j hg => ?_, fun i j hz => ?_⟩
  · by_cases q : (i = x ∧ j = y) ∨ (i = y ∧ j = x)
    · rw [rm2_x q, rm2_x (by omega)]
    · rw [rm2_n q, rm2_n (by omega)]; exact a2 i j
  · have noG : ∀ z, ¬ G x z := by
      intro z hz
      obtain ⟨-, -, -, -, -, z', n1, n2⟩ := hG x z hz
      have e1 := only z (a3 G hG x z hz)
      have e2 := only z' (a3 G hG x z' n2)
      omega
    rw [rm2_n]
    · exact a3 G hG i j hg
    · rintro (⟨rfl, rfl⟩ | ⟨rfl, rfl⟩)
      · exact noG _ hg
      · exact noG _ (hG _ _ hg).2.2.2.2.1
  · obtain ⟨c1, c2, c3⟩ := back i j hz
    have key := a4 i j c1 (fun v => (v ≠ x → Rch (fun x' y' => rm2 fm x y x' y' = true) 0 v) ∧ (v = x → Rch (fun x' y' => rm2 fm x y x' y' = true) 0 y)) ⟨fun _ => Rch_refl _ _, fun z => absurd z.symm h0⟩ (fun u v hu hr => by
      dsimp only at hr
      refine ⟨fun hv => ?_, fun hv => ?_⟩
      · by_cases q : u = x
        · subst q
          rw [only v hr]
          exact hu.2 rfl
        · refine Rch_step (hu.1 q) ?_
          show rm2 fm x y u v = true
          rw [rm2_n (by omega)]
          exact hr
      · subst hv
        rw [a2] at hr
        obtain rfl := only u hr
        exact hu.1 (Ne.symm hne))
    exact key.1 c2
theorem deg_rm {m : Nat} {fm : Nat → Nat → Bool} {x y : Nat} (hx : x < m) (hy : y < m) (hne : x ≠ y) (hf : fm x y = true) (hs : ∀ i j, fm i j = fm j i) (i : Nat) : cnt m (rm2 fm x y i) = if i = x ∨ i = y then cnt m (fm i) - 1 else cnt m (fm i) := by
  by_cases q : i = x
  · subst q
    rw [if_pos (Or.inl rfl), ← cnt_dn hy hf, Nat.add_sub_cancel]
    refine cnt_congr (fun j hj => ?_)
    by_cases z : j = y
    · subst z; rw [rm2_x (Or.inl ⟨rfl, rfl⟩), upB_s]
    · rw [rm2_n (by omega), upB_n z]
  · by_cases q2 : i = y
    · subst q2
      rw [hs] at hf
      rw [if_pos (Or.inr rfl), ← cnt_dn hx hf, Nat.add_sub_cancel]
      refine cnt_congr (fun j hj => ?_)
      by_cases z : j = x
      · subst z; rw [rm2_x (Or.inr ⟨rfl, rfl⟩), upB_s]
      · rw [rm2_n (by omega), upB_n z]
    · rw [if_neg (by omega)]
      exact cnt_congr (fun j hj => by rw [rm2_n (by omega)])
theorem firm0_ok {ad : Nat → Nat → Bool} {m n : Nat} {F T fi : Nat → Nat} (h : Stps ad m n F T fi) (hm : m ≤ 128) (hn : n ≤ 768) {f g : Nat → Int32} (hg : ∀ i, i ≤ m → g i = nI (fi i)) (hf : hN n f F) {b : Nat → Bool} {r : Nat → Int32} (hr : hB m r b) (w e : Nat → Int32) : ∃ w' e' : Nat → Int32, sX8_firmWhatIsReached (nI n) w e g f (nI m) r = some (w', e') ∧ hB n w' (fun s => b (F s)) ∧ ∀ i, i < m → e' i = nI (cnt m (fun j => b i && ad i j)) := by
  have hdeg : ∀ i, i < m → fi (i + 1) - fi i = cnt m (fun j => ad i j) := by
    intro i hi
    rw [← cnt_Ico (n := n) (fi_mono h hi) (h.2.2.2 (i + 1) (by omega)).1]
    refine cnt_bij T (fun k hk hp => ?_) (fun k l hk hl hp hq e => ?_) (fun j hj hq => ?_)
    · have hp := of_decide_eq_true hp
      obtain ⟨c1, c2⟩ := (fi_in h hi).mp hp
      obtain ⟨d1, d2, d3⟩ := h.1 k hk
      rw [c2] at d3
      exact ⟨d2, d3⟩
    · have hp := of_decide_eq_true hp
      have hq := of_decide_eq_true hq
      obtain ⟨c1, c2⟩ := (fi_in h hi).mp hp
      obtain ⟨d1, d2⟩ := (fi_in h hi).mp hq
      rcases Nat.lt_trichotomy k l with z | z | z
      · rcases h.2.1 k l z hl with y | y <;> omega
      · exact z
      · rcases h.2.1 l k z hk with y | y <;> omega
    · obtain ⟨s, s1, s2, s3⟩ := h.2.2.1 i j hi hj hq
      exact ⟨s, s1, decide_eq_true ((fi_in h hi).mpr ⟨s1, s2⟩), s3⟩
  obtain ⟨e', g1, g2⟩ := iter_for (S := Nat → Int32) (B := bX8_firmWhatIsReached_2 g (nI m) r) (fun i s => (nI i, s)) m (fun i s => ∀ k, k < i → s k = nI (cnt m (fun j => b k && ad k j))) 0 e (fun k hk => absurd hk (Nat.not_lt_zero _)) (by omega) (by omega) (fun i s _ hi hI => by
    have f1 := fi_mono h hi
    have f2 := (h.2.2.2 (i + 1) (by omega)).1
    have e1 : sX8_endsAt (nI i) g = some (nI (cnt m (fun j => ad i j))) := by
      simp (disch := omega) only [sX8_endsAt, nl_1, nI_add, nI_lt0, nI_clampS, false_or, gd_s, hg (i + 1) (by omega), hg i (by omega), pk_sub f1]
      rw [hdeg i hi]
    have e2 : (if bI (b i) = nI 0 then some (nI 0) else some (nI (cnt m (fun j => ad i j)))) = some (nI (cnt m (fun j => b i && ad i j))) := by
      simp only [bI_0]
      cases hb : b i with
      | false => rw [if_pos rfl, cnt_0 (fun j hj => by simp)]
      | true => rw [if_neg (by simp)]; simp
    refine ⟨upd s i (nI (cnt m (fun j => b i && ad i j))), ?_, fun k hk => ?_⟩
    · simp (disch := omega) only [bX8_firmWhatIsReached_2, dm2, nI_leS, nl_0, nI_lt0', nI_clampS, false_or, gd_s, hr i hi, e1, ob, dm1, lt, nI_1]
      rw [if_neg (by omega)]
      show ob (if bI (b i) = nI 0 then some (nI 0) else some (nI (cnt m (fun j => ad i j)))) _ = _
      rw [e2]
      rfl
    · by_cases q : k = i
      · subst q; rw [pk_us]
      · rw [pk_un q]; exact hI k (by omega)) (fun s _ => by
    simp (disch := omega) only [bX8_firmWhatIsReached_2, dm2, nI_leS]
    rw [if_pos (by omega)])
  obtain ⟨w', g3, g4⟩ := iter_for (S := Nat → Int32) (B := bX8_firmWhatIsReached_45 (nI n) f r) (fun i s => (nI i, s)) n (fun i s => hB i s (fun k => b (F k))) 0 w (fun k hk => absurd hk (Nat.not_lt_zero _)) (by omega) (by omega) (fun i s _ hi hI => by
    obtain ⟨q1, q2, q3⟩ := h.1 i hi
    refine ⟨upd s i (bI (b (F i))), ?_, fun k hk => ?_⟩
    · simp (disch := omega) only [bX8_firmWhatIsReached_45, dm2, nI_leS, nI_lt0, nI_clampS, false_or, gd_s, hf i hi, hr (F i) q1, lt, nI_1, nar_bb]
      rw [if_neg (by omega)]
    · by_cases q : k = i
      · subst q; rw [pk_us]
      · rw [pk_un q]; exact hI k (by omega)) (fun s _ => by
    simp (disch := omega) only [bX8_firmWhatIsReached_45, dm2, nI_leS]
    rw [if_pos (by omega)])
  refine ⟨w', e', ?_, g4, g2⟩
  unfold sX8_firmWhatIsReached
  rw [nl_0, ob_s g1]
  show ob (iter (bX8_firmWhatIsReached_45 (nI n) f r) FU (nI 0, w)) _ = _
  rw [ob_s g3]
  rfl
/-- firm and firmEnds hold fm -/
def FmX (m n : Nat) (F T : Nat → Nat) (fm : Nat → Nat → Bool) (w e : Nat → Int32) : Prop := hB n w (fun s => fm (F s) (T s)) ∧ ∀ i, i < m → e i = nI (cnt m (fm i))
theorem loosen_ok {ad : Nat → Nat → Bool} {m n : Nat} {F T tw : Nat → Nat} (h : okS ad m n F T) (hm : m ≤ 128) (hn : n ≤ 768) (hi : srtS n F T) {f t z : Nat → Int32} (hf : hN n f F) (ht : hN n t T) (hz : hN n z tw) (htw : ∀ s, s < n → tw s < n ∧ F (tw s) = T s ∧ T (tw s) = F s) {fm : Nat → Nat → Bool} (hsy : ∀ i j, fm i j = fm j i) {w e : Nat → Int32} (hw : FmX m n F T fm w e) {s : Nat} (hs : s < n) (hne : F s ≠ T s) (hfs : fm (F s) (T s) = true) : ∃ w' e' : Nat → Int32, sX8_loosen (nI s) w e f t z = some (w', e') ∧ FmX m n F T (rm2 fm (F s) (T s)) w' e' := by
  obtain ⟨q1, q2, q3⟩ := h s hs
  obtain ⟨t1, t2, t3⟩ := htw s hs
  obtain ⟨w1, w2⟩ := hw
  have d1 : 0 < cnt m (fm (F s)) := cnt_pos q2 hfs
  have d2 : 0 < cnt m (fm (T s)) := cnt_pos q1 (by rw [hsy]; exact hfs)
  have m1 : ∀ k : Nat, 0 < k → nI k - nI 1 = nI (k - 1) := fun k hk => pk_sub (by omega)
  refine ⟨upd (upd w s (bI false)) (tw s) (bI false), upd (upd e (F s) (nI (cnt m (fm (F s)) - 1))) (T s) (nI (cnt m (fm (T s)) - 1)), ?_, fun k hk => ?_, fun i hi2 => ?_⟩
  · simp (disch := omega) only [sX8_loosen, nI_lt0, nI_clampS, false_or, gd_s, lt, hf s hs, ht s hs, hz s hs, nar_0, w2 (F s) q1, nl_1, m1, pk_un (Ne.symm hne), w2 (T s) q2]
  · have uniq : ∀ k l, k < n → l < n → F k = F l → T k = T l → k = l := by
      intro k l hk hl e1 e2
      rcases Nat.lt_trichotomy k l with y | y | y
      · rcases hi k l y hl with x | x <;> omega
      · exact y
      · rcases hi l k y hk with x | x <;> omega
    by_cases c1 : k = tw s
    · subst c1
      rw [pk_us]
      show _ = bI (rm2 fm (F s) (T s) (F (tw s)) (T (tw s)))
      rw [rm2_x (Or.inr ⟨t2, t3⟩)]
    · rw [pk_un c1]
      by_cases c2 : k = s
      · subst c2
        rw [pk_us]
        show _ = bI (rm2 fm (F k) (T k) (F k) (T k))
        rw [rm2_x (Or.inl ⟨rfl, rfl⟩)]
      · rw [pk_un c2, w1 k hk]
        show _ = bI (rm2 fm (F s) (T s) (F k) (T k))
        rw [rm2_n]
        rintro (⟨e1, e2⟩ | ⟨e1, e2⟩)
        · exact c2 (uniq k s hk hs e1 e2)
        · exact c1 (uniq k (tw s) hk t1 (by omega) (by omega))
  · rw [deg_rm q1 q2 hne hfs hsy]
    by_cases c1 : i = T s
    · subst c1; rw [pk_us, if_pos (Or.inr rfl)]
    · rw [pk_un c1]
      by_cases c2 : i = F s
      · subst c2; rw [pk_us, if_pos (Or.inl rfl)]
      · rw [pk_un c2, if_neg (by omega)]; exact w2 i hi2
