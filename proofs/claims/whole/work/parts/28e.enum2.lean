/-! the class's steps and the reference's pieces: one sum -/
theorem enum_cs {P : Nat → Nat → Prop} {ad : Nat → Nat → Bool} {m n n' : Nat} {F T fi A B : Nat → Nat} (hS : Stps ad m n F T fi) (hP : PcM P m n' A B) (hR : PcR P ad m) (g : Nat → Nat → Int) : sm n (fun s => g (F s) (T s)) = sm n' (fun k => g (A k) (B k) + g (B k) (A k)) := by
  have h1 : sm n (fun s => g (F s) (T s)) = sm (2 * n') (fun c => g (bg A B c) (ed A B c)) := by
    refine enum_one (m := m) (ad := ad) hS.1 (fun s t h ht z => ?_) (fun a b ha hb e => hS.2.2.1 a b ha hb e) (fun c hc => ?_) (fun c c' h hc z => ?_) (fun a b ha hb e => bg_all hP hR ha hb e) g
    · rcases hS.2.1 s t h ht with q | ⟨q1, q2⟩ <;> omega
    · obtain ⟨o1, o2⟩ := bg_lt hP hc
      refine ⟨o1, o2, (hR _ _ o1 o2).mpr ?_⟩
      have p := (hP.1 (c / 2) (by omega)).2.2
      unfold bg ed
      by_cases z : c % 2 = 0
      · rw [if_pos z, if_pos z]; exact Or.inl p
      · rw [if_neg z, if_neg z]; exact Or.inr p
    · have := bg_uniq hP (by omega) hc z.1 z.2
      omega
  rw [h1, sm_two]
  apply sm_congr
  intro k _
  have e1 : bg A B (2 * k) = A k := by unfold bg; rw [if_pos (by omega)]; congr 1; omega
  have e2 : ed A B (2 * k) = B k := by unfold ed; rw [if_pos (by omega)]; congr 1; omega
  have e3 : bg A B (2 * k + 1) = B k := by unfold bg; rw [if_neg (by omega)]; congr 1; omega
  have e4 : ed A B (2 * k + 1) = A k := by unfold ed; rw [if_neg (by omega)]; congr 1; omega
  rw [e1, e2, e3, e4]
