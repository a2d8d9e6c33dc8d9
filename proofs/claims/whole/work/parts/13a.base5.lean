/-- two worlds side by side, a call that knows of the left one: what comes back stands on the right -/
theorem P_left {D : va_G} {cl : List vw_C} {a b : va_W} {H : Heap} (h : va_P D cl (a ++ b) H) : va_P D cl a H := fun k q hk => h k q (by
  have hl : k < a.length := (List.getElem?_eq_some_iff.mp hk).1
  rw [List.getElem?_append_left hl]; exact hk)
theorem right_at {a b : va_W} {k : Nat} {q : Nat × va_E} (hk : b[k]? = some q) : (a ++ b)[a.length + k]? = some q := by
  rw [List.getElem?_append_right (by omega), Nat.add_sub_cancel_left]; exact hk
theorem left_at {a b : va_W} {k : Nat} {q : Nat × va_E} (hk : a[k]? = some q) : (a ++ b)[k]? = some q := by
  have hl : k < a.length := (List.getElem?_eq_some_iff.mp hk).1
  rw [List.getElem?_append_left hl]; exact hk
theorem P_right {D : va_G} {cl : List vw_C} {a b : va_W} {H : Heap} (h : va_P D cl (a ++ b) H) : va_P D cl b H := fun k q hk => h (a.length + k) q (right_at hk)
theorem D_left {A : Nat → Prop} {a b : va_W} (h : va_D A (a ++ b)) : va_D A a := ⟨fun i j p q hi hj e => h.1 i j p q (left_at hi) (left_at hj) e, fun k q hk => h.2 k q (left_at hk)⟩
theorem D_right {A : Nat → Prop} {a b : va_W} (h : va_D A (a ++ b)) : va_D A b := ⟨fun i j p q hi hj e => by
  have := h.1 (a.length + i) (a.length + j) p q (right_at hi) (right_at hj) e
  omega, fun k q hk => h.2 (a.length + k) q (right_at hk)⟩
theorem D_apart {A : Nat → Prop} {a b : va_W} (h : va_D A (a ++ b)) {i j : Nat} {p q : Nat × va_E} (hi : a[i]? = some p) (hj : b[j]? = some q) : p.1 ≠ q.1 := by
  intro e
  have := h.1 i (a.length + j) p q (left_at hi) (right_at hj) e
  have hl : i < a.length := (List.getElem?_eq_some_iff.mp hi).1
  omega
theorem join_left {A0 : Nat → Prop} {D : va_G} {cl : List vw_C} {w0 wr w1 : va_W} {H H1 : Heap} (hP : va_P D cl (w0 ++ wr) H) (hD : va_D A0 (w0 ++ wr)) (hk : ∀ q : Nat, q < H.size → ¬ va_A w0 H.size q → H1[q]? = H[q]?) (hF : ∀ q, va_A w0 H.size q → A0 q) (hP1 : va_P D cl w1 H1) (hD1 : va_D (va_A w0 H.size) w1) : va_P D cl (wr ++ w1) H1 ∧ va_D A0 (wr ++ w1) := by
  have apart : ∀ (k : Nat) (q : Nat × va_E), wr[k]? = some q → q.1 < H.size ∧ ¬ va_A w0 H.size q.1 := by
    intro k q hq
    have hl := (P_right hP k q hq).lt
    refine ⟨hl, fun h => ?_⟩
    rcases h with ⟨k2, e, h⟩ | h
    · exact D_apart hD h hq rfl
    · omega
  refine ⟨va_P.app (fun k q hq => ?_) hP1, va_D.app (D_right hD) (hD1.weaken (fun k q _ h => hF q.1 h)) (fun i j x y hx hy hxy => ?_)⟩
  · obtain ⟨g1, g2⟩ := apart k q hq
    exact (P_right hP k q hq).kept (hk q.1 g1 g2)
  · exact (apart i x hx).2 (by rw [hxy]; exact hD1.2 j y hy)
section CALLW
variable {p : Program} {l : Launch} {e : Env} {R : Room} {s : State} {m : MethodId} {args : Array Value} {below : List Frame} {meth : Method} {c : Code} {H : Heap} {locs : List Loc} {cells slots : Nat} {Q : State → Prop}
variable {y : MethodName} {bytes cc : ByteArray} {maxL nL mc ms n index pc : Nat} {ret : Option FieldType} {wsc : List Cond} {rm : Room} {Ts : List Cond} {own C host : String} {b : Addr} {As rest st0 : List Value} {ls : Array Slot}
variable {D : va_G} {ky : Nat → ClassId} {A : Nat → Prop} {w0 w1 wr : va_W}
theorem free_left (hD : va_D A (w0 ++ wr)) (hS : va_S A s.heap H locs) (hA : ∀ q : Nat, s.heap.size ≤ q → A q) : ∀ q, va_A w0 H.size q → A q := by
  intro q h
  rcases h with ⟨k, e, h⟩ | h
  · exact (D_left hD).2 k (q, e) h
  · exact hA q (Nat.le_trans hS.1 h)
theorem pre0_L (hP : va_P D vwCl (w0 ++ wr) H) (hD : va_D A (w0 ++ wr)) (hK : Kx D ky s) {av : List Value} : ∀ U : State, U.heap = H → s.WarmedH U.vm → pre0 D ky av w0 H.size av.toArray U := by
  intro U hU hW
  exact ⟨rfl, by rw [hU], by rw [hU]; exact P_left hP, hK.warm hW, (D_left hD).weaken (fun _ _ _ _ => trivial)⟩
theorem cL_i {r : Int32} (S : CallFix p m c cc nL s args Ts own) (hM : MtI l D ky y wsc rm (.ref b :: As) w0 w1 r mc ms) (cw : CallW R s args own C index y bytes maxL ret wsc rm mc ms n) (hrv : ∃ cellB : Cell, H[b]? = some cellB ∧ cellB.vm.isStatics = false ∧ s.vm.findClass C = some cellB.cls) (hP : va_P D vwCl (w0 ++ wr) H) (hD : va_D A (w0 ++ wr)) (hK : Kx D ky s) (hS : va_S A s.heap H locs) (hA : ∀ q : Nat, s.heap.size ≤ q → A q) (hst : st0 = As.reverse ++ .ref b :: rest) (hlen : As.length = n) (hsize : ls.size = nL) (hW : (rest.map fun v => v.category).sum ≤ 8) (hdg : decode cc pc = .ok (.invokevirtual index, 3)) (hf : cells + mc ≤ R.cells ∧ slots + ms ≤ R.slots)
    (kk : ∀ (H1 : Heap) (locs1 : List Loc), va_P D vwCl (wr ++ w1) H1 → va_D A (wr ++ w1) → va_S A s.heap H1 locs1 → W p l e R s m args below meth c H1 locs1 (cells + mc) (slots + ms) Q (F0 m (pc + 3) ls (.int r :: rest))) : W p l e R s m args below meth c H locs cells slots Q (F0 m pc ls st0) := by
  subst hst
  have hF := free_left hD hS hA
  refine va_calli (va_runV (As := As) (rest := rest) S (hM H.size) cw ⟨pre0_blind, hrv, pre0_L hP hD hK⟩ rfl hlen hsize rfl (lv_room hW) hdg hf) hS (fun q _ h => hF q h) hF (fun r' u t H1 locs1 ht hvm hw hB hz hk hS1 => ?_)
  obtain rfl : r' = r := hw
  obtain ⟨hP1, hD1⟩ := hB
  rw [ht] at hP1
  obtain ⟨a1, a2⟩ := join_left hP hD hk hF hP1 hD1
  exact kk H1 locs1 a1 a2 hS1
theorem cL_l {r : Int64} (S : CallFix p m c cc nL s args Ts own) (hM : MtL l D ky y wsc rm (.ref b :: As) w0 w1 r mc ms) (cw : CallW R s args own C index y bytes maxL ret wsc rm mc ms n) (hrv : ∃ cellB : Cell, H[b]? = some cellB ∧ cellB.vm.isStatics = false ∧ s.vm.findClass C = some cellB.cls) (hP : va_P D vwCl (w0 ++ wr) H) (hD : va_D A (w0 ++ wr)) (hK : Kx D ky s) (hS : va_S A s.heap H locs) (hA : ∀ q : Nat, s.heap.size ≤ q → A q) (hst : st0 = As.reverse ++ .ref b :: rest) (hlen : As.length = n) (hsize : ls.size = nL) (hW : (rest.map fun v => v.category).sum ≤ 8) (hdg : decode cc pc = .ok (.invokevirtual index, 3)) (hf : cells + mc ≤ R.cells ∧ slots + ms ≤ R.slots)
    (kk : ∀ (H1 : Heap) (locs1 : List Loc), va_P D vwCl (wr ++ w1) H1 → va_D A (wr ++ w1) → va_S A s.heap H1 locs1 → W p l e R s m args below meth c H1 locs1 (cells + mc) (slots + ms) Q (F0 m (pc + 3) ls (.long r :: rest))) : W p l e R s m args below meth c H locs cells slots Q (F0 m pc ls st0) := by
  subst hst
  have hF := free_left hD hS hA
  refine va_calll (va_runV (As := As) (rest := rest) S (hM H.size) cw ⟨pre0_blind, hrv, pre0_L hP hD hK⟩ rfl hlen hsize rfl (lv_room hW) hdg hf) hS (fun q _ h => hF q h) hF (fun r' u t H1 locs1 ht hvm hw hB hz hk hS1 => ?_)
  obtain rfl : r' = r := hw
  obtain ⟨hP1, hD1⟩ := hB
  rw [ht] at hP1
  obtain ⟨a1, a2⟩ := join_left hP hD hk hF hP1 hD1
  exact kk H1 locs1 a1 a2 hS1
end CALLW
/-- what the law's start gives of classes and arrays -/
theorem Kx_start {args : Array Value} {s : State} (hts : ∀ w ∈ lw_tbl, w.before args s = true) (hKc : ∃ (dC : Nat → ClassId) (dI : Nat → Nat → Nat), ∀ (k : Nat) (q : vw_C), vwCl[k]? = some q → u_Kn s q.1 q.2.1 q.2.2 (dC k) (dI k)) : ∃ (D : va_G) (ky : Nat → ClassId), Kx D ky s := by
  obtain ⟨dC, dI, hKc⟩ := hKc
  have prim : ∀ ty : FieldType, (∀ C, ty ≠ .object C) → (Cond.arrayClass ty).before args s = true → ∃ cA : ClassId, ArrOfT s cA ty ∧ va_RA s cA ty := by
    intro ty hty h
    obtain ⟨cA, kA, comp, h1, h2, h3⟩ := Cond.arrayClass_spec h
    refine ⟨cA, fun n z => ⟨fun k hk => (by cases hk), kA, h2, comp, h3⟩, ?_⟩
    cases ty with
    | object C => exact absurd rfl (hty C)
    | _ => exact h1
  have objs : ∀ C : String, va_AO C s → ∃ cA : ClassId, ArrOfT s cA (.object C) ∧ va_RA s cA (.object C) := by
    intro C h
    obtain ⟨comp, cA, k, h1, h2, h3, h4, h5⟩ := Cond.arrayOver_spec h
    exact ⟨cA, fun n z => ⟨fun k hk => (by cases hk), k, h3, comp, h4⟩, k, comp, h3, h4, h1, h5⟩
  obtain ⟨c0, h0⟩ := prim .int (fun C h => by cases h) (hts _ (by decide +kernel))
  obtain ⟨c1, h1⟩ := prim .long (fun C h => by cases h) (hts _ (by decide +kernel))
  obtain ⟨c2, h2⟩ := prim .boolean (fun C h => by cases h) (hts _ (by decide +kernel))
  obtain ⟨c3, h3⟩ := objs "GlazierBench$Drawing" (va_AO.of (hts _ (by decide +kernel)))
  obtain ⟨c4, h4⟩ := objs "GlazierBenchModel$Drawing" (va_AO.of (hts _ (by decide +kernel)))
  refine ⟨(dC, dI), fun k => if k = 0 then c0 else if k = 1 then c1 else if k = 2 then c2 else if k = 3 then c3 else c4, ⟨hKc, fun k q hk => ?_⟩, fun w hw => va_Nw.of (nw_tab w hw) (hts w ((by decide +kernel : ∀ w ∈ nw_all, w ∈ lw_tbl) w hw))⟩
  match k, hk with
  | 0, hk => cases hk; exact h0
  | 1, hk => cases hk; exact h1
  | 2, hk => cases hk; exact h2
  | 3, hk => cases hk; exact h3
  | 4, hk => cases hk; exact h4
  | k + 5, hk => simp at hk
theorem join_right {A0 : Nat → Prop} {D : va_G} {cl : List vw_C} {w0 wr w1 : va_W} {H H1 : Heap} (hP : va_P D cl (wr ++ w0) H) (hD : va_D A0 (wr ++ w0)) (hk : ∀ q : Nat, q < H.size → ¬ va_A w0 H.size q → H1[q]? = H[q]?) (hF : ∀ q, va_A w0 H.size q → A0 q) (hP1 : va_P D cl w1 H1) (hD1 : va_D (va_A w0 H.size) w1) : va_P D cl (wr ++ w1) H1 ∧ va_D A0 (wr ++ w1) := by
  have apart : ∀ (k : Nat) (q : Nat × va_E), wr[k]? = some q → q.1 < H.size ∧ ¬ va_A w0 H.size q.1 := by
    intro k q hq
    have hl := (P_left hP k q hq).lt
    refine ⟨hl, fun h => ?_⟩
    rcases h with ⟨k2, e, h⟩ | h
    · exact D_apart hD hq h rfl
    · omega
  refine ⟨va_P.app (fun k q hq => ?_) hP1, va_D.app (D_left hD) (hD1.weaken (fun k q _ h => hF q.1 h)) (fun i j x y hx hy hxy => ?_)⟩
  · obtain ⟨g1, g2⟩ := apart k q hq
    exact (P_left hP k q hq).kept (hk q.1 g1 g2)
  · exact (apart i x hx).2 (by rw [hxy]; exact hD1.2 j y hy)
section CALLR
variable {p : Program} {l : Launch} {e : Env} {R : Room} {s : State} {m : MethodId} {args : Array Value} {below : List Frame} {meth : Method} {c : Code} {H : Heap} {locs : List Loc} {cells slots : Nat} {Q : State → Prop}
variable {y : MethodName} {bytes cc : ByteArray} {maxL nL mc ms n index pc : Nat} {wsc : List Cond} {rm : Room} {Ts : List Cond} {own : String} {b : Addr} {As rest st0 : List Value} {ls : Array Slot}
variable {D : va_G} {ky : Nat → ClassId} {A : Nat → Prop} {w0 wr : va_W} {B : (Nat → Prop) → Heap → Prop}
theorem ciR_n (S : CallFix p m c cc nL s args Ts own) (hM : MtN l D ky y wsc rm (.ref b :: As) w0 B mc ms) (cw : CallB R s args own index y bytes maxL none wsc rm mc ms n ∧ y.name = "<init>" ∧ (Cond.instanceMethod y).before args s = true) (hP : va_P D vwCl (wr ++ w0) H) (hD : va_D A (wr ++ w0)) (hK : Kx D ky s) (hO : AOx s) (hS : va_S A s.heap H locs) (hA : ∀ q : Nat, s.heap.size ≤ q → A q) (hst : st0 = As.reverse ++ .ref b :: rest) (hlen : As.length = n) (hsize : ls.size = nL) (hW : (rest.map fun v => v.category).sum ≤ 8) (hdg : decode cc pc = .ok (.invokespecial index, 3)) (hf : cells + mc ≤ R.cells ∧ slots + ms ≤ R.slots)
    (kk : ∀ (H1 : Heap) (locs1 : List Loc), B (va_A w0 H.size) H1 → (∀ w1 : va_W, va_P D vwCl w1 H1 → va_D (va_A w0 H.size) w1 → va_P D vwCl (wr ++ w1) H1 ∧ va_D A (wr ++ w1)) → va_S A s.heap H1 locs1 → W p l e R s m args below meth c H1 locs1 (cells + mc) (slots + ms) Q (F0 m (pc + 3) ls rest)) : W p l e R s m args below meth c H locs cells slots Q (F0 m pc ls st0) := by
  subst hst
  have hF : ∀ q, va_A w0 H.size q → A q := by
    intro q h
    rcases h with ⟨k, e, h⟩ | h
    · exact (D_right hD).2 k (q, e) h
    · exact hA q (Nat.le_trans hS.1 h)
  refine va_callv (va_runI (As := As) (rest := rest) S (hM H.size) cw ⟨preN_blind, fun U hU hW => ⟨rfl, by rw [hU], by rw [hU]; exact P_right hP, hK.warm hW, ⟨va_AO.moved hW.alike hO.1, va_AO.moved hW.alike hO.2⟩, (D_right hD).weaken (fun _ _ _ _ => trivial)⟩⟩ rfl hlen hsize rfl (lv_room hW) hdg hf) hS (fun q _ h => hF q h) hF (fun u t H1 locs1 ht hvm hw hB hz hk hS1 => ?_)
  exact kk H1 locs1 (by rw [← ht]; exact hB) (fun w1 a1 a2 => join_right hP hD hk hF a1 a2) hS1
end CALLR
