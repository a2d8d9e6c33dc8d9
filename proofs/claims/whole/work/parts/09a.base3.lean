/-- constructors: what their world is behind them, its new addresses under 'there are' -/
abbrev AOx (U : State) : Prop := va_AO RX1 U ∧ va_AO RX10 U
abbrev preN (D : va_G) (ky : Nat → ClassId) (avs : List Value) (w0 : va_W) (sz : Nat) : Array Value → State → Prop := va_Pc avs (fun U => U.heap.size = sz ∧ va_P D vwCl w0 U.heap ∧ Kx D ky U ∧ AOx U ∧ va_D (fun _ => True) w0)
def MtN (l : Launch) (D : va_G) (ky : Nat → ClassId) (y : MethodName) (ws : List Cond) (rm : Room) (avs : List Value) (w0 : va_W) (B : (Nat → Prop) → Heap → Prop) (mc ms : Nat) : Prop := ∀ sz : Nat, Met l y ws rm (preN D ky avs w0 sz) (va_Qv (fun (_ : Unit) => True) (fun (_ : Unit) (t : State) => B (va_A w0 sz) t.heap) (va_A w0 sz)) mc ms (va_A w0 sz)
theorem preN_blind {D : va_G} {ky : Nat → ClassId} {avs : List Value} {w0 : va_W} {sz : Nat} : FrameBlind (preN D ky avs w0 sz) := fun a U g mk q => by
  obtain ⟨q0, q1, qP, qK, qO, qD⟩ := q
  exact ⟨q0, q1, qP, qK.calling, ⟨va_AO.moved (u := U) (U := U.calling g mk a) (Vm.Alike.refl U.vm) qO.1, va_AO.moved (u := U) (U := U.calling g mk a) (Vm.Alike.refl U.vm) qO.2⟩, qD⟩
theorem kp4_of (a b c d : Nat) : va_up (va_up (va_up (va_up (fun _ => none) (0 : Int32).toNatClampNeg (some a)) (1 : Int32).toNatClampNeg (some b)) (2 : Int32).toNatClampNeg (some c)) (3 : Int32).toNatClampNeg (some d) = kp4 a b c d := by
  funext i
  rw [show (3 : Int32).toNatClampNeg = 3 by decide, show (2 : Int32).toNatClampNeg = 2 by decide, show (1 : Int32).toNatClampNeg = 1 by decide, show (0 : Int32).toNatClampNeg = 0 by decide]
  unfold va_up kp4
  rcases (show i = 0 ∨ i = 1 ∨ i = 2 ∨ i = 3 ∨ 4 ≤ i by omega) with rfl | rfl | rfl | rfl | h
  · rfl
  · rfl
  · rfl
  · rfl
  · rw [if_neg (by omega), if_neg (by omega), if_neg (by omega), if_neg (by omega), if_neg (by omega), if_neg (by omega), if_neg (by omega), if_neg (by omega)]
section OFN
variable {l : Launch} {D : va_G} {ky : Nat → ClassId} {y : MethodName} {ws ws' : List Cond} {rm : Room} {avs : List Value} {w0 : va_W} {B : (Nat → Prop) → Heap → Prop} {mc ms : Nat} {cc : ByteArray} {maxL : Nat}
theorem MtN.of (hy : plainName y.cls = true) (hw : ws = Cond.code y cc maxL none :: ws') (hlen : (lg_sl avs).length ≤ maxL)
    (body : ∀ (p : Program) (e : Env) (R : Room) (s : State) (m : MethodId) (args : Array Value) (below : List Frame) (meth : Method) (c : Code) (A : Nat → Prop) (Q : State → Prop) (ls : Array Slot), R = rm → p.tables.exec = Jvm.exec → c.code = cc → (∀ w ∈ ws, w.before args s = true) → s.vm.findClass y.cls = some m.cls → meth.name = y.name → c.maxLocals = maxL → va_P D vwCl w0 s.heap → Kx D ky s → AOx s → va_D A w0 → (∀ q : Nat, s.heap.size ≤ q → A q) →
      (∀ (H : Heap) (locs : List Loc) (pc : Nat) (ls : Array Slot), decode cc pc = .ok (.return_, 1) → B A H → va_S A s.heap H locs → W p l e R s m args below meth c H locs mc ms Q (F0 m pc ls [])) → lv_has ls maxL (lv_args 0 avs) → W p l e R s m args below meth c s.heap [] 0 0 Q (F0 m 0 ls [])) : MtN l D ky y ws rm avs w0 B mc ms := by
  intro sz
  refine Met.ofW (cc := cc) (maxL := maxL) (ret := none) hy hw ?_
  intro p e s m args below meth c s₁ Bd hml hv
  obtain ⟨rfl, hsz, hP, hK, hO, hD0⟩ := hv
  subst hsz
  have hl := lv_entry avs (n := maxL) hlen
  rw [lg_entry_eq]
  refine body p e _ s m _ below meth c (va_A w0 s.heap.size) _ _ rfl Bd.exec Bd.bytes (atoms_spec (ws := ws) Bd.pre) (findClass_of_methodNamed Bd.named) (name_of_methodNamed Bd.named Bd.method).1 hml hP hK hO (hD0.self (sz := s.heap.size)) (fun q h => Or.inr h) (fun H locs pc ls hd a1 a3 => ?_) hl
  exact W.vret Bd.exec Bd.bytes Bd.returns (fun t ht hW => ⟨⟨(), rfl, trivial, by show B _ t.heap; rw [ht]; exact a1⟩, a3.F ht⟩) a3.2.2 hd Bd.notSynchronized
end OFN
section CALLN
variable {p : Program} {l : Launch} {e : Env} {R : Room} {s : State} {m : MethodId} {args : Array Value} {below : List Frame} {meth : Method} {c : Code} {H : Heap} {locs : List Loc} {cells slots : Nat} {Q : State → Prop}
variable {y : MethodName} {bytes cc : ByteArray} {maxL nL mc ms n index pc : Nat} {wsc : List Cond} {rm : Room} {Ts : List Cond} {own host : String} {b : Addr} {As rest st0 : List Value} {ls : Array Slot}
variable {D : va_G} {ky : Nat → ClassId} {A : Nat → Prop} {ws w0 wr : va_W} {B : (Nat → Prop) → Heap → Prop}
theorem preN_V (hP : va_P D vwCl ws H) (hD : va_D A ws) (hK : Kx D ky s) (hO : AOx s) (isC : List Nat) (hC : isC.map (fun i => ws[i]?) = w0.map some) (hnC : va_nd isC = true) {av : List Value} : ∀ U : State, U.heap = H → s.WarmedH U.vm → preN D ky av w0 H.size av.toArray U := by
  intro U hU hW
  exact ⟨rfl, by rw [hU], by rw [hU]; exact P_map hP isC hC, hK.warm hW, ⟨va_AO.moved hW.alike hO.1, va_AO.moved hW.alike hO.2⟩, (hD.sub isC hnC hC).weaken (fun _ _ _ _ => trivial)⟩
theorem ci_n (S : CallFix p m c cc nL s args Ts own) (hM : MtN l D ky y wsc rm (.ref b :: As) w0 B mc ms) (cw : CallB R s args own index y bytes maxL none wsc rm mc ms n ∧ y.name = "<init>" ∧ (Cond.instanceMethod y).before args s = true) (hP : va_P D vwCl ws H) (hD : va_D A ws) (hK : Kx D ky s) (hO : AOx s) (hS : va_S A s.heap H locs) (hA : ∀ q : Nat, s.heap.size ≤ q → A q) (isC isR : List Nat) (hC : isC.map (fun i => ws[i]?) = w0.map some) (hnC : va_nd isC = true) (hR : isR.map (fun i => ws[i]?) = wr.map some) (hn : va_nd isR = true) (hdis : ∀ i ∈ isR, i ∉ isC) (hst : st0 = As.reverse ++ .ref b :: rest) (hlen : As.length = n) (hsize : ls.size = nL) (hW : (rest.map fun v => v.category).sum ≤ 8) (hdg : decode cc pc = .ok (.invokespecial index, 3)) (hf : cells + mc ≤ R.cells ∧ slots + ms ≤ R.slots)
    (kk : ∀ (H1 : Heap) (locs1 : List Loc), B (va_A w0 H.size) H1 → (∀ w1 : va_W, va_P D vwCl w1 H1 → va_D (va_A w0 H.size) w1 → va_P D vwCl (wr ++ w1) H1 ∧ va_D A (wr ++ w1)) → va_S A s.heap H1 locs1 → W p l e R s m args below meth c H1 locs1 (cells + mc) (slots + ms) Q (F0 m (pc + 3) ls rest)) : W p l e R s m args below meth c H locs cells slots Q (F0 m pc ls st0) := by
  subst hst
  have hF := va_free (wc := w0) hD hS hA isC hC
  refine va_callv (va_runI (As := As) (rest := rest) S (hM H.size) cw ⟨preN_blind, preN_V hP hD hK hO isC hC hnC⟩ rfl hlen hsize rfl (lv_room hW) hdg hf) hS (fun q _ h => hF q h) hF (fun u t H1 locs1 ht hvm hw hB hz hk hS1 => ?_)
  exact kk H1 locs1 (by rw [← ht]; exact hB) (fun w1 a1 a2 => va_join hP hD isC isR hC hR hn hdis hk hF a1 a2) hS1
theorem ci_nN (S : CallFix p m c cc nL s args Ts own) (hM : MtN l D ky y wsc rm (.ref b :: As) w0 B mc ms) (cw : va_CN R s args own index y host bytes maxL none wsc rm mc ms n ∧ y.name = "<init>" ∧ (Cond.instanceMethod y).before args s = true) (hP : va_P D vwCl ws H) (hD : va_D A ws) (hK : Kx D ky s) (hO : AOx s) (hS : va_S A s.heap H locs) (hA : ∀ q : Nat, s.heap.size ≤ q → A q) (isC isR : List Nat) (hC : isC.map (fun i => ws[i]?) = w0.map some) (hnC : va_nd isC = true) (hR : isR.map (fun i => ws[i]?) = wr.map some) (hn : va_nd isR = true) (hdis : ∀ i ∈ isR, i ∉ isC) (hst : st0 = As.reverse ++ .ref b :: rest) (hlen : As.length = n) (hsize : ls.size = nL) (hW : (rest.map fun v => v.category).sum ≤ 8) (hdg : decode cc pc = .ok (.invokespecial index, 3)) (hf : cells + mc ≤ R.cells ∧ slots + ms ≤ R.slots)
    (kk : ∀ (H1 : Heap) (locs1 : List Loc), B (va_A w0 H.size) H1 → (∀ w1 : va_W, va_P D vwCl w1 H1 → va_D (va_A w0 H.size) w1 → va_P D vwCl (wr ++ w1) H1 ∧ va_D A (wr ++ w1)) → va_S A s.heap H1 locs1 → W p l e R s m args below meth c H1 locs1 (cells + mc) (slots + ms) Q (F0 m (pc + 3) ls rest)) : W p l e R s m args below meth c H locs cells slots Q (F0 m pc ls st0) := by
  subst hst
  have hF := va_free (wc := w0) hD hS hA isC hC
  refine va_callv (va_runIN (As := As) (rest := rest) S (hM H.size) cw ⟨preN_blind, preN_V hP hD hK hO isC hC hnC⟩ rfl hlen hsize rfl (lv_room hW) hdg hf) hS (fun q _ h => hF q h) hF (fun u t H1 locs1 ht hvm hw hB hz hk hS1 => ?_)
  exact kk H1 locs1 (by rw [← ht]; exact hB) (fun w1 a1 a2 => va_join hP hD isC isR hC hR hn hdis hk hF a1 a2) hS1
theorem r_newq3 (hexec : p.tables.exec = Jvm.exec) (hb : c.code = cc) (hown : s.vm.findClass own = some m.cls) (hclink : (Cond.classLink own index RX1).before args s = true) (hover : va_AO RX1 s) (hK : Kx D ky s) (hP : va_P D vwCl ws H) (hD : va_D A ws) (hS : va_S A s.heap H locs) (hA : ∀ q : Nat, s.heap.size ≤ q → A q) {k : Int32} (hn : ¬ k < 0) (hN : k.toNatClampNeg = 4) (hcells : cells + 1 ≤ R.cells) (hslots : slots + 4 ≤ R.slots) (hdg : decode cc pc = .ok (.anewarray index, 3))
    (kk : ∀ (q : Nat) (H1 : Heap), va_P D vwCl (ws ++ [(q, .inl (ky 3, 4, .inr (.inr (.inr (.inr (fun _ => none))))))]) H1 → va_D A (ws ++ [(q, .inl (ky 3, 4, .inr (.inr (.inr (.inr (fun _ => none))))))]) → va_S A s.heap H1 locs → W p l e R s m args below meth c H1 locs (cells + 1) (slots + 4) Q (F0 m (pc + 3) ls (.ref q :: rest))) : W p l e R s m args below meth c H locs cells slots Q (F0 m pc ls (.int k :: rest)) := by
  refine va_newq hexec hb hown hclink hover hK.1 hP hD hS hA hn hN (by decide) hcells hslots hdg (fun q cA H1 hK1 hP1 hD1 hS1 => ?_)
  obtain ⟨-, -, -, -, -, e1⟩ := (hK1.2 5 (cA, .object RX1) rfl).2
  obtain ⟨-, -, -, -, -, e2⟩ := (hK.1.2 3 (ky 3, .object RX1) rfl).2
  have e3 : cA = ky 3 := Option.some.inj (e1.symm.trans e2)
  rw [e3] at hP1 hD1
  exact kk q H1 hP1 hD1 hS1
theorem r_newq4 (hexec : p.tables.exec = Jvm.exec) (hb : c.code = cc) (hown : s.vm.findClass own = some m.cls) (hclink : (Cond.classLink own index RX10).before args s = true) (hover : va_AO RX10 s) (hK : Kx D ky s) (hP : va_P D vwCl ws H) (hD : va_D A ws) (hS : va_S A s.heap H locs) (hA : ∀ q : Nat, s.heap.size ≤ q → A q) {k : Int32} (hn : ¬ k < 0) (hN : k.toNatClampNeg = 4) (hcells : cells + 1 ≤ R.cells) (hslots : slots + 4 ≤ R.slots) (hdg : decode cc pc = .ok (.anewarray index, 3))
    (kk : ∀ (q : Nat) (H1 : Heap), va_P D vwCl (ws ++ [(q, .inl (ky 4, 4, .inr (.inr (.inr (.inr (fun _ => none))))))]) H1 → va_D A (ws ++ [(q, .inl (ky 4, 4, .inr (.inr (.inr (.inr (fun _ => none))))))]) → va_S A s.heap H1 locs → W p l e R s m args below meth c H1 locs (cells + 1) (slots + 4) Q (F0 m (pc + 3) ls (.ref q :: rest))) : W p l e R s m args below meth c H locs cells slots Q (F0 m pc ls (.int k :: rest)) := by
  refine va_newq hexec hb hown hclink hover hK.1 hP hD hS hA hn hN (by decide) hcells hslots hdg (fun q cA H1 hK1 hP1 hD1 hS1 => ?_)
  obtain ⟨-, -, -, -, -, e1⟩ := (hK1.2 5 (cA, .object RX10) rfl).2
  obtain ⟨-, -, -, -, -, e2⟩ := (hK.1.2 4 (ky 4, .object RX10) rfl).2
  have e3 : cA = ky 4 := Option.some.inj (e1.symm.trans e2)
  rw [e3] at hP1 hD1
  exact kk q H1 hP1 hD1 hS1
end CALLN
