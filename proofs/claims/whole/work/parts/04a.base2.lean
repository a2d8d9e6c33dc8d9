/-- the four kept drawings' addresses, as the array holds them -/
def kp4 (a b c d : Nat) : Nat → Option Nat := fun i => if i = 0 then some a else if i = 1 then some b else if i = 2 then some c else if i = 3 then some d else none
section NEWS
variable {p : Program} {l : Launch} {e : Env} {R : Room} {s : State} {m : MethodId} {args : Array Value} {below : List Frame} {meth : Method} {c : Code} {H : Heap} {locs : List Loc} {cells slots : Nat} {Q : State → Prop}
variable {cc : ByteArray} {pc : Nat} {ls : Array Slot} {rest : List Value} {D : va_G} {ky : Nat → ClassId} {A : Nat → Prop} {ws : va_W}
/-- new arrays, of the one class that all arrays of their kind have -/
theorem r_newz (hexec : p.tables.exec = Jvm.exec) (hb : c.code = cc) (harr : (Cond.arrayClass .boolean).before args s = true) (hK : Kx D ky s) (hP : va_P D vwCl ws H) (hD : va_D A ws) (hS : va_S A s.heap H locs) (hA : ∀ q : Nat, s.heap.size ≤ q → A q) {n : Int32} {N' : Nat} {f : Nat → Int32} (hf : f = fun _ => 0) (hn : ¬ n < 0) (hN : n.toNatClampNeg = N') (hbytes : N' * componentBytes .boolean ≤ 536870912) (hcells : cells + 1 ≤ R.cells) (hslots : slots + N' ≤ R.slots) (hdg : decode cc pc = .ok (.newarray .boolean, 2))
    (kk : ∀ (q : Nat) (H1 : Heap), va_P D vwCl (ws ++ [(q, .inl (ky 2, N', .inl f))]) H1 → va_D A (ws ++ [(q, .inl (ky 2, N', .inl f))]) → va_S A s.heap H1 locs → W p l e R s m args below meth c H1 locs (cells + 1) (slots + N') Q (F0 m (pc + 2) ls (.ref q :: rest))) : W p l e R s m args below meth c H locs cells slots Q (F0 m pc ls (.int n :: rest)) := by
  subst hf
  refine va_newa hexec hb (atype := .boolean) harr rfl hK.1 hP hD hS hA (a0 := (N', .inl (fun _ => 0))) (fun cA => rfl) hn hN hbytes hcells hslots hdg (fun q cA H1 hK1 hP1 hD1 hS1 => ?_)
  have e1 : s.vm.findClass _ = some cA := (hK1.2 5 (cA, .boolean) rfl).2
  have e2 : s.vm.findClass _ = some (ky 2) := (hK.1.2 2 (ky 2, .boolean) rfl).2
  have e3 : cA = ky 2 := Option.some.inj (e1.symm.trans e2)
  rw [e3] at hP1 hD1
  exact kk q H1 hP1 hD1 hS1
theorem r_newi (hexec : p.tables.exec = Jvm.exec) (hb : c.code = cc) (harr : (Cond.arrayClass .int).before args s = true) (hK : Kx D ky s) (hP : va_P D vwCl ws H) (hD : va_D A ws) (hS : va_S A s.heap H locs) (hA : ∀ q : Nat, s.heap.size ≤ q → A q) {n : Int32} {N' : Nat} {f : Nat → Int32} (hf : f = fun _ => 0) (hn : ¬ n < 0) (hN : n.toNatClampNeg = N') (hbytes : N' * componentBytes .int ≤ 536870912) (hcells : cells + 1 ≤ R.cells) (hslots : slots + N' ≤ R.slots) (hdg : decode cc pc = .ok (.newarray .int, 2))
    (kk : ∀ (q : Nat) (H1 : Heap), va_P D vwCl (ws ++ [(q, .inl (ky 0, N', .inl f))]) H1 → va_D A (ws ++ [(q, .inl (ky 0, N', .inl f))]) → va_S A s.heap H1 locs → W p l e R s m args below meth c H1 locs (cells + 1) (slots + N') Q (F0 m (pc + 2) ls (.ref q :: rest))) : W p l e R s m args below meth c H locs cells slots Q (F0 m pc ls (.int n :: rest)) := by
  subst hf
  refine va_newa hexec hb (atype := .int) harr rfl hK.1 hP hD hS hA (a0 := (N', .inl (fun _ => 0))) (fun cA => rfl) hn hN hbytes hcells hslots hdg (fun q cA H1 hK1 hP1 hD1 hS1 => ?_)
  have e1 : s.vm.findClass _ = some cA := (hK1.2 5 (cA, .int) rfl).2
  have e2 : s.vm.findClass _ = some (ky 0) := (hK.1.2 0 (ky 0, .int) rfl).2
  have e3 : cA = ky 0 := Option.some.inj (e1.symm.trans e2)
  rw [e3] at hP1 hD1
  exact kk q H1 hP1 hD1 hS1
theorem r_newl (hexec : p.tables.exec = Jvm.exec) (hb : c.code = cc) (harr : (Cond.arrayClass .long).before args s = true) (hK : Kx D ky s) (hP : va_P D vwCl ws H) (hD : va_D A ws) (hS : va_S A s.heap H locs) (hA : ∀ q : Nat, s.heap.size ≤ q → A q) {n : Int32} {N' : Nat} {f : Nat → Int64} (hf : f = fun _ => 0) (hn : ¬ n < 0) (hN : n.toNatClampNeg = N') (hbytes : N' * componentBytes .long ≤ 536870912) (hcells : cells + 1 ≤ R.cells) (hslots : slots + N' ≤ R.slots) (hdg : decode cc pc = .ok (.newarray .long, 2))
    (kk : ∀ (q : Nat) (H1 : Heap), va_P D vwCl (ws ++ [(q, .inl (ky 1, N', .inr (.inl f)))]) H1 → va_D A (ws ++ [(q, .inl (ky 1, N', .inr (.inl f)))]) → va_S A s.heap H1 locs → W p l e R s m args below meth c H1 locs (cells + 1) (slots + N') Q (F0 m (pc + 2) ls (.ref q :: rest))) : W p l e R s m args below meth c H locs cells slots Q (F0 m pc ls (.int n :: rest)) := by
  subst hf
  refine va_newa hexec hb (atype := .long) harr rfl hK.1 hP hD hS hA (a0 := (N', .inr (.inl (fun _ => 0)))) (fun cA => rfl) hn hN hbytes hcells hslots hdg (fun q cA H1 hK1 hP1 hD1 hS1 => ?_)
  have e1 : s.vm.findClass _ = some cA := (hK1.2 5 (cA, .long) rfl).2
  have e2 : s.vm.findClass _ = some (ky 1) := (hK.1.2 1 (ky 1, .long) rfl).2
  have e3 : cA = ky 1 := Option.some.inj (e1.symm.trans e2)
  rw [e3] at hP1 hD1
  exact kk q H1 hP1 hD1 hS1
end NEWS
section OFS2
variable {l : Launch} {D : va_G} {ky : Nat → ClassId} {y : MethodName} {ws ws' : List Cond} {rm : Room} {avs : List Value} {w0 w1 : va_W} {mc ms : Nat} {cc : ByteArray} {maxL : Nat}
theorem MtL.ofF {r : Int64} (hy : plainFor y = true) (hw : ws = Cond.code y cc maxL (some .long) :: ws') (hlen : (lg_sl avs).length ≤ maxL)
    (body : ∀ (p : Program) (e : Env) (R : Room) (s : State) (m : MethodId) (args : Array Value) (below : List Frame) (meth : Method) (c : Code) (A : Nat → Prop) (Q : State → Prop) (ls : Array Slot), R = rm → p.tables.exec = Jvm.exec → c.code = cc → (∀ w ∈ ws, w.before args s = true) → s.vm.findClass y.cls = some m.cls → meth.name = y.name → c.maxLocals = maxL → va_P D vwCl w0 s.heap → Kx D ky s → va_D A w0 → (∀ q : Nat, s.heap.size ≤ q → A q) →
      (∀ (H : Heap) (locs : List Loc) (pc : Nat) (ls : Array Slot), decode cc pc = .ok (.lreturn, 1) → va_P D vwCl w1 H → va_D A w1 → va_S A s.heap H locs → W p l e R s m args below meth c H locs mc ms Q (F0 m pc ls [.long r])) → lv_has ls maxL (lv_args 0 avs) → W p l e R s m args below meth c s.heap [] 0 0 Q (F0 m 0 ls [])) : MtL l D ky y ws rm avs w0 w1 r mc ms := by
  intro sz
  refine va_MetF (cc := cc) (maxL := maxL) (ret := some .long) hy hw ?_
  intro p e s m args below meth c s₁ B hml hv
  obtain ⟨rfl, hsz, hP, hK, hD0⟩ := hv
  subst hsz
  have hl := lv_entry avs (n := maxL) hlen
  rw [lg_entry_eq]
  refine body p e _ s m _ below meth c (va_A w0 s.heap.size) _ _ rfl B.exec B.bytes (atoms_spec (ws := ws) B.pre) (findClass_of_methodNamed B.named) (name_of_methodNamed B.named B.method).1 hml hP hK (hD0.self (sz := s.heap.size)) (fun q h => Or.inr h) (fun H locs pc ls hd a1 a2 a3 => ?_) hl
  exact W.lret (v := r) B.exec B.bytes B.returns (fun t ht hW => ⟨⟨r, (), rfl, rfl, by rw [ht]; exact a1, a2⟩, a3.F ht⟩) a3.2.2 hd B.notSynchronized
end OFS2
