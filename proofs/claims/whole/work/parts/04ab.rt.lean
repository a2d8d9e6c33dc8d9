theorem rtI {τ : Type} {p : Program} {l : Launch} {e : Env} {R : Room} {s : State} {m : MethodId} {args : Array Value} {below : List Frame} {meth : Method} {c : Code} {A : Nat → Prop} {Q : State → Prop} {D : va_G} {mc ms : Nat} {dc : Nat → Prop} (o : τ) (w : τ → va_W) (r : τ → Int32) (ret : ∀ (H : Heap) (locs : List Loc) (pc : Nat) (ls : Array Slot), dc pc → va_P D vwCl (w o) H → va_D A (w o) → va_S A s.heap H locs → W p l e R s m args below meth c H locs mc ms Q (F0 m pc ls [.int (r o)])) : ∀ t : τ, some t = some o → ∀ (H : Heap) (locs : List Loc) (pc : Nat) (ls : Array Slot), dc pc → va_P D vwCl (w t) H → va_D A (w t) → va_S A s.heap H locs → W p l e R s m args below meth c H locs mc ms Q (F0 m pc ls [.int (r t)]) := by
  intro t h
  cases h
  exact ret
theorem rtL {τ : Type} {p : Program} {l : Launch} {e : Env} {R : Room} {s : State} {m : MethodId} {args : Array Value} {below : List Frame} {meth : Method} {c : Code} {A : Nat → Prop} {Q : State → Prop} {D : va_G} {mc ms : Nat} {dc : Nat → Prop} (o : τ) (w : τ → va_W) (r : τ → Int64) (ret : ∀ (H : Heap) (locs : List Loc) (pc : Nat) (ls : Array Slot), dc pc → va_P D vwCl (w o) H → va_D A (w o) → va_S A s.heap H locs → W p l e R s m args below meth c H locs mc ms Q (F0 m pc ls [.long (r o)])) : ∀ t : τ, some t = some o → ∀ (H : Heap) (locs : List Loc) (pc : Nat) (ls : Array Slot), dc pc → va_P D vwCl (w t) H → va_D A (w t) → va_S A s.heap H locs → W p l e R s m args below meth c H locs mc ms Q (F0 m pc ls [.long (r t)]) := by
  intro t h
  cases h
  exact ret
theorem rtV {τ : Type} {p : Program} {l : Launch} {e : Env} {R : Room} {s : State} {m : MethodId} {args : Array Value} {below : List Frame} {meth : Method} {c : Code} {A : Nat → Prop} {Q : State → Prop} {D : va_G} {mc ms : Nat} {dc : Nat → Prop} (o : τ) (w : τ → va_W) (ret : ∀ (H : Heap) (locs : List Loc) (pc : Nat) (ls : Array Slot), dc pc → va_P D vwCl (w o) H → va_D A (w o) → va_S A s.heap H locs → W p l e R s m args below meth c H locs mc ms Q (F0 m pc ls [])) : ∀ t : τ, some t = some o → ∀ (H : Heap) (locs : List Loc) (pc : Nat) (ls : Array Slot), dc pc → va_P D vwCl (w t) H → va_D A (w t) → va_S A s.heap H locs → W p l e R s m args below meth c H locs mc ms Q (F0 m pc ls []) := by
  intro t h
  cases h
  exact ret
