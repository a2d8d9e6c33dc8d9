/-! a contract over a larger world: what the method doesn't know of stays -/
section BIG
variable {l : Launch} {D : va_G} {ky : Nat → ClassId} {y : MethodName} {ws : List Cond} {rm : Room} {avs : List Value} {w0 w1 wb wr wn : va_W} {mc ms : Nat}
theorem A_sub {sz : Nat} (isC : List Nat) (hC : isC.map (fun i => wb[i]?) = w0.map some) : ∀ q : Nat, va_A w0 sz q → va_A wb sz q := by sorry
theorem MtI.big {r : Int32} (hM : MtI l D ky y ws rm avs w0 w1 r mc ms) (isC isR isN : List Nat) (hC : isC.map (fun i => wb[i]?) = w0.map some) (hnC : va_nd isC = true) (hR : isR.map (fun i => wb[i]?) = wr.map some) (hn : va_nd isR = true) (hdis : ∀ i ∈ isR, i ∉ isC) (hnN : va_nd isN = true) (hN : isN.map (fun i => (wr ++ w1)[i]?) = wn.map some) : MtI l D ky y ws rm avs wb wn r mc ms := by sorry
theorem MtL.big {r : Int64} (hM : MtL l D ky y ws rm avs w0 w1 r mc ms) (isC isR isN : List Nat) (hC : isC.map (fun i => wb[i]?) = w0.map some) (hnC : va_nd isC = true) (hR : isR.map (fun i => wb[i]?) = wr.map some) (hn : va_nd isR = true) (hdis : ∀ i ∈ isR, i ∉ isC) (hnN : va_nd isN = true) (hN : isN.map (fun i => (wr ++ w1)[i]?) = wn.map some) : MtL l D ky y ws rm avs wb wn r mc ms := by sorry
end BIG
