/-! a contract over a larger world: what the method doesn't know of stays -/
section BIG
variable {l : Launch} {D : va_G} {ky : Nat → ClassId} {y : MethodName} {ws : List Cond} {rm : Room} {avs : List Value} {w0 w1 wb wr wn : va_W} {mc ms : Nat}
theorem A_sub {sz : Nat} (isC : List Nat) (hC : isC.map (fun i => wb[i]?) = w0.map some) : ∀ q : Nat, va_A w0 sz q → va_A wb sz q := by
  intro q h
  rcases h with ⟨k, e, h⟩ | h
  · have h1 : (isC.map (fun i => wb[i]?))[k]? = some (some (q, e)) := by rw [hC, List.getElem?_map, h]; rfl
    rw [List.getElem?_map] at h1
    cases hi : isC[k]? with
    | none => rw [hi] at h1; cases h1
    | some i => rw [hi] at h1; exact Or.inl ⟨i, e, Option.some.inj h1⟩
  · exact Or.inr h
theorem MtI.big {r : Int32} (hM : MtI l D ky y ws rm avs w0 w1 r mc ms) (isC isR isN : List Nat) (hC : isC.map (fun i => wb[i]?) = w0.map some) (hnC : va_nd isC = true) (hR : isR.map (fun i => wb[i]?) = wr.map some) (hn : va_nd isR = true) (hdis : ∀ i ∈ isR, i ∉ isC) (hnN : va_nd isN = true) (hN : isN.map (fun i => (wr ++ w1)[i]?) = wn.map some) : MtI l D ky y ws rm avs wb wn r mc ms := by
  intro sz p e ha hc hk s m args below hf happ hP hKK
  obtain ⟨q0, hsz, hPb, hKx, hDb⟩ := hP
  subst hsz
  obtain ⟨n, o, h1, h2, h3, ⟨⟨⟨r', u, e1, e2, hP1, hD1⟩, hF⟩, L, hL1, hL2⟩⟩ := hM s.heap.size p e ha hc hk s m args below hf happ ⟨q0, rfl, P_map hPb isC hC, hKx, hDb.sub isC hnC hC⟩ hKK
  have hsub := A_sub (sz := s.heap.size) isC hC
  obtain ⟨a1, a2⟩ := va_join hPb (hDb.self (sz := s.heap.size)) isC isR hC hR hn hdis hF.2 hsub hP1 hD1
  exact ⟨n, o, h1, h2, h3, ⟨⟨⟨r', u, e1, e2, P_map a1 isN hN, a2.sub isN hnN hN⟩, hF.1, fun q hq hnA => hF.2 q hq (fun z => hnA (hsub q z))⟩, L, hL1, fun q hq => hsub _ (hL2 q hq)⟩⟩
theorem MtL.big {r : Int64} (hM : MtL l D ky y ws rm avs w0 w1 r mc ms) (isC isR isN : List Nat) (hC : isC.map (fun i => wb[i]?) = w0.map some) (hnC : va_nd isC = true) (hR : isR.map (fun i => wb[i]?) = wr.map some) (hn : va_nd isR = true) (hdis : ∀ i ∈ isR, i ∉ isC) (hnN : va_nd isN = true) (hN : isN.map (fun i => (wr ++ w1)[i]?) = wn.map some) : MtL l D ky y ws rm avs wb wn r mc ms := by
  intro sz p e ha hc hk s m args below hf happ hP hKK
  obtain ⟨q0, hsz, hPb, hKx, hDb⟩ := hP
  subst hsz
  obtain ⟨n, o, h1, h2, h3, ⟨⟨⟨r', u, e1, e2, hP1, hD1⟩, hF⟩, L, hL1, hL2⟩⟩ := hM s.heap.size p e ha hc hk s m args below hf happ ⟨q0, rfl, P_map hPb isC hC, hKx, hDb.sub isC hnC hC⟩ hKK
  have hsub := A_sub (sz := s.heap.size) isC hC
  obtain ⟨a1, a2⟩ := va_join hPb (hDb.self (sz := s.heap.size)) isC isR hC hR hn hdis hF.2 hsub hP1 hD1
  exact ⟨n, o, h1, h2, h3, ⟨⟨⟨r', u, e1, e2, P_map a1 isN hN, a2.sub isN hnN hN⟩, hF.1, fun q hq hnA => hF.2 q hq (fun z => hnA (hsub q z))⟩, L, hL1, fun q hq => hsub _ (hL2 q hq)⟩⟩
end BIG
