theorem de_drop {l : List UInt8} {p : Nat} {x : UInt8} {r : List UInt8} (h : l.drop p = x :: r) : l.drop (p + 1) = r := by
  rw [← List.drop_drop, h]; rfl
theorem u1_at {c : ByteArray} {p : Nat} {x : UInt8} {r : List UInt8} (h : c.data.toList.drop p = x :: r) : (Reader.u1 (ε := DecodeError)) c p = .ok (x.toNat, p + 1) := by
  have h1 : c.data.toList[p]? = some x := by
    have := congrArg (fun l => l[0]?) h
    simpa [List.getElem?_drop] using this
  have hp : p < c.size := by
    have := (List.getElem?_eq_some_iff.mp h1).1
    simpa using this
  have hx : c[p] = x := by
    obtain ⟨h2, h3⟩ := List.getElem?_eq_some_iff.mp h1
    rw [← h3]; rfl
  show (if h : p < c.size then ((do set (p + 1); pure c[p].toNat : Reader DecodeError Nat)) else throw (HasTruncated.truncated p)) c p = _
  rw [dif_pos hp, hx]
  rfl
theorem s1_at {c : ByteArray} {p : Nat} {x : UInt8} {r : List UInt8} (h : c.data.toList.drop p = x :: r) : (Reader.s1 (ε := DecodeError)) c p = .ok (Reader.signed 8 x.toNat, p + 1) := by
  show Except.bind (Reader.u1 c p) _ = _
  rw [u1_at h]
  rfl
theorem u2_at {c : ByteArray} {p : Nat} {x y : UInt8} {r : List UInt8} (h : c.data.toList.drop p = x :: y :: r) : (Reader.u2 (ε := DecodeError)) c p = .ok (x.toNat * 256 + y.toNat, p + 1 + 1) := by
  show Except.bind (Reader.u1 c p) _ = _
  rw [u1_at h]
  show Except.bind (Reader.u1 c (p + 1)) _ = _
  rw [u1_at (de_drop h)]
  rfl
theorem s2_at {c : ByteArray} {p : Nat} {x y : UInt8} {r : List UInt8} (h : c.data.toList.drop p = x :: y :: r) : (Reader.s2 (ε := DecodeError)) c p = .ok (Reader.signed 16 (x.toNat * 256 + y.toNat), p + 1 + 1) := by
  show Except.bind (Reader.u2 c p) _ = _
  rw [u2_at h]
  rfl
noncomputable def dropK (p : Nat) (l : List UInt8) : List UInt8 := Nat.rec l (fun _ ih => ih.tail) p
theorem dropK_eq (p : Nat) (l : List UInt8) : dropK p l = l.drop p := by
  induction p with
  | zero => rfl
  | succ p ih =>
    show (dropK p l).tail = _
    rw [ih, List.tail_drop]
noncomputable def ck_ (c : ByteArray) (p o : Nat) : Bool := match dropK p c.data.toList with
  | x :: _ => Nat.beq x.toNat o
  | [] => false
noncomputable def ck_u1 (c : ByteArray) (p o n : Nat) : Bool := match dropK p c.data.toList with
  | x :: y :: _ => Nat.beq x.toNat o && Nat.beq y.toNat n
  | _ => false
noncomputable def ck_s1 (c : ByteArray) (p o : Nat) (v : Int) : Bool := match dropK p c.data.toList with
  | x :: y :: _ => Nat.beq x.toNat o && decide (Reader.signed 8 y.toNat = v)
  | _ => false
noncomputable def ck_u2 (c : ByteArray) (p o n : Nat) : Bool := match dropK p c.data.toList with
  | x :: y :: z :: _ => Nat.beq x.toNat o && Nat.beq (y.toNat * 256 + z.toNat) n
  | _ => false
noncomputable def ck_s2 (c : ByteArray) (p o : Nat) (v : Int) : Bool := match dropK p c.data.toList with
  | x :: y :: z :: _ => Nat.beq x.toNat o && decide (Reader.signed 16 (y.toNat * 256 + z.toNat) = v)
  | _ => false
noncomputable def ck_u1s1 (c : ByteArray) (p o n : Nat) (v : Int) : Bool := match dropK p c.data.toList with
  | x :: y :: z :: _ => Nat.beq x.toNat o && (Nat.beq y.toNat n && decide (Reader.signed 8 z.toNat = v))
  | _ => false
theorem ck__of {c : ByteArray} {p o : Nat} (h : ck_ c p o = true) : ∃ x r, c.data.toList.drop p = x :: r ∧ x.toNat = o := by
  unfold ck_ at h
  rw [dropK_eq] at h
  split at h
  · next x r e => exact ⟨x, r, e, Nat.eq_of_beq_eq_true h⟩
  · cases h
theorem ck_u1_of {c : ByteArray} {p o n : Nat} (h : ck_u1 c p o n = true) : ∃ x y r, c.data.toList.drop p = x :: y :: r ∧ x.toNat = o ∧ y.toNat = n := by
  unfold ck_u1 at h
  rw [dropK_eq] at h
  split at h
  · next x y r e => exact ⟨x, y, r, e, Nat.eq_of_beq_eq_true ((Bool.and_eq_true _ _ ▸ h : _ ∧ _).1), Nat.eq_of_beq_eq_true ((Bool.and_eq_true _ _ ▸ h : _ ∧ _).2)⟩
  · cases h
theorem ck_s1_of {c : ByteArray} {p o : Nat} {v : Int} (h : ck_s1 c p o v = true) : ∃ x y r, c.data.toList.drop p = x :: y :: r ∧ x.toNat = o ∧ Reader.signed 8 y.toNat = v := by
  unfold ck_s1 at h
  rw [dropK_eq] at h
  split at h
  · next x y r e => exact ⟨x, y, r, e, Nat.eq_of_beq_eq_true ((Bool.and_eq_true _ _ ▸ h : _ ∧ _).1), of_decide_eq_true ((Bool.and_eq_true _ _ ▸ h : _ ∧ _).2)⟩
  · cases h
theorem ck_u2_of {c : ByteArray} {p o n : Nat} (h : ck_u2 c p o n = true) : ∃ x y z r, c.data.toList.drop p = x :: y :: z :: r ∧ x.toNat = o ∧ y.toNat * 256 + z.toNat = n := by
  unfold ck_u2 at h
  rw [dropK_eq] at h
  split at h
  · next x y z r e => exact ⟨x, y, z, r, e, Nat.eq_of_beq_eq_true ((Bool.and_eq_true _ _ ▸ h : _ ∧ _).1), Nat.eq_of_beq_eq_true ((Bool.and_eq_true _ _ ▸ h : _ ∧ _).2)⟩
  · cases h
theorem ck_s2_of {c : ByteArray} {p o : Nat} {v : Int} (h : ck_s2 c p o v = true) : ∃ x y z r, c.data.toList.drop p = x :: y :: z :: r ∧ x.toNat = o ∧ Reader.signed 16 (y.toNat * 256 + z.toNat) = v := by
  unfold ck_s2 at h
  rw [dropK_eq] at h
  split at h
  · next x y z r e => exact ⟨x, y, z, r, e, Nat.eq_of_beq_eq_true ((Bool.and_eq_true _ _ ▸ h : _ ∧ _).1), of_decide_eq_true ((Bool.and_eq_true _ _ ▸ h : _ ∧ _).2)⟩
  · cases h
theorem ck_u1s1_of {c : ByteArray} {p o n : Nat} {v : Int} (h : ck_u1s1 c p o n v = true) : ∃ x y z r, c.data.toList.drop p = x :: y :: z :: r ∧ x.toNat = o ∧ y.toNat = n ∧ Reader.signed 8 z.toNat = v := by
  unfold ck_u1s1 at h
  rw [dropK_eq] at h
  split at h
  · next x y z r e => exact ⟨x, y, z, r, e, Nat.eq_of_beq_eq_true ((Bool.and_eq_true _ _ ▸ h : _ ∧ _).1), Nat.eq_of_beq_eq_true ((Bool.and_eq_true _ _ ▸ (Bool.and_eq_true _ _ ▸ h : _ ∧ _).2 : _ ∧ _).1), of_decide_eq_true ((Bool.and_eq_true _ _ ▸ (Bool.and_eq_true _ _ ▸ h : _ ∧ _).2 : _ ∧ _).2)⟩
  · cases h
theorem pc2 (pc : Nat) : pc + 1 + 1 - pc = 2 := by omega
theorem pc3 (pc : Nat) : pc + 1 + 1 + 1 - pc = 3 := by omega
theorem de_2 {c : ByteArray} {pc : Nat} (h : ck_ c pc 2 = true) : decode c pc = .ok (.iconst (-1), 1) := by
  obtain ⟨x, r, e, hx⟩ := ck__of h
  have e1 := u1_at e
  rw [hx] at e1
  show Except.bind (Except.bind (Reader.u1 c pc) _) _ = _
  rw [e1]
  show Except.ok (_, pc + 1 - pc) = _
  rw [Nat.add_sub_cancel_left]
theorem de_3 {c : ByteArray} {pc : Nat} (h : ck_ c pc 3 = true) : decode c pc = .ok (.iconst 0, 1) := by
  obtain ⟨x, r, e, hx⟩ := ck__of h
  have e1 := u1_at e
  rw [hx] at e1
  show Except.bind (Except.bind (Reader.u1 c pc) _) _ = _
  rw [e1]
  show Except.ok (_, pc + 1 - pc) = _
  rw [Nat.add_sub_cancel_left]
theorem de_4 {c : ByteArray} {pc : Nat} (h : ck_ c pc 4 = true) : decode c pc = .ok (.iconst 1, 1) := by
  obtain ⟨x, r, e, hx⟩ := ck__of h
  have e1 := u1_at e
  rw [hx] at e1
  show Except.bind (Except.bind (Reader.u1 c pc) _) _ = _
  rw [e1]
  show Except.ok (_, pc + 1 - pc) = _
  rw [Nat.add_sub_cancel_left]
theorem de_5 {c : ByteArray} {pc : Nat} (h : ck_ c pc 5 = true) : decode c pc = .ok (.iconst 2, 1) := by
  obtain ⟨x, r, e, hx⟩ := ck__of h
  have e1 := u1_at e
  rw [hx] at e1
  show Except.bind (Except.bind (Reader.u1 c pc) _) _ = _
  rw [e1]
  show Except.ok (_, pc + 1 - pc) = _
  rw [Nat.add_sub_cancel_left]
theorem de_6 {c : ByteArray} {pc : Nat} (h : ck_ c pc 6 = true) : decode c pc = .ok (.iconst 3, 1) := by
  obtain ⟨x, r, e, hx⟩ := ck__of h
  have e1 := u1_at e
  rw [hx] at e1
  show Except.bind (Except.bind (Reader.u1 c pc) _) _ = _
  rw [e1]
  show Except.ok (_, pc + 1 - pc) = _
  rw [Nat.add_sub_cancel_left]
theorem de_7 {c : ByteArray} {pc : Nat} (h : ck_ c pc 7 = true) : decode c pc = .ok (.iconst 4, 1) := by
  obtain ⟨x, r, e, hx⟩ := ck__of h
  have e1 := u1_at e
  rw [hx] at e1
  show Except.bind (Except.bind (Reader.u1 c pc) _) _ = _
  rw [e1]
  show Except.ok (_, pc + 1 - pc) = _
  rw [Nat.add_sub_cancel_left]
theorem de_8 {c : ByteArray} {pc : Nat} (h : ck_ c pc 8 = true) : decode c pc = .ok (.iconst 5, 1) := by
  obtain ⟨x, r, e, hx⟩ := ck__of h
  have e1 := u1_at e
  rw [hx] at e1
  show Except.bind (Except.bind (Reader.u1 c pc) _) _ = _
  rw [e1]
  show Except.ok (_, pc + 1 - pc) = _
  rw [Nat.add_sub_cancel_left]
theorem de_9 {c : ByteArray} {pc : Nat} (h : ck_ c pc 9 = true) : decode c pc = .ok (.lconst 0, 1) := by
  obtain ⟨x, r, e, hx⟩ := ck__of h
  have e1 := u1_at e
  rw [hx] at e1
  show Except.bind (Except.bind (Reader.u1 c pc) _) _ = _
  rw [e1]
  show Except.ok (_, pc + 1 - pc) = _
  rw [Nat.add_sub_cancel_left]
theorem de_10 {c : ByteArray} {pc : Nat} (h : ck_ c pc 10 = true) : decode c pc = .ok (.lconst 1, 1) := by
  obtain ⟨x, r, e, hx⟩ := ck__of h
  have e1 := u1_at e
  rw [hx] at e1
  show Except.bind (Except.bind (Reader.u1 c pc) _) _ = _
  rw [e1]
  show Except.ok (_, pc + 1 - pc) = _
  rw [Nat.add_sub_cancel_left]
theorem de_16 {c : ByteArray} {pc : Nat} {v : Int} (h : ck_s1 c pc 16 v = true) : decode c pc = .ok (.bipush v, 2) := by
  obtain ⟨x, y, r, e, hx, hy⟩ := ck_s1_of h
  have e1 := u1_at e
  rw [hx] at e1
  have e2 := s1_at (de_drop e)
  rw [hy] at e2
  show Except.bind (Except.bind (Reader.u1 c pc) _) _ = _
  rw [e1]
  show Except.bind (Except.bind (Reader.s1 c (pc + 1)) _) _ = _
  rw [e2]
  show Except.ok (_, pc + 1 + 1 - pc) = _
  rw [pc2]
theorem de_17 {c : ByteArray} {pc : Nat} {v : Int} (h : ck_s2 c pc 17 v = true) : decode c pc = .ok (.sipush v, 3) := by
  obtain ⟨x, y, z, r, e, hx, hy⟩ := ck_s2_of h
  have e1 := u1_at e
  rw [hx] at e1
  have e2 := s2_at (de_drop e)
  rw [hy] at e2
  show Except.bind (Except.bind (Reader.u1 c pc) _) _ = _
  rw [e1]
  show Except.bind (Except.bind (Reader.s2 c (pc + 1)) _) _ = _
  rw [e2]
  show Except.ok (_, pc + 1 + 1 + 1 - pc) = _
  rw [pc3]
theorem de_18 {c : ByteArray} {pc : Nat} {n : Nat} (h : ck_u1 c pc 18 n = true) : decode c pc = .ok (.ldc n, 2) := by
  obtain ⟨x, y, r, e, hx, hy⟩ := ck_u1_of h
  have e1 := u1_at e
  rw [hx] at e1
  have e2 := u1_at (de_drop e)
  rw [hy] at e2
  show Except.bind (Except.bind (Reader.u1 c pc) _) _ = _
  rw [e1]
  show Except.bind (Except.bind (Reader.u1 c (pc + 1)) _) _ = _
  rw [e2]
  show Except.ok (_, pc + 1 + 1 - pc) = _
  rw [pc2]
theorem de_19 {c : ByteArray} {pc : Nat} {n : Nat} (h : ck_u2 c pc 19 n = true) : decode c pc = .ok (.ldc_w n, 3) := by
  obtain ⟨x, y, z, r, e, hx, hy⟩ := ck_u2_of h
  have e1 := u1_at e
  rw [hx] at e1
  have e2 := u2_at (de_drop e)
  rw [hy] at e2
  show Except.bind (Except.bind (Reader.u1 c pc) _) _ = _
  rw [e1]
  show Except.bind (Except.bind (Reader.u2 c (pc + 1)) _) _ = _
  rw [e2]
  show Except.ok (_, pc + 1 + 1 + 1 - pc) = _
  rw [pc3]
theorem de_20 {c : ByteArray} {pc : Nat} {n : Nat} (h : ck_u2 c pc 20 n = true) : decode c pc = .ok (.ldc2_w n, 3) := by
  obtain ⟨x, y, z, r, e, hx, hy⟩ := ck_u2_of h
  have e1 := u1_at e
  rw [hx] at e1
  have e2 := u2_at (de_drop e)
  rw [hy] at e2
  show Except.bind (Except.bind (Reader.u1 c pc) _) _ = _
  rw [e1]
  show Except.bind (Except.bind (Reader.u2 c (pc + 1)) _) _ = _
  rw [e2]
  show Except.ok (_, pc + 1 + 1 + 1 - pc) = _
  rw [pc3]
theorem de_21 {c : ByteArray} {pc : Nat} {n : Nat} (h : ck_u1 c pc 21 n = true) : decode c pc = .ok (.iload n, 2) := by
  obtain ⟨x, y, r, e, hx, hy⟩ := ck_u1_of h
  have e1 := u1_at e
  rw [hx] at e1
  have e2 := u1_at (de_drop e)
  rw [hy] at e2
  show Except.bind (Except.bind (Reader.u1 c pc) _) _ = _
  rw [e1]
  show Except.bind (Except.bind (Reader.u1 c (pc + 1)) _) _ = _
  rw [e2]
  show Except.ok (_, pc + 1 + 1 - pc) = _
  rw [pc2]
theorem de_22 {c : ByteArray} {pc : Nat} {n : Nat} (h : ck_u1 c pc 22 n = true) : decode c pc = .ok (.lload n, 2) := by
  obtain ⟨x, y, r, e, hx, hy⟩ := ck_u1_of h
  have e1 := u1_at e
  rw [hx] at e1
  have e2 := u1_at (de_drop e)
  rw [hy] at e2
  show Except.bind (Except.bind (Reader.u1 c pc) _) _ = _
  rw [e1]
  show Except.bind (Except.bind (Reader.u1 c (pc + 1)) _) _ = _
  rw [e2]
  show Except.ok (_, pc + 1 + 1 - pc) = _
  rw [pc2]
theorem de_25 {c : ByteArray} {pc : Nat} {n : Nat} (h : ck_u1 c pc 25 n = true) : decode c pc = .ok (.aload n, 2) := by
  obtain ⟨x, y, r, e, hx, hy⟩ := ck_u1_of h
  have e1 := u1_at e
  rw [hx] at e1
  have e2 := u1_at (de_drop e)
  rw [hy] at e2
  show Except.bind (Except.bind (Reader.u1 c pc) _) _ = _
  rw [e1]
  show Except.bind (Except.bind (Reader.u1 c (pc + 1)) _) _ = _
  rw [e2]
  show Except.ok (_, pc + 1 + 1 - pc) = _
  rw [pc2]
theorem de_26 {c : ByteArray} {pc : Nat} (h : ck_ c pc 26 = true) : decode c pc = .ok (.iload_n 0, 1) := by
  obtain ⟨x, r, e, hx⟩ := ck__of h
  have e1 := u1_at e
  rw [hx] at e1
  show Except.bind (Except.bind (Reader.u1 c pc) _) _ = _
  rw [e1]
  show Except.ok (_, pc + 1 - pc) = _
  rw [Nat.add_sub_cancel_left]
theorem de_27 {c : ByteArray} {pc : Nat} (h : ck_ c pc 27 = true) : decode c pc = .ok (.iload_n 1, 1) := by
  obtain ⟨x, r, e, hx⟩ := ck__of h
  have e1 := u1_at e
  rw [hx] at e1
  show Except.bind (Except.bind (Reader.u1 c pc) _) _ = _
  rw [e1]
  show Except.ok (_, pc + 1 - pc) = _
  rw [Nat.add_sub_cancel_left]
theorem de_28 {c : ByteArray} {pc : Nat} (h : ck_ c pc 28 = true) : decode c pc = .ok (.iload_n 2, 1) := by
  obtain ⟨x, r, e, hx⟩ := ck__of h
  have e1 := u1_at e
  rw [hx] at e1
  show Except.bind (Except.bind (Reader.u1 c pc) _) _ = _
  rw [e1]
  show Except.ok (_, pc + 1 - pc) = _
  rw [Nat.add_sub_cancel_left]
theorem de_29 {c : ByteArray} {pc : Nat} (h : ck_ c pc 29 = true) : decode c pc = .ok (.iload_n 3, 1) := by
  obtain ⟨x, r, e, hx⟩ := ck__of h
  have e1 := u1_at e
  rw [hx] at e1
  show Except.bind (Except.bind (Reader.u1 c pc) _) _ = _
  rw [e1]
  show Except.ok (_, pc + 1 - pc) = _
  rw [Nat.add_sub_cancel_left]
theorem de_30 {c : ByteArray} {pc : Nat} (h : ck_ c pc 30 = true) : decode c pc = .ok (.lload_n 0, 1) := by
  obtain ⟨x, r, e, hx⟩ := ck__of h
  have e1 := u1_at e
  rw [hx] at e1
  show Except.bind (Except.bind (Reader.u1 c pc) _) _ = _
  rw [e1]
  show Except.ok (_, pc + 1 - pc) = _
  rw [Nat.add_sub_cancel_left]
theorem de_31 {c : ByteArray} {pc : Nat} (h : ck_ c pc 31 = true) : decode c pc = .ok (.lload_n 1, 1) := by
  obtain ⟨x, r, e, hx⟩ := ck__of h
  have e1 := u1_at e
  rw [hx] at e1
  show Except.bind (Except.bind (Reader.u1 c pc) _) _ = _
  rw [e1]
  show Except.ok (_, pc + 1 - pc) = _
  rw [Nat.add_sub_cancel_left]
theorem de_32 {c : ByteArray} {pc : Nat} (h : ck_ c pc 32 = true) : decode c pc = .ok (.lload_n 2, 1) := by
  obtain ⟨x, r, e, hx⟩ := ck__of h
  have e1 := u1_at e
  rw [hx] at e1
  show Except.bind (Except.bind (Reader.u1 c pc) _) _ = _
  rw [e1]
  show Except.ok (_, pc + 1 - pc) = _
  rw [Nat.add_sub_cancel_left]
theorem de_33 {c : ByteArray} {pc : Nat} (h : ck_ c pc 33 = true) : decode c pc = .ok (.lload_n 3, 1) := by
  obtain ⟨x, r, e, hx⟩ := ck__of h
  have e1 := u1_at e
  rw [hx] at e1
  show Except.bind (Except.bind (Reader.u1 c pc) _) _ = _
  rw [e1]
  show Except.ok (_, pc + 1 - pc) = _
  rw [Nat.add_sub_cancel_left]
theorem de_42 {c : ByteArray} {pc : Nat} (h : ck_ c pc 42 = true) : decode c pc = .ok (.aload_n 0, 1) := by
  obtain ⟨x, r, e, hx⟩ := ck__of h
  have e1 := u1_at e
  rw [hx] at e1
  show Except.bind (Except.bind (Reader.u1 c pc) _) _ = _
  rw [e1]
  show Except.ok (_, pc + 1 - pc) = _
  rw [Nat.add_sub_cancel_left]
theorem de_43 {c : ByteArray} {pc : Nat} (h : ck_ c pc 43 = true) : decode c pc = .ok (.aload_n 1, 1) := by
  obtain ⟨x, r, e, hx⟩ := ck__of h
  have e1 := u1_at e
  rw [hx] at e1
  show Except.bind (Except.bind (Reader.u1 c pc) _) _ = _
  rw [e1]
  show Except.ok (_, pc + 1 - pc) = _
  rw [Nat.add_sub_cancel_left]
theorem de_44 {c : ByteArray} {pc : Nat} (h : ck_ c pc 44 = true) : decode c pc = .ok (.aload_n 2, 1) := by
  obtain ⟨x, r, e, hx⟩ := ck__of h
  have e1 := u1_at e
  rw [hx] at e1
  show Except.bind (Except.bind (Reader.u1 c pc) _) _ = _
  rw [e1]
  show Except.ok (_, pc + 1 - pc) = _
  rw [Nat.add_sub_cancel_left]
theorem de_45 {c : ByteArray} {pc : Nat} (h : ck_ c pc 45 = true) : decode c pc = .ok (.aload_n 3, 1) := by
  obtain ⟨x, r, e, hx⟩ := ck__of h
  have e1 := u1_at e
  rw [hx] at e1
  show Except.bind (Except.bind (Reader.u1 c pc) _) _ = _
  rw [e1]
  show Except.ok (_, pc + 1 - pc) = _
  rw [Nat.add_sub_cancel_left]
theorem de_46 {c : ByteArray} {pc : Nat} (h : ck_ c pc 46 = true) : decode c pc = .ok (.iaload, 1) := by
  obtain ⟨x, r, e, hx⟩ := ck__of h
  have e1 := u1_at e
  rw [hx] at e1
  show Except.bind (Except.bind (Reader.u1 c pc) _) _ = _
  rw [e1]
  show Except.ok (_, pc + 1 - pc) = _
  rw [Nat.add_sub_cancel_left]
theorem de_47 {c : ByteArray} {pc : Nat} (h : ck_ c pc 47 = true) : decode c pc = .ok (.laload, 1) := by
  obtain ⟨x, r, e, hx⟩ := ck__of h
  have e1 := u1_at e
  rw [hx] at e1
  show Except.bind (Except.bind (Reader.u1 c pc) _) _ = _
  rw [e1]
  show Except.ok (_, pc + 1 - pc) = _
  rw [Nat.add_sub_cancel_left]
theorem de_50 {c : ByteArray} {pc : Nat} (h : ck_ c pc 50 = true) : decode c pc = .ok (.aaload, 1) := by
  obtain ⟨x, r, e, hx⟩ := ck__of h
  have e1 := u1_at e
  rw [hx] at e1
  show Except.bind (Except.bind (Reader.u1 c pc) _) _ = _
  rw [e1]
  show Except.ok (_, pc + 1 - pc) = _
  rw [Nat.add_sub_cancel_left]
theorem de_51 {c : ByteArray} {pc : Nat} (h : ck_ c pc 51 = true) : decode c pc = .ok (.baload, 1) := by
  obtain ⟨x, r, e, hx⟩ := ck__of h
  have e1 := u1_at e
  rw [hx] at e1
  show Except.bind (Except.bind (Reader.u1 c pc) _) _ = _
  rw [e1]
  show Except.ok (_, pc + 1 - pc) = _
  rw [Nat.add_sub_cancel_left]
theorem de_54 {c : ByteArray} {pc : Nat} {n : Nat} (h : ck_u1 c pc 54 n = true) : decode c pc = .ok (.istore n, 2) := by
  obtain ⟨x, y, r, e, hx, hy⟩ := ck_u1_of h
  have e1 := u1_at e
  rw [hx] at e1
  have e2 := u1_at (de_drop e)
  rw [hy] at e2
  show Except.bind (Except.bind (Reader.u1 c pc) _) _ = _
  rw [e1]
  show Except.bind (Except.bind (Reader.u1 c (pc + 1)) _) _ = _
  rw [e2]
  show Except.ok (_, pc + 1 + 1 - pc) = _
  rw [pc2]
theorem de_55 {c : ByteArray} {pc : Nat} {n : Nat} (h : ck_u1 c pc 55 n = true) : decode c pc = .ok (.lstore n, 2) := by
  obtain ⟨x, y, r, e, hx, hy⟩ := ck_u1_of h
  have e1 := u1_at e
  rw [hx] at e1
  have e2 := u1_at (de_drop e)
  rw [hy] at e2
  show Except.bind (Except.bind (Reader.u1 c pc) _) _ = _
  rw [e1]
  show Except.bind (Except.bind (Reader.u1 c (pc + 1)) _) _ = _
  rw [e2]
  show Except.ok (_, pc + 1 + 1 - pc) = _
  rw [pc2]
theorem de_58 {c : ByteArray} {pc : Nat} {n : Nat} (h : ck_u1 c pc 58 n = true) : decode c pc = .ok (.astore n, 2) := by
  obtain ⟨x, y, r, e, hx, hy⟩ := ck_u1_of h
  have e1 := u1_at e
  rw [hx] at e1
  have e2 := u1_at (de_drop e)
  rw [hy] at e2
  show Except.bind (Except.bind (Reader.u1 c pc) _) _ = _
  rw [e1]
  show Except.bind (Except.bind (Reader.u1 c (pc + 1)) _) _ = _
  rw [e2]
  show Except.ok (_, pc + 1 + 1 - pc) = _
  rw [pc2]
theorem de_60 {c : ByteArray} {pc : Nat} (h : ck_ c pc 60 = true) : decode c pc = .ok (.istore_n 1, 1) := by
  obtain ⟨x, r, e, hx⟩ := ck__of h
  have e1 := u1_at e
  rw [hx] at e1
  show Except.bind (Except.bind (Reader.u1 c pc) _) _ = _
  rw [e1]
  show Except.ok (_, pc + 1 - pc) = _
  rw [Nat.add_sub_cancel_left]
theorem de_61 {c : ByteArray} {pc : Nat} (h : ck_ c pc 61 = true) : decode c pc = .ok (.istore_n 2, 1) := by
  obtain ⟨x, r, e, hx⟩ := ck__of h
  have e1 := u1_at e
  rw [hx] at e1
  show Except.bind (Except.bind (Reader.u1 c pc) _) _ = _
  rw [e1]
  show Except.ok (_, pc + 1 - pc) = _
  rw [Nat.add_sub_cancel_left]
theorem de_62 {c : ByteArray} {pc : Nat} (h : ck_ c pc 62 = true) : decode c pc = .ok (.istore_n 3, 1) := by
  obtain ⟨x, r, e, hx⟩ := ck__of h
  have e1 := u1_at e
  rw [hx] at e1
  show Except.bind (Except.bind (Reader.u1 c pc) _) _ = _
  rw [e1]
  show Except.ok (_, pc + 1 - pc) = _
  rw [Nat.add_sub_cancel_left]
theorem de_64 {c : ByteArray} {pc : Nat} (h : ck_ c pc 64 = true) : decode c pc = .ok (.lstore_n 1, 1) := by
  obtain ⟨x, r, e, hx⟩ := ck__of h
  have e1 := u1_at e
  rw [hx] at e1
  show Except.bind (Except.bind (Reader.u1 c pc) _) _ = _
  rw [e1]
  show Except.ok (_, pc + 1 - pc) = _
  rw [Nat.add_sub_cancel_left]
theorem de_66 {c : ByteArray} {pc : Nat} (h : ck_ c pc 66 = true) : decode c pc = .ok (.lstore_n 3, 1) := by
  obtain ⟨x, r, e, hx⟩ := ck__of h
  have e1 := u1_at e
  rw [hx] at e1
  show Except.bind (Except.bind (Reader.u1 c pc) _) _ = _
  rw [e1]
  show Except.ok (_, pc + 1 - pc) = _
  rw [Nat.add_sub_cancel_left]
theorem de_76 {c : ByteArray} {pc : Nat} (h : ck_ c pc 76 = true) : decode c pc = .ok (.astore_n 1, 1) := by
  obtain ⟨x, r, e, hx⟩ := ck__of h
  have e1 := u1_at e
  rw [hx] at e1
  show Except.bind (Except.bind (Reader.u1 c pc) _) _ = _
  rw [e1]
  show Except.ok (_, pc + 1 - pc) = _
  rw [Nat.add_sub_cancel_left]
theorem de_77 {c : ByteArray} {pc : Nat} (h : ck_ c pc 77 = true) : decode c pc = .ok (.astore_n 2, 1) := by
  obtain ⟨x, r, e, hx⟩ := ck__of h
  have e1 := u1_at e
  rw [hx] at e1
  show Except.bind (Except.bind (Reader.u1 c pc) _) _ = _
  rw [e1]
  show Except.ok (_, pc + 1 - pc) = _
  rw [Nat.add_sub_cancel_left]
theorem de_78 {c : ByteArray} {pc : Nat} (h : ck_ c pc 78 = true) : decode c pc = .ok (.astore_n 3, 1) := by
  obtain ⟨x, r, e, hx⟩ := ck__of h
  have e1 := u1_at e
  rw [hx] at e1
  show Except.bind (Except.bind (Reader.u1 c pc) _) _ = _
  rw [e1]
  show Except.ok (_, pc + 1 - pc) = _
  rw [Nat.add_sub_cancel_left]
theorem de_79 {c : ByteArray} {pc : Nat} (h : ck_ c pc 79 = true) : decode c pc = .ok (.iastore, 1) := by
  obtain ⟨x, r, e, hx⟩ := ck__of h
  have e1 := u1_at e
  rw [hx] at e1
  show Except.bind (Except.bind (Reader.u1 c pc) _) _ = _
  rw [e1]
  show Except.ok (_, pc + 1 - pc) = _
  rw [Nat.add_sub_cancel_left]
theorem de_80 {c : ByteArray} {pc : Nat} (h : ck_ c pc 80 = true) : decode c pc = .ok (.lastore, 1) := by
  obtain ⟨x, r, e, hx⟩ := ck__of h
  have e1 := u1_at e
  rw [hx] at e1
  show Except.bind (Except.bind (Reader.u1 c pc) _) _ = _
  rw [e1]
  show Except.ok (_, pc + 1 - pc) = _
  rw [Nat.add_sub_cancel_left]
theorem de_83 {c : ByteArray} {pc : Nat} (h : ck_ c pc 83 = true) : decode c pc = .ok (.aastore, 1) := by
  obtain ⟨x, r, e, hx⟩ := ck__of h
  have e1 := u1_at e
  rw [hx] at e1
  show Except.bind (Except.bind (Reader.u1 c pc) _) _ = _
  rw [e1]
  show Except.ok (_, pc + 1 - pc) = _
  rw [Nat.add_sub_cancel_left]
theorem de_84 {c : ByteArray} {pc : Nat} (h : ck_ c pc 84 = true) : decode c pc = .ok (.bastore, 1) := by
  obtain ⟨x, r, e, hx⟩ := ck__of h
  have e1 := u1_at e
  rw [hx] at e1
  show Except.bind (Except.bind (Reader.u1 c pc) _) _ = _
  rw [e1]
  show Except.ok (_, pc + 1 - pc) = _
  rw [Nat.add_sub_cancel_left]
theorem de_87 {c : ByteArray} {pc : Nat} (h : ck_ c pc 87 = true) : decode c pc = .ok (.pop, 1) := by
  obtain ⟨x, r, e, hx⟩ := ck__of h
  have e1 := u1_at e
  rw [hx] at e1
  show Except.bind (Except.bind (Reader.u1 c pc) _) _ = _
  rw [e1]
  show Except.ok (_, pc + 1 - pc) = _
  rw [Nat.add_sub_cancel_left]
theorem de_89 {c : ByteArray} {pc : Nat} (h : ck_ c pc 89 = true) : decode c pc = .ok (.dup, 1) := by
  obtain ⟨x, r, e, hx⟩ := ck__of h
  have e1 := u1_at e
  rw [hx] at e1
  show Except.bind (Except.bind (Reader.u1 c pc) _) _ = _
  rw [e1]
  show Except.ok (_, pc + 1 - pc) = _
  rw [Nat.add_sub_cancel_left]
theorem de_92 {c : ByteArray} {pc : Nat} (h : ck_ c pc 92 = true) : decode c pc = .ok (.dup2, 1) := by
  obtain ⟨x, r, e, hx⟩ := ck__of h
  have e1 := u1_at e
  rw [hx] at e1
  show Except.bind (Except.bind (Reader.u1 c pc) _) _ = _
  rw [e1]
  show Except.ok (_, pc + 1 - pc) = _
  rw [Nat.add_sub_cancel_left]
theorem de_96 {c : ByteArray} {pc : Nat} (h : ck_ c pc 96 = true) : decode c pc = .ok (.iadd, 1) := by
  obtain ⟨x, r, e, hx⟩ := ck__of h
  have e1 := u1_at e
  rw [hx] at e1
  show Except.bind (Except.bind (Reader.u1 c pc) _) _ = _
  rw [e1]
  show Except.ok (_, pc + 1 - pc) = _
  rw [Nat.add_sub_cancel_left]
theorem de_97 {c : ByteArray} {pc : Nat} (h : ck_ c pc 97 = true) : decode c pc = .ok (.ladd, 1) := by
  obtain ⟨x, r, e, hx⟩ := ck__of h
  have e1 := u1_at e
  rw [hx] at e1
  show Except.bind (Except.bind (Reader.u1 c pc) _) _ = _
  rw [e1]
  show Except.ok (_, pc + 1 - pc) = _
  rw [Nat.add_sub_cancel_left]
theorem de_100 {c : ByteArray} {pc : Nat} (h : ck_ c pc 100 = true) : decode c pc = .ok (.isub, 1) := by
  obtain ⟨x, r, e, hx⟩ := ck__of h
  have e1 := u1_at e
  rw [hx] at e1
  show Except.bind (Except.bind (Reader.u1 c pc) _) _ = _
  rw [e1]
  show Except.ok (_, pc + 1 - pc) = _
  rw [Nat.add_sub_cancel_left]
theorem de_101 {c : ByteArray} {pc : Nat} (h : ck_ c pc 101 = true) : decode c pc = .ok (.lsub, 1) := by
  obtain ⟨x, r, e, hx⟩ := ck__of h
  have e1 := u1_at e
  rw [hx] at e1
  show Except.bind (Except.bind (Reader.u1 c pc) _) _ = _
  rw [e1]
  show Except.ok (_, pc + 1 - pc) = _
  rw [Nat.add_sub_cancel_left]
theorem de_104 {c : ByteArray} {pc : Nat} (h : ck_ c pc 104 = true) : decode c pc = .ok (.imul, 1) := by
  obtain ⟨x, r, e, hx⟩ := ck__of h
  have e1 := u1_at e
  rw [hx] at e1
  show Except.bind (Except.bind (Reader.u1 c pc) _) _ = _
  rw [e1]
  show Except.ok (_, pc + 1 - pc) = _
  rw [Nat.add_sub_cancel_left]
theorem de_105 {c : ByteArray} {pc : Nat} (h : ck_ c pc 105 = true) : decode c pc = .ok (.lmul, 1) := by
  obtain ⟨x, r, e, hx⟩ := ck__of h
  have e1 := u1_at e
  rw [hx] at e1
  show Except.bind (Except.bind (Reader.u1 c pc) _) _ = _
  rw [e1]
  show Except.ok (_, pc + 1 - pc) = _
  rw [Nat.add_sub_cancel_left]
theorem de_108 {c : ByteArray} {pc : Nat} (h : ck_ c pc 108 = true) : decode c pc = .ok (.idiv, 1) := by
  obtain ⟨x, r, e, hx⟩ := ck__of h
  have e1 := u1_at e
  rw [hx] at e1
  show Except.bind (Except.bind (Reader.u1 c pc) _) _ = _
  rw [e1]
  show Except.ok (_, pc + 1 - pc) = _
  rw [Nat.add_sub_cancel_left]
theorem de_109 {c : ByteArray} {pc : Nat} (h : ck_ c pc 109 = true) : decode c pc = .ok (.ldiv, 1) := by
  obtain ⟨x, r, e, hx⟩ := ck__of h
  have e1 := u1_at e
  rw [hx] at e1
  show Except.bind (Except.bind (Reader.u1 c pc) _) _ = _
  rw [e1]
  show Except.ok (_, pc + 1 - pc) = _
  rw [Nat.add_sub_cancel_left]
theorem de_112 {c : ByteArray} {pc : Nat} (h : ck_ c pc 112 = true) : decode c pc = .ok (.irem, 1) := by
  obtain ⟨x, r, e, hx⟩ := ck__of h
  have e1 := u1_at e
  rw [hx] at e1
  show Except.bind (Except.bind (Reader.u1 c pc) _) _ = _
  rw [e1]
  show Except.ok (_, pc + 1 - pc) = _
  rw [Nat.add_sub_cancel_left]
theorem de_113 {c : ByteArray} {pc : Nat} (h : ck_ c pc 113 = true) : decode c pc = .ok (.lrem, 1) := by
  obtain ⟨x, r, e, hx⟩ := ck__of h
  have e1 := u1_at e
  rw [hx] at e1
  show Except.bind (Except.bind (Reader.u1 c pc) _) _ = _
  rw [e1]
  show Except.ok (_, pc + 1 - pc) = _
  rw [Nat.add_sub_cancel_left]
theorem de_116 {c : ByteArray} {pc : Nat} (h : ck_ c pc 116 = true) : decode c pc = .ok (.ineg, 1) := by
  obtain ⟨x, r, e, hx⟩ := ck__of h
  have e1 := u1_at e
  rw [hx] at e1
  show Except.bind (Except.bind (Reader.u1 c pc) _) _ = _
  rw [e1]
  show Except.ok (_, pc + 1 - pc) = _
  rw [Nat.add_sub_cancel_left]
theorem de_117 {c : ByteArray} {pc : Nat} (h : ck_ c pc 117 = true) : decode c pc = .ok (.lneg, 1) := by
  obtain ⟨x, r, e, hx⟩ := ck__of h
  have e1 := u1_at e
  rw [hx] at e1
  show Except.bind (Except.bind (Reader.u1 c pc) _) _ = _
  rw [e1]
  show Except.ok (_, pc + 1 - pc) = _
  rw [Nat.add_sub_cancel_left]
theorem de_120 {c : ByteArray} {pc : Nat} (h : ck_ c pc 120 = true) : decode c pc = .ok (.ishl, 1) := by
  obtain ⟨x, r, e, hx⟩ := ck__of h
  have e1 := u1_at e
  rw [hx] at e1
  show Except.bind (Except.bind (Reader.u1 c pc) _) _ = _
  rw [e1]
  show Except.ok (_, pc + 1 - pc) = _
  rw [Nat.add_sub_cancel_left]
theorem de_121 {c : ByteArray} {pc : Nat} (h : ck_ c pc 121 = true) : decode c pc = .ok (.lshl, 1) := by
  obtain ⟨x, r, e, hx⟩ := ck__of h
  have e1 := u1_at e
  rw [hx] at e1
  show Except.bind (Except.bind (Reader.u1 c pc) _) _ = _
  rw [e1]
  show Except.ok (_, pc + 1 - pc) = _
  rw [Nat.add_sub_cancel_left]
theorem de_122 {c : ByteArray} {pc : Nat} (h : ck_ c pc 122 = true) : decode c pc = .ok (.ishr, 1) := by
  obtain ⟨x, r, e, hx⟩ := ck__of h
  have e1 := u1_at e
  rw [hx] at e1
  show Except.bind (Except.bind (Reader.u1 c pc) _) _ = _
  rw [e1]
  show Except.ok (_, pc + 1 - pc) = _
  rw [Nat.add_sub_cancel_left]
theorem de_123 {c : ByteArray} {pc : Nat} (h : ck_ c pc 123 = true) : decode c pc = .ok (.lshr, 1) := by
  obtain ⟨x, r, e, hx⟩ := ck__of h
  have e1 := u1_at e
  rw [hx] at e1
  show Except.bind (Except.bind (Reader.u1 c pc) _) _ = _
  rw [e1]
  show Except.ok (_, pc + 1 - pc) = _
  rw [Nat.add_sub_cancel_left]
theorem de_125 {c : ByteArray} {pc : Nat} (h : ck_ c pc 125 = true) : decode c pc = .ok (.lushr, 1) := by
  obtain ⟨x, r, e, hx⟩ := ck__of h
  have e1 := u1_at e
  rw [hx] at e1
  show Except.bind (Except.bind (Reader.u1 c pc) _) _ = _
  rw [e1]
  show Except.ok (_, pc + 1 - pc) = _
  rw [Nat.add_sub_cancel_left]
theorem de_126 {c : ByteArray} {pc : Nat} (h : ck_ c pc 126 = true) : decode c pc = .ok (.iand, 1) := by
  obtain ⟨x, r, e, hx⟩ := ck__of h
  have e1 := u1_at e
  rw [hx] at e1
  show Except.bind (Except.bind (Reader.u1 c pc) _) _ = _
  rw [e1]
  show Except.ok (_, pc + 1 - pc) = _
  rw [Nat.add_sub_cancel_left]
theorem de_127 {c : ByteArray} {pc : Nat} (h : ck_ c pc 127 = true) : decode c pc = .ok (.land, 1) := by
  obtain ⟨x, r, e, hx⟩ := ck__of h
  have e1 := u1_at e
  rw [hx] at e1
  show Except.bind (Except.bind (Reader.u1 c pc) _) _ = _
  rw [e1]
  show Except.ok (_, pc + 1 - pc) = _
  rw [Nat.add_sub_cancel_left]
theorem de_128 {c : ByteArray} {pc : Nat} (h : ck_ c pc 128 = true) : decode c pc = .ok (.ior, 1) := by
  obtain ⟨x, r, e, hx⟩ := ck__of h
  have e1 := u1_at e
  rw [hx] at e1
  show Except.bind (Except.bind (Reader.u1 c pc) _) _ = _
  rw [e1]
  show Except.ok (_, pc + 1 - pc) = _
  rw [Nat.add_sub_cancel_left]
theorem de_129 {c : ByteArray} {pc : Nat} (h : ck_ c pc 129 = true) : decode c pc = .ok (.lor, 1) := by
  obtain ⟨x, r, e, hx⟩ := ck__of h
  have e1 := u1_at e
  rw [hx] at e1
  show Except.bind (Except.bind (Reader.u1 c pc) _) _ = _
  rw [e1]
  show Except.ok (_, pc + 1 - pc) = _
  rw [Nat.add_sub_cancel_left]
theorem de_130 {c : ByteArray} {pc : Nat} (h : ck_ c pc 130 = true) : decode c pc = .ok (.ixor, 1) := by
  obtain ⟨x, r, e, hx⟩ := ck__of h
  have e1 := u1_at e
  rw [hx] at e1
  show Except.bind (Except.bind (Reader.u1 c pc) _) _ = _
  rw [e1]
  show Except.ok (_, pc + 1 - pc) = _
  rw [Nat.add_sub_cancel_left]
theorem de_131 {c : ByteArray} {pc : Nat} (h : ck_ c pc 131 = true) : decode c pc = .ok (.lxor, 1) := by
  obtain ⟨x, r, e, hx⟩ := ck__of h
  have e1 := u1_at e
  rw [hx] at e1
  show Except.bind (Except.bind (Reader.u1 c pc) _) _ = _
  rw [e1]
  show Except.ok (_, pc + 1 - pc) = _
  rw [Nat.add_sub_cancel_left]
theorem de_132 {c : ByteArray} {pc : Nat} {n : Nat} {v : Int} (h : ck_u1s1 c pc 132 n v = true) : decode c pc = .ok (.iinc n v, 3) := by
  obtain ⟨x, y, z, r, e, hx, hy, hz⟩ := ck_u1s1_of h
  have e1 := u1_at e
  rw [hx] at e1
  have e2 := u1_at (de_drop e)
  rw [hy] at e2
  have e3 := s1_at (de_drop (de_drop e))
  rw [hz] at e3
  show Except.bind (Except.bind (Reader.u1 c pc) _) _ = _
  rw [e1]
  show Except.bind (Except.bind (Reader.u1 c (pc + 1)) _) _ = _
  rw [e2]
  show Except.bind (Except.bind (Reader.s1 c (pc + 1 + 1)) _) _ = _
  rw [e3]
  show Except.ok (_, pc + 1 + 1 + 1 - pc) = _
  rw [pc3]
theorem de_133 {c : ByteArray} {pc : Nat} (h : ck_ c pc 133 = true) : decode c pc = .ok (.i2l, 1) := by
  obtain ⟨x, r, e, hx⟩ := ck__of h
  have e1 := u1_at e
  rw [hx] at e1
  show Except.bind (Except.bind (Reader.u1 c pc) _) _ = _
  rw [e1]
  show Except.ok (_, pc + 1 - pc) = _
  rw [Nat.add_sub_cancel_left]
theorem de_136 {c : ByteArray} {pc : Nat} (h : ck_ c pc 136 = true) : decode c pc = .ok (.l2i, 1) := by
  obtain ⟨x, r, e, hx⟩ := ck__of h
  have e1 := u1_at e
  rw [hx] at e1
  show Except.bind (Except.bind (Reader.u1 c pc) _) _ = _
  rw [e1]
  show Except.ok (_, pc + 1 - pc) = _
  rw [Nat.add_sub_cancel_left]
theorem de_148 {c : ByteArray} {pc : Nat} (h : ck_ c pc 148 = true) : decode c pc = .ok (.lcmp, 1) := by
  obtain ⟨x, r, e, hx⟩ := ck__of h
  have e1 := u1_at e
  rw [hx] at e1
  show Except.bind (Except.bind (Reader.u1 c pc) _) _ = _
  rw [e1]
  show Except.ok (_, pc + 1 - pc) = _
  rw [Nat.add_sub_cancel_left]
theorem de_153 {c : ByteArray} {pc : Nat} {v : Int} (h : ck_s2 c pc 153 v = true) : decode c pc = .ok (.ifCond .eq v, 3) := by
  obtain ⟨x, y, z, r, e, hx, hy⟩ := ck_s2_of h
  have e1 := u1_at e
  rw [hx] at e1
  have e2 := s2_at (de_drop e)
  rw [hy] at e2
  show Except.bind (Except.bind (Reader.u1 c pc) _) _ = _
  rw [e1]
  show Except.bind (Except.bind (Reader.s2 c (pc + 1)) _) _ = _
  rw [e2]
  show Except.ok (_, pc + 1 + 1 + 1 - pc) = _
  rw [pc3]
theorem de_154 {c : ByteArray} {pc : Nat} {v : Int} (h : ck_s2 c pc 154 v = true) : decode c pc = .ok (.ifCond .ne v, 3) := by
  obtain ⟨x, y, z, r, e, hx, hy⟩ := ck_s2_of h
  have e1 := u1_at e
  rw [hx] at e1
  have e2 := s2_at (de_drop e)
  rw [hy] at e2
  show Except.bind (Except.bind (Reader.u1 c pc) _) _ = _
  rw [e1]
  show Except.bind (Except.bind (Reader.s2 c (pc + 1)) _) _ = _
  rw [e2]
  show Except.ok (_, pc + 1 + 1 + 1 - pc) = _
  rw [pc3]
theorem de_155 {c : ByteArray} {pc : Nat} {v : Int} (h : ck_s2 c pc 155 v = true) : decode c pc = .ok (.ifCond .lt v, 3) := by
  obtain ⟨x, y, z, r, e, hx, hy⟩ := ck_s2_of h
  have e1 := u1_at e
  rw [hx] at e1
  have e2 := s2_at (de_drop e)
  rw [hy] at e2
  show Except.bind (Except.bind (Reader.u1 c pc) _) _ = _
  rw [e1]
  show Except.bind (Except.bind (Reader.s2 c (pc + 1)) _) _ = _
  rw [e2]
  show Except.ok (_, pc + 1 + 1 + 1 - pc) = _
  rw [pc3]
theorem de_156 {c : ByteArray} {pc : Nat} {v : Int} (h : ck_s2 c pc 156 v = true) : decode c pc = .ok (.ifCond .ge v, 3) := by
  obtain ⟨x, y, z, r, e, hx, hy⟩ := ck_s2_of h
  have e1 := u1_at e
  rw [hx] at e1
  have e2 := s2_at (de_drop e)
  rw [hy] at e2
  show Except.bind (Except.bind (Reader.u1 c pc) _) _ = _
  rw [e1]
  show Except.bind (Except.bind (Reader.s2 c (pc + 1)) _) _ = _
  rw [e2]
  show Except.ok (_, pc + 1 + 1 + 1 - pc) = _
  rw [pc3]
theorem de_157 {c : ByteArray} {pc : Nat} {v : Int} (h : ck_s2 c pc 157 v = true) : decode c pc = .ok (.ifCond .gt v, 3) := by
  obtain ⟨x, y, z, r, e, hx, hy⟩ := ck_s2_of h
  have e1 := u1_at e
  rw [hx] at e1
  have e2 := s2_at (de_drop e)
  rw [hy] at e2
  show Except.bind (Except.bind (Reader.u1 c pc) _) _ = _
  rw [e1]
  show Except.bind (Except.bind (Reader.s2 c (pc + 1)) _) _ = _
  rw [e2]
  show Except.ok (_, pc + 1 + 1 + 1 - pc) = _
  rw [pc3]
theorem de_158 {c : ByteArray} {pc : Nat} {v : Int} (h : ck_s2 c pc 158 v = true) : decode c pc = .ok (.ifCond .le v, 3) := by
  obtain ⟨x, y, z, r, e, hx, hy⟩ := ck_s2_of h
  have e1 := u1_at e
  rw [hx] at e1
  have e2 := s2_at (de_drop e)
  rw [hy] at e2
  show Except.bind (Except.bind (Reader.u1 c pc) _) _ = _
  rw [e1]
  show Except.bind (Except.bind (Reader.s2 c (pc + 1)) _) _ = _
  rw [e2]
  show Except.ok (_, pc + 1 + 1 + 1 - pc) = _
  rw [pc3]
theorem de_159 {c : ByteArray} {pc : Nat} {v : Int} (h : ck_s2 c pc 159 v = true) : decode c pc = .ok (.if_icmp .eq v, 3) := by
  obtain ⟨x, y, z, r, e, hx, hy⟩ := ck_s2_of h
  have e1 := u1_at e
  rw [hx] at e1
  have e2 := s2_at (de_drop e)
  rw [hy] at e2
  show Except.bind (Except.bind (Reader.u1 c pc) _) _ = _
  rw [e1]
  show Except.bind (Except.bind (Reader.s2 c (pc + 1)) _) _ = _
  rw [e2]
  show Except.ok (_, pc + 1 + 1 + 1 - pc) = _
  rw [pc3]
theorem de_160 {c : ByteArray} {pc : Nat} {v : Int} (h : ck_s2 c pc 160 v = true) : decode c pc = .ok (.if_icmp .ne v, 3) := by
  obtain ⟨x, y, z, r, e, hx, hy⟩ := ck_s2_of h
  have e1 := u1_at e
  rw [hx] at e1
  have e2 := s2_at (de_drop e)
  rw [hy] at e2
  show Except.bind (Except.bind (Reader.u1 c pc) _) _ = _
  rw [e1]
  show Except.bind (Except.bind (Reader.s2 c (pc + 1)) _) _ = _
  rw [e2]
  show Except.ok (_, pc + 1 + 1 + 1 - pc) = _
  rw [pc3]
theorem de_161 {c : ByteArray} {pc : Nat} {v : Int} (h : ck_s2 c pc 161 v = true) : decode c pc = .ok (.if_icmp .lt v, 3) := by
  obtain ⟨x, y, z, r, e, hx, hy⟩ := ck_s2_of h
  have e1 := u1_at e
  rw [hx] at e1
  have e2 := s2_at (de_drop e)
  rw [hy] at e2
  show Except.bind (Except.bind (Reader.u1 c pc) _) _ = _
  rw [e1]
  show Except.bind (Except.bind (Reader.s2 c (pc + 1)) _) _ = _
  rw [e2]
  show Except.ok (_, pc + 1 + 1 + 1 - pc) = _
  rw [pc3]
theorem de_162 {c : ByteArray} {pc : Nat} {v : Int} (h : ck_s2 c pc 162 v = true) : decode c pc = .ok (.if_icmp .ge v, 3) := by
  obtain ⟨x, y, z, r, e, hx, hy⟩ := ck_s2_of h
  have e1 := u1_at e
  rw [hx] at e1
  have e2 := s2_at (de_drop e)
  rw [hy] at e2
  show Except.bind (Except.bind (Reader.u1 c pc) _) _ = _
  rw [e1]
  show Except.bind (Except.bind (Reader.s2 c (pc + 1)) _) _ = _
  rw [e2]
  show Except.ok (_, pc + 1 + 1 + 1 - pc) = _
  rw [pc3]
theorem de_163 {c : ByteArray} {pc : Nat} {v : Int} (h : ck_s2 c pc 163 v = true) : decode c pc = .ok (.if_icmp .gt v, 3) := by
  obtain ⟨x, y, z, r, e, hx, hy⟩ := ck_s2_of h
  have e1 := u1_at e
  rw [hx] at e1
  have e2 := s2_at (de_drop e)
  rw [hy] at e2
  show Except.bind (Except.bind (Reader.u1 c pc) _) _ = _
  rw [e1]
  show Except.bind (Except.bind (Reader.s2 c (pc + 1)) _) _ = _
  rw [e2]
  show Except.ok (_, pc + 1 + 1 + 1 - pc) = _
  rw [pc3]
theorem de_164 {c : ByteArray} {pc : Nat} {v : Int} (h : ck_s2 c pc 164 v = true) : decode c pc = .ok (.if_icmp .le v, 3) := by
  obtain ⟨x, y, z, r, e, hx, hy⟩ := ck_s2_of h
  have e1 := u1_at e
  rw [hx] at e1
  have e2 := s2_at (de_drop e)
  rw [hy] at e2
  show Except.bind (Except.bind (Reader.u1 c pc) _) _ = _
  rw [e1]
  show Except.bind (Except.bind (Reader.s2 c (pc + 1)) _) _ = _
  rw [e2]
  show Except.ok (_, pc + 1 + 1 + 1 - pc) = _
  rw [pc3]
theorem de_167 {c : ByteArray} {pc : Nat} {v : Int} (h : ck_s2 c pc 167 v = true) : decode c pc = .ok (.goto v, 3) := by
  obtain ⟨x, y, z, r, e, hx, hy⟩ := ck_s2_of h
  have e1 := u1_at e
  rw [hx] at e1
  have e2 := s2_at (de_drop e)
  rw [hy] at e2
  show Except.bind (Except.bind (Reader.u1 c pc) _) _ = _
  rw [e1]
  show Except.bind (Except.bind (Reader.s2 c (pc + 1)) _) _ = _
  rw [e2]
  show Except.ok (_, pc + 1 + 1 + 1 - pc) = _
  rw [pc3]
theorem de_172 {c : ByteArray} {pc : Nat} (h : ck_ c pc 172 = true) : decode c pc = .ok (.ireturn, 1) := by
  obtain ⟨x, r, e, hx⟩ := ck__of h
  have e1 := u1_at e
  rw [hx] at e1
  show Except.bind (Except.bind (Reader.u1 c pc) _) _ = _
  rw [e1]
  show Except.ok (_, pc + 1 - pc) = _
  rw [Nat.add_sub_cancel_left]
theorem de_173 {c : ByteArray} {pc : Nat} (h : ck_ c pc 173 = true) : decode c pc = .ok (.lreturn, 1) := by
  obtain ⟨x, r, e, hx⟩ := ck__of h
  have e1 := u1_at e
  rw [hx] at e1
  show Except.bind (Except.bind (Reader.u1 c pc) _) _ = _
  rw [e1]
  show Except.ok (_, pc + 1 - pc) = _
  rw [Nat.add_sub_cancel_left]
theorem de_177 {c : ByteArray} {pc : Nat} (h : ck_ c pc 177 = true) : decode c pc = .ok (.return_, 1) := by
  obtain ⟨x, r, e, hx⟩ := ck__of h
  have e1 := u1_at e
  rw [hx] at e1
  show Except.bind (Except.bind (Reader.u1 c pc) _) _ = _
  rw [e1]
  show Except.ok (_, pc + 1 - pc) = _
  rw [Nat.add_sub_cancel_left]
theorem de_180 {c : ByteArray} {pc : Nat} {n : Nat} (h : ck_u2 c pc 180 n = true) : decode c pc = .ok (.getfield n, 3) := by
  obtain ⟨x, y, z, r, e, hx, hy⟩ := ck_u2_of h
  have e1 := u1_at e
  rw [hx] at e1
  have e2 := u2_at (de_drop e)
  rw [hy] at e2
  show Except.bind (Except.bind (Reader.u1 c pc) _) _ = _
  rw [e1]
  show Except.bind (Except.bind (Reader.u2 c (pc + 1)) _) _ = _
  rw [e2]
  show Except.ok (_, pc + 1 + 1 + 1 - pc) = _
  rw [pc3]
theorem de_181 {c : ByteArray} {pc : Nat} {n : Nat} (h : ck_u2 c pc 181 n = true) : decode c pc = .ok (.putfield n, 3) := by
  obtain ⟨x, y, z, r, e, hx, hy⟩ := ck_u2_of h
  have e1 := u1_at e
  rw [hx] at e1
  have e2 := u2_at (de_drop e)
  rw [hy] at e2
  show Except.bind (Except.bind (Reader.u1 c pc) _) _ = _
  rw [e1]
  show Except.bind (Except.bind (Reader.u2 c (pc + 1)) _) _ = _
  rw [e2]
  show Except.ok (_, pc + 1 + 1 + 1 - pc) = _
  rw [pc3]
theorem de_182 {c : ByteArray} {pc : Nat} {n : Nat} (h : ck_u2 c pc 182 n = true) : decode c pc = .ok (.invokevirtual n, 3) := by
  obtain ⟨x, y, z, r, e, hx, hy⟩ := ck_u2_of h
  have e1 := u1_at e
  rw [hx] at e1
  have e2 := u2_at (de_drop e)
  rw [hy] at e2
  show Except.bind (Except.bind (Reader.u1 c pc) _) _ = _
  rw [e1]
  show Except.bind (Except.bind (Reader.u2 c (pc + 1)) _) _ = _
  rw [e2]
  show Except.ok (_, pc + 1 + 1 + 1 - pc) = _
  rw [pc3]
theorem de_183 {c : ByteArray} {pc : Nat} {n : Nat} (h : ck_u2 c pc 183 n = true) : decode c pc = .ok (.invokespecial n, 3) := by
  obtain ⟨x, y, z, r, e, hx, hy⟩ := ck_u2_of h
  have e1 := u1_at e
  rw [hx] at e1
  have e2 := u2_at (de_drop e)
  rw [hy] at e2
  show Except.bind (Except.bind (Reader.u1 c pc) _) _ = _
  rw [e1]
  show Except.bind (Except.bind (Reader.u2 c (pc + 1)) _) _ = _
  rw [e2]
  show Except.ok (_, pc + 1 + 1 + 1 - pc) = _
  rw [pc3]
theorem de_184 {c : ByteArray} {pc : Nat} {n : Nat} (h : ck_u2 c pc 184 n = true) : decode c pc = .ok (.invokestatic n, 3) := by
  obtain ⟨x, y, z, r, e, hx, hy⟩ := ck_u2_of h
  have e1 := u1_at e
  rw [hx] at e1
  have e2 := u2_at (de_drop e)
  rw [hy] at e2
  show Except.bind (Except.bind (Reader.u1 c pc) _) _ = _
  rw [e1]
  show Except.bind (Except.bind (Reader.u2 c (pc + 1)) _) _ = _
  rw [e2]
  show Except.ok (_, pc + 1 + 1 + 1 - pc) = _
  rw [pc3]
theorem de_187 {c : ByteArray} {pc : Nat} {n : Nat} (h : ck_u2 c pc 187 n = true) : decode c pc = .ok (.new n, 3) := by
  obtain ⟨x, y, z, r, e, hx, hy⟩ := ck_u2_of h
  have e1 := u1_at e
  rw [hx] at e1
  have e2 := u2_at (de_drop e)
  rw [hy] at e2
  show Except.bind (Except.bind (Reader.u1 c pc) _) _ = _
  rw [e1]
  show Except.bind (Except.bind (Reader.u2 c (pc + 1)) _) _ = _
  rw [e2]
  show Except.ok (_, pc + 1 + 1 + 1 - pc) = _
  rw [pc3]
theorem de_189 {c : ByteArray} {pc : Nat} {n : Nat} (h : ck_u2 c pc 189 n = true) : decode c pc = .ok (.anewarray n, 3) := by
  obtain ⟨x, y, z, r, e, hx, hy⟩ := ck_u2_of h
  have e1 := u1_at e
  rw [hx] at e1
  have e2 := u2_at (de_drop e)
  rw [hy] at e2
  show Except.bind (Except.bind (Reader.u1 c pc) _) _ = _
  rw [e1]
  show Except.bind (Except.bind (Reader.u2 c (pc + 1)) _) _ = _
  rw [e2]
  show Except.ok (_, pc + 1 + 1 + 1 - pc) = _
  rw [pc3]
theorem de_190 {c : ByteArray} {pc : Nat} (h : ck_ c pc 190 = true) : decode c pc = .ok (.arraylength, 1) := by
  obtain ⟨x, r, e, hx⟩ := ck__of h
  have e1 := u1_at e
  rw [hx] at e1
  show Except.bind (Except.bind (Reader.u1 c pc) _) _ = _
  rw [e1]
  show Except.ok (_, pc + 1 - pc) = _
  rw [Nat.add_sub_cancel_left]
theorem rcv {s : State} {H : Heap} {D : va_G} {a q0 ci N : Nat} {C : String} {T : u_T} {fs : List Value} {ws : va_W} {tys : List (ClassId × FieldType)} (hK : va_K D vwCl tys s) (hP : va_P D vwCl ws H) (he : ws[q0]? = some (a, .inr (ci, fs))) (hc : vwCl[ci]? = some (C, T, N)) : ∃ cell : Cell, H[a]? = some cell ∧ cell.vm.isStatics = false ∧ s.vm.findClass C = some cell.cls := va_recv (q := (C, T, N)) hK hP hc he
theorem goodIn_k {big : List Cond} {ck : List (List Cond)} (hin : ∀ c ∈ ck, ∀ w ∈ c, w ∈ big) (ws : List Cond) (ps : List (Nat × Nat)) (hp : ws = ps.filterMap (fun p => ck[p.1]?.bind (fun c => c[p.2]?))) (h : ws.all goodWord = true) : GoodIn big ws := by
  intro w hw
  have h1 := List.all_eq_true.mp h w hw
  rw [hp] at hw
  obtain ⟨p, -, hi⟩ := List.mem_filterMap.mp hw
  obtain ⟨c, hc, hi⟩ := Option.bind_eq_some_iff.mp hi
  exact ⟨hin c (List.mem_of_getElem? hc) w (List.mem_of_getElem? hi), good_of_word h1⟩
