section LAWLOOP
variable {p : Program} {l : Launch} {e : Env} {s : State} {m : MethodId} {below : List Frame} {meth : Method} {c : Code} {b L : Nat} {xs : Nat → Int32} {D : va_G} {ky : Nat → ClassId} {ax am : Nat → Nat}
set_option maxHeartbeats 8000000 in
set_option maxRecDepth 100000 in
/-- the law's loop -/
theorem law_loop {Rel : Nat → SX → SM → Prop} (hOK : StepOK Rel) (hL : L ≤ 2560) (C0 : lw_At p s m meth c b L xs) (hK : Kx D ky s) : ∀ (n j : Nat), 5 * j ≤ L → (L - 5 * j) / 5 = n → ∀ (x : SX) (y : SM), Rel n x y → ∀ (x3 : Int32), x3 = nI (5 * j) → ∀ (H : Heap) (locs : List Loc) (cells slots : Nat), cells ≤ 175 + j → slots ≤ 71400 + 240 * j → va_P D vwCl (wX ky ax x ++ wM ky am y) H → va_D (fun q : Nat => s.heap.size ≤ q) (wX ky ax x ++ wM ky am y) → va_S (fun q : Nat => s.heap.size ≤ q) s.heap H locs → ∀ ls : Array Slot, lv_has ls 4 [(0, .ref b), (1, .ref (ax 0)), (2, .ref (am 0)), (3, .int x3)] → W p l e room_1 s m #[Value.ref b] below meth c H locs cells slots (lw_Z below #[Value.ref b] s) (F0 m 18 ls []) := by
  obtain ⟨hmono, o0, o1, o2, o3, o4, o5, o6, o7, o8, o9, o10, o11, o12, o13, o14, o15, o16, o17, o18, o19, o20, o21, o22, o23⟩ := hOK
  obtain ⟨hx, hb, hr, hml, hown, hts, hX, hbl, hlocks, hgv⟩ := id C0
  have hbA : ¬ (fun q : Nat => s.heap.size ≤ q) b := Nat.not_le.mpr hbl
  intro n
  induction n with
  | zero =>
    intro j hj hn x y hRel x3 e3 H locs cells slots hce hsl hP hD hS ls hl
    refine lv_iload_n hx hb dL_law_18 rfl (lv_at hl 3 rfl) ?_
    refine lv_aload_n hx hb dL_law_19 rfl (lv_at hl 0 rfl) ?_
    refine va_slen hx hb hX hbl hbA hS dL_law_20 ?_
    refine lv_iconst (v := 5) hx hb dL_law_21 (by decide) ?_
    refine lv_isub hx hb dL_law_22 ?_
    refine lv_icmp_gt (tgt := 859) hx hb dL_law_23 (by decide) (fun _ => ?_) (fun hq => absurd (lw_past e3 hL (by omega)) hq)
    refine lv_iconst (v := 1) hx hb dL_law_859 (by decide) ?_
    refine va_forget (fun q hq => hS.2.2 q hq) ?_
    refine W.widen (k := 600000) (n := 7302250) (by omega) (by omega) ?_
    exact lw_ret hx hb hr hlocks dL_law_860
  | succ n ih =>
    intro j hj hn x y hRel x3 e3 H locs cells slots hce hsl hP hD hS ls hl
    have h5 : 5 * j + 5 ≤ L := by omega
    have h0 : vp_in x3 L := by rw [e3]; exact vp_in_nI (by omega) (by omega)
    have h1 : vp_in (x3 + 1) L := by rw [e3]; exact lw_ix 1 (by omega) hL
    have h2 : vp_in (x3 + 2) L := by rw [e3]; exact lw_ix 2 (by omega) hL
    have h3 : vp_in (x3 + 3) L := by rw [e3]; exact lw_ix 3 (by omega) hL
    have h4 : vp_in (x3 + 4) L := by rw [e3]; exact lw_ix 4 (by omega) hL
    have hce1 : cells + 1 ≤ 600000 := by omega
    have hsl1 : slots + 240 ≤ 7302250 := by omega
    have go : ∀ (x' : SX) (y' : SM), Rel n x' y' → ∀ (H : Heap) (locs : List Loc), va_P D vwCl (wX ky ax x' ++ wM ky am y') H → va_D (fun q : Nat => s.heap.size ≤ q) (wX ky ax x' ++ wM ky am y') → va_S (fun q : Nat => s.heap.size ≤ q) s.heap H locs → W p l e room_1 s m #[Value.ref b] below meth c H locs (cells + 1) (slots + 240) (lw_Z below #[Value.ref b] s) (F0 m 853 ls []) := by
      intro x' y' hR' H locs hP hD hS
      refine lv_iinc (v := x3 + 5) (lv' := [(3, .int (x3 + 5)), (0, .ref b), (1, .ref (ax 0)), (2, .ref (am 0))]) hx hb dL_law_853 hl (k := 3) rfl rfl (by decide) rfl (fun ls hl => ?_)
      refine lv_goto (tgt := 18) hx hb dL_law_856 (by decide) ?_
      exact ih (j + 1) (by omega) (by omega) x' y' hR' (x3 + 5) (by rw [e3]; exact lw_next j) H locs _ _ (by omega) (by omega) hP hD hS ls (lv_sub hl [1, 2, 3, 0] rfl)
    refine lv_iload_n hx hb dL_law_18 rfl (lv_at hl 3 rfl) ?_
    refine lv_aload_n hx hb dL_law_19 rfl (lv_at hl 0 rfl) ?_
    refine va_slen hx hb hX hbl hbA hS dL_law_20 ?_
    refine lv_iconst (v := 5) hx hb dL_law_21 (by decide) ?_
    refine lv_isub hx hb dL_law_22 ?_
    refine lv_icmp_gt (tgt := 859) hx hb dL_law_23 (by decide) (fun hq => absurd hq (lw_notpast e3 hL h5)) (fun _ => ?_)
    refine lv_aload_n hx hb dL_law_26 rfl (lv_at hl 0 rfl) ?_
    refine lv_iload_n hx hb dL_law_27 rfl (lv_at hl 3 rfl) ?_
    refine va_sld hx hb hX hbl hbA hS h0 dL_law_28 ?_
    refine lv_bipush (v := 31) hx hb dL_law_29 (by decide) ?_
    refine lv_iand hx hb dL_law_31 ?_
    refine lv_topi (fun v ev => ?_)
    by_cases hc0 : v = 0
    · refine lv_tableIn (tgt := 144) (off := 112) hx hb dL_law_32 (by rw [hc0]; decide) (by rw [hc0]; decide) (by rw [hc0]; rfl) (by decide) ?_
      obtain ⟨r, x', y', e1, e2, hR'⟩ := o0 n (xs (x3 + 1).toNatClampNeg) (xs (x3 + 2).toNatClampNeg) x y hRel
      exact lwo_0 C0 hK h1 h2 h3 h4 e1 e2 hP hD hS hl hce1 hsl1 (go x' y' hR')
    by_cases hc1 : v = 1
    · refine lv_tableIn (tgt := 177) (off := 145) hx hb dL_law_32 (by rw [hc1]; decide) (by rw [hc1]; decide) (by rw [hc1]; rfl) (by decide) ?_
      obtain ⟨r, x', y', e1, e2, hR'⟩ := o1 n (xs (x3 + 1).toNatClampNeg) (xs (x3 + 2).toNatClampNeg) (xs (x3 + 3).toNatClampNeg) (xs (x3 + 4).toNatClampNeg) x y hRel
      exact lwo_1 C0 hK h1 h2 h3 h4 e1 e2 hP hD hS hl hce1 hsl1 (go x' y' hR')
    by_cases hc2 : v = 2
    · refine lv_tableIn (tgt := 230) (off := 198) hx hb dL_law_32 (by rw [hc2]; decide) (by rw [hc2]; decide) (by rw [hc2]; rfl) (by decide) ?_
      obtain ⟨r, x', y', e1, e2, hR'⟩ := o2 n  x y hRel
      exact lwo_2 C0 hK h1 h2 h3 h4 e1 e2 hP hD hS hl hce1 hsl1 (go x' y' hR')
    by_cases hc3 : v = 3
    · refine lv_tableIn (tgt := 243) (off := 211) hx hb dL_law_32 (by rw [hc3]; decide) (by rw [hc3]; decide) (by rw [hc3]; rfl) (by decide) ?_
      obtain ⟨r, x', y', e1, e2, hR'⟩ := o3 n (xs (x3 + 1).toNatClampNeg) x y hRel
      exact lwo_3 C0 hK h1 h2 h3 h4 e1 e2 hP hD hS hl hce1 hsl1 (go x' y' hR')
    by_cases hc4 : v = 4
    · refine lv_tableIn (tgt := 266) (off := 234) hx hb dL_law_32 (by rw [hc4]; decide) (by rw [hc4]; decide) (by rw [hc4]; rfl) (by decide) ?_
      obtain ⟨r, x', y', e1, e2, hR'⟩ := o4 n (xs (x3 + 1).toNatClampNeg) (xs (x3 + 2).toNatClampNeg) x y hRel
      exact lwo_4 C0 hK h1 h2 h3 h4 e1 e2 hP hD hS hl hce1 hsl1 (go x' y' hR')
    by_cases hc5 : v = 5
    · refine lv_tableIn (tgt := 299) (off := 267) hx hb dL_law_32 (by rw [hc5]; decide) (by rw [hc5]; decide) (by rw [hc5]; rfl) (by decide) ?_
      obtain ⟨r, x', y', e1, e2, hR'⟩ := o5 n (xs (x3 + 1).toNatClampNeg) (xs (x3 + 2).toNatClampNeg) x y hRel
      exact lwo_5 C0 hK h1 h2 h3 h4 e1 e2 hP hD hS hl hce1 hsl1 (go x' y' hR')
    by_cases hc6 : v = 6
    · refine lv_tableIn (tgt := 332) (off := 300) hx hb dL_law_32 (by rw [hc6]; decide) (by rw [hc6]; decide) (by rw [hc6]; rfl) (by decide) ?_
      obtain ⟨r, x', y', e1, e2, hR'⟩ := o6 n (xs (x3 + 1).toNatClampNeg) (xs (x3 + 2).toNatClampNeg) x y hRel
      exact lwo_6 C0 hK h1 h2 h3 h4 e1 e2 hP hD hS hl hce1 hsl1 (go x' y' hR')
    by_cases hc7 : v = 7
    · refine lv_tableIn (tgt := 365) (off := 333) hx hb dL_law_32 (by rw [hc7]; decide) (by rw [hc7]; decide) (by rw [hc7]; rfl) (by decide) ?_
      obtain ⟨r, x', y', e1, e2, hR'⟩ := o7 n (xs (x3 + 1).toNatClampNeg) (xs (x3 + 2).toNatClampNeg) x y hRel
      exact lwo_7 C0 hK h1 h2 h3 h4 e1 e2 hP hD hS hl hce1 hsl1 (go x' y' hR')
    by_cases hc8 : v = 8
    · refine lv_tableIn (tgt := 398) (off := 366) hx hb dL_law_32 (by rw [hc8]; decide) (by rw [hc8]; decide) (by rw [hc8]; rfl) (by decide) ?_
      obtain ⟨r, x', y', e1, e2, hR'⟩ := o8 n (xs (x3 + 1).toNatClampNeg) x y hRel
      exact lwo_8 C0 hK h1 h2 h3 h4 e1 e2 hP hD hS hl hce1 hsl1 (go x' y' hR')
    by_cases hc9 : v = 9
    · refine lv_tableIn (tgt := 422) (off := 390) hx hb dL_law_32 (by rw [hc9]; decide) (by rw [hc9]; decide) (by rw [hc9]; rfl) (by decide) ?_
      obtain ⟨r, x', y', e1, e2, hR'⟩ := o9 n (xs (x3 + 1).toNatClampNeg) (xs (x3 + 2).toNatClampNeg) x y hRel
      exact lwo_9 C0 hK h1 h2 h3 h4 e1 e2 hP hD hS hl hce1 hsl1 (go x' y' hR')
    by_cases hc10 : v = 10
    · refine lv_tableIn (tgt := 455) (off := 423) hx hb dL_law_32 (by rw [hc10]; decide) (by rw [hc10]; decide) (by rw [hc10]; rfl) (by decide) ?_
      obtain ⟨r, x', y', e1, e2, hR'⟩ := o10 n (xs (x3 + 1).toNatClampNeg) (xs (x3 + 2).toNatClampNeg) x y hRel
      exact lwo_10 C0 hK h1 h2 h3 h4 e1 e2 hP hD hS hl hce1 hsl1 (go x' y' hR')
    by_cases hc11 : v = 11
    · refine lv_tableIn (tgt := 488) (off := 456) hx hb dL_law_32 (by rw [hc11]; decide) (by rw [hc11]; decide) (by rw [hc11]; rfl) (by decide) ?_
      obtain ⟨r, x', y', e1, e2, hR'⟩ := o11 n (xs (x3 + 1).toNatClampNeg) (xs (x3 + 2).toNatClampNeg) (xs (x3 + 3).toNatClampNeg) x y hRel
      exact lwo_11 C0 hK h1 h2 h3 h4 e1 e2 hP hD hS hl hce1 hsl1 (go x' y' hR')
    by_cases hc12 : v = 12
    · refine lv_tableIn (tgt := 531) (off := 499) hx hb dL_law_32 (by rw [hc12]; decide) (by rw [hc12]; decide) (by rw [hc12]; rfl) (by decide) ?_
      obtain ⟨r, x', y', e1, e2, hR'⟩ := o12 n (xs (x3 + 1).toNatClampNeg) x y hRel
      exact lwo_12 C0 hK h1 h2 h3 h4 e1 e2 hP hD hS hl hce1 hsl1 (go x' y' hR')
    by_cases hc13 : v = 13
    · refine lv_tableIn (tgt := 554) (off := 522) hx hb dL_law_32 (by rw [hc13]; decide) (by rw [hc13]; decide) (by rw [hc13]; rfl) (by decide) ?_
      obtain ⟨r, x', y', e1, e2, hR'⟩ := o13 n (xs (x3 + 1).toNatClampNeg) x y hRel
      exact lwo_13 C0 hK h1 h2 h3 h4 e1 e2 hP hD hS hl hce1 hsl1 (go x' y' hR')
    by_cases hc14 : v = 14
    · refine lv_tableIn (tgt := 577) (off := 545) hx hb dL_law_32 (by rw [hc14]; decide) (by rw [hc14]; decide) (by rw [hc14]; rfl) (by decide) ?_
      obtain ⟨r, x', y', e1, e2, hR'⟩ := o14 n (xs (x3 + 1).toNatClampNeg) x y hRel
      exact lwo_14 C0 hK h1 h2 h3 h4 e1 e2 hP hD hS hl hce1 hsl1 (go x' y' hR')
    by_cases hc15 : v = 15
    · refine lv_tableIn (tgt := 600) (off := 568) hx hb dL_law_32 (by rw [hc15]; decide) (by rw [hc15]; decide) (by rw [hc15]; rfl) (by decide) ?_
      obtain ⟨r, x', y', e1, e2, hR'⟩ := o15 n (xs (x3 + 1).toNatClampNeg) x y hRel
      exact lwo_15 C0 hK h1 h2 h3 h4 e1 e2 hP hD hS hl hce1 hsl1 (go x' y' hR')
    by_cases hc16 : v = 16
    · refine lv_tableIn (tgt := 623) (off := 591) hx hb dL_law_32 (by rw [hc16]; decide) (by rw [hc16]; decide) (by rw [hc16]; rfl) (by decide) ?_
      obtain ⟨r, x', y', e1, e2, hR'⟩ := o16 n  x y hRel
      exact lwo_16 C0 hK h1 h2 h3 h4 e1 e2 hP hD hS hl hce1 hsl1 (go x' y' hR')
    by_cases hc17 : v = 17
    · refine lv_tableIn (tgt := 636) (off := 604) hx hb dL_law_32 (by rw [hc17]; decide) (by rw [hc17]; decide) (by rw [hc17]; rfl) (by decide) ?_
      by_cases hz : xs (x3 + 3).toNatClampNeg = 0
      · obtain ⟨r, x', y', e1, e2, hR'⟩ := o17 n (xs (x3 + 1).toNatClampNeg) (xs (x3 + 2).toNatClampNeg) 0 x y (Or.inl rfl) hRel
        exact lwo_17z C0 hK h1 h2 h3 h4 hz e1 e2 hP hD hS hl hce1 hsl1 (go x' y' hR')
      · obtain ⟨r, x', y', e1, e2, hR'⟩ := o17 n (xs (x3 + 1).toNatClampNeg) (xs (x3 + 2).toNatClampNeg) 1 x y (Or.inr rfl) hRel
        exact lwo_17n C0 hK h1 h2 h3 h4 hz e1 e2 hP hD hS hl hce1 hsl1 (go x' y' hR')
    by_cases hc18 : v = 18
    · refine lv_tableIn (tgt := 695) (off := 663) hx hb dL_law_32 (by rw [hc18]; decide) (by rw [hc18]; decide) (by rw [hc18]; rfl) (by decide) ?_
      obtain ⟨r, x', y', e1, e2, hR'⟩ := o18 n (xs (x3 + 1).toNatClampNeg) x y hRel
      exact lwo_18 C0 hK h1 h2 h3 h4 e1 e2 hP hD hS hl hce1 hsl1 (go x' y' hR')
    by_cases hc19 : v = 19
    · refine lv_tableIn (tgt := 718) (off := 686) hx hb dL_law_32 (by rw [hc19]; decide) (by rw [hc19]; decide) (by rw [hc19]; rfl) (by decide) ?_
      obtain ⟨r, x', y', e1, e2, hR'⟩ := o19 n (xs (x3 + 1).toNatClampNeg) x y hRel
      exact lwo_19 C0 hK h1 h2 h3 h4 e1 e2 hP hD hS hl hce1 hsl1 (go x' y' hR')
    by_cases hc20 : v = 20
    · refine lv_tableIn (tgt := 741) (off := 709) hx hb dL_law_32 (by rw [hc20]; decide) (by rw [hc20]; decide) (by rw [hc20]; rfl) (by decide) ?_
      obtain ⟨r, x', y', e1, e2, hR'⟩ := o20 n (xs (x3 + 1).toNatClampNeg) x y hRel
      exact lwo_20 C0 hK h1 h2 h3 h4 e1 e2 hP hD hS hl hce1 hsl1 (go x' y' hR')
    by_cases hc21 : v = 21
    · refine lv_tableIn (tgt := 764) (off := 732) hx hb dL_law_32 (by rw [hc21]; decide) (by rw [hc21]; decide) (by rw [hc21]; rfl) (by decide) ?_
      obtain ⟨r, x', y', e1, e2, hR'⟩ := o21 n (xs (x3 + 1).toNatClampNeg) (xs (x3 + 2).toNatClampNeg) x y hRel
      exact lwo_21 C0 hK h1 h2 h3 h4 e1 e2 hP hD hS hl hce1 hsl1 (go x' y' hR')
    by_cases hc22 : v = 22
    · refine lv_tableIn (tgt := 797) (off := 765) hx hb dL_law_32 (by rw [hc22]; decide) (by rw [hc22]; decide) (by rw [hc22]; rfl) (by decide) ?_
      obtain ⟨r, x', y', e1, e2, hR'⟩ := o22 n (xs (x3 + 1).toNatClampNeg) (xs (x3 + 2).toNatClampNeg) x y hRel
      exact lwo_22 C0 hK h1 h2 h3 h4 e1 e2 hP hD hS hl hce1 hsl1 (go x' y' hR')
    by_cases hc23 : v = 23
    · refine lv_tableIn (tgt := 830) (off := 798) hx hb dL_law_32 (by rw [hc23]; decide) (by rw [hc23]; decide) (by rw [hc23]; rfl) (by decide) ?_
      obtain ⟨r, x', y', e1, e2, hR'⟩ := o23 n (xs (x3 + 1).toNatClampNeg) x y hRel
      exact lwo_23 C0 hK h1 h2 h3 h4 e1 e2 hP hD hS hl hce1 hsl1 (go x' y' hR')
    have hto : v.toInt < 0 ∨ 23 < v.toInt := by
      have n0 : v.toInt ≠ 0 := tb_ne hc0
      have n1 : v.toInt ≠ 1 := tb_ne hc1
      have n2 : v.toInt ≠ 2 := tb_ne hc2
      have n3 : v.toInt ≠ 3 := tb_ne hc3
      have n4 : v.toInt ≠ 4 := tb_ne hc4
      have n5 : v.toInt ≠ 5 := tb_ne hc5
      have n6 : v.toInt ≠ 6 := tb_ne hc6
      have n7 : v.toInt ≠ 7 := tb_ne hc7
      have n8 : v.toInt ≠ 8 := tb_ne hc8
      have n9 : v.toInt ≠ 9 := tb_ne hc9
      have n10 : v.toInt ≠ 10 := tb_ne hc10
      have n11 : v.toInt ≠ 11 := tb_ne hc11
      have n12 : v.toInt ≠ 12 := tb_ne hc12
      have n13 : v.toInt ≠ 13 := tb_ne hc13
      have n14 : v.toInt ≠ 14 := tb_ne hc14
      have n15 : v.toInt ≠ 15 := tb_ne hc15
      have n16 : v.toInt ≠ 16 := tb_ne hc16
      have n17 : v.toInt ≠ 17 := tb_ne hc17
      have n18 : v.toInt ≠ 18 := tb_ne hc18
      have n19 : v.toInt ≠ 19 := tb_ne hc19
      have n20 : v.toInt ≠ 20 := tb_ne hc20
      have n21 : v.toInt ≠ 21 := tb_ne hc21
      have n22 : v.toInt ≠ 22 := tb_ne hc22
      have n23 : v.toInt ≠ 23 := tb_ne hc23
      omega
    refine lv_tableOut (tgt := 853) hx hb dL_law_32 hto (by decide) ?_
    refine W.widen (k := cells + 1) (n := slots + 240) (by omega) (by omega) ?_
    exact go x y (hmono n x y hRel) H locs hP hD hS
end LAWLOOP
