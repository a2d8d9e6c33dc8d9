def bX3_leaveOut_2 (s_total : Int32) (t : Int32 × (Nat → Int32)) : Option (Nat × (Int32 × (Nat → Int32))) := dm2 t (fun (v1 : Int32) (v2 : Nat → Int32) => if s_total ≤ v1 then some (1, (v1, v2)) else gd (¬ (v1 < 0 ∨ 128 ≤ v1.toNatClampNeg)) (lt (upd v2 v1.toNatClampNeg (vp_nar .boolean (1 : Int32))) (fun f3 => lt (v1 + 1) (fun x4 => some (0, (x4, f3))))))
def bX3_leaveOut_52 (a1 : Int32) (s_total : Int32) (s_allowed : Nat → Int32) (s_nearHigh : Nat → Int64) (s_nearLow : Nat → Int64) (t : Int32 × Int32 × (Nat → Int32) × (Nat → Int32) × (Nat → Int64) × (Nat → Int64) × (Nat → Int32) × (Nat → Int32)) : Option (Nat × (Int32 × Int32 × (Nat → Int32) × (Nat → Int32) × (Nat → Int64) × (Nat → Int64) × (Nat → Int32) × (Nat → Int32))) := dm8 t (fun (v13 : Int32) (v14 : Int32) (v15 : Nat → Int32) (v16 : Nat → Int32) (v17 : Nat → Int64) (v18 : Nat → Int64) (v19 : Nat → Int32) (v20 : Nat → Int32) => if s_total ≤ v14 then some (2, (v13, v14, v15, v16, v17, v18, v19, v20)) else gd (¬ (v14 < 0 ∨ 128 ≤ v14.toNatClampNeg)) (lt (upd v15 v14.toNatClampNeg (vp_nar .boolean (0 : Int32))) (fun f21 => ob (sX3_search a1 s_total s_allowed f21 s_nearHigh s_nearLow v16 v17 v18 v19 v20) (fun o => dm6 o (fun (r22 : Int32) (o23 : Nat → Int32) (o24 : Nat → Int64) (o25 : Nat → Int64) (o26 : Nat → Int32) (o27 : Nat → Int32) => if ¬ r22 = (-6 : Int32) then ob (if ¬ r22 = (1 : Int32) then some (v13, f21) else gd (¬ (v14 < 0 ∨ 128 ≤ v14.toNatClampNeg)) (lt (upd f21 v14.toNatClampNeg (vp_nar .boolean (1 : Int32))) (fun f31 => lt (v13 + 1) (fun x32 => some (x32, f31))))) (fun t => dm2 t (fun (v28 : Int32) (v29 : Nat → Int32) => lt (v14 + 1) (fun x30 => some (0, (v28, x30, v29, o23, o24, o25, o26, o27))))) else some (1, (v13, v14, f21, o23, o24, o25, o26, o27)))))))
def bX3_leaveOut_109 (s_total : Int32) (v43 : Nat → Int32) (t : Int32 × (Nat → Int32)) : Option (Nat × (Int32 × (Nat → Int32))) := dm2 t (fun (v49 : Int32) (v50 : Nat → Int32) => if s_total ≤ v49 then some (1, (v49, v50)) else gd (¬ (v49 < 0 ∨ 128 ≤ v49.toNatClampNeg)) (gd (¬ (v49 < 0 ∨ 128 ≤ v49.toNatClampNeg)) (lt (upd v50 v49.toNatClampNeg (vp_nar .boolean (v43 v49.toNatClampNeg))) (fun f51 => lt (v49 + 1) (fun x52 => some (0, (x52, f51)))))))
def sX3_leaveOut (a1 : Int32) (s_total : Int32) (s_allowed : Nat → Int32) (s_left : Nat → Int32) (s_leftByLatest : Nat → Int32) (s_nearHigh : Nat → Int64) (s_nearLow : Nat → Int64) (s_painted : Nat → Int32) (s_paintedHigh : Nat → Int64) (s_paintedLow : Nat → Int64) (s_searched : Nat → Int32) (s_upcoming : Nat → Int32) : Option (Int32 × (Nat → Int32) × (Nat → Int32) × (Nat → Int32) × (Nat → Int64) × (Nat → Int64) × (Nat → Int32) × (Nat → Int32)) := ob (iter (bX3_leaveOut_2 s_total) FU ((0 : Int32), s_left)) (fun kt => ex1 kt (fun t => dm2 t (fun (v5 : Int32) (v6 : Nat → Int32) => ob (sX3_search a1 s_total s_allowed v6 s_nearHigh s_nearLow s_painted s_paintedHigh s_paintedLow s_searched s_upcoming) (fun o => dm6 o (fun (r7 : Int32) (o8 : Nat → Int32) (o9 : Nat → Int64) (o10 : Nat → Int64) (o11 : Nat → Int32) (o12 : Nat → Int32) => if r7 = 0 then ob (iter (bX3_leaveOut_52 a1 s_total s_allowed s_nearHigh s_nearLow) FU ((0 : Int32), (0 : Int32), v6, o8, o9, o10, o11, o12)) (fun kt => ex2 kt (fun t => dm8 t (fun (v33 : Int32) (v34 : Int32) (v35 : Nat → Int32) (v36 : Nat → Int32) (v37 : Nat → Int64) (v38 : Nat → Int64) (v39 : Nat → Int32) (v40 : Nat → Int32) => some ((-6 : Int32), v35, s_leftByLatest, v36, v37, v38, v39, v40))) (fun t => dm8 t (fun (v41 : Int32) (v42 : Int32) (v43 : Nat → Int32) (v44 : Nat → Int32) (v45 : Nat → Int64) (v46 : Nat → Int64) (v47 : Nat → Int32) (v48 : Nat → Int32) => ob (iter (bX3_leaveOut_109 s_total v43) FU ((0 : Int32), s_leftByLatest)) (fun kt => ex1 kt (fun t => dm2 t (fun (v53 : Int32) (v54 : Nat → Int32) => some (v41, v43, v54, v44, v45, v46, v47, v48))))))) else if ¬ r7 = (-6 : Int32) then some ((-7 : Int32), v6, s_leftByLatest, o8, o9, o10, o11, o12) else some ((-6 : Int32), v6, s_leftByLatest, o8, o9, o10, o11, o12))))))
abbrev rmX3_leaveOut : Room := { frames := 2, cells := 0, slots := 0, locals := 50 }
set_option maxHeartbeats 4000000 in
set_option maxRecDepth 100000 in
theorem c_X3_leaveOut (l : Launch) (D : va_G) (ky : Nat → ClassId) (q_ q_kind q_allowed q_colour q_nearLow q_nearHigh q_paintedLow q_paintedHigh q_searched q_painted q_upcoming q_left q_leftByLatest : Nat) (a1 : Int32) (s_total : Int32) (s_allowed : Nat → Int32) (s_left : Nat → Int32) (s_leftByLatest : Nat → Int32) (s_nearHigh : Nat → Int64) (s_nearLow : Nat → Int64) (s_painted : Nat → Int32) (s_paintedHigh : Nat → Int64) (s_paintedLow : Nat → Int64) (s_searched : Nat → Int32) (s_upcoming : Nat → Int32) {o_r : Int32} {o_left : Nat → Int32} {o_leftByLatest : Nat → Int32} {o_painted : Nat → Int32} {o_paintedHigh : Nat → Int64} {o_paintedLow : Nat → Int64} {o_searched : Nat → Int32} {o_upcoming : Nat → Int32} (h : sX3_leaveOut a1 s_total s_allowed s_left s_leftByLatest s_nearHigh s_nearLow s_painted s_paintedHigh s_paintedLow s_searched s_upcoming = some (o_r, o_left, o_leftByLatest, o_painted, o_paintedHigh, o_paintedLow, o_searched, o_upcoming)) : MtI l D ky yX3_leaveOut wsX3_leaveOut rmX3_leaveOut [.ref q_, .int a1] [(q_, .inr (3, [.int s_total, .ref q_kind, .ref q_allowed, .ref q_colour, .ref q_nearLow, .ref q_nearHigh, .ref q_paintedLow, .ref q_paintedHigh, .ref q_searched, .ref q_painted, .ref q_upcoming, .ref q_left, .ref q_leftByLatest])), (q_allowed, .inl (ky 0, 128, .inl s_allowed)), (q_left, .inl (ky 2, 128, .inl s_left)), (q_leftByLatest, .inl (ky 2, 128, .inl s_leftByLatest)), (q_nearHigh, .inl (ky 1, 128, .inr (.inl s_nearHigh))), (q_nearLow, .inl (ky 1, 128, .inr (.inl s_nearLow))), (q_painted, .inl (ky 0, 128, .inl s_painted)), (q_paintedHigh, .inl (ky 1, 8, .inr (.inl s_paintedHigh))), (q_paintedLow, .inl (ky 1, 8, .inr (.inl s_paintedLow))), (q_searched, .inl (ky 0, 128, .inl s_searched)), (q_upcoming, .inl (ky 0, 128, .inl s_upcoming))] [(q_, .inr (3, [.int s_total, .ref q_kind, .ref q_allowed, .ref q_colour, .ref q_nearLow, .ref q_nearHigh, .ref q_paintedLow, .ref q_paintedHigh, .ref q_searched, .ref q_painted, .ref q_upcoming, .ref q_left, .ref q_leftByLatest])), (q_allowed, .inl (ky 0, 128, .inl s_allowed)), (q_left, .inl (ky 2, 128, .inl o_left)), (q_leftByLatest, .inl (ky 2, 128, .inl o_leftByLatest)), (q_nearHigh, .inl (ky 1, 128, .inr (.inl s_nearHigh))), (q_nearLow, .inl (ky 1, 128, .inr (.inl s_nearLow))), (q_painted, .inl (ky 0, 128, .inl o_painted)), (q_paintedHigh, .inl (ky 1, 8, .inr (.inl o_paintedHigh))), (q_paintedLow, .inl (ky 1, 8, .inr (.inl o_paintedLow))), (q_searched, .inl (ky 0, 128, .inl o_searched)), (q_upcoming, .inl (ky 0, 128, .inl o_upcoming))] o_r 0 0 := by
  refine MtI.of (cc := cX3_leaveOut) (maxL := 5) (by decide +kernel) rfl (Nat.le_of_ble_eq_true rfl) ?_
  intro p e R s m args below meth c A Q ls hR hx hb hts hown hnm hml hP hK hD hA ret hl
  have rt := rtI (dc := fun pc => decode cX3_leaveOut pc = .ok (.ireturn, 1)) (o_r, o_left, o_leftByLatest, o_painted, o_paintedHigh, o_paintedLow, o_searched, o_upcoming) (fun t => [(q_, .inr (3, [.int s_total, .ref q_kind, .ref q_allowed, .ref q_colour, .ref q_nearLow, .ref q_nearHigh, .ref q_paintedLow, .ref q_paintedHigh, .ref q_searched, .ref q_painted, .ref q_upcoming, .ref q_left, .ref q_leftByLatest])), (q_allowed, .inl (ky 0, 128, .inl s_allowed)), (q_left, .inl (ky 2, 128, .inl t.2.1)), (q_leftByLatest, .inl (ky 2, 128, .inl t.2.2.1)), (q_nearHigh, .inl (ky 1, 128, .inr (.inl s_nearHigh))), (q_nearLow, .inl (ky 1, 128, .inr (.inl s_nearLow))), (q_painted, .inl (ky 0, 128, .inl t.2.2.2.1)), (q_paintedHigh, .inl (ky 1, 8, .inr (.inl t.2.2.2.2.1))), (q_paintedLow, .inl (ky 1, 8, .inr (.inl t.2.2.2.2.2.1))), (q_searched, .inl (ky 0, 128, .inl t.2.2.2.2.2.2.1)), (q_upcoming, .inl (ky 0, 128, .inl t.2.2.2.2.2.2.2))]) (fun t => t.1) ret
  subst hR
  obtain ⟨H, hH⟩ : ∃ H, H = s.heap := ⟨_, rfl⟩
  obtain ⟨locs, hlocs⟩ : ∃ locs : List Loc, locs = [] := ⟨_, rfl⟩
  have hS : va_S A s.heap H locs := by rw [hH, hlocs]; exact va_S.rf
  rw [← hH] at hP
  suffices hgo : W p l e rmX3_leaveOut s m args below meth c H locs 0 0 Q (F0 m 0 ls []) by rw [hH, hlocs] at hgo; exact hgo
  clear hH hlocs
  replace hl : lv_has ls 5 [(0, .ref q_), (1, .int a1)] := hl
  replace hown : s.vm.findClass RX3 = some m.cls := hown
  have hi_X3 : ∀ w ∈ u_ws RX3 TX3 13, w ∈ wsX3_leaveOut := fun _ h9 => List.mem_cons_of_mem _ (List.mem_append_right _ h9)
  have hf_56 := hts (.fieldLink RX3 56 "GlazierBench$Glazing" "total" "I") (by decide +kernel)
  have hf_43 := hts (.fieldLink RX3 43 "GlazierBench$Glazing" "left" "[Z") (by decide +kernel)
  have hf_47 := hts (.fieldLink RX3 47 "GlazierBench$Glazing" "leftByLatest" "[Z") (by decide +kernel)
  unfold sX3_leaveOut at h
  refine lv_iconst (v := 0) hx hb dX3_leaveOut_0 (by decide) ?_
  refine lv_istore_n (lv' := [(2, .int (0 : Int32)), (0, .ref q_), (1, .int a1)]) hx hb dX3_leaveOut_1 rfl hl (by decide) rfl (fun ls hl => ?_)
  obtain ⟨⟨k, t⟩, hi, h⟩ := ob_of h
  refine iter_rule (P := fun (k : Nat) (t : Int32 × (Nat → Int32)) => ∀ (H : Heap) (locs : List Loc) (ls : Array Slot), va_P D vwCl [(q_, .inr (3, [.int s_total, .ref q_kind, .ref q_allowed, .ref q_colour, .ref q_nearLow, .ref q_nearHigh, .ref q_paintedLow, .ref q_paintedHigh, .ref q_searched, .ref q_painted, .ref q_upcoming, .ref q_left, .ref q_leftByLatest])), (q_allowed, .inl (ky 0, 128, .inl s_allowed)), (q_left, .inl (ky 2, 128, .inl t.2)), (q_leftByLatest, .inl (ky 2, 128, .inl s_leftByLatest)), (q_nearHigh, .inl (ky 1, 128, .inr (.inl s_nearHigh))), (q_nearLow, .inl (ky 1, 128, .inr (.inl s_nearLow))), (q_painted, .inl (ky 0, 128, .inl s_painted)), (q_paintedHigh, .inl (ky 1, 8, .inr (.inl s_paintedHigh))), (q_paintedLow, .inl (ky 1, 8, .inr (.inl s_paintedLow))), (q_searched, .inl (ky 0, 128, .inl s_searched)), (q_upcoming, .inl (ky 0, 128, .inl s_upcoming))] H → va_D A [(q_, .inr (3, [.int s_total, .ref q_kind, .ref q_allowed, .ref q_colour, .ref q_nearLow, .ref q_nearHigh, .ref q_paintedLow, .ref q_paintedHigh, .ref q_searched, .ref q_painted, .ref q_upcoming, .ref q_left, .ref q_leftByLatest])), (q_allowed, .inl (ky 0, 128, .inl s_allowed)), (q_left, .inl (ky 2, 128, .inl t.2)), (q_leftByLatest, .inl (ky 2, 128, .inl s_leftByLatest)), (q_nearHigh, .inl (ky 1, 128, .inr (.inl s_nearHigh))), (q_nearLow, .inl (ky 1, 128, .inr (.inl s_nearLow))), (q_painted, .inl (ky 0, 128, .inl s_painted)), (q_paintedHigh, .inl (ky 1, 8, .inr (.inl s_paintedHigh))), (q_paintedLow, .inl (ky 1, 8, .inr (.inl s_paintedLow))), (q_searched, .inl (ky 0, 128, .inl s_searched)), (q_upcoming, .inl (ky 0, 128, .inl s_upcoming))] → va_S A s.heap H locs → lv_has ls 5 [(0, .ref q_), (1, .int a1), (2, .int t.1)] → W p l e rmX3_leaveOut s m args below meth c H locs 0 0 Q (F0 m ([2, 23].getD k 0) ls [])) ?_ _ _ _ _ hi ?_ H locs ls hP hD hS (lv_sub hl [1, 2, 0] rfl)
  · clear h hi hP hD hS hl
    intro t k t' h K
    obtain ⟨v1, v2⟩ := t
    intro H locs ls hP hD hS hl
    replace h := dm2_of h
    replace hP : va_P D vwCl [(q_, .inr (3, [.int s_total, .ref q_kind, .ref q_allowed, .ref q_colour, .ref q_nearLow, .ref q_nearHigh, .ref q_paintedLow, .ref q_paintedHigh, .ref q_searched, .ref q_painted, .ref q_upcoming, .ref q_left, .ref q_leftByLatest])), (q_allowed, .inl (ky 0, 128, .inl s_allowed)), (q_left, .inl (ky 2, 128, .inl v2)), (q_leftByLatest, .inl (ky 2, 128, .inl s_leftByLatest)), (q_nearHigh, .inl (ky 1, 128, .inr (.inl s_nearHigh))), (q_nearLow, .inl (ky 1, 128, .inr (.inl s_nearLow))), (q_painted, .inl (ky 0, 128, .inl s_painted)), (q_paintedHigh, .inl (ky 1, 8, .inr (.inl s_paintedHigh))), (q_paintedLow, .inl (ky 1, 8, .inr (.inl s_paintedLow))), (q_searched, .inl (ky 0, 128, .inl s_searched)), (q_upcoming, .inl (ky 0, 128, .inl s_upcoming))] H := hP
    replace hD : va_D A [(q_, .inr (3, [.int s_total, .ref q_kind, .ref q_allowed, .ref q_colour, .ref q_nearLow, .ref q_nearHigh, .ref q_paintedLow, .ref q_paintedHigh, .ref q_searched, .ref q_painted, .ref q_upcoming, .ref q_left, .ref q_leftByLatest])), (q_allowed, .inl (ky 0, 128, .inl s_allowed)), (q_left, .inl (ky 2, 128, .inl v2)), (q_leftByLatest, .inl (ky 2, 128, .inl s_leftByLatest)), (q_nearHigh, .inl (ky 1, 128, .inr (.inl s_nearHigh))), (q_nearLow, .inl (ky 1, 128, .inr (.inl s_nearLow))), (q_painted, .inl (ky 0, 128, .inl s_painted)), (q_paintedHigh, .inl (ky 1, 8, .inr (.inl s_paintedHigh))), (q_paintedLow, .inl (ky 1, 8, .inr (.inl s_paintedLow))), (q_searched, .inl (ky 0, 128, .inl s_searched)), (q_upcoming, .inl (ky 0, 128, .inl s_upcoming))] := hD
    replace hl : lv_has ls 5 [(0, .ref q_), (1, .int a1), (2, .int v1)] := hl
    refine lv_iload_n hx hb dX3_leaveOut_2 rfl (lv_at hl 2 rfl) ?_
    refine lv_aload_n hx hb dX3_leaveOut_3 rfl (lv_at hl 0 rfl) ?_
    refine va_get (D := D) (ci := 3) (v := .int s_total) (C := RX3) (T := TX3) (N := 13) hx hb hts hi_X3 hown hK.1 hP 0 rfl rfl 0 (by decide) hf_56 (fun _ h9 => h9) rfl dX3_leaveOut_4 ?_
    refine lv_icmp_ge (tgt := 23) hx hb dX3_leaveOut_7 (by decide) (fun hc => ?_) (fun hc => ?_)
    · replace h := if_t hc h
      cases h
      exact K _ _ _ hP hD hS (lv_sub hl [0, 1, 2] rfl)
    · replace h := if_f hc h
      refine lv_aload_n hx hb dX3_leaveOut_10 rfl (lv_at hl 0 rfl) ?_
      refine va_get (D := D) (ci := 3) (v := .ref q_left) (C := RX3) (T := TX3) (N := 13) hx hb hts hi_X3 hown hK.1 hP 0 rfl rfl 11 (by decide) hf_43 (fun _ h9 => h9) rfl dX3_leaveOut_11 ?_
      refine lv_iload_n hx hb dX3_leaveOut_14 rfl (lv_at hl 2 rfl) ?_
      refine lv_iconst (v := 1) hx hb dX3_leaveOut_15 (by decide) ?_
      obtain ⟨hg, h⟩ := gd_of h
      refine r_zast hx hb hK.1 hP hD hS 2 2 rfl rfl hg dX3_leaveOut_16 (fun f3 ef3 H locs hP hD hS => ?_)
      replace h := lt_at ef3 h
      replace hP : va_P D vwCl [(q_, .inr (3, [.int s_total, .ref q_kind, .ref q_allowed, .ref q_colour, .ref q_nearLow, .ref q_nearHigh, .ref q_paintedLow, .ref q_paintedHigh, .ref q_searched, .ref q_painted, .ref q_upcoming, .ref q_left, .ref q_leftByLatest])), (q_allowed, .inl (ky 0, 128, .inl s_allowed)), (q_left, .inl (ky 2, 128, .inl f3)), (q_leftByLatest, .inl (ky 2, 128, .inl s_leftByLatest)), (q_nearHigh, .inl (ky 1, 128, .inr (.inl s_nearHigh))), (q_nearLow, .inl (ky 1, 128, .inr (.inl s_nearLow))), (q_painted, .inl (ky 0, 128, .inl s_painted)), (q_paintedHigh, .inl (ky 1, 8, .inr (.inl s_paintedHigh))), (q_paintedLow, .inl (ky 1, 8, .inr (.inl s_paintedLow))), (q_searched, .inl (ky 0, 128, .inl s_searched)), (q_upcoming, .inl (ky 0, 128, .inl s_upcoming))] H := hP
      replace hD : va_D A [(q_, .inr (3, [.int s_total, .ref q_kind, .ref q_allowed, .ref q_colour, .ref q_nearLow, .ref q_nearHigh, .ref q_paintedLow, .ref q_paintedHigh, .ref q_searched, .ref q_painted, .ref q_upcoming, .ref q_left, .ref q_leftByLatest])), (q_allowed, .inl (ky 0, 128, .inl s_allowed)), (q_left, .inl (ky 2, 128, .inl f3)), (q_leftByLatest, .inl (ky 2, 128, .inl s_leftByLatest)), (q_nearHigh, .inl (ky 1, 128, .inr (.inl s_nearHigh))), (q_nearLow, .inl (ky 1, 128, .inr (.inl s_nearLow))), (q_painted, .inl (ky 0, 128, .inl s_painted)), (q_paintedHigh, .inl (ky 1, 8, .inr (.inl s_paintedHigh))), (q_paintedLow, .inl (ky 1, 8, .inr (.inl s_paintedLow))), (q_searched, .inl (ky 0, 128, .inl s_searched)), (q_upcoming, .inl (ky 0, 128, .inl s_upcoming))] := hD
      obtain ⟨x4, ex4⟩ : ∃ z : Int32, z = v1 + 1 := ⟨_, rfl⟩
      replace h := lt_at ex4 h
      refine lv_iinc (v := x4) (lv' := [(2, .int x4), (0, .ref q_), (1, .int a1)]) hx hb dX3_leaveOut_17 hl (k := 2) rfl (by rw [ex4]; rfl) (by decide) rfl (fun ls hl => ?_)
      refine lv_goto (tgt := 2) hx hb dX3_leaveOut_20 (by decide) ?_
      cases h
      exact K _ _ _ hP hD hS (lv_sub hl [1, 2, 0] rfl)
  · have h1 := ex1_of h
    clear h hi
    rcases h1 with ⟨rfl, h⟩
    obtain ⟨v5, v6⟩ := t
    replace h := dm2_of h
    intro H locs ls hP hD hS hl
    replace hP : va_P D vwCl [(q_, .inr (3, [.int s_total, .ref q_kind, .ref q_allowed, .ref q_colour, .ref q_nearLow, .ref q_nearHigh, .ref q_paintedLow, .ref q_paintedHigh, .ref q_searched, .ref q_painted, .ref q_upcoming, .ref q_left, .ref q_leftByLatest])), (q_allowed, .inl (ky 0, 128, .inl s_allowed)), (q_left, .inl (ky 2, 128, .inl v6)), (q_leftByLatest, .inl (ky 2, 128, .inl s_leftByLatest)), (q_nearHigh, .inl (ky 1, 128, .inr (.inl s_nearHigh))), (q_nearLow, .inl (ky 1, 128, .inr (.inl s_nearLow))), (q_painted, .inl (ky 0, 128, .inl s_painted)), (q_paintedHigh, .inl (ky 1, 8, .inr (.inl s_paintedHigh))), (q_paintedLow, .inl (ky 1, 8, .inr (.inl s_paintedLow))), (q_searched, .inl (ky 0, 128, .inl s_searched)), (q_upcoming, .inl (ky 0, 128, .inl s_upcoming))] H := hP
    replace hD : va_D A [(q_, .inr (3, [.int s_total, .ref q_kind, .ref q_allowed, .ref q_colour, .ref q_nearLow, .ref q_nearHigh, .ref q_paintedLow, .ref q_paintedHigh, .ref q_searched, .ref q_painted, .ref q_upcoming, .ref q_left, .ref q_leftByLatest])), (q_allowed, .inl (ky 0, 128, .inl s_allowed)), (q_left, .inl (ky 2, 128, .inl v6)), (q_leftByLatest, .inl (ky 2, 128, .inl s_leftByLatest)), (q_nearHigh, .inl (ky 1, 128, .inr (.inl s_nearHigh))), (q_nearLow, .inl (ky 1, 128, .inr (.inl s_nearLow))), (q_painted, .inl (ky 0, 128, .inl s_painted)), (q_paintedHigh, .inl (ky 1, 8, .inr (.inl s_paintedHigh))), (q_paintedLow, .inl (ky 1, 8, .inr (.inl s_paintedLow))), (q_searched, .inl (ky 0, 128, .inl s_searched)), (q_upcoming, .inl (ky 0, 128, .inl s_upcoming))] := hD
    replace hl : lv_has ls 5 [(0, .ref q_), (1, .int a1), (2, .int v5)] := hl
    refine W.eq (g2 := F0 m 23 ls []) rfl ?_
    refine lv_aload_n hx hb dX3_leaveOut_23 rfl (lv_at hl 0 rfl) ?_
    refine lv_iload_n hx hb dX3_leaveOut_24 rfl (lv_at hl 1 rfl) ?_
    obtain ⟨⟨r7, o8, o9, o10, o11, o12⟩, hc, h⟩ := ob_of h
    replace h := dm6_of h
    refine cv_i (As := [.int a1]) (rest := []) (wr := [(q_leftByLatest, .inl (ky 2, 128, .inl s_leftByLatest))]) (wn := [(q_, .inr (3, [.int s_total, .ref q_kind, .ref q_allowed, .ref q_colour, .ref q_nearLow, .ref q_nearHigh, .ref q_paintedLow, .ref q_paintedHigh, .ref q_searched, .ref q_painted, .ref q_upcoming, .ref q_left, .ref q_leftByLatest])), (q_allowed, .inl (ky 0, 128, .inl s_allowed)), (q_left, .inl (ky 2, 128, .inl v6)), (q_leftByLatest, .inl (ky 2, 128, .inl s_leftByLatest)), (q_nearHigh, .inl (ky 1, 128, .inr (.inl s_nearHigh))), (q_nearLow, .inl (ky 1, 128, .inr (.inl s_nearLow))), (q_painted, .inl (ky 0, 128, .inl o8)), (q_paintedHigh, .inl (ky 1, 8, .inr (.inl o9))), (q_paintedLow, .inl (ky 1, 8, .inr (.inl o10))), (q_searched, .inl (ky 0, 128, .inl o11)), (q_upcoming, .inl (ky 0, 128, .inl o12))]) ⟨hx, hb, hml, hown, hts⟩ (c_X3_search l D ky q_ q_kind q_allowed q_colour q_nearLow q_nearHigh q_paintedLow q_paintedHigh q_searched q_painted q_upcoming q_left q_leftByLatest a1 s_total s_allowed v6 s_nearHigh s_nearLow s_painted s_paintedHigh s_paintedLow s_searched s_upcoming hc) (cwV 1 hts gX3_leaveOut_X3_search rfl rfl rfl (by decide +kernel) ⟨Nat.le_of_ble_eq_true rfl, Nat.le_of_ble_eq_true rfl⟩) (rcv hK.1 hP (q0 := 0) rfl rfl) hP hD hK hS hA [0, 1, 2, 4, 5, 6, 7, 8, 9, 10] [3] [1, 2, 3, 0, 4, 5, 6, 7, 8, 9, 10] rfl (by decide +kernel) rfl (by decide +kernel) (by decide +kernel) (by decide +kernel) rfl rfl rfl hl.1 (Nat.le_of_ble_eq_true rfl) dX3_leaveOut_25 ⟨Nat.le_of_ble_eq_true rfl, Nat.le_of_ble_eq_true rfl⟩ (fun H locs hP hD hS => ?_)
    refine lv_istore_n (lv' := [(2, .int r7), (0, .ref q_), (1, .int a1)]) hx hb dX3_leaveOut_28 rfl hl (by decide) rfl (fun ls hl => ?_)
    refine lv_iload_n hx hb dX3_leaveOut_29 rfl (lv_at hl 0 rfl) ?_
    refine lv_if_eq (tgt := 47) hx hb dX3_leaveOut_30 (by decide) (fun hc => ?_) (fun hc => ?_)
    · replace h := if_t hc h
      refine lv_iconst (v := 0) hx hb dX3_leaveOut_47 (by decide) ?_
      refine lv_istore_n (lv' := [(3, .int (0 : Int32)), (2, .int r7), (0, .ref q_), (1, .int a1)]) hx hb dX3_leaveOut_48 rfl hl (by decide) rfl (fun ls hl => ?_)
      refine lv_iconst (v := 0) hx hb dX3_leaveOut_49 (by decide) ?_
      refine lv_istore (lv' := [(4, .int (0 : Int32)), (3, .int (0 : Int32)), (2, .int r7), (0, .ref q_), (1, .int a1)]) hx hb dX3_leaveOut_50 hl (by decide) rfl (fun ls hl => ?_)
      obtain ⟨⟨k, t⟩, hi, h⟩ := ob_of h
      refine iter_rule (P := fun (k : Nat) (t : Int32 × Int32 × (Nat → Int32) × (Nat → Int32) × (Nat → Int64) × (Nat → Int64) × (Nat → Int32) × (Nat → Int32)) => ∀ (H : Heap) (locs : List Loc) (ls : Array Slot), va_P D vwCl [(q_, .inr (3, [.int s_total, .ref q_kind, .ref q_allowed, .ref q_colour, .ref q_nearLow, .ref q_nearHigh, .ref q_paintedLow, .ref q_paintedHigh, .ref q_searched, .ref q_painted, .ref q_upcoming, .ref q_left, .ref q_leftByLatest])), (q_allowed, .inl (ky 0, 128, .inl s_allowed)), (q_left, .inl (ky 2, 128, .inl t.2.2.1)), (q_leftByLatest, .inl (ky 2, 128, .inl s_leftByLatest)), (q_nearHigh, .inl (ky 1, 128, .inr (.inl s_nearHigh))), (q_nearLow, .inl (ky 1, 128, .inr (.inl s_nearLow))), (q_painted, .inl (ky 0, 128, .inl t.2.2.2.1)), (q_paintedHigh, .inl (ky 1, 8, .inr (.inl t.2.2.2.2.1))), (q_paintedLow, .inl (ky 1, 8, .inr (.inl t.2.2.2.2.2.1))), (q_searched, .inl (ky 0, 128, .inl t.2.2.2.2.2.2.1)), (q_upcoming, .inl (ky 0, 128, .inl t.2.2.2.2.2.2.2))] H → va_D A [(q_, .inr (3, [.int s_total, .ref q_kind, .ref q_allowed, .ref q_colour, .ref q_nearLow, .ref q_nearHigh, .ref q_paintedLow, .ref q_paintedHigh, .ref q_searched, .ref q_painted, .ref q_upcoming, .ref q_left, .ref q_leftByLatest])), (q_allowed, .inl (ky 0, 128, .inl s_allowed)), (q_left, .inl (ky 2, 128, .inl t.2.2.1)), (q_leftByLatest, .inl (ky 2, 128, .inl s_leftByLatest)), (q_nearHigh, .inl (ky 1, 128, .inr (.inl s_nearHigh))), (q_nearLow, .inl (ky 1, 128, .inr (.inl s_nearLow))), (q_painted, .inl (ky 0, 128, .inl t.2.2.2.1)), (q_paintedHigh, .inl (ky 1, 8, .inr (.inl t.2.2.2.2.1))), (q_paintedLow, .inl (ky 1, 8, .inr (.inl t.2.2.2.2.2.1))), (q_searched, .inl (ky 0, 128, .inl t.2.2.2.2.2.2.1)), (q_upcoming, .inl (ky 0, 128, .inl t.2.2.2.2.2.2.2))] → va_S A s.heap H locs → lv_has ls 5 [(0, .ref q_), (1, .int a1), (3, .int t.1), (4, .int t.2.1)] → W p l e rmX3_leaveOut s m args below meth c H locs 0 0 Q (F0 m ([52, 81, 106].getD k 0) ls [])) ?_ _ _ _ _ hi ?_ H locs ls hP hD hS (lv_sub hl [3, 4, 1, 0] rfl)
      · clear h hi hP hD hS hl
        intro t k t' h K
        obtain ⟨v13, v14, v15, v16, v17, v18, v19, v20⟩ := t
        intro H locs ls hP hD hS hl
        replace h := dm8_of h
        replace hP : va_P D vwCl [(q_, .inr (3, [.int s_total, .ref q_kind, .ref q_allowed, .ref q_colour, .ref q_nearLow, .ref q_nearHigh, .ref q_paintedLow, .ref q_paintedHigh, .ref q_searched, .ref q_painted, .ref q_upcoming, .ref q_left, .ref q_leftByLatest])), (q_allowed, .inl (ky 0, 128, .inl s_allowed)), (q_left, .inl (ky 2, 128, .inl v15)), (q_leftByLatest, .inl (ky 2, 128, .inl s_leftByLatest)), (q_nearHigh, .inl (ky 1, 128, .inr (.inl s_nearHigh))), (q_nearLow, .inl (ky 1, 128, .inr (.inl s_nearLow))), (q_painted, .inl (ky 0, 128, .inl v16)), (q_paintedHigh, .inl (ky 1, 8, .inr (.inl v17))), (q_paintedLow, .inl (ky 1, 8, .inr (.inl v18))), (q_searched, .inl (ky 0, 128, .inl v19)), (q_upcoming, .inl (ky 0, 128, .inl v20))] H := hP
        replace hD : va_D A [(q_, .inr (3, [.int s_total, .ref q_kind, .ref q_allowed, .ref q_colour, .ref q_nearLow, .ref q_nearHigh, .ref q_paintedLow, .ref q_paintedHigh, .ref q_searched, .ref q_painted, .ref q_upcoming, .ref q_left, .ref q_leftByLatest])), (q_allowed, .inl (ky 0, 128, .inl s_allowed)), (q_left, .inl (ky 2, 128, .inl v15)), (q_leftByLatest, .inl (ky 2, 128, .inl s_leftByLatest)), (q_nearHigh, .inl (ky 1, 128, .inr (.inl s_nearHigh))), (q_nearLow, .inl (ky 1, 128, .inr (.inl s_nearLow))), (q_painted, .inl (ky 0, 128, .inl v16)), (q_paintedHigh, .inl (ky 1, 8, .inr (.inl v17))), (q_paintedLow, .inl (ky 1, 8, .inr (.inl v18))), (q_searched, .inl (ky 0, 128, .inl v19)), (q_upcoming, .inl (ky 0, 128, .inl v20))] := hD
        replace hl : lv_has ls 5 [(0, .ref q_), (1, .int a1), (3, .int v13), (4, .int v14)] := hl
        refine lv_iload hx hb dX3_leaveOut_52 (lv_at hl 3 rfl) ?_
        refine lv_aload_n hx hb dX3_leaveOut_54 rfl (lv_at hl 0 rfl) ?_
        refine va_get (D := D) (ci := 3) (v := .int s_total) (C := RX3) (T := TX3) (N := 13) hx hb hts hi_X3 hown hK.1 hP 0 rfl rfl 0 (by decide) hf_56 (fun _ h9 => h9) rfl dX3_leaveOut_55 ?_
        refine lv_icmp_ge (tgt := 106) hx hb dX3_leaveOut_58 (by decide) (fun hc => ?_) (fun hc => ?_)
        · replace h := if_t hc h
          cases h
          exact K _ _ _ hP hD hS (lv_sub hl [0, 1, 2, 3] rfl)
        · replace h := if_f hc h
          refine lv_aload_n hx hb dX3_leaveOut_61 rfl (lv_at hl 0 rfl) ?_
          refine va_get (D := D) (ci := 3) (v := .ref q_left) (C := RX3) (T := TX3) (N := 13) hx hb hts hi_X3 hown hK.1 hP 0 rfl rfl 11 (by decide) hf_43 (fun _ h9 => h9) rfl dX3_leaveOut_62 ?_
          refine lv_iload hx hb dX3_leaveOut_65 (lv_at hl 3 rfl) ?_
          refine lv_iconst (v := 0) hx hb dX3_leaveOut_67 (by decide) ?_
          obtain ⟨hg, h⟩ := gd_of h
          refine r_zast hx hb hK.1 hP hD hS 2 2 rfl rfl hg dX3_leaveOut_68 (fun f21 ef21 H locs hP hD hS => ?_)
          replace h := lt_at ef21 h
          replace hP : va_P D vwCl [(q_, .inr (3, [.int s_total, .ref q_kind, .ref q_allowed, .ref q_colour, .ref q_nearLow, .ref q_nearHigh, .ref q_paintedLow, .ref q_paintedHigh, .ref q_searched, .ref q_painted, .ref q_upcoming, .ref q_left, .ref q_leftByLatest])), (q_allowed, .inl (ky 0, 128, .inl s_allowed)), (q_left, .inl (ky 2, 128, .inl f21)), (q_leftByLatest, .inl (ky 2, 128, .inl s_leftByLatest)), (q_nearHigh, .inl (ky 1, 128, .inr (.inl s_nearHigh))), (q_nearLow, .inl (ky 1, 128, .inr (.inl s_nearLow))), (q_painted, .inl (ky 0, 128, .inl v16)), (q_paintedHigh, .inl (ky 1, 8, .inr (.inl v17))), (q_paintedLow, .inl (ky 1, 8, .inr (.inl v18))), (q_searched, .inl (ky 0, 128, .inl v19)), (q_upcoming, .inl (ky 0, 128, .inl v20))] H := hP
          replace hD : va_D A [(q_, .inr (3, [.int s_total, .ref q_kind, .ref q_allowed, .ref q_colour, .ref q_nearLow, .ref q_nearHigh, .ref q_paintedLow, .ref q_paintedHigh, .ref q_searched, .ref q_painted, .ref q_upcoming, .ref q_left, .ref q_leftByLatest])), (q_allowed, .inl (ky 0, 128, .inl s_allowed)), (q_left, .inl (ky 2, 128, .inl f21)), (q_leftByLatest, .inl (ky 2, 128, .inl s_leftByLatest)), (q_nearHigh, .inl (ky 1, 128, .inr (.inl s_nearHigh))), (q_nearLow, .inl (ky 1, 128, .inr (.inl s_nearLow))), (q_painted, .inl (ky 0, 128, .inl v16)), (q_paintedHigh, .inl (ky 1, 8, .inr (.inl v17))), (q_paintedLow, .inl (ky 1, 8, .inr (.inl v18))), (q_searched, .inl (ky 0, 128, .inl v19)), (q_upcoming, .inl (ky 0, 128, .inl v20))] := hD
          refine lv_aload_n hx hb dX3_leaveOut_69 rfl (lv_at hl 0 rfl) ?_
          refine lv_iload_n hx hb dX3_leaveOut_70 rfl (lv_at hl 1 rfl) ?_
          obtain ⟨⟨r22, o23, o24, o25, o26, o27⟩, hc, h⟩ := ob_of h
          replace h := dm6_of h
          refine cv_i (As := [.int a1]) (rest := []) (wr := [(q_leftByLatest, .inl (ky 2, 128, .inl s_leftByLatest))]) (wn := [(q_, .inr (3, [.int s_total, .ref q_kind, .ref q_allowed, .ref q_colour, .ref q_nearLow, .ref q_nearHigh, .ref q_paintedLow, .ref q_paintedHigh, .ref q_searched, .ref q_painted, .ref q_upcoming, .ref q_left, .ref q_leftByLatest])), (q_allowed, .inl (ky 0, 128, .inl s_allowed)), (q_left, .inl (ky 2, 128, .inl f21)), (q_leftByLatest, .inl (ky 2, 128, .inl s_leftByLatest)), (q_nearHigh, .inl (ky 1, 128, .inr (.inl s_nearHigh))), (q_nearLow, .inl (ky 1, 128, .inr (.inl s_nearLow))), (q_painted, .inl (ky 0, 128, .inl o23)), (q_paintedHigh, .inl (ky 1, 8, .inr (.inl o24))), (q_paintedLow, .inl (ky 1, 8, .inr (.inl o25))), (q_searched, .inl (ky 0, 128, .inl o26)), (q_upcoming, .inl (ky 0, 128, .inl o27))]) ⟨hx, hb, hml, hown, hts⟩ (c_X3_search l D ky q_ q_kind q_allowed q_colour q_nearLow q_nearHigh q_paintedLow q_paintedHigh q_searched q_painted q_upcoming q_left q_leftByLatest a1 s_total s_allowed f21 s_nearHigh s_nearLow v16 v17 v18 v19 v20 hc) (cwV 1 hts gX3_leaveOut_X3_search rfl rfl rfl (by decide +kernel) ⟨Nat.le_of_ble_eq_true rfl, Nat.le_of_ble_eq_true rfl⟩) (rcv hK.1 hP (q0 := 0) rfl rfl) hP hD hK hS hA [0, 1, 2, 4, 5, 6, 7, 8, 9, 10] [3] [1, 2, 3, 0, 4, 5, 6, 7, 8, 9, 10] rfl (by decide +kernel) rfl (by decide +kernel) (by decide +kernel) (by decide +kernel) rfl rfl rfl hl.1 (Nat.le_of_ble_eq_true rfl) dX3_leaveOut_71 ⟨Nat.le_of_ble_eq_true rfl, Nat.le_of_ble_eq_true rfl⟩ (fun H locs hP hD hS => ?_)
          refine lv_istore_n (lv' := [(2, .int r22), (0, .ref q_), (1, .int a1), (3, .int v13), (4, .int v14)]) hx hb dX3_leaveOut_74 rfl hl (by decide) rfl (fun ls hl => ?_)
          refine lv_iload_n hx hb dX3_leaveOut_75 rfl (lv_at hl 0 rfl) ?_
          refine lv_bipush (v := (-6)) hx hb dX3_leaveOut_76 (by decide) ?_
          refine lv_icmp_ne (tgt := 84) hx hb dX3_leaveOut_78 (by decide) (fun hc => ?_) (fun hc => ?_)
          · replace h := if_t hc h
            refine lv_iload_n hx hb dX3_leaveOut_84 rfl (lv_at hl 0 rfl) ?_
            refine lv_iconst (v := 1) hx hb dX3_leaveOut_85 (by decide) ?_
            obtain ⟨t, hd, h⟩ := ob_of h
            have K : ∀ (H : Heap) (locs : List Loc) (ls : Array Slot), va_P D vwCl [(q_, .inr (3, [.int s_total, .ref q_kind, .ref q_allowed, .ref q_colour, .ref q_nearLow, .ref q_nearHigh, .ref q_paintedLow, .ref q_paintedHigh, .ref q_searched, .ref q_painted, .ref q_upcoming, .ref q_left, .ref q_leftByLatest])), (q_allowed, .inl (ky 0, 128, .inl s_allowed)), (q_left, .inl (ky 2, 128, .inl t.2)), (q_leftByLatest, .inl (ky 2, 128, .inl s_leftByLatest)), (q_nearHigh, .inl (ky 1, 128, .inr (.inl s_nearHigh))), (q_nearLow, .inl (ky 1, 128, .inr (.inl s_nearLow))), (q_painted, .inl (ky 0, 128, .inl o23)), (q_paintedHigh, .inl (ky 1, 8, .inr (.inl o24))), (q_paintedLow, .inl (ky 1, 8, .inr (.inl o25))), (q_searched, .inl (ky 0, 128, .inl o26)), (q_upcoming, .inl (ky 0, 128, .inl o27))] H → va_D A [(q_, .inr (3, [.int s_total, .ref q_kind, .ref q_allowed, .ref q_colour, .ref q_nearLow, .ref q_nearHigh, .ref q_paintedLow, .ref q_paintedHigh, .ref q_searched, .ref q_painted, .ref q_upcoming, .ref q_left, .ref q_leftByLatest])), (q_allowed, .inl (ky 0, 128, .inl s_allowed)), (q_left, .inl (ky 2, 128, .inl t.2)), (q_leftByLatest, .inl (ky 2, 128, .inl s_leftByLatest)), (q_nearHigh, .inl (ky 1, 128, .inr (.inl s_nearHigh))), (q_nearLow, .inl (ky 1, 128, .inr (.inl s_nearLow))), (q_painted, .inl (ky 0, 128, .inl o23)), (q_paintedHigh, .inl (ky 1, 8, .inr (.inl o24))), (q_paintedLow, .inl (ky 1, 8, .inr (.inl o25))), (q_searched, .inl (ky 0, 128, .inl o26)), (q_upcoming, .inl (ky 0, 128, .inl o27))] → va_S A s.heap H locs → lv_has ls 5 [(0, .ref q_), (1, .int a1), (3, .int t.1), (4, .int v14)] → W p l e rmX3_leaveOut s m args below meth c H locs 0 0 Q (F0 m 100 ls []) := by
              clear hd hP hD hS hl
              obtain ⟨v28, v29⟩ := t
              replace h := dm2_of h
              intro H locs ls hP hD hS hl
              replace hP : va_P D vwCl [(q_, .inr (3, [.int s_total, .ref q_kind, .ref q_allowed, .ref q_colour, .ref q_nearLow, .ref q_nearHigh, .ref q_paintedLow, .ref q_paintedHigh, .ref q_searched, .ref q_painted, .ref q_upcoming, .ref q_left, .ref q_leftByLatest])), (q_allowed, .inl (ky 0, 128, .inl s_allowed)), (q_left, .inl (ky 2, 128, .inl v29)), (q_leftByLatest, .inl (ky 2, 128, .inl s_leftByLatest)), (q_nearHigh, .inl (ky 1, 128, .inr (.inl s_nearHigh))), (q_nearLow, .inl (ky 1, 128, .inr (.inl s_nearLow))), (q_painted, .inl (ky 0, 128, .inl o23)), (q_paintedHigh, .inl (ky 1, 8, .inr (.inl o24))), (q_paintedLow, .inl (ky 1, 8, .inr (.inl o25))), (q_searched, .inl (ky 0, 128, .inl o26)), (q_upcoming, .inl (ky 0, 128, .inl o27))] H := hP
              replace hD : va_D A [(q_, .inr (3, [.int s_total, .ref q_kind, .ref q_allowed, .ref q_colour, .ref q_nearLow, .ref q_nearHigh, .ref q_paintedLow, .ref q_paintedHigh, .ref q_searched, .ref q_painted, .ref q_upcoming, .ref q_left, .ref q_leftByLatest])), (q_allowed, .inl (ky 0, 128, .inl s_allowed)), (q_left, .inl (ky 2, 128, .inl v29)), (q_leftByLatest, .inl (ky 2, 128, .inl s_leftByLatest)), (q_nearHigh, .inl (ky 1, 128, .inr (.inl s_nearHigh))), (q_nearLow, .inl (ky 1, 128, .inr (.inl s_nearLow))), (q_painted, .inl (ky 0, 128, .inl o23)), (q_paintedHigh, .inl (ky 1, 8, .inr (.inl o24))), (q_paintedLow, .inl (ky 1, 8, .inr (.inl o25))), (q_searched, .inl (ky 0, 128, .inl o26)), (q_upcoming, .inl (ky 0, 128, .inl o27))] := hD
              replace hl : lv_has ls 5 [(0, .ref q_), (1, .int a1), (3, .int v28), (4, .int v14)] := hl
              refine W.eq (g2 := F0 m 100 ls []) rfl ?_
              obtain ⟨x30, ex30⟩ : ∃ z : Int32, z = v14 + 1 := ⟨_, rfl⟩
              replace h := lt_at ex30 h
              refine lv_iinc (v := x30) (lv' := [(4, .int x30), (0, .ref q_), (1, .int a1), (3, .int v28)]) hx hb dX3_leaveOut_100 hl (k := 3) rfl (by rw [ex30]; rfl) (by decide) rfl (fun ls hl => ?_)
              refine lv_goto (tgt := 52) hx hb dX3_leaveOut_103 (by decide) ?_
              cases h
              exact K _ _ _ hP hD hS (lv_sub hl [1, 2, 3, 0] rfl)
            replace h := hd
            clear hd
            refine lv_icmp_ne (tgt := 100) hx hb dX3_leaveOut_86 (by decide) (fun hc => ?_) (fun hc => ?_)
            · replace h := if_t hc h
              cases h
              exact K _ _ _ hP hD hS (lv_sub hl [1, 2, 3, 4] rfl)
            · replace h := if_f (fun z => z hc) h
              refine lv_aload_n hx hb dX3_leaveOut_89 rfl (lv_at hl 1 rfl) ?_
              refine va_get (D := D) (ci := 3) (v := .ref q_left) (C := RX3) (T := TX3) (N := 13) hx hb hts hi_X3 hown hK.1 hP 0 rfl rfl 11 (by decide) hf_43 (fun _ h9 => h9) rfl dX3_leaveOut_90 ?_
              refine lv_iload hx hb dX3_leaveOut_93 (lv_at hl 4 rfl) ?_
              refine lv_iconst (v := 1) hx hb dX3_leaveOut_95 (by decide) ?_
              obtain ⟨hg, h⟩ := gd_of h
              refine r_zast hx hb hK.1 hP hD hS 2 2 rfl rfl hg dX3_leaveOut_96 (fun f31 ef31 H locs hP hD hS => ?_)
              replace h := lt_at ef31 h
              replace hP : va_P D vwCl [(q_, .inr (3, [.int s_total, .ref q_kind, .ref q_allowed, .ref q_colour, .ref q_nearLow, .ref q_nearHigh, .ref q_paintedLow, .ref q_paintedHigh, .ref q_searched, .ref q_painted, .ref q_upcoming, .ref q_left, .ref q_leftByLatest])), (q_allowed, .inl (ky 0, 128, .inl s_allowed)), (q_left, .inl (ky 2, 128, .inl f31)), (q_leftByLatest, .inl (ky 2, 128, .inl s_leftByLatest)), (q_nearHigh, .inl (ky 1, 128, .inr (.inl s_nearHigh))), (q_nearLow, .inl (ky 1, 128, .inr (.inl s_nearLow))), (q_painted, .inl (ky 0, 128, .inl o23)), (q_paintedHigh, .inl (ky 1, 8, .inr (.inl o24))), (q_paintedLow, .inl (ky 1, 8, .inr (.inl o25))), (q_searched, .inl (ky 0, 128, .inl o26)), (q_upcoming, .inl (ky 0, 128, .inl o27))] H := hP
              replace hD : va_D A [(q_, .inr (3, [.int s_total, .ref q_kind, .ref q_allowed, .ref q_colour, .ref q_nearLow, .ref q_nearHigh, .ref q_paintedLow, .ref q_paintedHigh, .ref q_searched, .ref q_painted, .ref q_upcoming, .ref q_left, .ref q_leftByLatest])), (q_allowed, .inl (ky 0, 128, .inl s_allowed)), (q_left, .inl (ky 2, 128, .inl f31)), (q_leftByLatest, .inl (ky 2, 128, .inl s_leftByLatest)), (q_nearHigh, .inl (ky 1, 128, .inr (.inl s_nearHigh))), (q_nearLow, .inl (ky 1, 128, .inr (.inl s_nearLow))), (q_painted, .inl (ky 0, 128, .inl o23)), (q_paintedHigh, .inl (ky 1, 8, .inr (.inl o24))), (q_paintedLow, .inl (ky 1, 8, .inr (.inl o25))), (q_searched, .inl (ky 0, 128, .inl o26)), (q_upcoming, .inl (ky 0, 128, .inl o27))] := hD
              obtain ⟨x32, ex32⟩ : ∃ z : Int32, z = v13 + 1 := ⟨_, rfl⟩
              replace h := lt_at ex32 h
              refine lv_iinc (v := x32) (lv' := [(3, .int x32), (2, .int r22), (0, .ref q_), (1, .int a1), (4, .int v14)]) hx hb dX3_leaveOut_97 hl (k := 3) rfl (by rw [ex32]; rfl) (by decide) rfl (fun ls hl => ?_)
              cases h
              exact K _ _ _ hP hD hS (lv_sub hl [2, 3, 0, 4] rfl)
          · replace h := if_f (fun z => z hc) h
            cases h
            exact K _ _ _ hP hD hS (lv_sub hl [1, 2, 3, 4] rfl)
      · have h1 := ex2_of h
        clear h hi
        rcases h1 with ⟨rfl, h⟩ | ⟨rfl, h⟩
        · skip
          obtain ⟨v33, v34, v35, v36, v37, v38, v39, v40⟩ := t
          replace h := dm8_of h
          intro H locs ls hP hD hS hl
          replace hP : va_P D vwCl [(q_, .inr (3, [.int s_total, .ref q_kind, .ref q_allowed, .ref q_colour, .ref q_nearLow, .ref q_nearHigh, .ref q_paintedLow, .ref q_paintedHigh, .ref q_searched, .ref q_painted, .ref q_upcoming, .ref q_left, .ref q_leftByLatest])), (q_allowed, .inl (ky 0, 128, .inl s_allowed)), (q_left, .inl (ky 2, 128, .inl v35)), (q_leftByLatest, .inl (ky 2, 128, .inl s_leftByLatest)), (q_nearHigh, .inl (ky 1, 128, .inr (.inl s_nearHigh))), (q_nearLow, .inl (ky 1, 128, .inr (.inl s_nearLow))), (q_painted, .inl (ky 0, 128, .inl v36)), (q_paintedHigh, .inl (ky 1, 8, .inr (.inl v37))), (q_paintedLow, .inl (ky 1, 8, .inr (.inl v38))), (q_searched, .inl (ky 0, 128, .inl v39)), (q_upcoming, .inl (ky 0, 128, .inl v40))] H := hP
          replace hD : va_D A [(q_, .inr (3, [.int s_total, .ref q_kind, .ref q_allowed, .ref q_colour, .ref q_nearLow, .ref q_nearHigh, .ref q_paintedLow, .ref q_paintedHigh, .ref q_searched, .ref q_painted, .ref q_upcoming, .ref q_left, .ref q_leftByLatest])), (q_allowed, .inl (ky 0, 128, .inl s_allowed)), (q_left, .inl (ky 2, 128, .inl v35)), (q_leftByLatest, .inl (ky 2, 128, .inl s_leftByLatest)), (q_nearHigh, .inl (ky 1, 128, .inr (.inl s_nearHigh))), (q_nearLow, .inl (ky 1, 128, .inr (.inl s_nearLow))), (q_painted, .inl (ky 0, 128, .inl v36)), (q_paintedHigh, .inl (ky 1, 8, .inr (.inl v37))), (q_paintedLow, .inl (ky 1, 8, .inr (.inl v38))), (q_searched, .inl (ky 0, 128, .inl v39)), (q_upcoming, .inl (ky 0, 128, .inl v40))] := hD
          replace hl : lv_has ls 5 [(0, .ref q_), (1, .int a1), (3, .int v33), (4, .int v34)] := hl
          refine W.eq (g2 := F0 m 81 ls []) rfl ?_
          refine lv_bipush (v := (-6)) hx hb dX3_leaveOut_81 (by decide) ?_
          exact rt _ h _ _ _ _ dX3_leaveOut_83 hP hD hS
        · skip
          obtain ⟨v41, v42, v43, v44, v45, v46, v47, v48⟩ := t
          replace h := dm8_of h
          intro H locs ls hP hD hS hl
          replace hP : va_P D vwCl [(q_, .inr (3, [.int s_total, .ref q_kind, .ref q_allowed, .ref q_colour, .ref q_nearLow, .ref q_nearHigh, .ref q_paintedLow, .ref q_paintedHigh, .ref q_searched, .ref q_painted, .ref q_upcoming, .ref q_left, .ref q_leftByLatest])), (q_allowed, .inl (ky 0, 128, .inl s_allowed)), (q_left, .inl (ky 2, 128, .inl v43)), (q_leftByLatest, .inl (ky 2, 128, .inl s_leftByLatest)), (q_nearHigh, .inl (ky 1, 128, .inr (.inl s_nearHigh))), (q_nearLow, .inl (ky 1, 128, .inr (.inl s_nearLow))), (q_painted, .inl (ky 0, 128, .inl v44)), (q_paintedHigh, .inl (ky 1, 8, .inr (.inl v45))), (q_paintedLow, .inl (ky 1, 8, .inr (.inl v46))), (q_searched, .inl (ky 0, 128, .inl v47)), (q_upcoming, .inl (ky 0, 128, .inl v48))] H := hP
          replace hD : va_D A [(q_, .inr (3, [.int s_total, .ref q_kind, .ref q_allowed, .ref q_colour, .ref q_nearLow, .ref q_nearHigh, .ref q_paintedLow, .ref q_paintedHigh, .ref q_searched, .ref q_painted, .ref q_upcoming, .ref q_left, .ref q_leftByLatest])), (q_allowed, .inl (ky 0, 128, .inl s_allowed)), (q_left, .inl (ky 2, 128, .inl v43)), (q_leftByLatest, .inl (ky 2, 128, .inl s_leftByLatest)), (q_nearHigh, .inl (ky 1, 128, .inr (.inl s_nearHigh))), (q_nearLow, .inl (ky 1, 128, .inr (.inl s_nearLow))), (q_painted, .inl (ky 0, 128, .inl v44)), (q_paintedHigh, .inl (ky 1, 8, .inr (.inl v45))), (q_paintedLow, .inl (ky 1, 8, .inr (.inl v46))), (q_searched, .inl (ky 0, 128, .inl v47)), (q_upcoming, .inl (ky 0, 128, .inl v48))] := hD
          replace hl : lv_has ls 5 [(0, .ref q_), (1, .int a1), (3, .int v41), (4, .int v42)] := hl
          refine W.eq (g2 := F0 m 106 ls []) rfl ?_
          refine lv_iconst (v := 0) hx hb dX3_leaveOut_106 (by decide) ?_
          refine lv_istore (lv' := [(4, .int (0 : Int32)), (0, .ref q_), (1, .int a1), (3, .int v41)]) hx hb dX3_leaveOut_107 hl (by decide) rfl (fun ls hl => ?_)
          obtain ⟨⟨k, t⟩, hi, h⟩ := ob_of h
          refine iter_rule (P := fun (k : Nat) (t : Int32 × (Nat → Int32)) => ∀ (H : Heap) (locs : List Loc) (ls : Array Slot), va_P D vwCl [(q_, .inr (3, [.int s_total, .ref q_kind, .ref q_allowed, .ref q_colour, .ref q_nearLow, .ref q_nearHigh, .ref q_paintedLow, .ref q_paintedHigh, .ref q_searched, .ref q_painted, .ref q_upcoming, .ref q_left, .ref q_leftByLatest])), (q_allowed, .inl (ky 0, 128, .inl s_allowed)), (q_left, .inl (ky 2, 128, .inl v43)), (q_leftByLatest, .inl (ky 2, 128, .inl t.2)), (q_nearHigh, .inl (ky 1, 128, .inr (.inl s_nearHigh))), (q_nearLow, .inl (ky 1, 128, .inr (.inl s_nearLow))), (q_painted, .inl (ky 0, 128, .inl v44)), (q_paintedHigh, .inl (ky 1, 8, .inr (.inl v45))), (q_paintedLow, .inl (ky 1, 8, .inr (.inl v46))), (q_searched, .inl (ky 0, 128, .inl v47)), (q_upcoming, .inl (ky 0, 128, .inl v48))] H → va_D A [(q_, .inr (3, [.int s_total, .ref q_kind, .ref q_allowed, .ref q_colour, .ref q_nearLow, .ref q_nearHigh, .ref q_paintedLow, .ref q_paintedHigh, .ref q_searched, .ref q_painted, .ref q_upcoming, .ref q_left, .ref q_leftByLatest])), (q_allowed, .inl (ky 0, 128, .inl s_allowed)), (q_left, .inl (ky 2, 128, .inl v43)), (q_leftByLatest, .inl (ky 2, 128, .inl t.2)), (q_nearHigh, .inl (ky 1, 128, .inr (.inl s_nearHigh))), (q_nearLow, .inl (ky 1, 128, .inr (.inl s_nearLow))), (q_painted, .inl (ky 0, 128, .inl v44)), (q_paintedHigh, .inl (ky 1, 8, .inr (.inl v45))), (q_paintedLow, .inl (ky 1, 8, .inr (.inl v46))), (q_searched, .inl (ky 0, 128, .inl v47)), (q_upcoming, .inl (ky 0, 128, .inl v48))] → va_S A s.heap H locs → lv_has ls 5 [(0, .ref q_), (3, .int v41), (4, .int t.1)] → W p l e rmX3_leaveOut s m args below meth c H locs 0 0 Q (F0 m ([109, 138].getD k 0) ls [])) ?_ _ _ _ _ hi ?_ H locs ls hP hD hS (lv_sub hl [1, 3, 0] rfl)
          · clear h hi hP hD hS hl
            intro t k t' h K
            obtain ⟨v49, v50⟩ := t
            intro H locs ls hP hD hS hl
            replace h := dm2_of h
            replace hP : va_P D vwCl [(q_, .inr (3, [.int s_total, .ref q_kind, .ref q_allowed, .ref q_colour, .ref q_nearLow, .ref q_nearHigh, .ref q_paintedLow, .ref q_paintedHigh, .ref q_searched, .ref q_painted, .ref q_upcoming, .ref q_left, .ref q_leftByLatest])), (q_allowed, .inl (ky 0, 128, .inl s_allowed)), (q_left, .inl (ky 2, 128, .inl v43)), (q_leftByLatest, .inl (ky 2, 128, .inl v50)), (q_nearHigh, .inl (ky 1, 128, .inr (.inl s_nearHigh))), (q_nearLow, .inl (ky 1, 128, .inr (.inl s_nearLow))), (q_painted, .inl (ky 0, 128, .inl v44)), (q_paintedHigh, .inl (ky 1, 8, .inr (.inl v45))), (q_paintedLow, .inl (ky 1, 8, .inr (.inl v46))), (q_searched, .inl (ky 0, 128, .inl v47)), (q_upcoming, .inl (ky 0, 128, .inl v48))] H := hP
            replace hD : va_D A [(q_, .inr (3, [.int s_total, .ref q_kind, .ref q_allowed, .ref q_colour, .ref q_nearLow, .ref q_nearHigh, .ref q_paintedLow, .ref q_paintedHigh, .ref q_searched, .ref q_painted, .ref q_upcoming, .ref q_left, .ref q_leftByLatest])), (q_allowed, .inl (ky 0, 128, .inl s_allowed)), (q_left, .inl (ky 2, 128, .inl v43)), (q_leftByLatest, .inl (ky 2, 128, .inl v50)), (q_nearHigh, .inl (ky 1, 128, .inr (.inl s_nearHigh))), (q_nearLow, .inl (ky 1, 128, .inr (.inl s_nearLow))), (q_painted, .inl (ky 0, 128, .inl v44)), (q_paintedHigh, .inl (ky 1, 8, .inr (.inl v45))), (q_paintedLow, .inl (ky 1, 8, .inr (.inl v46))), (q_searched, .inl (ky 0, 128, .inl v47)), (q_upcoming, .inl (ky 0, 128, .inl v48))] := hD
            replace hl : lv_has ls 5 [(0, .ref q_), (3, .int v41), (4, .int v49)] := hl
            refine lv_iload hx hb dX3_leaveOut_109 (lv_at hl 2 rfl) ?_
            refine lv_aload_n hx hb dX3_leaveOut_111 rfl (lv_at hl 0 rfl) ?_
            refine va_get (D := D) (ci := 3) (v := .int s_total) (C := RX3) (T := TX3) (N := 13) hx hb hts hi_X3 hown hK.1 hP 0 rfl rfl 0 (by decide) hf_56 (fun _ h9 => h9) rfl dX3_leaveOut_112 ?_
            refine lv_icmp_ge (tgt := 138) hx hb dX3_leaveOut_115 (by decide) (fun hc => ?_) (fun hc => ?_)
            · replace h := if_t hc h
              cases h
              exact K _ _ _ hP hD hS (lv_sub hl [0, 1, 2] rfl)
            · replace h := if_f hc h
              refine lv_aload_n hx hb dX3_leaveOut_118 rfl (lv_at hl 0 rfl) ?_
              refine va_get (D := D) (ci := 3) (v := .ref q_leftByLatest) (C := RX3) (T := TX3) (N := 13) hx hb hts hi_X3 hown hK.1 hP 0 rfl rfl 12 (by decide) hf_47 (fun _ h9 => h9) rfl dX3_leaveOut_119 ?_
              refine lv_iload hx hb dX3_leaveOut_122 (lv_at hl 2 rfl) ?_
              refine lv_aload_n hx hb dX3_leaveOut_124 rfl (lv_at hl 0 rfl) ?_
              refine va_get (D := D) (ci := 3) (v := .ref q_left) (C := RX3) (T := TX3) (N := 13) hx hb hts hi_X3 hown hK.1 hP 0 rfl rfl 11 (by decide) hf_43 (fun _ h9 => h9) rfl dX3_leaveOut_125 ?_
              refine lv_iload hx hb dX3_leaveOut_128 (lv_at hl 2 rfl) ?_
              obtain ⟨hg, h⟩ := gd_of h
              refine va_zald hx hb hK.1 hP 2 2 rfl rfl hg dX3_leaveOut_130 ?_
              obtain ⟨hg, h⟩ := gd_of h
              refine r_zast hx hb hK.1 hP hD hS 3 2 rfl rfl hg dX3_leaveOut_131 (fun f51 ef51 H locs hP hD hS => ?_)
              replace h := lt_at ef51 h
              replace hP : va_P D vwCl [(q_, .inr (3, [.int s_total, .ref q_kind, .ref q_allowed, .ref q_colour, .ref q_nearLow, .ref q_nearHigh, .ref q_paintedLow, .ref q_paintedHigh, .ref q_searched, .ref q_painted, .ref q_upcoming, .ref q_left, .ref q_leftByLatest])), (q_allowed, .inl (ky 0, 128, .inl s_allowed)), (q_left, .inl (ky 2, 128, .inl v43)), (q_leftByLatest, .inl (ky 2, 128, .inl f51)), (q_nearHigh, .inl (ky 1, 128, .inr (.inl s_nearHigh))), (q_nearLow, .inl (ky 1, 128, .inr (.inl s_nearLow))), (q_painted, .inl (ky 0, 128, .inl v44)), (q_paintedHigh, .inl (ky 1, 8, .inr (.inl v45))), (q_paintedLow, .inl (ky 1, 8, .inr (.inl v46))), (q_searched, .inl (ky 0, 128, .inl v47)), (q_upcoming, .inl (ky 0, 128, .inl v48))] H := hP
              replace hD : va_D A [(q_, .inr (3, [.int s_total, .ref q_kind, .ref q_allowed, .ref q_colour, .ref q_nearLow, .ref q_nearHigh, .ref q_paintedLow, .ref q_paintedHigh, .ref q_searched, .ref q_painted, .ref q_upcoming, .ref q_left, .ref q_leftByLatest])), (q_allowed, .inl (ky 0, 128, .inl s_allowed)), (q_left, .inl (ky 2, 128, .inl v43)), (q_leftByLatest, .inl (ky 2, 128, .inl f51)), (q_nearHigh, .inl (ky 1, 128, .inr (.inl s_nearHigh))), (q_nearLow, .inl (ky 1, 128, .inr (.inl s_nearLow))), (q_painted, .inl (ky 0, 128, .inl v44)), (q_paintedHigh, .inl (ky 1, 8, .inr (.inl v45))), (q_paintedLow, .inl (ky 1, 8, .inr (.inl v46))), (q_searched, .inl (ky 0, 128, .inl v47)), (q_upcoming, .inl (ky 0, 128, .inl v48))] := hD
              obtain ⟨x52, ex52⟩ : ∃ z : Int32, z = v49 + 1 := ⟨_, rfl⟩
              replace h := lt_at ex52 h
              refine lv_iinc (v := x52) (lv' := [(4, .int x52), (0, .ref q_), (3, .int v41)]) hx hb dX3_leaveOut_132 hl (k := 2) rfl (by rw [ex52]; rfl) (by decide) rfl (fun ls hl => ?_)
              refine lv_goto (tgt := 109) hx hb dX3_leaveOut_135 (by decide) ?_
              cases h
              exact K _ _ _ hP hD hS (lv_sub hl [1, 2, 0] rfl)
          · have h1 := ex1_of h
            clear h hi
            rcases h1 with ⟨rfl, h⟩
            obtain ⟨v53, v54⟩ := t
            replace h := dm2_of h
            intro H locs ls hP hD hS hl
            replace hP : va_P D vwCl [(q_, .inr (3, [.int s_total, .ref q_kind, .ref q_allowed, .ref q_colour, .ref q_nearLow, .ref q_nearHigh, .ref q_paintedLow, .ref q_paintedHigh, .ref q_searched, .ref q_painted, .ref q_upcoming, .ref q_left, .ref q_leftByLatest])), (q_allowed, .inl (ky 0, 128, .inl s_allowed)), (q_left, .inl (ky 2, 128, .inl v43)), (q_leftByLatest, .inl (ky 2, 128, .inl v54)), (q_nearHigh, .inl (ky 1, 128, .inr (.inl s_nearHigh))), (q_nearLow, .inl (ky 1, 128, .inr (.inl s_nearLow))), (q_painted, .inl (ky 0, 128, .inl v44)), (q_paintedHigh, .inl (ky 1, 8, .inr (.inl v45))), (q_paintedLow, .inl (ky 1, 8, .inr (.inl v46))), (q_searched, .inl (ky 0, 128, .inl v47)), (q_upcoming, .inl (ky 0, 128, .inl v48))] H := hP
            replace hD : va_D A [(q_, .inr (3, [.int s_total, .ref q_kind, .ref q_allowed, .ref q_colour, .ref q_nearLow, .ref q_nearHigh, .ref q_paintedLow, .ref q_paintedHigh, .ref q_searched, .ref q_painted, .ref q_upcoming, .ref q_left, .ref q_leftByLatest])), (q_allowed, .inl (ky 0, 128, .inl s_allowed)), (q_left, .inl (ky 2, 128, .inl v43)), (q_leftByLatest, .inl (ky 2, 128, .inl v54)), (q_nearHigh, .inl (ky 1, 128, .inr (.inl s_nearHigh))), (q_nearLow, .inl (ky 1, 128, .inr (.inl s_nearLow))), (q_painted, .inl (ky 0, 128, .inl v44)), (q_paintedHigh, .inl (ky 1, 8, .inr (.inl v45))), (q_paintedLow, .inl (ky 1, 8, .inr (.inl v46))), (q_searched, .inl (ky 0, 128, .inl v47)), (q_upcoming, .inl (ky 0, 128, .inl v48))] := hD
            replace hl : lv_has ls 5 [(0, .ref q_), (3, .int v41), (4, .int v53)] := hl
            refine W.eq (g2 := F0 m 138 ls []) rfl ?_
            refine lv_iload_n hx hb dX3_leaveOut_138 rfl (lv_at hl 1 rfl) ?_
            exact rt _ h _ _ _ _ dX3_leaveOut_139 hP hD hS
    · replace h := if_f hc h
      refine lv_iload_n hx hb dX3_leaveOut_33 rfl (lv_at hl 0 rfl) ?_
      refine lv_bipush (v := (-6)) hx hb dX3_leaveOut_34 (by decide) ?_
      refine lv_icmp_ne (tgt := 44) hx hb dX3_leaveOut_36 (by decide) (fun hc => ?_) (fun hc => ?_)
      · replace h := if_t hc h
        refine lv_bipush (v := (-7)) hx hb dX3_leaveOut_44 (by decide) ?_
        exact rt _ h _ _ _ _ dX3_leaveOut_46 hP hD hS
      · replace h := if_f (fun z => z hc) h
        refine lv_bipush (v := (-6)) hx hb dX3_leaveOut_39 (by decide) ?_
        refine lv_goto (tgt := 46) hx hb dX3_leaveOut_41 (by decide) ?_
        exact rt _ h _ _ _ _ dX3_leaveOut_46 hP hD hS

def bX3_leftFrom_4 (a1 : Int32) (s_leftByLatest : Nat → Int32) (t : Int32 × Int32) : Option (Nat × (Int32 × Int32)) := dm2 t (fun (v1 : Int32) (v2 : Int32) => if (30 : Int32) ≤ v2 then some (1, (v1, v2)) else if (128 : Int32) ≤ (a1 + v2) then some (1, (v1, v2)) else gd (¬ ((a1 + v2) < 0 ∨ 128 ≤ (a1 + v2).toNatClampNeg)) (ob (if (s_leftByLatest (a1 + v2).toNatClampNeg) = 0 then some v1 else lt (v1 ||| ((1 : Int32) <<< (v2 &&& 31))) (fun x5 => some x5)) (fun t => dm1 t (fun (v3 : Int32) => lt (v2 + 1) (fun x4 => some (0, (v3, x4)))))))
def sX3_leftFrom (a1 : Int32) (s_leftByLatest : Nat → Int32) : Option (Int32) := ob (iter (bX3_leftFrom_4 a1 s_leftByLatest) FU ((0 : Int32), (0 : Int32))) (fun kt => ex1 kt (fun t => dm2 t (fun (v6 : Int32) (v7 : Int32) => some v6)))
abbrev rmX3_leftFrom : Room := { frames := 0, cells := 0, slots := 0, locals := 0 }
set_option maxHeartbeats 4000000 in
set_option maxRecDepth 100000 in
theorem c_X3_leftFrom (l : Launch) (D : va_G) (ky : Nat → ClassId) (q_ q_kind q_allowed q_colour q_nearLow q_nearHigh q_paintedLow q_paintedHigh q_searched q_painted q_upcoming q_left q_leftByLatest : Nat) (a1 : Int32) (s_total : Int32) (s_leftByLatest : Nat → Int32) {o_r : Int32} (h : sX3_leftFrom a1 s_leftByLatest = some o_r) : MtI l D ky yX3_leftFrom wsX3_leftFrom rmX3_leftFrom [.ref q_, .int a1] [(q_, .inr (3, [.int s_total, .ref q_kind, .ref q_allowed, .ref q_colour, .ref q_nearLow, .ref q_nearHigh, .ref q_paintedLow, .ref q_paintedHigh, .ref q_searched, .ref q_painted, .ref q_upcoming, .ref q_left, .ref q_leftByLatest])), (q_leftByLatest, .inl (ky 2, 128, .inl s_leftByLatest))] [(q_, .inr (3, [.int s_total, .ref q_kind, .ref q_allowed, .ref q_colour, .ref q_nearLow, .ref q_nearHigh, .ref q_paintedLow, .ref q_paintedHigh, .ref q_searched, .ref q_painted, .ref q_upcoming, .ref q_left, .ref q_leftByLatest])), (q_leftByLatest, .inl (ky 2, 128, .inl s_leftByLatest))] o_r 0 0 := by
  refine MtI.of (cc := cX3_leftFrom) (maxL := 4) (by decide +kernel) rfl (Nat.le_of_ble_eq_true rfl) ?_
  intro p e R s m args below meth c A Q ls hR hx hb hts hown hnm hml hP hK hD hA ret hl
  subst hR
  obtain ⟨H, hH⟩ : ∃ H, H = s.heap := ⟨_, rfl⟩
  obtain ⟨locs, hlocs⟩ : ∃ locs : List Loc, locs = [] := ⟨_, rfl⟩
  have hS : va_S A s.heap H locs := by rw [hH, hlocs]; exact va_S.rf
  rw [← hH] at hP
  suffices hgo : W p l e rmX3_leftFrom s m args below meth c H locs 0 0 Q (F0 m 0 ls []) by rw [hH, hlocs] at hgo; exact hgo
  clear hH hlocs
  replace hl : lv_has ls 4 [(0, .ref q_), (1, .int a1)] := hl
  replace hown : s.vm.findClass RX3 = some m.cls := hown
  have hi_X3 : ∀ w ∈ u_ws RX3 TX3 13, w ∈ wsX3_leftFrom := fun _ h9 => List.mem_cons_of_mem _ (List.mem_append_right _ h9)
  have hf_47 := hts (.fieldLink RX3 47 "GlazierBench$Glazing" "leftByLatest" "[Z") (by decide +kernel)
  unfold sX3_leftFrom at h
  refine lv_iconst (v := 0) hx hb dX3_leftFrom_0 (by decide) ?_
  refine lv_istore_n (lv' := [(2, .int (0 : Int32)), (0, .ref q_), (1, .int a1)]) hx hb dX3_leftFrom_1 rfl hl (by decide) rfl (fun ls hl => ?_)
  refine lv_iconst (v := 0) hx hb dX3_leftFrom_2 (by decide) ?_
  refine lv_istore_n (lv' := [(3, .int (0 : Int32)), (2, .int (0 : Int32)), (0, .ref q_), (1, .int a1)]) hx hb dX3_leftFrom_3 rfl hl (by decide) rfl (fun ls hl => ?_)
  obtain ⟨⟨k, t⟩, hi, h⟩ := ob_of h
  refine iter_rule (P := fun (k : Nat) (t : Int32 × Int32) => ∀ (H : Heap) (locs : List Loc) (ls : Array Slot), va_P D vwCl [(q_, .inr (3, [.int s_total, .ref q_kind, .ref q_allowed, .ref q_colour, .ref q_nearLow, .ref q_nearHigh, .ref q_paintedLow, .ref q_paintedHigh, .ref q_searched, .ref q_painted, .ref q_upcoming, .ref q_left, .ref q_leftByLatest])), (q_leftByLatest, .inl (ky 2, 128, .inl s_leftByLatest))] H → va_D A [(q_, .inr (3, [.int s_total, .ref q_kind, .ref q_allowed, .ref q_colour, .ref q_nearLow, .ref q_nearHigh, .ref q_paintedLow, .ref q_paintedHigh, .ref q_searched, .ref q_painted, .ref q_upcoming, .ref q_left, .ref q_leftByLatest])), (q_leftByLatest, .inl (ky 2, 128, .inl s_leftByLatest))] → va_S A s.heap H locs → lv_has ls 4 [(0, .ref q_), (1, .int a1), (2, .int t.1), (3, .int t.2)] → W p l e rmX3_leftFrom s m args below meth c H locs 0 0 Q (F0 m ([4, 42].getD k 0) ls [])) ?_ _ _ _ _ hi ?_ H locs ls hP hD hS (lv_sub hl [2, 3, 1, 0] rfl)
  · clear h hi hP hD hS hl
    intro t k t' h K
    obtain ⟨v1, v2⟩ := t
    intro H locs ls hP hD hS hl
    replace h := dm2_of h
    replace hP : va_P D vwCl [(q_, .inr (3, [.int s_total, .ref q_kind, .ref q_allowed, .ref q_colour, .ref q_nearLow, .ref q_nearHigh, .ref q_paintedLow, .ref q_paintedHigh, .ref q_searched, .ref q_painted, .ref q_upcoming, .ref q_left, .ref q_leftByLatest])), (q_leftByLatest, .inl (ky 2, 128, .inl s_leftByLatest))] H := hP
    replace hD : va_D A [(q_, .inr (3, [.int s_total, .ref q_kind, .ref q_allowed, .ref q_colour, .ref q_nearLow, .ref q_nearHigh, .ref q_paintedLow, .ref q_paintedHigh, .ref q_searched, .ref q_painted, .ref q_upcoming, .ref q_left, .ref q_leftByLatest])), (q_leftByLatest, .inl (ky 2, 128, .inl s_leftByLatest))] := hD
    replace hl : lv_has ls 4 [(0, .ref q_), (1, .int a1), (2, .int v1), (3, .int v2)] := hl
    refine lv_iload_n hx hb dX3_leftFrom_4 rfl (lv_at hl 3 rfl) ?_
    refine lv_bipush (v := 30) hx hb dX3_leftFrom_5 (by decide) ?_
    refine lv_icmp_ge (tgt := 42) hx hb dX3_leftFrom_7 (by decide) (fun hc => ?_) (fun hc => ?_)
    · replace h := if_t hc h
      cases h
      exact K _ _ _ hP hD hS (lv_sub hl [0, 1, 2, 3] rfl)
    · replace h := if_f hc h
      refine lv_iload_n hx hb dX3_leftFrom_10 rfl (lv_at hl 1 rfl) ?_
      refine lv_iload_n hx hb dX3_leftFrom_11 rfl (lv_at hl 3 rfl) ?_
      refine lv_iadd hx hb dX3_leftFrom_12 ?_
      refine lv_sipush (v := 128) hx hb dX3_leftFrom_13 (by decide) ?_
      refine lv_icmp_ge (tgt := 42) hx hb dX3_leftFrom_16 (by decide) (fun hc => ?_) (fun hc => ?_)
      · replace h := if_t hc h
        cases h
        exact K _ _ _ hP hD hS (lv_sub hl [0, 1, 2, 3] rfl)
      · replace h := if_f hc h
        refine lv_aload_n hx hb dX3_leftFrom_19 rfl (lv_at hl 0 rfl) ?_
        refine va_get (D := D) (ci := 3) (v := .ref q_leftByLatest) (C := RX3) (T := TX3) (N := 13) hx hb hts hi_X3 hown hK.1 hP 0 rfl rfl 12 (by decide) hf_47 (fun _ h9 => h9) rfl dX3_leftFrom_20 ?_
        refine lv_iload_n hx hb dX3_leftFrom_23 rfl (lv_at hl 1 rfl) ?_
        refine lv_iload_n hx hb dX3_leftFrom_24 rfl (lv_at hl 3 rfl) ?_
        refine lv_iadd hx hb dX3_leftFrom_25 ?_
        obtain ⟨hg, h⟩ := gd_of h
        refine va_zald hx hb hK.1 hP 1 2 rfl rfl hg dX3_leftFrom_26 ?_
        obtain ⟨t, hd, h⟩ := ob_of h
        have K : ∀ (H : Heap) (locs : List Loc) (ls : Array Slot), va_P D vwCl [(q_, .inr (3, [.int s_total, .ref q_kind, .ref q_allowed, .ref q_colour, .ref q_nearLow, .ref q_nearHigh, .ref q_paintedLow, .ref q_paintedHigh, .ref q_searched, .ref q_painted, .ref q_upcoming, .ref q_left, .ref q_leftByLatest])), (q_leftByLatest, .inl (ky 2, 128, .inl s_leftByLatest))] H → va_D A [(q_, .inr (3, [.int s_total, .ref q_kind, .ref q_allowed, .ref q_colour, .ref q_nearLow, .ref q_nearHigh, .ref q_paintedLow, .ref q_paintedHigh, .ref q_searched, .ref q_painted, .ref q_upcoming, .ref q_left, .ref q_leftByLatest])), (q_leftByLatest, .inl (ky 2, 128, .inl s_leftByLatest))] → va_S A s.heap H locs → lv_has ls 4 [(0, .ref q_), (1, .int a1), (2, .int t), (3, .int v2)] → W p l e rmX3_leftFrom s m args below meth c H locs 0 0 Q (F0 m 36 ls []) := by
          clear hd hP hD hS hl
          obtain ⟨v3, rfl⟩ : ∃ z, z = t := ⟨_, rfl⟩
          replace h := dm1_of h
          intro H locs ls hP hD hS hl
          replace hP : va_P D vwCl [(q_, .inr (3, [.int s_total, .ref q_kind, .ref q_allowed, .ref q_colour, .ref q_nearLow, .ref q_nearHigh, .ref q_paintedLow, .ref q_paintedHigh, .ref q_searched, .ref q_painted, .ref q_upcoming, .ref q_left, .ref q_leftByLatest])), (q_leftByLatest, .inl (ky 2, 128, .inl s_leftByLatest))] H := hP
          replace hD : va_D A [(q_, .inr (3, [.int s_total, .ref q_kind, .ref q_allowed, .ref q_colour, .ref q_nearLow, .ref q_nearHigh, .ref q_paintedLow, .ref q_paintedHigh, .ref q_searched, .ref q_painted, .ref q_upcoming, .ref q_left, .ref q_leftByLatest])), (q_leftByLatest, .inl (ky 2, 128, .inl s_leftByLatest))] := hD
          replace hl : lv_has ls 4 [(0, .ref q_), (1, .int a1), (2, .int v3), (3, .int v2)] := hl
          refine W.eq (g2 := F0 m 36 ls []) rfl ?_
          obtain ⟨x4, ex4⟩ : ∃ z : Int32, z = v2 + 1 := ⟨_, rfl⟩
          replace h := lt_at ex4 h
          refine lv_iinc (v := x4) (lv' := [(3, .int x4), (0, .ref q_), (1, .int a1), (2, .int v3)]) hx hb dX3_leftFrom_36 hl (k := 3) rfl (by rw [ex4]; rfl) (by decide) rfl (fun ls hl => ?_)
          refine lv_goto (tgt := 4) hx hb dX3_leftFrom_39 (by decide) ?_
          cases h
          exact K _ _ _ hP hD hS (lv_sub hl [1, 2, 3, 0] rfl)
        replace h := hd
        clear hd
        refine lv_if_eq (tgt := 36) hx hb dX3_leftFrom_27 (by decide) (fun hc => ?_) (fun hc => ?_)
        · replace h := if_t hc h
          cases h
          exact K _ _ _ hP hD hS (lv_sub hl [0, 1, 2, 3] rfl)
        · replace h := if_f hc h
          refine lv_iload_n hx hb dX3_leftFrom_30 rfl (lv_at hl 2 rfl) ?_
          refine lv_iconst (v := 1) hx hb dX3_leftFrom_31 (by decide) ?_
          refine lv_iload_n hx hb dX3_leftFrom_32 rfl (lv_at hl 3 rfl) ?_
          refine lv_ishl hx hb dX3_leftFrom_33 ?_
          refine lv_ior hx hb dX3_leftFrom_34 ?_
          refine lv_topi (fun x5 ex5 => ?_)
          replace h := lt_at ex5 h
          refine lv_istore_n (lv' := [(2, .int x5), (0, .ref q_), (1, .int a1), (3, .int v2)]) hx hb dX3_leftFrom_35 rfl hl (by decide) rfl (fun ls hl => ?_)
          cases h
          exact K _ _ _ hP hD hS (lv_sub hl [1, 2, 0, 3] rfl)
  · have h1 := ex1_of h
    clear h hi
    rcases h1 with ⟨rfl, h⟩
    obtain ⟨v6, v7⟩ := t
    replace h := dm2_of h
    intro H locs ls hP hD hS hl
    replace hP : va_P D vwCl [(q_, .inr (3, [.int s_total, .ref q_kind, .ref q_allowed, .ref q_colour, .ref q_nearLow, .ref q_nearHigh, .ref q_paintedLow, .ref q_paintedHigh, .ref q_searched, .ref q_painted, .ref q_upcoming, .ref q_left, .ref q_leftByLatest])), (q_leftByLatest, .inl (ky 2, 128, .inl s_leftByLatest))] H := hP
    replace hD : va_D A [(q_, .inr (3, [.int s_total, .ref q_kind, .ref q_allowed, .ref q_colour, .ref q_nearLow, .ref q_nearHigh, .ref q_paintedLow, .ref q_paintedHigh, .ref q_searched, .ref q_painted, .ref q_upcoming, .ref q_left, .ref q_leftByLatest])), (q_leftByLatest, .inl (ky 2, 128, .inl s_leftByLatest))] := hD
    replace hl : lv_has ls 4 [(0, .ref q_), (1, .int a1), (2, .int v6), (3, .int v7)] := hl
    refine W.eq (g2 := F0 m 42 ls []) rfl ?_
    refine lv_iload_n hx hb dX3_leftFrom_42 rfl (lv_at hl 2 rfl) ?_
    cases h
    exact ret _ _ _ _ dX3_leftFrom_43 hP hD hS

