def sX12_alike_vn (a1 : Int32) (s_isWindow : Int32) (s_founds : Nat → Int32) (s_isKept : Nat → Int32) : Option (Int32 × (Nat → Int32)) := ob (sX12_isPlace a1) (fun o => dm1 o (fun (r1 : Int32) => if r1 = 0 then ob (sX12_isPlace a1) (fun o => dm1 o (fun (r2 : Int32) => if ¬ r2 = 0 then ob (sX12_answer (-4 : Int32) s_founds) (fun o => dm2 o (fun (r3 : Int32) (o4 : Nat → Int32) => some (r3, o4))) else ob (sX12_answer (-1 : Int32) s_founds) (fun o => dm2 o (fun (r5 : Int32) (o6 : Nat → Int32) => some (r5, o6))))) else if s_isWindow = 0 then ob (sX12_isPlace a1) (fun o => dm1 o (fun (r7 : Int32) => if ¬ r7 = 0 then ob (sX12_answer (-4 : Int32) s_founds) (fun o => dm2 o (fun (r8 : Int32) (o9 : Nat → Int32) => some (r8, o9))) else ob (sX12_answer (-1 : Int32) s_founds) (fun o => dm2 o (fun (r10 : Int32) (o11 : Nat → Int32) => some (r10, o11))))) else gd (¬ (a1 < 0 ∨ 4 ≤ a1.toNatClampNeg)) (if ¬ (s_isKept a1.toNatClampNeg) = 0 then gd (¬ (a1 < 0 ∨ 4 ≤ a1.toNatClampNeg)) (none) else ob (sX12_isPlace a1) (fun o => dm1 o (fun (r12 : Int32) => if ¬ r12 = 0 then ob (sX12_answer (-4 : Int32) s_founds) (fun o => dm2 o (fun (r13 : Int32) (o14 : Nat → Int32) => some (r13, o14))) else ob (sX12_answer (-1 : Int32) s_founds) (fun o => dm2 o (fun (r15 : Int32) (o16 : Nat → Int32) => some (r15, o16))))))))
abbrev rmX12_alike_vn : Room := { frames := 5, cells := 1, slots := 240, locals := 167 }
set_option maxHeartbeats 4000000 in
set_option maxRecDepth 100000 in
theorem c_X12_alike_vn (l : Launch) (D : va_G) (ky : Nat → ClassId) (q_ q_now q_kept q_isKept q_paneOf q_firstStep q_kinds q_allowed q_colour q_picked q_lacking q_rackKind q_rackAllowed q_founds q_plus q_minus q_under q_work q_other q_order q_tried q_touches q_out q_cuts q_boxWide q_boxTall q_boxTurns q_goal q_kept_0 q_kept_1 q_kept_2 q_kept_3 : Nat) (a1 : Int32) (s_isWindow : Int32) (s_panes : Int32) (s_picks : Int32) (s_hasLack : Int32) (s_ordered : Int32) (s_founds : Nat → Int32) (s_isKept : Nat → Int32) {o_r : Int32} {o_founds : Nat → Int32} (h : sX12_alike_vn a1 s_isWindow s_founds s_isKept = some (o_r, o_founds)) : MtI l D ky yX12_alike wsX12_alike rmX12_alike_vn [.ref q_, .int a1] [(q_, .inr (12, [.ref q_now, .int s_isWindow, .ref q_kept, .ref q_isKept, .ref q_paneOf, .int s_panes, .ref q_firstStep, .ref q_kinds, .ref q_allowed, .ref q_colour, .ref q_picked, .int s_picks, .ref q_lacking, .int s_hasLack, .ref q_rackKind, .ref q_rackAllowed, .ref q_founds, .ref q_plus, .ref q_minus, .ref q_under, .ref q_work, .ref q_other, .ref q_order, .int s_ordered, .ref q_tried, .ref q_touches, .ref q_out, .ref q_cuts, .ref q_boxWide, .ref q_boxTall, .ref q_boxTurns, .ref q_goal])), (q_founds, .inl (ky 0, 8, .inl s_founds)), (q_isKept, .inl (ky 2, 4, .inl s_isKept)), (q_kept, .inl (ky 4, 4, .inr (.inr (.inr (.inr (kp4 q_kept_0 q_kept_1 q_kept_2 q_kept_3))))))] [(q_, .inr (12, [.ref q_now, .int s_isWindow, .ref q_kept, .ref q_isKept, .ref q_paneOf, .int s_panes, .ref q_firstStep, .ref q_kinds, .ref q_allowed, .ref q_colour, .ref q_picked, .int s_picks, .ref q_lacking, .int s_hasLack, .ref q_rackKind, .ref q_rackAllowed, .ref q_founds, .ref q_plus, .ref q_minus, .ref q_under, .ref q_work, .ref q_other, .ref q_order, .int s_ordered, .ref q_tried, .ref q_touches, .ref q_out, .ref q_cuts, .ref q_boxWide, .ref q_boxTall, .ref q_boxTurns, .ref q_goal])), (q_founds, .inl (ky 0, 8, .inl o_founds)), (q_isKept, .inl (ky 2, 4, .inl s_isKept)), (q_kept, .inl (ky 4, 4, .inr (.inr (.inr (.inr (kp4 q_kept_0 q_kept_1 q_kept_2 q_kept_3))))))] o_r 1 240 := by
  refine MtI.of (cc := cX12_alike) (maxL := 4) (by decide +kernel) rfl (Nat.le_of_ble_eq_true rfl) ?_
  intro p e R s m args below meth c A Q ls hR hx hb hts hown hnm hml hP hK hD hA ret hl
  subst hR
  obtain ⟨H, hH⟩ : ∃ H, H = s.heap := ⟨_, rfl⟩
  obtain ⟨locs, hlocs⟩ : ∃ locs : List Loc, locs = [] := ⟨_, rfl⟩
  have hS : va_S A s.heap H locs := by rw [hH, hlocs]; exact va_S.rf
  rw [← hH] at hP
  suffices hgo : W p l e rmX12_alike_vn s m args below meth c H locs 0 0 Q (F0 m 0 ls []) by rw [hH, hlocs] at hgo; exact hgo
  clear hH hlocs
  replace hl : lv_has ls 4 [(0, .ref q_), (1, .int a1)] := hl
  replace hown : s.vm.findClass RX12 = some m.cls := hown
  have hi_X12 := (by decide +kernel : ∀ w ∈ u_ws RX12 TX12 32, w ∈ wsX12_alike)
  have hf_182 := hts (.fieldLink RX12 182 "GlazierBenchModel" "isWindow" "Z") (by decide +kernel)
  have hf_26 := hts (.fieldLink RX12 26 "GlazierBenchModel" "isKept" "[Z") (by decide +kernel)
  have hf_22 := hts (.fieldLink RX12 22 "GlazierBenchModel" "kept" "[LGlazierBenchModel$Drawing;") (by decide +kernel)
  unfold sX12_alike_vn at h
  refine lv_iload_n hx hb dX12_alike_0 rfl (lv_at hl 1 rfl) ?_
  have h9 := ob_of h
  clear h
  obtain ⟨r1, hc, h⟩ := h9
  replace h := dm1_of h
  refine cs_i (As := [.int a1]) (rest := []) (wr := [(q_, .inr (12, [.ref q_now, .int s_isWindow, .ref q_kept, .ref q_isKept, .ref q_paneOf, .int s_panes, .ref q_firstStep, .ref q_kinds, .ref q_allowed, .ref q_colour, .ref q_picked, .int s_picks, .ref q_lacking, .int s_hasLack, .ref q_rackKind, .ref q_rackAllowed, .ref q_founds, .ref q_plus, .ref q_minus, .ref q_under, .ref q_work, .ref q_other, .ref q_order, .int s_ordered, .ref q_tried, .ref q_touches, .ref q_out, .ref q_cuts, .ref q_boxWide, .ref q_boxTall, .ref q_boxTurns, .ref q_goal])), (q_founds, .inl (ky 0, 8, .inl s_founds)), (q_isKept, .inl (ky 2, 4, .inl s_isKept)), (q_kept, .inl (ky 4, 4, .inr (.inr (.inr (.inr (kp4 q_kept_0 q_kept_1 q_kept_2 q_kept_3))))))]) (wn := [(q_, .inr (12, [.ref q_now, .int s_isWindow, .ref q_kept, .ref q_isKept, .ref q_paneOf, .int s_panes, .ref q_firstStep, .ref q_kinds, .ref q_allowed, .ref q_colour, .ref q_picked, .int s_picks, .ref q_lacking, .int s_hasLack, .ref q_rackKind, .ref q_rackAllowed, .ref q_founds, .ref q_plus, .ref q_minus, .ref q_under, .ref q_work, .ref q_other, .ref q_order, .int s_ordered, .ref q_tried, .ref q_touches, .ref q_out, .ref q_cuts, .ref q_boxWide, .ref q_boxTall, .ref q_boxTurns, .ref q_goal])), (q_founds, .inl (ky 0, 8, .inl s_founds)), (q_isKept, .inl (ky 2, 4, .inl s_isKept)), (q_kept, .inl (ky 4, 4, .inr (.inr (.inr (.inr (kp4 q_kept_0 q_kept_1 q_kept_2 q_kept_3))))))]) ⟨hx, hb, hml, hown, hts⟩ (c_X12_isPlace l D ky a1 hc) (va_cwS 1 hts gX12_alike_X12_isPlace rfl rfl rfl (by decide +kernel) ⟨Nat.le_of_ble_eq_true rfl, Nat.le_of_ble_eq_true rfl⟩) hP hD hK hS hA [] [0, 1, 2, 3] [0, 1, 2, 3] rfl (by decide +kernel) rfl (by decide +kernel) (by decide +kernel) (by decide +kernel) rfl rfl rfl hl.1 (Nat.le_of_ble_eq_true rfl) dX12_alike_1 ⟨Nat.le_of_ble_eq_true rfl, Nat.le_of_ble_eq_true rfl⟩ (fun H locs hP hD hS => ?_)
  refine lv_if_eq (tgt := 23) hx hb dX12_alike_4 (by decide) (fun hc => ?_) (fun hc => ?_)
  · replace h := if_t hc h
    refine lv_aload_n hx hb dX12_alike_23 rfl (lv_at hl 0 rfl) ?_
    refine lv_iload_n hx hb dX12_alike_24 rfl (lv_at hl 1 rfl) ?_
    have h9 := ob_of h
    clear h
    obtain ⟨r2, hc, h⟩ := h9
    replace h := dm1_of h
    refine cs_i (As := [.int a1]) (rest := [.ref q_]) (wr := [(q_, .inr (12, [.ref q_now, .int s_isWindow, .ref q_kept, .ref q_isKept, .ref q_paneOf, .int s_panes, .ref q_firstStep, .ref q_kinds, .ref q_allowed, .ref q_colour, .ref q_picked, .int s_picks, .ref q_lacking, .int s_hasLack, .ref q_rackKind, .ref q_rackAllowed, .ref q_founds, .ref q_plus, .ref q_minus, .ref q_under, .ref q_work, .ref q_other, .ref q_order, .int s_ordered, .ref q_tried, .ref q_touches, .ref q_out, .ref q_cuts, .ref q_boxWide, .ref q_boxTall, .ref q_boxTurns, .ref q_goal])), (q_founds, .inl (ky 0, 8, .inl s_founds)), (q_isKept, .inl (ky 2, 4, .inl s_isKept)), (q_kept, .inl (ky 4, 4, .inr (.inr (.inr (.inr (kp4 q_kept_0 q_kept_1 q_kept_2 q_kept_3))))))]) (wn := [(q_, .inr (12, [.ref q_now, .int s_isWindow, .ref q_kept, .ref q_isKept, .ref q_paneOf, .int s_panes, .ref q_firstStep, .ref q_kinds, .ref q_allowed, .ref q_colour, .ref q_picked, .int s_picks, .ref q_lacking, .int s_hasLack, .ref q_rackKind, .ref q_rackAllowed, .ref q_founds, .ref q_plus, .ref q_minus, .ref q_under, .ref q_work, .ref q_other, .ref q_order, .int s_ordered, .ref q_tried, .ref q_touches, .ref q_out, .ref q_cuts, .ref q_boxWide, .ref q_boxTall, .ref q_boxTurns, .ref q_goal])), (q_founds, .inl (ky 0, 8, .inl s_founds)), (q_isKept, .inl (ky 2, 4, .inl s_isKept)), (q_kept, .inl (ky 4, 4, .inr (.inr (.inr (.inr (kp4 q_kept_0 q_kept_1 q_kept_2 q_kept_3))))))]) ⟨hx, hb, hml, hown, hts⟩ (c_X12_isPlace l D ky a1 hc) (va_cwS 1 hts gX12_alike_X12_isPlace rfl rfl rfl (by decide +kernel) ⟨Nat.le_of_ble_eq_true rfl, Nat.le_of_ble_eq_true rfl⟩) hP hD hK hS hA [] [0, 1, 2, 3] [0, 1, 2, 3] rfl (by decide +kernel) rfl (by decide +kernel) (by decide +kernel) (by decide +kernel) rfl rfl rfl hl.1 (Nat.le_of_ble_eq_true rfl) dX12_alike_25 ⟨Nat.le_of_ble_eq_true rfl, Nat.le_of_ble_eq_true rfl⟩ (fun H locs hP hD hS => ?_)
    refine lv_if_ne (tgt := 35) hx hb dX12_alike_28 (by decide) (fun hc => ?_) (fun hc => ?_)
    · replace h := if_t hc h
      refine lv_bipush (v := (-4)) hx hb dX12_alike_35 (by decide) ?_
      have h9 := ob_of h
      clear h
      obtain ⟨⟨r3, o4⟩, hc, h⟩ := h9
      replace h := dm2_of h
      refine cv_i (As := [.int (-4 : Int32)]) (rest := []) (wr := [(q_isKept, .inl (ky 2, 4, .inl s_isKept)), (q_kept, .inl (ky 4, 4, .inr (.inr (.inr (.inr (kp4 q_kept_0 q_kept_1 q_kept_2 q_kept_3))))))]) (wn := [(q_, .inr (12, [.ref q_now, .int s_isWindow, .ref q_kept, .ref q_isKept, .ref q_paneOf, .int s_panes, .ref q_firstStep, .ref q_kinds, .ref q_allowed, .ref q_colour, .ref q_picked, .int s_picks, .ref q_lacking, .int s_hasLack, .ref q_rackKind, .ref q_rackAllowed, .ref q_founds, .ref q_plus, .ref q_minus, .ref q_under, .ref q_work, .ref q_other, .ref q_order, .int s_ordered, .ref q_tried, .ref q_touches, .ref q_out, .ref q_cuts, .ref q_boxWide, .ref q_boxTall, .ref q_boxTurns, .ref q_goal])), (q_founds, .inl (ky 0, 8, .inl o4)), (q_isKept, .inl (ky 2, 4, .inl s_isKept)), (q_kept, .inl (ky 4, 4, .inr (.inr (.inr (.inr (kp4 q_kept_0 q_kept_1 q_kept_2 q_kept_3))))))]) ⟨hx, hb, hml, hown, hts⟩ (c_X12_answer l D ky q_ q_now q_kept q_isKept q_paneOf q_firstStep q_kinds q_allowed q_colour q_picked q_lacking q_rackKind q_rackAllowed q_founds q_plus q_minus q_under q_work q_other q_order q_tried q_touches q_out q_cuts q_boxWide q_boxTall q_boxTurns q_goal (-4 : Int32) s_isWindow s_panes s_picks s_hasLack s_ordered s_founds hc) (cwV 1 hts gX12_alike_X12_answer rfl rfl rfl (by decide +kernel) ⟨Nat.le_of_ble_eq_true rfl, Nat.le_of_ble_eq_true rfl⟩) (va_recv hK.1 hP (q0 := 0) rfl rfl) hP hD hK hS hA [0, 1] [2, 3] [2, 3, 0, 1] rfl (by decide +kernel) rfl (by decide +kernel) (by decide +kernel) (by decide +kernel) rfl rfl rfl hl.1 (Nat.le_of_ble_eq_true rfl) dX12_alike_37 ⟨Nat.le_of_ble_eq_true rfl, Nat.le_of_ble_eq_true rfl⟩ (fun H locs hP hD hS => ?_)
      cases h
      refine W.widen (k := 1) (n := 240) (Nat.le_of_ble_eq_true rfl) (Nat.le_of_ble_eq_true rfl) ?_
      exact ret _ _ _ _ dX12_alike_40 hP hD hS
    · replace h := if_f (fun z => z hc) h
      refine lv_iconst (v := (-1)) hx hb dX12_alike_31 (by decide) ?_
      refine lv_goto (tgt := 37) hx hb dX12_alike_32 (by decide) ?_
      have h9 := ob_of h
      clear h
      obtain ⟨⟨r5, o6⟩, hc, h⟩ := h9
      replace h := dm2_of h
      refine cv_i (As := [.int (-1 : Int32)]) (rest := []) (wr := [(q_isKept, .inl (ky 2, 4, .inl s_isKept)), (q_kept, .inl (ky 4, 4, .inr (.inr (.inr (.inr (kp4 q_kept_0 q_kept_1 q_kept_2 q_kept_3))))))]) (wn := [(q_, .inr (12, [.ref q_now, .int s_isWindow, .ref q_kept, .ref q_isKept, .ref q_paneOf, .int s_panes, .ref q_firstStep, .ref q_kinds, .ref q_allowed, .ref q_colour, .ref q_picked, .int s_picks, .ref q_lacking, .int s_hasLack, .ref q_rackKind, .ref q_rackAllowed, .ref q_founds, .ref q_plus, .ref q_minus, .ref q_under, .ref q_work, .ref q_other, .ref q_order, .int s_ordered, .ref q_tried, .ref q_touches, .ref q_out, .ref q_cuts, .ref q_boxWide, .ref q_boxTall, .ref q_boxTurns, .ref q_goal])), (q_founds, .inl (ky 0, 8, .inl o6)), (q_isKept, .inl (ky 2, 4, .inl s_isKept)), (q_kept, .inl (ky 4, 4, .inr (.inr (.inr (.inr (kp4 q_kept_0 q_kept_1 q_kept_2 q_kept_3))))))]) ⟨hx, hb, hml, hown, hts⟩ (c_X12_answer l D ky q_ q_now q_kept q_isKept q_paneOf q_firstStep q_kinds q_allowed q_colour q_picked q_lacking q_rackKind q_rackAllowed q_founds q_plus q_minus q_under q_work q_other q_order q_tried q_touches q_out q_cuts q_boxWide q_boxTall q_boxTurns q_goal (-1 : Int32) s_isWindow s_panes s_picks s_hasLack s_ordered s_founds hc) (cwV 1 hts gX12_alike_X12_answer rfl rfl rfl (by decide +kernel) ⟨Nat.le_of_ble_eq_true rfl, Nat.le_of_ble_eq_true rfl⟩) (va_recv hK.1 hP (q0 := 0) rfl rfl) hP hD hK hS hA [0, 1] [2, 3] [2, 3, 0, 1] rfl (by decide +kernel) rfl (by decide +kernel) (by decide +kernel) (by decide +kernel) rfl rfl rfl hl.1 (Nat.le_of_ble_eq_true rfl) dX12_alike_37 ⟨Nat.le_of_ble_eq_true rfl, Nat.le_of_ble_eq_true rfl⟩ (fun H locs hP hD hS => ?_)
      cases h
      refine W.widen (k := 1) (n := 240) (Nat.le_of_ble_eq_true rfl) (Nat.le_of_ble_eq_true rfl) ?_
      exact ret _ _ _ _ dX12_alike_40 hP hD hS
  · replace h := if_f hc h
    refine lv_aload_n hx hb dX12_alike_7 rfl (lv_at hl 0 rfl) ?_
    refine va_get (D := D) (ci := 12) (v := .int s_isWindow) (C := RX12) (T := TX12) (N := 32) hx hb hts hi_X12 hown hK.1 hP 0 rfl rfl 1 (by decide) hf_182 (fun _ h9 => h9) rfl dX12_alike_8 ?_
    refine lv_if_eq (tgt := 23) hx hb dX12_alike_11 (by decide) (fun hc => ?_) (fun hc => ?_)
    · replace h := if_t hc h
      refine lv_aload_n hx hb dX12_alike_23 rfl (lv_at hl 0 rfl) ?_
      refine lv_iload_n hx hb dX12_alike_24 rfl (lv_at hl 1 rfl) ?_
      have h9 := ob_of h
      clear h
      obtain ⟨r7, hc, h⟩ := h9
      replace h := dm1_of h
      refine cs_i (As := [.int a1]) (rest := [.ref q_]) (wr := [(q_, .inr (12, [.ref q_now, .int s_isWindow, .ref q_kept, .ref q_isKept, .ref q_paneOf, .int s_panes, .ref q_firstStep, .ref q_kinds, .ref q_allowed, .ref q_colour, .ref q_picked, .int s_picks, .ref q_lacking, .int s_hasLack, .ref q_rackKind, .ref q_rackAllowed, .ref q_founds, .ref q_plus, .ref q_minus, .ref q_under, .ref q_work, .ref q_other, .ref q_order, .int s_ordered, .ref q_tried, .ref q_touches, .ref q_out, .ref q_cuts, .ref q_boxWide, .ref q_boxTall, .ref q_boxTurns, .ref q_goal])), (q_founds, .inl (ky 0, 8, .inl s_founds)), (q_isKept, .inl (ky 2, 4, .inl s_isKept)), (q_kept, .inl (ky 4, 4, .inr (.inr (.inr (.inr (kp4 q_kept_0 q_kept_1 q_kept_2 q_kept_3))))))]) (wn := [(q_, .inr (12, [.ref q_now, .int s_isWindow, .ref q_kept, .ref q_isKept, .ref q_paneOf, .int s_panes, .ref q_firstStep, .ref q_kinds, .ref q_allowed, .ref q_colour, .ref q_picked, .int s_picks, .ref q_lacking, .int s_hasLack, .ref q_rackKind, .ref q_rackAllowed, .ref q_founds, .ref q_plus, .ref q_minus, .ref q_under, .ref q_work, .ref q_other, .ref q_order, .int s_ordered, .ref q_tried, .ref q_touches, .ref q_out, .ref q_cuts, .ref q_boxWide, .ref q_boxTall, .ref q_boxTurns, .ref q_goal])), (q_founds, .inl (ky 0, 8, .inl s_founds)), (q_isKept, .inl (ky 2, 4, .inl s_isKept)), (q_kept, .inl (ky 4, 4, .inr (.inr (.inr (.inr (kp4 q_kept_0 q_kept_1 q_kept_2 q_kept_3))))))]) ⟨hx, hb, hml, hown, hts⟩ (c_X12_isPlace l D ky a1 hc) (va_cwS 1 hts gX12_alike_X12_isPlace rfl rfl rfl (by decide +kernel) ⟨Nat.le_of_ble_eq_true rfl, Nat.le_of_ble_eq_true rfl⟩) hP hD hK hS hA [] [0, 1, 2, 3] [0, 1, 2, 3] rfl (by decide +kernel) rfl (by decide +kernel) (by decide +kernel) (by decide +kernel) rfl rfl rfl hl.1 (Nat.le_of_ble_eq_true rfl) dX12_alike_25 ⟨Nat.le_of_ble_eq_true rfl, Nat.le_of_ble_eq_true rfl⟩ (fun H locs hP hD hS => ?_)
      refine lv_if_ne (tgt := 35) hx hb dX12_alike_28 (by decide) (fun hc => ?_) (fun hc => ?_)
      · replace h := if_t hc h
        refine lv_bipush (v := (-4)) hx hb dX12_alike_35 (by decide) ?_
        have h9 := ob_of h
        clear h
        obtain ⟨⟨r8, o9⟩, hc, h⟩ := h9
        replace h := dm2_of h
        refine cv_i (As := [.int (-4 : Int32)]) (rest := []) (wr := [(q_isKept, .inl (ky 2, 4, .inl s_isKept)), (q_kept, .inl (ky 4, 4, .inr (.inr (.inr (.inr (kp4 q_kept_0 q_kept_1 q_kept_2 q_kept_3))))))]) (wn := [(q_, .inr (12, [.ref q_now, .int s_isWindow, .ref q_kept, .ref q_isKept, .ref q_paneOf, .int s_panes, .ref q_firstStep, .ref q_kinds, .ref q_allowed, .ref q_colour, .ref q_picked, .int s_picks, .ref q_lacking, .int s_hasLack, .ref q_rackKind, .ref q_rackAllowed, .ref q_founds, .ref q_plus, .ref q_minus, .ref q_under, .ref q_work, .ref q_other, .ref q_order, .int s_ordered, .ref q_tried, .ref q_touches, .ref q_out, .ref q_cuts, .ref q_boxWide, .ref q_boxTall, .ref q_boxTurns, .ref q_goal])), (q_founds, .inl (ky 0, 8, .inl o9)), (q_isKept, .inl (ky 2, 4, .inl s_isKept)), (q_kept, .inl (ky 4, 4, .inr (.inr (.inr (.inr (kp4 q_kept_0 q_kept_1 q_kept_2 q_kept_3))))))]) ⟨hx, hb, hml, hown, hts⟩ (c_X12_answer l D ky q_ q_now q_kept q_isKept q_paneOf q_firstStep q_kinds q_allowed q_colour q_picked q_lacking q_rackKind q_rackAllowed q_founds q_plus q_minus q_under q_work q_other q_order q_tried q_touches q_out q_cuts q_boxWide q_boxTall q_boxTurns q_goal (-4 : Int32) s_isWindow s_panes s_picks s_hasLack s_ordered s_founds hc) (cwV 1 hts gX12_alike_X12_answer rfl rfl rfl (by decide +kernel) ⟨Nat.le_of_ble_eq_true rfl, Nat.le_of_ble_eq_true rfl⟩) (va_recv hK.1 hP (q0 := 0) rfl rfl) hP hD hK hS hA [0, 1] [2, 3] [2, 3, 0, 1] rfl (by decide +kernel) rfl (by decide +kernel) (by decide +kernel) (by decide +kernel) rfl rfl rfl hl.1 (Nat.le_of_ble_eq_true rfl) dX12_alike_37 ⟨Nat.le_of_ble_eq_true rfl, Nat.le_of_ble_eq_true rfl⟩ (fun H locs hP hD hS => ?_)
        cases h
        refine W.widen (k := 1) (n := 240) (Nat.le_of_ble_eq_true rfl) (Nat.le_of_ble_eq_true rfl) ?_
        exact ret _ _ _ _ dX12_alike_40 hP hD hS
      · replace h := if_f (fun z => z hc) h
        refine lv_iconst (v := (-1)) hx hb dX12_alike_31 (by decide) ?_
        refine lv_goto (tgt := 37) hx hb dX12_alike_32 (by decide) ?_
        have h9 := ob_of h
        clear h
        obtain ⟨⟨r10, o11⟩, hc, h⟩ := h9
        replace h := dm2_of h
        refine cv_i (As := [.int (-1 : Int32)]) (rest := []) (wr := [(q_isKept, .inl (ky 2, 4, .inl s_isKept)), (q_kept, .inl (ky 4, 4, .inr (.inr (.inr (.inr (kp4 q_kept_0 q_kept_1 q_kept_2 q_kept_3))))))]) (wn := [(q_, .inr (12, [.ref q_now, .int s_isWindow, .ref q_kept, .ref q_isKept, .ref q_paneOf, .int s_panes, .ref q_firstStep, .ref q_kinds, .ref q_allowed, .ref q_colour, .ref q_picked, .int s_picks, .ref q_lacking, .int s_hasLack, .ref q_rackKind, .ref q_rackAllowed, .ref q_founds, .ref q_plus, .ref q_minus, .ref q_under, .ref q_work, .ref q_other, .ref q_order, .int s_ordered, .ref q_tried, .ref q_touches, .ref q_out, .ref q_cuts, .ref q_boxWide, .ref q_boxTall, .ref q_boxTurns, .ref q_goal])), (q_founds, .inl (ky 0, 8, .inl o11)), (q_isKept, .inl (ky 2, 4, .inl s_isKept)), (q_kept, .inl (ky 4, 4, .inr (.inr (.inr (.inr (kp4 q_kept_0 q_kept_1 q_kept_2 q_kept_3))))))]) ⟨hx, hb, hml, hown, hts⟩ (c_X12_answer l D ky q_ q_now q_kept q_isKept q_paneOf q_firstStep q_kinds q_allowed q_colour q_picked q_lacking q_rackKind q_rackAllowed q_founds q_plus q_minus q_under q_work q_other q_order q_tried q_touches q_out q_cuts q_boxWide q_boxTall q_boxTurns q_goal (-1 : Int32) s_isWindow s_panes s_picks s_hasLack s_ordered s_founds hc) (cwV 1 hts gX12_alike_X12_answer rfl rfl rfl (by decide +kernel) ⟨Nat.le_of_ble_eq_true rfl, Nat.le_of_ble_eq_true rfl⟩) (va_recv hK.1 hP (q0 := 0) rfl rfl) hP hD hK hS hA [0, 1] [2, 3] [2, 3, 0, 1] rfl (by decide +kernel) rfl (by decide +kernel) (by decide +kernel) (by decide +kernel) rfl rfl rfl hl.1 (Nat.le_of_ble_eq_true rfl) dX12_alike_37 ⟨Nat.le_of_ble_eq_true rfl, Nat.le_of_ble_eq_true rfl⟩ (fun H locs hP hD hS => ?_)
        cases h
        refine W.widen (k := 1) (n := 240) (Nat.le_of_ble_eq_true rfl) (Nat.le_of_ble_eq_true rfl) ?_
        exact ret _ _ _ _ dX12_alike_40 hP hD hS
    · replace h := if_f hc h
      refine lv_aload_n hx hb dX12_alike_14 rfl (lv_at hl 0 rfl) ?_
      refine va_get (D := D) (ci := 12) (v := .ref q_isKept) (C := RX12) (T := TX12) (N := 32) hx hb hts hi_X12 hown hK.1 hP 0 rfl rfl 3 (by decide) hf_26 (fun _ h9 => h9) rfl dX12_alike_15 ?_
      refine lv_iload_n hx hb dX12_alike_18 rfl (lv_at hl 1 rfl) ?_
      have h9 := gd_of h
      clear h
      obtain ⟨hg, h⟩ := h9
      refine va_zald hx hb hK.1 hP 2 2 rfl rfl hg dX12_alike_19 ?_
      refine lv_if_ne (tgt := 41) hx hb dX12_alike_20 (by decide) (fun hc => ?_) (fun hc => ?_)
      · replace h := if_t hc h
        refine lv_aload_n hx hb dX12_alike_41 rfl (lv_at hl 0 rfl) ?_
        refine va_get (D := D) (ci := 12) (v := .ref q_kept) (C := RX12) (T := TX12) (N := 32) hx hb hts hi_X12 hown hK.1 hP 0 rfl rfl 2 (by decide) hf_22 (fun _ h9 => h9) rfl dX12_alike_42 ?_
        refine lv_iload_n hx hb dX12_alike_45 rfl (lv_at hl 1 rfl) ?_
        have h9 := gd_of h
        clear h
        obtain ⟨hg, h⟩ := h9
        refine va_aldq hx hb hK.1 hP 3 4 rfl rfl hg dX12_alike_46 ?_
        cases h
      · replace h := if_f (fun z => z hc) h
        refine lv_aload_n hx hb dX12_alike_23 rfl (lv_at hl 0 rfl) ?_
        refine lv_iload_n hx hb dX12_alike_24 rfl (lv_at hl 1 rfl) ?_
        have h9 := ob_of h
        clear h
        obtain ⟨r12, hc, h⟩ := h9
        replace h := dm1_of h
        refine cs_i (As := [.int a1]) (rest := [.ref q_]) (wr := [(q_, .inr (12, [.ref q_now, .int s_isWindow, .ref q_kept, .ref q_isKept, .ref q_paneOf, .int s_panes, .ref q_firstStep, .ref q_kinds, .ref q_allowed, .ref q_colour, .ref q_picked, .int s_picks, .ref q_lacking, .int s_hasLack, .ref q_rackKind, .ref q_rackAllowed, .ref q_founds, .ref q_plus, .ref q_minus, .ref q_under, .ref q_work, .ref q_other, .ref q_order, .int s_ordered, .ref q_tried, .ref q_touches, .ref q_out, .ref q_cuts, .ref q_boxWide, .ref q_boxTall, .ref q_boxTurns, .ref q_goal])), (q_founds, .inl (ky 0, 8, .inl s_founds)), (q_isKept, .inl (ky 2, 4, .inl s_isKept)), (q_kept, .inl (ky 4, 4, .inr (.inr (.inr (.inr (kp4 q_kept_0 q_kept_1 q_kept_2 q_kept_3))))))]) (wn := [(q_, .inr (12, [.ref q_now, .int s_isWindow, .ref q_kept, .ref q_isKept, .ref q_paneOf, .int s_panes, .ref q_firstStep, .ref q_kinds, .ref q_allowed, .ref q_colour, .ref q_picked, .int s_picks, .ref q_lacking, .int s_hasLack, .ref q_rackKind, .ref q_rackAllowed, .ref q_founds, .ref q_plus, .ref q_minus, .ref q_under, .ref q_work, .ref q_other, .ref q_order, .int s_ordered, .ref q_tried, .ref q_touches, .ref q_out, .ref q_cuts, .ref q_boxWide, .ref q_boxTall, .ref q_boxTurns, .ref q_goal])), (q_founds, .inl (ky 0, 8, .inl s_founds)), (q_isKept, .inl (ky 2, 4, .inl s_isKept)), (q_kept, .inl (ky 4, 4, .inr (.inr (.inr (.inr (kp4 q_kept_0 q_kept_1 q_kept_2 q_kept_3))))))]) ⟨hx, hb, hml, hown, hts⟩ (c_X12_isPlace l D ky a1 hc) (va_cwS 1 hts gX12_alike_X12_isPlace rfl rfl rfl (by decide +kernel) ⟨Nat.le_of_ble_eq_true rfl, Nat.le_of_ble_eq_true rfl⟩) hP hD hK hS hA [] [0, 1, 2, 3] [0, 1, 2, 3] rfl (by decide +kernel) rfl (by decide +kernel) (by decide +kernel) (by decide +kernel) rfl rfl rfl hl.1 (Nat.le_of_ble_eq_true rfl) dX12_alike_25 ⟨Nat.le_of_ble_eq_true rfl, Nat.le_of_ble_eq_true rfl⟩ (fun H locs hP hD hS => ?_)
        refine lv_if_ne (tgt := 35) hx hb dX12_alike_28 (by decide) (fun hc => ?_) (fun hc => ?_)
        · replace h := if_t hc h
          refine lv_bipush (v := (-4)) hx hb dX12_alike_35 (by decide) ?_
          have h9 := ob_of h
          clear h
          obtain ⟨⟨r13, o14⟩, hc, h⟩ := h9
          replace h := dm2_of h
          refine cv_i (As := [.int (-4 : Int32)]) (rest := []) (wr := [(q_isKept, .inl (ky 2, 4, .inl s_isKept)), (q_kept, .inl (ky 4, 4, .inr (.inr (.inr (.inr (kp4 q_kept_0 q_kept_1 q_kept_2 q_kept_3))))))]) (wn := [(q_, .inr (12, [.ref q_now, .int s_isWindow, .ref q_kept, .ref q_isKept, .ref q_paneOf, .int s_panes, .ref q_firstStep, .ref q_kinds, .ref q_allowed, .ref q_colour, .ref q_picked, .int s_picks, .ref q_lacking, .int s_hasLack, .ref q_rackKind, .ref q_rackAllowed, .ref q_founds, .ref q_plus, .ref q_minus, .ref q_under, .ref q_work, .ref q_other, .ref q_order, .int s_ordered, .ref q_tried, .ref q_touches, .ref q_out, .ref q_cuts, .ref q_boxWide, .ref q_boxTall, .ref q_boxTurns, .ref q_goal])), (q_founds, .inl (ky 0, 8, .inl o14)), (q_isKept, .inl (ky 2, 4, .inl s_isKept)), (q_kept, .inl (ky 4, 4, .inr (.inr (.inr (.inr (kp4 q_kept_0 q_kept_1 q_kept_2 q_kept_3))))))]) ⟨hx, hb, hml, hown, hts⟩ (c_X12_answer l D ky q_ q_now q_kept q_isKept q_paneOf q_firstStep q_kinds q_allowed q_colour q_picked q_lacking q_rackKind q_rackAllowed q_founds q_plus q_minus q_under q_work q_other q_order q_tried q_touches q_out q_cuts q_boxWide q_boxTall q_boxTurns q_goal (-4 : Int32) s_isWindow s_panes s_picks s_hasLack s_ordered s_founds hc) (cwV 1 hts gX12_alike_X12_answer rfl rfl rfl (by decide +kernel) ⟨Nat.le_of_ble_eq_true rfl, Nat.le_of_ble_eq_true rfl⟩) (va_recv hK.1 hP (q0 := 0) rfl rfl) hP hD hK hS hA [0, 1] [2, 3] [2, 3, 0, 1] rfl (by decide +kernel) rfl (by decide +kernel) (by decide +kernel) (by decide +kernel) rfl rfl rfl hl.1 (Nat.le_of_ble_eq_true rfl) dX12_alike_37 ⟨Nat.le_of_ble_eq_true rfl, Nat.le_of_ble_eq_true rfl⟩ (fun H locs hP hD hS => ?_)
          cases h
          refine W.widen (k := 1) (n := 240) (Nat.le_of_ble_eq_true rfl) (Nat.le_of_ble_eq_true rfl) ?_
          exact ret _ _ _ _ dX12_alike_40 hP hD hS
        · replace h := if_f (fun z => z hc) h
          refine lv_iconst (v := (-1)) hx hb dX12_alike_31 (by decide) ?_
          refine lv_goto (tgt := 37) hx hb dX12_alike_32 (by decide) ?_
          have h9 := ob_of h
          clear h
          obtain ⟨⟨r15, o16⟩, hc, h⟩ := h9
          replace h := dm2_of h
          refine cv_i (As := [.int (-1 : Int32)]) (rest := []) (wr := [(q_isKept, .inl (ky 2, 4, .inl s_isKept)), (q_kept, .inl (ky 4, 4, .inr (.inr (.inr (.inr (kp4 q_kept_0 q_kept_1 q_kept_2 q_kept_3))))))]) (wn := [(q_, .inr (12, [.ref q_now, .int s_isWindow, .ref q_kept, .ref q_isKept, .ref q_paneOf, .int s_panes, .ref q_firstStep, .ref q_kinds, .ref q_allowed, .ref q_colour, .ref q_picked, .int s_picks, .ref q_lacking, .int s_hasLack, .ref q_rackKind, .ref q_rackAllowed, .ref q_founds, .ref q_plus, .ref q_minus, .ref q_under, .ref q_work, .ref q_other, .ref q_order, .int s_ordered, .ref q_tried, .ref q_touches, .ref q_out, .ref q_cuts, .ref q_boxWide, .ref q_boxTall, .ref q_boxTurns, .ref q_goal])), (q_founds, .inl (ky 0, 8, .inl o16)), (q_isKept, .inl (ky 2, 4, .inl s_isKept)), (q_kept, .inl (ky 4, 4, .inr (.inr (.inr (.inr (kp4 q_kept_0 q_kept_1 q_kept_2 q_kept_3))))))]) ⟨hx, hb, hml, hown, hts⟩ (c_X12_answer l D ky q_ q_now q_kept q_isKept q_paneOf q_firstStep q_kinds q_allowed q_colour q_picked q_lacking q_rackKind q_rackAllowed q_founds q_plus q_minus q_under q_work q_other q_order q_tried q_touches q_out q_cuts q_boxWide q_boxTall q_boxTurns q_goal (-1 : Int32) s_isWindow s_panes s_picks s_hasLack s_ordered s_founds hc) (cwV 1 hts gX12_alike_X12_answer rfl rfl rfl (by decide +kernel) ⟨Nat.le_of_ble_eq_true rfl, Nat.le_of_ble_eq_true rfl⟩) (va_recv hK.1 hP (q0 := 0) rfl rfl) hP hD hK hS hA [0, 1] [2, 3] [2, 3, 0, 1] rfl (by decide +kernel) rfl (by decide +kernel) (by decide +kernel) (by decide +kernel) rfl rfl rfl hl.1 (Nat.le_of_ble_eq_true rfl) dX12_alike_37 ⟨Nat.le_of_ble_eq_true rfl, Nat.le_of_ble_eq_true rfl⟩ (fun H locs hP hD hS => ?_)
          cases h
          refine W.widen (k := 1) (n := 240) (Nat.le_of_ble_eq_true rfl) (Nat.le_of_ble_eq_true rfl) ?_
          exact ret _ _ _ _ dX12_alike_40 hP hD hS
