def sX12_rack (a1 : Int32) (a2 : Int32) (s_isWindow : Int32) (s_panes : Int32) (s_allowed : Nat → Int32) (s_founds : Nat → Int32) (s_kinds : Nat → Int32) (s_rackAllowed : Nat → Int32) (s_rackKind : Nat → Int32) : Option (Int32 × (Nat → Int32) × (Nat → Int32) × (Nat → Int32)) := ob (sX12_isPlace a1) (fun o => dm1 o (fun (r1 : Int32) => if ¬ r1 = 0 then if ¬ a2 = (-1 : Int32) then if s_isWindow = 0 then if ¬ s_isWindow = 0 then ob (sX12_answer (-1 : Int32) s_founds) (fun o => dm2 o (fun (r2 : Int32) (o3 : Nat → Int32) => some (r2, o3, s_rackAllowed, s_rackKind))) else ob (sX12_answer (-4 : Int32) s_founds) (fun o => dm2 o (fun (r4 : Int32) (o5 : Nat → Int32) => some (r4, o5, s_rackAllowed, s_rackKind))) else ob (sX12_isPane a2 s_panes) (fun o => dm1 o (fun (r6 : Int32) => if ¬ r6 = 0 then gd (¬ (a2 < 0 ∨ 160 ≤ a2.toNatClampNeg)) (gd (¬ (a1 < 0 ∨ 4 ≤ a1.toNatClampNeg)) (lt (upd s_rackKind a1.toNatClampNeg (s_kinds a2.toNatClampNeg)) (fun f7 => gd (¬ (a2 < 0 ∨ 160 ≤ a2.toNatClampNeg)) (gd (¬ (a1 < 0 ∨ 4 ≤ a1.toNatClampNeg)) (lt (upd s_rackAllowed a1.toNatClampNeg (s_allowed a2.toNatClampNeg)) (fun f8 => some ((1 : Int32), s_founds, f8, f7))))))) else if ¬ s_isWindow = 0 then ob (sX12_answer (-1 : Int32) s_founds) (fun o => dm2 o (fun (r9 : Int32) (o10 : Nat → Int32) => some (r9, o10, s_rackAllowed, s_rackKind))) else ob (sX12_answer (-4 : Int32) s_founds) (fun o => dm2 o (fun (r11 : Int32) (o12 : Nat → Int32) => some (r11, o12, s_rackAllowed, s_rackKind))))) else gd (¬ (a1 < 0 ∨ 4 ≤ a1.toNatClampNeg)) (lt (upd s_rackKind a1.toNatClampNeg (-1 : Int32)) (fun f13 => some ((1 : Int32), s_founds, s_rackAllowed, f13))) else ob (sX12_answer (-1 : Int32) s_founds) (fun o => dm2 o (fun (r14 : Int32) (o15 : Nat → Int32) => some (r14, o15, s_rackAllowed, s_rackKind)))))
abbrev rmX12_rack : Room := { frames := 1, cells := 0, slots := 0, locals := 21 }
set_option maxHeartbeats 4000000 in
set_option maxRecDepth 100000 in
theorem c_X12_rack (l : Launch) (D : va_G) (ky : Nat → ClassId) (q_ q_now q_kept q_isKept q_paneOf q_firstStep q_kinds q_allowed q_colour q_picked q_lacking q_rackKind q_rackAllowed q_founds q_plus q_minus q_under q_work q_other q_order q_tried q_touches q_out q_cuts q_boxWide q_boxTall q_boxTurns q_goal : Nat) (a1 : Int32) (a2 : Int32) (s_isWindow : Int32) (s_panes : Int32) (s_picks : Int32) (s_hasLack : Int32) (s_ordered : Int32) (s_allowed : Nat → Int32) (s_founds : Nat → Int32) (s_kinds : Nat → Int32) (s_rackAllowed : Nat → Int32) (s_rackKind : Nat → Int32) {o_r : Int32} {o_founds : Nat → Int32} {o_rackAllowed : Nat → Int32} {o_rackKind : Nat → Int32} (h : sX12_rack a1 a2 s_isWindow s_panes s_allowed s_founds s_kinds s_rackAllowed s_rackKind = some (o_r, o_founds, o_rackAllowed, o_rackKind)) : MtI l D ky yX12_rack wsX12_rack rmX12_rack [.ref q_, .int a1, .int a2] [(q_, .inr (12, [.ref q_now, .int s_isWindow, .ref q_kept, .ref q_isKept, .ref q_paneOf, .int s_panes, .ref q_firstStep, .ref q_kinds, .ref q_allowed, .ref q_colour, .ref q_picked, .int s_picks, .ref q_lacking, .int s_hasLack, .ref q_rackKind, .ref q_rackAllowed, .ref q_founds, .ref q_plus, .ref q_minus, .ref q_under, .ref q_work, .ref q_other, .ref q_order, .int s_ordered, .ref q_tried, .ref q_touches, .ref q_out, .ref q_cuts, .ref q_boxWide, .ref q_boxTall, .ref q_boxTurns, .ref q_goal])), (q_allowed, .inl (ky 0, 160, .inl s_allowed)), (q_founds, .inl (ky 0, 8, .inl s_founds)), (q_kinds, .inl (ky 0, 160, .inl s_kinds)), (q_rackAllowed, .inl (ky 0, 4, .inl s_rackAllowed)), (q_rackKind, .inl (ky 0, 4, .inl s_rackKind))] [(q_, .inr (12, [.ref q_now, .int s_isWindow, .ref q_kept, .ref q_isKept, .ref q_paneOf, .int s_panes, .ref q_firstStep, .ref q_kinds, .ref q_allowed, .ref q_colour, .ref q_picked, .int s_picks, .ref q_lacking, .int s_hasLack, .ref q_rackKind, .ref q_rackAllowed, .ref q_founds, .ref q_plus, .ref q_minus, .ref q_under, .ref q_work, .ref q_other, .ref q_order, .int s_ordered, .ref q_tried, .ref q_touches, .ref q_out, .ref q_cuts, .ref q_boxWide, .ref q_boxTall, .ref q_boxTurns, .ref q_goal])), (q_allowed, .inl (ky 0, 160, .inl s_allowed)), (q_founds, .inl (ky 0, 8, .inl o_founds)), (q_kinds, .inl (ky 0, 160, .inl s_kinds)), (q_rackAllowed, .inl (ky 0, 4, .inl o_rackAllowed)), (q_rackKind, .inl (ky 0, 4, .inl o_rackKind))] o_r 0 0 := by
  refine MtI.of (cc := cX12_rack) (maxL := 3) (by decide +kernel) rfl (Nat.le_of_ble_eq_true rfl) ?_
  intro p e R s m args below meth c A Q ls hR hx hb hts hown hnm hml hP hK hD hA ret hl
  subst hR
  obtain ⟨H, hH⟩ : ∃ H, H = s.heap := ⟨_, rfl⟩
  obtain ⟨locs, hlocs⟩ : ∃ locs : List Loc, locs = [] := ⟨_, rfl⟩
  have hS : va_S A s.heap H locs := by rw [hH, hlocs]; exact va_S.rf
  rw [← hH] at hP
  suffices hgo : W p l e rmX12_rack s m args below meth c H locs 0 0 Q (F0 m 0 ls []) by rw [hH, hlocs] at hgo; exact hgo
  clear hH hlocs
  replace hl : lv_has ls 3 [(0, .ref q_), (1, .int a1), (2, .int a2)] := hl
  replace hown : s.vm.findClass RX12 = some m.cls := hown
  have hi_X12 := (by decide +kernel : ∀ w ∈ u_ws RX12 TX12 32, w ∈ wsX12_rack)
  have hf_182 := hts (.fieldLink RX12 182 "GlazierBenchModel" "isWindow" "Z") (by decide +kernel)
  have hf_52 := hts (.fieldLink RX12 52 "GlazierBenchModel" "rackKind" "[I") (by decide +kernel)
  have hf_37 := hts (.fieldLink RX12 37 "GlazierBenchModel" "kinds" "[I") (by decide +kernel)
  have hf_55 := hts (.fieldLink RX12 55 "GlazierBenchModel" "rackAllowed" "[I") (by decide +kernel)
  have hf_40 := hts (.fieldLink RX12 40 "GlazierBenchModel" "allowed" "[I") (by decide +kernel)
  unfold sX12_rack at h
  refine lv_iload_n hx hb dX12_rack_0 rfl (lv_at hl 1 rfl) ?_
  obtain ⟨r1, hc, h⟩ := ob_of h
  replace h := dm1_of h
  refine cs_i (As := [.int a1]) (rest := []) (wr := [(q_, .inr (12, [.ref q_now, .int s_isWindow, .ref q_kept, .ref q_isKept, .ref q_paneOf, .int s_panes, .ref q_firstStep, .ref q_kinds, .ref q_allowed, .ref q_colour, .ref q_picked, .int s_picks, .ref q_lacking, .int s_hasLack, .ref q_rackKind, .ref q_rackAllowed, .ref q_founds, .ref q_plus, .ref q_minus, .ref q_under, .ref q_work, .ref q_other, .ref q_order, .int s_ordered, .ref q_tried, .ref q_touches, .ref q_out, .ref q_cuts, .ref q_boxWide, .ref q_boxTall, .ref q_boxTurns, .ref q_goal])), (q_allowed, .inl (ky 0, 160, .inl s_allowed)), (q_founds, .inl (ky 0, 8, .inl s_founds)), (q_kinds, .inl (ky 0, 160, .inl s_kinds)), (q_rackAllowed, .inl (ky 0, 4, .inl s_rackAllowed)), (q_rackKind, .inl (ky 0, 4, .inl s_rackKind))]) (wn := [(q_, .inr (12, [.ref q_now, .int s_isWindow, .ref q_kept, .ref q_isKept, .ref q_paneOf, .int s_panes, .ref q_firstStep, .ref q_kinds, .ref q_allowed, .ref q_colour, .ref q_picked, .int s_picks, .ref q_lacking, .int s_hasLack, .ref q_rackKind, .ref q_rackAllowed, .ref q_founds, .ref q_plus, .ref q_minus, .ref q_under, .ref q_work, .ref q_other, .ref q_order, .int s_ordered, .ref q_tried, .ref q_touches, .ref q_out, .ref q_cuts, .ref q_boxWide, .ref q_boxTall, .ref q_boxTurns, .ref q_goal])), (q_allowed, .inl (ky 0, 160, .inl s_allowed)), (q_founds, .inl (ky 0, 8, .inl s_founds)), (q_kinds, .inl (ky 0, 160, .inl s_kinds)), (q_rackAllowed, .inl (ky 0, 4, .inl s_rackAllowed)), (q_rackKind, .inl (ky 0, 4, .inl s_rackKind))]) ⟨hx, hb, hml, hown, hts⟩ (c_X12_isPlace l D ky a1 hc) (va_cwS 1 hts gX12_rack_X12_isPlace rfl rfl rfl (by decide +kernel) ⟨Nat.le_of_ble_eq_true rfl, Nat.le_of_ble_eq_true rfl⟩) hP hD hK hS hA [] [0, 1, 2, 3, 4, 5] [0, 1, 2, 3, 4, 5] rfl (by decide +kernel) rfl (by decide +kernel) (by decide +kernel) (by decide +kernel) rfl rfl rfl hl.1 (Nat.le_of_ble_eq_true rfl) dX12_rack_1 ⟨Nat.le_of_ble_eq_true rfl, Nat.le_of_ble_eq_true rfl⟩ (fun H locs hP hD hS => ?_)
  refine lv_if_ne (tgt := 13) hx hb dX12_rack_4 (by decide) (fun hc => ?_) (fun hc => ?_)
  · replace h := if_t hc h
    refine lv_iload_n hx hb dX12_rack_13 rfl (lv_at hl 2 rfl) ?_
    refine lv_iconst (v := (-1)) hx hb dX12_rack_14 (by decide) ?_
    refine lv_icmp_ne (tgt := 27) hx hb dX12_rack_15 (by decide) (fun hc => ?_) (fun hc => ?_)
    · replace h := if_t hc h
      refine lv_aload_n hx hb dX12_rack_27 rfl (lv_at hl 0 rfl) ?_
      refine va_get (D := D) (ci := 12) (v := .int s_isWindow) (C := RX12) (T := TX12) (N := 32) hx hb hts hi_X12 hown hK.1 hP 0 rfl rfl 1 (by decide) hf_182 (fun _ h9 => h9) rfl dX12_rack_28 ?_
      refine lv_if_eq (tgt := 42) hx hb dX12_rack_31 (by decide) (fun hc => ?_) (fun hc => ?_)
      · replace h := if_t hc h
        refine lv_aload_n hx hb dX12_rack_42 rfl (lv_at hl 0 rfl) ?_
        refine lv_aload_n hx hb dX12_rack_43 rfl (lv_at hl 0 rfl) ?_
        refine va_get (D := D) (ci := 12) (v := .int s_isWindow) (C := RX12) (T := TX12) (N := 32) hx hb hts hi_X12 hown hK.1 hP 0 rfl rfl 1 (by decide) hf_182 (fun _ h9 => h9) rfl dX12_rack_44 ?_
        refine lv_if_ne (tgt := 55) hx hb dX12_rack_47 (by decide) (fun hc => ?_) (fun hc => ?_)
        · replace h := if_t hc h
          refine lv_iconst (v := (-1)) hx hb dX12_rack_55 (by decide) ?_
          obtain ⟨⟨r2, o3⟩, hc, h⟩ := ob_of h
          replace h := dm2_of h
          refine cv_i (As := [.int (-1 : Int32)]) (rest := []) (wr := [(q_allowed, .inl (ky 0, 160, .inl s_allowed)), (q_kinds, .inl (ky 0, 160, .inl s_kinds)), (q_rackAllowed, .inl (ky 0, 4, .inl s_rackAllowed)), (q_rackKind, .inl (ky 0, 4, .inl s_rackKind))]) (wn := [(q_, .inr (12, [.ref q_now, .int s_isWindow, .ref q_kept, .ref q_isKept, .ref q_paneOf, .int s_panes, .ref q_firstStep, .ref q_kinds, .ref q_allowed, .ref q_colour, .ref q_picked, .int s_picks, .ref q_lacking, .int s_hasLack, .ref q_rackKind, .ref q_rackAllowed, .ref q_founds, .ref q_plus, .ref q_minus, .ref q_under, .ref q_work, .ref q_other, .ref q_order, .int s_ordered, .ref q_tried, .ref q_touches, .ref q_out, .ref q_cuts, .ref q_boxWide, .ref q_boxTall, .ref q_boxTurns, .ref q_goal])), (q_allowed, .inl (ky 0, 160, .inl s_allowed)), (q_founds, .inl (ky 0, 8, .inl o3)), (q_kinds, .inl (ky 0, 160, .inl s_kinds)), (q_rackAllowed, .inl (ky 0, 4, .inl s_rackAllowed)), (q_rackKind, .inl (ky 0, 4, .inl s_rackKind))]) ⟨hx, hb, hml, hown, hts⟩ (c_X12_answer l D ky q_ q_now q_kept q_isKept q_paneOf q_firstStep q_kinds q_allowed q_colour q_picked q_lacking q_rackKind q_rackAllowed q_founds q_plus q_minus q_under q_work q_other q_order q_tried q_touches q_out q_cuts q_boxWide q_boxTall q_boxTurns q_goal (-1 : Int32) s_isWindow s_panes s_picks s_hasLack s_ordered s_founds hc) (cwV 1 hts gX12_rack_X12_answer rfl rfl rfl (by decide +kernel) ⟨Nat.le_of_ble_eq_true rfl, Nat.le_of_ble_eq_true rfl⟩) (va_recv hK.1 hP (q0 := 0) rfl rfl) hP hD hK hS hA [0, 2] [1, 3, 4, 5] [4, 0, 5, 1, 2, 3] rfl (by decide +kernel) rfl (by decide +kernel) (by decide +kernel) (by decide +kernel) rfl rfl rfl hl.1 (Nat.le_of_ble_eq_true rfl) dX12_rack_56 ⟨Nat.le_of_ble_eq_true rfl, Nat.le_of_ble_eq_true rfl⟩ (fun H locs hP hD hS => ?_)
          cases h
          exact ret _ _ _ _ dX12_rack_59 hP hD hS
        · replace h := if_f (fun z => z hc) h
          refine lv_bipush (v := (-4)) hx hb dX12_rack_50 (by decide) ?_
          refine lv_goto (tgt := 56) hx hb dX12_rack_52 (by decide) ?_
          obtain ⟨⟨r4, o5⟩, hc, h⟩ := ob_of h
          replace h := dm2_of h
          refine cv_i (As := [.int (-4 : Int32)]) (rest := []) (wr := [(q_allowed, .inl (ky 0, 160, .inl s_allowed)), (q_kinds, .inl (ky 0, 160, .inl s_kinds)), (q_rackAllowed, .inl (ky 0, 4, .inl s_rackAllowed)), (q_rackKind, .inl (ky 0, 4, .inl s_rackKind))]) (wn := [(q_, .inr (12, [.ref q_now, .int s_isWindow, .ref q_kept, .ref q_isKept, .ref q_paneOf, .int s_panes, .ref q_firstStep, .ref q_kinds, .ref q_allowed, .ref q_colour, .ref q_picked, .int s_picks, .ref q_lacking, .int s_hasLack, .ref q_rackKind, .ref q_rackAllowed, .ref q_founds, .ref q_plus, .ref q_minus, .ref q_under, .ref q_work, .ref q_other, .ref q_order, .int s_ordered, .ref q_tried, .ref q_touches, .ref q_out, .ref q_cuts, .ref q_boxWide, .ref q_boxTall, .ref q_boxTurns, .ref q_goal])), (q_allowed, .inl (ky 0, 160, .inl s_allowed)), (q_founds, .inl (ky 0, 8, .inl o5)), (q_kinds, .inl (ky 0, 160, .inl s_kinds)), (q_rackAllowed, .inl (ky 0, 4, .inl s_rackAllowed)), (q_rackKind, .inl (ky 0, 4, .inl s_rackKind))]) ⟨hx, hb, hml, hown, hts⟩ (c_X12_answer l D ky q_ q_now q_kept q_isKept q_paneOf q_firstStep q_kinds q_allowed q_colour q_picked q_lacking q_rackKind q_rackAllowed q_founds q_plus q_minus q_under q_work q_other q_order q_tried q_touches q_out q_cuts q_boxWide q_boxTall q_boxTurns q_goal (-4 : Int32) s_isWindow s_panes s_picks s_hasLack s_ordered s_founds hc) (cwV 1 hts gX12_rack_X12_answer rfl rfl rfl (by decide +kernel) ⟨Nat.le_of_ble_eq_true rfl, Nat.le_of_ble_eq_true rfl⟩) (va_recv hK.1 hP (q0 := 0) rfl rfl) hP hD hK hS hA [0, 2] [1, 3, 4, 5] [4, 0, 5, 1, 2, 3] rfl (by decide +kernel) rfl (by decide +kernel) (by decide +kernel) (by decide +kernel) rfl rfl rfl hl.1 (Nat.le_of_ble_eq_true rfl) dX12_rack_56 ⟨Nat.le_of_ble_eq_true rfl, Nat.le_of_ble_eq_true rfl⟩ (fun H locs hP hD hS => ?_)
          cases h
          exact ret _ _ _ _ dX12_rack_59 hP hD hS
      · replace h := if_f hc h
        refine lv_aload_n hx hb dX12_rack_34 rfl (lv_at hl 0 rfl) ?_
        refine lv_iload_n hx hb dX12_rack_35 rfl (lv_at hl 2 rfl) ?_
        obtain ⟨r6, hc, h⟩ := ob_of h
        replace h := dm1_of h
        refine cv_i (As := [.int a2]) (rest := []) (wr := [(q_allowed, .inl (ky 0, 160, .inl s_allowed)), (q_founds, .inl (ky 0, 8, .inl s_founds)), (q_kinds, .inl (ky 0, 160, .inl s_kinds)), (q_rackAllowed, .inl (ky 0, 4, .inl s_rackAllowed)), (q_rackKind, .inl (ky 0, 4, .inl s_rackKind))]) (wn := [(q_, .inr (12, [.ref q_now, .int s_isWindow, .ref q_kept, .ref q_isKept, .ref q_paneOf, .int s_panes, .ref q_firstStep, .ref q_kinds, .ref q_allowed, .ref q_colour, .ref q_picked, .int s_picks, .ref q_lacking, .int s_hasLack, .ref q_rackKind, .ref q_rackAllowed, .ref q_founds, .ref q_plus, .ref q_minus, .ref q_under, .ref q_work, .ref q_other, .ref q_order, .int s_ordered, .ref q_tried, .ref q_touches, .ref q_out, .ref q_cuts, .ref q_boxWide, .ref q_boxTall, .ref q_boxTurns, .ref q_goal])), (q_allowed, .inl (ky 0, 160, .inl s_allowed)), (q_founds, .inl (ky 0, 8, .inl s_founds)), (q_kinds, .inl (ky 0, 160, .inl s_kinds)), (q_rackAllowed, .inl (ky 0, 4, .inl s_rackAllowed)), (q_rackKind, .inl (ky 0, 4, .inl s_rackKind))]) ⟨hx, hb, hml, hown, hts⟩ (c_X12_isPane l D ky q_ q_now q_kept q_isKept q_paneOf q_firstStep q_kinds q_allowed q_colour q_picked q_lacking q_rackKind q_rackAllowed q_founds q_plus q_minus q_under q_work q_other q_order q_tried q_touches q_out q_cuts q_boxWide q_boxTall q_boxTurns q_goal a2 s_isWindow s_panes s_picks s_hasLack s_ordered hc) (cwV 1 hts gX12_rack_X12_isPane rfl rfl rfl (by decide +kernel) ⟨Nat.le_of_ble_eq_true rfl, Nat.le_of_ble_eq_true rfl⟩) (va_recv hK.1 hP (q0 := 0) rfl rfl) hP hD hK hS hA [0] [1, 2, 3, 4, 5] [5, 0, 1, 2, 3, 4] rfl (by decide +kernel) rfl (by decide +kernel) (by decide +kernel) (by decide +kernel) rfl rfl rfl hl.1 (Nat.le_of_ble_eq_true rfl) dX12_rack_36 ⟨Nat.le_of_ble_eq_true rfl, Nat.le_of_ble_eq_true rfl⟩ (fun H locs hP hD hS => ?_)
        refine lv_if_ne (tgt := 60) hx hb dX12_rack_39 (by decide) (fun hc => ?_) (fun hc => ?_)
        · replace h := if_t hc h
          refine lv_aload_n hx hb dX12_rack_60 rfl (lv_at hl 0 rfl) ?_
          refine va_get (D := D) (ci := 12) (v := .ref q_rackKind) (C := RX12) (T := TX12) (N := 32) hx hb hts hi_X12 hown hK.1 hP 0 rfl rfl 14 (by decide) hf_52 (fun _ h9 => h9) rfl dX12_rack_61 ?_
          refine lv_iload_n hx hb dX12_rack_64 rfl (lv_at hl 1 rfl) ?_
          refine lv_aload_n hx hb dX12_rack_65 rfl (lv_at hl 0 rfl) ?_
          refine va_get (D := D) (ci := 12) (v := .ref q_kinds) (C := RX12) (T := TX12) (N := 32) hx hb hts hi_X12 hown hK.1 hP 0 rfl rfl 7 (by decide) hf_37 (fun _ h9 => h9) rfl dX12_rack_66 ?_
          refine lv_iload_n hx hb dX12_rack_69 rfl (lv_at hl 2 rfl) ?_
          obtain ⟨hg, h⟩ := gd_of h
          refine va_iald hx hb hK.1 hP 3 0 rfl rfl hg dX12_rack_70 ?_
          obtain ⟨hg, h⟩ := gd_of h
          refine r_iast hx hb hK.1 hP hD hS 5 0 rfl rfl hg dX12_rack_71 (fun f7 ef7 H locs hP hD hS => ?_)
          replace h := lt_at ef7 h
          replace hP : va_P D vwCl [(q_, .inr (12, [.ref q_now, .int s_isWindow, .ref q_kept, .ref q_isKept, .ref q_paneOf, .int s_panes, .ref q_firstStep, .ref q_kinds, .ref q_allowed, .ref q_colour, .ref q_picked, .int s_picks, .ref q_lacking, .int s_hasLack, .ref q_rackKind, .ref q_rackAllowed, .ref q_founds, .ref q_plus, .ref q_minus, .ref q_under, .ref q_work, .ref q_other, .ref q_order, .int s_ordered, .ref q_tried, .ref q_touches, .ref q_out, .ref q_cuts, .ref q_boxWide, .ref q_boxTall, .ref q_boxTurns, .ref q_goal])), (q_allowed, .inl (ky 0, 160, .inl s_allowed)), (q_founds, .inl (ky 0, 8, .inl s_founds)), (q_kinds, .inl (ky 0, 160, .inl s_kinds)), (q_rackAllowed, .inl (ky 0, 4, .inl s_rackAllowed)), (q_rackKind, .inl (ky 0, 4, .inl f7))] H := hP
          replace hD : va_D A [(q_, .inr (12, [.ref q_now, .int s_isWindow, .ref q_kept, .ref q_isKept, .ref q_paneOf, .int s_panes, .ref q_firstStep, .ref q_kinds, .ref q_allowed, .ref q_colour, .ref q_picked, .int s_picks, .ref q_lacking, .int s_hasLack, .ref q_rackKind, .ref q_rackAllowed, .ref q_founds, .ref q_plus, .ref q_minus, .ref q_under, .ref q_work, .ref q_other, .ref q_order, .int s_ordered, .ref q_tried, .ref q_touches, .ref q_out, .ref q_cuts, .ref q_boxWide, .ref q_boxTall, .ref q_boxTurns, .ref q_goal])), (q_allowed, .inl (ky 0, 160, .inl s_allowed)), (q_founds, .inl (ky 0, 8, .inl s_founds)), (q_kinds, .inl (ky 0, 160, .inl s_kinds)), (q_rackAllowed, .inl (ky 0, 4, .inl s_rackAllowed)), (q_rackKind, .inl (ky 0, 4, .inl f7))] := hD
          refine lv_aload_n hx hb dX12_rack_72 rfl (lv_at hl 0 rfl) ?_
          refine va_get (D := D) (ci := 12) (v := .ref q_rackAllowed) (C := RX12) (T := TX12) (N := 32) hx hb hts hi_X12 hown hK.1 hP 0 rfl rfl 15 (by decide) hf_55 (fun _ h9 => h9) rfl dX12_rack_73 ?_
          refine lv_iload_n hx hb dX12_rack_76 rfl (lv_at hl 1 rfl) ?_
          refine lv_aload_n hx hb dX12_rack_77 rfl (lv_at hl 0 rfl) ?_
          refine va_get (D := D) (ci := 12) (v := .ref q_allowed) (C := RX12) (T := TX12) (N := 32) hx hb hts hi_X12 hown hK.1 hP 0 rfl rfl 8 (by decide) hf_40 (fun _ h9 => h9) rfl dX12_rack_78 ?_
          refine lv_iload_n hx hb dX12_rack_81 rfl (lv_at hl 2 rfl) ?_
          obtain ⟨hg, h⟩ := gd_of h
          refine va_iald hx hb hK.1 hP 1 0 rfl rfl hg dX12_rack_82 ?_
          obtain ⟨hg, h⟩ := gd_of h
          refine r_iast hx hb hK.1 hP hD hS 4 0 rfl rfl hg dX12_rack_83 (fun f8 ef8 H locs hP hD hS => ?_)
          replace h := lt_at ef8 h
          replace hP : va_P D vwCl [(q_, .inr (12, [.ref q_now, .int s_isWindow, .ref q_kept, .ref q_isKept, .ref q_paneOf, .int s_panes, .ref q_firstStep, .ref q_kinds, .ref q_allowed, .ref q_colour, .ref q_picked, .int s_picks, .ref q_lacking, .int s_hasLack, .ref q_rackKind, .ref q_rackAllowed, .ref q_founds, .ref q_plus, .ref q_minus, .ref q_under, .ref q_work, .ref q_other, .ref q_order, .int s_ordered, .ref q_tried, .ref q_touches, .ref q_out, .ref q_cuts, .ref q_boxWide, .ref q_boxTall, .ref q_boxTurns, .ref q_goal])), (q_allowed, .inl (ky 0, 160, .inl s_allowed)), (q_founds, .inl (ky 0, 8, .inl s_founds)), (q_kinds, .inl (ky 0, 160, .inl s_kinds)), (q_rackAllowed, .inl (ky 0, 4, .inl f8)), (q_rackKind, .inl (ky 0, 4, .inl f7))] H := hP
          replace hD : va_D A [(q_, .inr (12, [.ref q_now, .int s_isWindow, .ref q_kept, .ref q_isKept, .ref q_paneOf, .int s_panes, .ref q_firstStep, .ref q_kinds, .ref q_allowed, .ref q_colour, .ref q_picked, .int s_picks, .ref q_lacking, .int s_hasLack, .ref q_rackKind, .ref q_rackAllowed, .ref q_founds, .ref q_plus, .ref q_minus, .ref q_under, .ref q_work, .ref q_other, .ref q_order, .int s_ordered, .ref q_tried, .ref q_touches, .ref q_out, .ref q_cuts, .ref q_boxWide, .ref q_boxTall, .ref q_boxTurns, .ref q_goal])), (q_allowed, .inl (ky 0, 160, .inl s_allowed)), (q_founds, .inl (ky 0, 8, .inl s_founds)), (q_kinds, .inl (ky 0, 160, .inl s_kinds)), (q_rackAllowed, .inl (ky 0, 4, .inl f8)), (q_rackKind, .inl (ky 0, 4, .inl f7))] := hD
          refine lv_iconst (v := 1) hx hb dX12_rack_84 (by decide) ?_
          cases h
          exact ret _ _ _ _ dX12_rack_85 hP hD hS
        · replace h := if_f (fun z => z hc) h
          refine lv_aload_n hx hb dX12_rack_42 rfl (lv_at hl 0 rfl) ?_
          refine lv_aload_n hx hb dX12_rack_43 rfl (lv_at hl 0 rfl) ?_
          refine va_get (D := D) (ci := 12) (v := .int s_isWindow) (C := RX12) (T := TX12) (N := 32) hx hb hts hi_X12 hown hK.1 hP 0 rfl rfl 1 (by decide) hf_182 (fun _ h9 => h9) rfl dX12_rack_44 ?_
          refine lv_if_ne (tgt := 55) hx hb dX12_rack_47 (by decide) (fun hc => ?_) (fun hc => ?_)
          · replace h := if_t hc h
            refine lv_iconst (v := (-1)) hx hb dX12_rack_55 (by decide) ?_
            obtain ⟨⟨r9, o10⟩, hc, h⟩ := ob_of h
            replace h := dm2_of h
            refine cv_i (As := [.int (-1 : Int32)]) (rest := []) (wr := [(q_allowed, .inl (ky 0, 160, .inl s_allowed)), (q_kinds, .inl (ky 0, 160, .inl s_kinds)), (q_rackAllowed, .inl (ky 0, 4, .inl s_rackAllowed)), (q_rackKind, .inl (ky 0, 4, .inl s_rackKind))]) (wn := [(q_, .inr (12, [.ref q_now, .int s_isWindow, .ref q_kept, .ref q_isKept, .ref q_paneOf, .int s_panes, .ref q_firstStep, .ref q_kinds, .ref q_allowed, .ref q_colour, .ref q_picked, .int s_picks, .ref q_lacking, .int s_hasLack, .ref q_rackKind, .ref q_rackAllowed, .ref q_founds, .ref q_plus, .ref q_minus, .ref q_under, .ref q_work, .ref q_other, .ref q_order, .int s_ordered, .ref q_tried, .ref q_touches, .ref q_out, .ref q_cuts, .ref q_boxWide, .ref q_boxTall, .ref q_boxTurns, .ref q_goal])), (q_allowed, .inl (ky 0, 160, .inl s_allowed)), (q_founds, .inl (ky 0, 8, .inl o10)), (q_kinds, .inl (ky 0, 160, .inl s_kinds)), (q_rackAllowed, .inl (ky 0, 4, .inl s_rackAllowed)), (q_rackKind, .inl (ky 0, 4, .inl s_rackKind))]) ⟨hx, hb, hml, hown, hts⟩ (c_X12_answer l D ky q_ q_now q_kept q_isKept q_paneOf q_firstStep q_kinds q_allowed q_colour q_picked q_lacking q_rackKind q_rackAllowed q_founds q_plus q_minus q_under q_work q_other q_order q_tried q_touches q_out q_cuts q_boxWide q_boxTall q_boxTurns q_goal (-1 : Int32) s_isWindow s_panes s_picks s_hasLack s_ordered s_founds hc) (cwV 1 hts gX12_rack_X12_answer rfl rfl rfl (by decide +kernel) ⟨Nat.le_of_ble_eq_true rfl, Nat.le_of_ble_eq_true rfl⟩) (va_recv hK.1 hP (q0 := 0) rfl rfl) hP hD hK hS hA [0, 2] [1, 3, 4, 5] [4, 0, 5, 1, 2, 3] rfl (by decide +kernel) rfl (by decide +kernel) (by decide +kernel) (by decide +kernel) rfl rfl rfl hl.1 (Nat.le_of_ble_eq_true rfl) dX12_rack_56 ⟨Nat.le_of_ble_eq_true rfl, Nat.le_of_ble_eq_true rfl⟩ (fun H locs hP hD hS => ?_)
            cases h
            exact ret _ _ _ _ dX12_rack_59 hP hD hS
          · replace h := if_f (fun z => z hc) h
            refine lv_bipush (v := (-4)) hx hb dX12_rack_50 (by decide) ?_
            refine lv_goto (tgt := 56) hx hb dX12_rack_52 (by decide) ?_
            obtain ⟨⟨r11, o12⟩, hc, h⟩ := ob_of h
            replace h := dm2_of h
            refine cv_i (As := [.int (-4 : Int32)]) (rest := []) (wr := [(q_allowed, .inl (ky 0, 160, .inl s_allowed)), (q_kinds, .inl (ky 0, 160, .inl s_kinds)), (q_rackAllowed, .inl (ky 0, 4, .inl s_rackAllowed)), (q_rackKind, .inl (ky 0, 4, .inl s_rackKind))]) (wn := [(q_, .inr (12, [.ref q_now, .int s_isWindow, .ref q_kept, .ref q_isKept, .ref q_paneOf, .int s_panes, .ref q_firstStep, .ref q_kinds, .ref q_allowed, .ref q_colour, .ref q_picked, .int s_picks, .ref q_lacking, .int s_hasLack, .ref q_rackKind, .ref q_rackAllowed, .ref q_founds, .ref q_plus, .ref q_minus, .ref q_under, .ref q_work, .ref q_other, .ref q_order, .int s_ordered, .ref q_tried, .ref q_touches, .ref q_out, .ref q_cuts, .ref q_boxWide, .ref q_boxTall, .ref q_boxTurns, .ref q_goal])), (q_allowed, .inl (ky 0, 160, .inl s_allowed)), (q_founds, .inl (ky 0, 8, .inl o12)), (q_kinds, .inl (ky 0, 160, .inl s_kinds)), (q_rackAllowed, .inl (ky 0, 4, .inl s_rackAllowed)), (q_rackKind, .inl (ky 0, 4, .inl s_rackKind))]) ⟨hx, hb, hml, hown, hts⟩ (c_X12_answer l D ky q_ q_now q_kept q_isKept q_paneOf q_firstStep q_kinds q_allowed q_colour q_picked q_lacking q_rackKind q_rackAllowed q_founds q_plus q_minus q_under q_work q_other q_order q_tried q_touches q_out q_cuts q_boxWide q_boxTall q_boxTurns q_goal (-4 : Int32) s_isWindow s_panes s_picks s_hasLack s_ordered s_founds hc) (cwV 1 hts gX12_rack_X12_answer rfl rfl rfl (by decide +kernel) ⟨Nat.le_of_ble_eq_true rfl, Nat.le_of_ble_eq_true rfl⟩) (va_recv hK.1 hP (q0 := 0) rfl rfl) hP hD hK hS hA [0, 2] [1, 3, 4, 5] [4, 0, 5, 1, 2, 3] rfl (by decide +kernel) rfl (by decide +kernel) (by decide +kernel) (by decide +kernel) rfl rfl rfl hl.1 (Nat.le_of_ble_eq_true rfl) dX12_rack_56 ⟨Nat.le_of_ble_eq_true rfl, Nat.le_of_ble_eq_true rfl⟩ (fun H locs hP hD hS => ?_)
            cases h
            exact ret _ _ _ _ dX12_rack_59 hP hD hS
    · replace h := if_f (fun z => z hc) h
      refine lv_aload_n hx hb dX12_rack_18 rfl (lv_at hl 0 rfl) ?_
      refine va_get (D := D) (ci := 12) (v := .ref q_rackKind) (C := RX12) (T := TX12) (N := 32) hx hb hts hi_X12 hown hK.1 hP 0 rfl rfl 14 (by decide) hf_52 (fun _ h9 => h9) rfl dX12_rack_19 ?_
      refine lv_iload_n hx hb dX12_rack_22 rfl (lv_at hl 1 rfl) ?_
      refine lv_iconst (v := (-1)) hx hb dX12_rack_23 (by decide) ?_
      obtain ⟨hg, h⟩ := gd_of h
      refine r_iast hx hb hK.1 hP hD hS 5 0 rfl rfl hg dX12_rack_24 (fun f13 ef13 H locs hP hD hS => ?_)
      replace h := lt_at ef13 h
      replace hP : va_P D vwCl [(q_, .inr (12, [.ref q_now, .int s_isWindow, .ref q_kept, .ref q_isKept, .ref q_paneOf, .int s_panes, .ref q_firstStep, .ref q_kinds, .ref q_allowed, .ref q_colour, .ref q_picked, .int s_picks, .ref q_lacking, .int s_hasLack, .ref q_rackKind, .ref q_rackAllowed, .ref q_founds, .ref q_plus, .ref q_minus, .ref q_under, .ref q_work, .ref q_other, .ref q_order, .int s_ordered, .ref q_tried, .ref q_touches, .ref q_out, .ref q_cuts, .ref q_boxWide, .ref q_boxTall, .ref q_boxTurns, .ref q_goal])), (q_allowed, .inl (ky 0, 160, .inl s_allowed)), (q_founds, .inl (ky 0, 8, .inl s_founds)), (q_kinds, .inl (ky 0, 160, .inl s_kinds)), (q_rackAllowed, .inl (ky 0, 4, .inl s_rackAllowed)), (q_rackKind, .inl (ky 0, 4, .inl f13))] H := hP
      replace hD : va_D A [(q_, .inr (12, [.ref q_now, .int s_isWindow, .ref q_kept, .ref q_isKept, .ref q_paneOf, .int s_panes, .ref q_firstStep, .ref q_kinds, .ref q_allowed, .ref q_colour, .ref q_picked, .int s_picks, .ref q_lacking, .int s_hasLack, .ref q_rackKind, .ref q_rackAllowed, .ref q_founds, .ref q_plus, .ref q_minus, .ref q_under, .ref q_work, .ref q_other, .ref q_order, .int s_ordered, .ref q_tried, .ref q_touches, .ref q_out, .ref q_cuts, .ref q_boxWide, .ref q_boxTall, .ref q_boxTurns, .ref q_goal])), (q_allowed, .inl (ky 0, 160, .inl s_allowed)), (q_founds, .inl (ky 0, 8, .inl s_founds)), (q_kinds, .inl (ky 0, 160, .inl s_kinds)), (q_rackAllowed, .inl (ky 0, 4, .inl s_rackAllowed)), (q_rackKind, .inl (ky 0, 4, .inl f13))] := hD
      refine lv_iconst (v := 1) hx hb dX12_rack_25 (by decide) ?_
      cases h
      exact ret _ _ _ _ dX12_rack_26 hP hD hS
  · replace h := if_f (fun z => z hc) h
    refine lv_aload_n hx hb dX12_rack_7 rfl (lv_at hl 0 rfl) ?_
    refine lv_iconst (v := (-1)) hx hb dX12_rack_8 (by decide) ?_
    obtain ⟨⟨r14, o15⟩, hc, h⟩ := ob_of h
    replace h := dm2_of h
    refine cv_i (As := [.int (-1 : Int32)]) (rest := []) (wr := [(q_allowed, .inl (ky 0, 160, .inl s_allowed)), (q_kinds, .inl (ky 0, 160, .inl s_kinds)), (q_rackAllowed, .inl (ky 0, 4, .inl s_rackAllowed)), (q_rackKind, .inl (ky 0, 4, .inl s_rackKind))]) (wn := [(q_, .inr (12, [.ref q_now, .int s_isWindow, .ref q_kept, .ref q_isKept, .ref q_paneOf, .int s_panes, .ref q_firstStep, .ref q_kinds, .ref q_allowed, .ref q_colour, .ref q_picked, .int s_picks, .ref q_lacking, .int s_hasLack, .ref q_rackKind, .ref q_rackAllowed, .ref q_founds, .ref q_plus, .ref q_minus, .ref q_under, .ref q_work, .ref q_other, .ref q_order, .int s_ordered, .ref q_tried, .ref q_touches, .ref q_out, .ref q_cuts, .ref q_boxWide, .ref q_boxTall, .ref q_boxTurns, .ref q_goal])), (q_allowed, .inl (ky 0, 160, .inl s_allowed)), (q_founds, .inl (ky 0, 8, .inl o15)), (q_kinds, .inl (ky 0, 160, .inl s_kinds)), (q_rackAllowed, .inl (ky 0, 4, .inl s_rackAllowed)), (q_rackKind, .inl (ky 0, 4, .inl s_rackKind))]) ⟨hx, hb, hml, hown, hts⟩ (c_X12_answer l D ky q_ q_now q_kept q_isKept q_paneOf q_firstStep q_kinds q_allowed q_colour q_picked q_lacking q_rackKind q_rackAllowed q_founds q_plus q_minus q_under q_work q_other q_order q_tried q_touches q_out q_cuts q_boxWide q_boxTall q_boxTurns q_goal (-1 : Int32) s_isWindow s_panes s_picks s_hasLack s_ordered s_founds hc) (cwV 1 hts gX12_rack_X12_answer rfl rfl rfl (by decide +kernel) ⟨Nat.le_of_ble_eq_true rfl, Nat.le_of_ble_eq_true rfl⟩) (va_recv hK.1 hP (q0 := 0) rfl rfl) hP hD hK hS hA [0, 2] [1, 3, 4, 5] [4, 0, 5, 1, 2, 3] rfl (by decide +kernel) rfl (by decide +kernel) (by decide +kernel) (by decide +kernel) rfl rfl rfl hl.1 (Nat.le_of_ble_eq_true rfl) dX12_rack_9 ⟨Nat.le_of_ble_eq_true rfl, Nat.le_of_ble_eq_true rfl⟩ (fun H locs hP hD hS => ?_)
    cases h
    exact ret _ _ _ _ dX12_rack_12 hP hD hS

def sX12_as (a1 : Int32) (a2 : Int32) (s_founds : Nat → Int32) (s_rackAllowed : Nat → Int32) (s_rackKind : Nat → Int32) : Option (Int32 × (Nat → Int32)) := ob (sX12_isPlace a1) (fun o => dm1 o (fun (r1 : Int32) => if r1 = 0 then ob (sX12_answer (-1 : Int32) s_founds) (fun o => dm2 o (fun (r2 : Int32) (o3 : Nat → Int32) => some (r2, o3))) else if a2 < 0 then ob (sX12_answer (-1 : Int32) s_founds) (fun o => dm2 o (fun (r4 : Int32) (o5 : Nat → Int32) => some (r4, o5))) else if a2 ≤ (2 : Int32) then gd (¬ (a1 < 0 ∨ 4 ≤ a1.toNatClampNeg)) (if 0 ≤ (s_rackKind a1.toNatClampNeg) then gd (¬ (a1 < 0 ∨ 4 ≤ a1.toNatClampNeg)) (if a2 ≤ (s_rackKind a1.toNatClampNeg) then gd (¬ (a1 < 0 ∨ 4 ≤ a1.toNatClampNeg)) (some ((s_rackAllowed a1.toNatClampNeg), s_founds)) else ob (sX12_answer (-5 : Int32) s_founds) (fun o => dm2 o (fun (r6 : Int32) (o7 : Nat → Int32) => some (r6, o7)))) else ob (sX12_answer (-4 : Int32) s_founds) (fun o => dm2 o (fun (r8 : Int32) (o9 : Nat → Int32) => some (r8, o9)))) else ob (sX12_answer (-1 : Int32) s_founds) (fun o => dm2 o (fun (r10 : Int32) (o11 : Nat → Int32) => some (r10, o11)))))
abbrev rmX12_as : Room := { frames := 1, cells := 0, slots := 0, locals := 21 }
set_option maxHeartbeats 4000000 in
set_option maxRecDepth 100000 in
theorem c_X12_as (l : Launch) (D : va_G) (ky : Nat → ClassId) (q_ q_now q_kept q_isKept q_paneOf q_firstStep q_kinds q_allowed q_colour q_picked q_lacking q_rackKind q_rackAllowed q_founds q_plus q_minus q_under q_work q_other q_order q_tried q_touches q_out q_cuts q_boxWide q_boxTall q_boxTurns q_goal : Nat) (a1 : Int32) (a2 : Int32) (s_isWindow : Int32) (s_panes : Int32) (s_picks : Int32) (s_hasLack : Int32) (s_ordered : Int32) (s_founds : Nat → Int32) (s_rackAllowed : Nat → Int32) (s_rackKind : Nat → Int32) {o_r : Int32} {o_founds : Nat → Int32} (h : sX12_as a1 a2 s_founds s_rackAllowed s_rackKind = some (o_r, o_founds)) : MtI l D ky yX12_as wsX12_as rmX12_as [.ref q_, .int a1, .int a2] [(q_, .inr (12, [.ref q_now, .int s_isWindow, .ref q_kept, .ref q_isKept, .ref q_paneOf, .int s_panes, .ref q_firstStep, .ref q_kinds, .ref q_allowed, .ref q_colour, .ref q_picked, .int s_picks, .ref q_lacking, .int s_hasLack, .ref q_rackKind, .ref q_rackAllowed, .ref q_founds, .ref q_plus, .ref q_minus, .ref q_under, .ref q_work, .ref q_other, .ref q_order, .int s_ordered, .ref q_tried, .ref q_touches, .ref q_out, .ref q_cuts, .ref q_boxWide, .ref q_boxTall, .ref q_boxTurns, .ref q_goal])), (q_founds, .inl (ky 0, 8, .inl s_founds)), (q_rackAllowed, .inl (ky 0, 4, .inl s_rackAllowed)), (q_rackKind, .inl (ky 0, 4, .inl s_rackKind))] [(q_, .inr (12, [.ref q_now, .int s_isWindow, .ref q_kept, .ref q_isKept, .ref q_paneOf, .int s_panes, .ref q_firstStep, .ref q_kinds, .ref q_allowed, .ref q_colour, .ref q_picked, .int s_picks, .ref q_lacking, .int s_hasLack, .ref q_rackKind, .ref q_rackAllowed, .ref q_founds, .ref q_plus, .ref q_minus, .ref q_under, .ref q_work, .ref q_other, .ref q_order, .int s_ordered, .ref q_tried, .ref q_touches, .ref q_out, .ref q_cuts, .ref q_boxWide, .ref q_boxTall, .ref q_boxTurns, .ref q_goal])), (q_founds, .inl (ky 0, 8, .inl o_founds)), (q_rackAllowed, .inl (ky 0, 4, .inl s_rackAllowed)), (q_rackKind, .inl (ky 0, 4, .inl s_rackKind))] o_r 0 0 := by
  refine MtI.of (cc := cX12_as) (maxL := 3) (by decide +kernel) rfl (Nat.le_of_ble_eq_true rfl) ?_
  intro p e R s m args below meth c A Q ls hR hx hb hts hown hnm hml hP hK hD hA ret hl
  subst hR
  obtain ⟨H, hH⟩ : ∃ H, H = s.heap := ⟨_, rfl⟩
  obtain ⟨locs, hlocs⟩ : ∃ locs : List Loc, locs = [] := ⟨_, rfl⟩
  have hS : va_S A s.heap H locs := by rw [hH, hlocs]; exact va_S.rf
  rw [← hH] at hP
  suffices hgo : W p l e rmX12_as s m args below meth c H locs 0 0 Q (F0 m 0 ls []) by rw [hH, hlocs] at hgo; exact hgo
  clear hH hlocs
  replace hl : lv_has ls 3 [(0, .ref q_), (1, .int a1), (2, .int a2)] := hl
  replace hown : s.vm.findClass RX12 = some m.cls := hown
  have hi_X12 := (by decide +kernel : ∀ w ∈ u_ws RX12 TX12 32, w ∈ wsX12_as)
  have hf_52 := hts (.fieldLink RX12 52 "GlazierBenchModel" "rackKind" "[I") (by decide +kernel)
  have hf_55 := hts (.fieldLink RX12 55 "GlazierBenchModel" "rackAllowed" "[I") (by decide +kernel)
  unfold sX12_as at h
  refine lv_iload_n hx hb dX12_as_0 rfl (lv_at hl 1 rfl) ?_
  obtain ⟨r1, hc, h⟩ := ob_of h
  replace h := dm1_of h
  refine cs_i (As := [.int a1]) (rest := []) (wr := [(q_, .inr (12, [.ref q_now, .int s_isWindow, .ref q_kept, .ref q_isKept, .ref q_paneOf, .int s_panes, .ref q_firstStep, .ref q_kinds, .ref q_allowed, .ref q_colour, .ref q_picked, .int s_picks, .ref q_lacking, .int s_hasLack, .ref q_rackKind, .ref q_rackAllowed, .ref q_founds, .ref q_plus, .ref q_minus, .ref q_under, .ref q_work, .ref q_other, .ref q_order, .int s_ordered, .ref q_tried, .ref q_touches, .ref q_out, .ref q_cuts, .ref q_boxWide, .ref q_boxTall, .ref q_boxTurns, .ref q_goal])), (q_founds, .inl (ky 0, 8, .inl s_founds)), (q_rackAllowed, .inl (ky 0, 4, .inl s_rackAllowed)), (q_rackKind, .inl (ky 0, 4, .inl s_rackKind))]) (wn := [(q_, .inr (12, [.ref q_now, .int s_isWindow, .ref q_kept, .ref q_isKept, .ref q_paneOf, .int s_panes, .ref q_firstStep, .ref q_kinds, .ref q_allowed, .ref q_colour, .ref q_picked, .int s_picks, .ref q_lacking, .int s_hasLack, .ref q_rackKind, .ref q_rackAllowed, .ref q_founds, .ref q_plus, .ref q_minus, .ref q_under, .ref q_work, .ref q_other, .ref q_order, .int s_ordered, .ref q_tried, .ref q_touches, .ref q_out, .ref q_cuts, .ref q_boxWide, .ref q_boxTall, .ref q_boxTurns, .ref q_goal])), (q_founds, .inl (ky 0, 8, .inl s_founds)), (q_rackAllowed, .inl (ky 0, 4, .inl s_rackAllowed)), (q_rackKind, .inl (ky 0, 4, .inl s_rackKind))]) ⟨hx, hb, hml, hown, hts⟩ (c_X12_isPlace l D ky a1 hc) (va_cwS 1 hts gX12_as_X12_isPlace rfl rfl rfl (by decide +kernel) ⟨Nat.le_of_ble_eq_true rfl, Nat.le_of_ble_eq_true rfl⟩) hP hD hK hS hA [] [0, 1, 2, 3] [0, 1, 2, 3] rfl (by decide +kernel) rfl (by decide +kernel) (by decide +kernel) (by decide +kernel) rfl rfl rfl hl.1 (Nat.le_of_ble_eq_true rfl) dX12_as_1 ⟨Nat.le_of_ble_eq_true rfl, Nat.le_of_ble_eq_true rfl⟩ (fun H locs hP hD hS => ?_)
  refine lv_if_eq (tgt := 16) hx hb dX12_as_4 (by decide) (fun hc => ?_) (fun hc => ?_)
  · replace h := if_t hc h
    refine lv_aload_n hx hb dX12_as_16 rfl (lv_at hl 0 rfl) ?_
    refine lv_iconst (v := (-1)) hx hb dX12_as_17 (by decide) ?_
    obtain ⟨⟨r2, o3⟩, hc, h⟩ := ob_of h
    replace h := dm2_of h
    refine cv_i (As := [.int (-1 : Int32)]) (rest := []) (wr := [(q_rackAllowed, .inl (ky 0, 4, .inl s_rackAllowed)), (q_rackKind, .inl (ky 0, 4, .inl s_rackKind))]) (wn := [(q_, .inr (12, [.ref q_now, .int s_isWindow, .ref q_kept, .ref q_isKept, .ref q_paneOf, .int s_panes, .ref q_firstStep, .ref q_kinds, .ref q_allowed, .ref q_colour, .ref q_picked, .int s_picks, .ref q_lacking, .int s_hasLack, .ref q_rackKind, .ref q_rackAllowed, .ref q_founds, .ref q_plus, .ref q_minus, .ref q_under, .ref q_work, .ref q_other, .ref q_order, .int s_ordered, .ref q_tried, .ref q_touches, .ref q_out, .ref q_cuts, .ref q_boxWide, .ref q_boxTall, .ref q_boxTurns, .ref q_goal])), (q_founds, .inl (ky 0, 8, .inl o3)), (q_rackAllowed, .inl (ky 0, 4, .inl s_rackAllowed)), (q_rackKind, .inl (ky 0, 4, .inl s_rackKind))]) ⟨hx, hb, hml, hown, hts⟩ (c_X12_answer l D ky q_ q_now q_kept q_isKept q_paneOf q_firstStep q_kinds q_allowed q_colour q_picked q_lacking q_rackKind q_rackAllowed q_founds q_plus q_minus q_under q_work q_other q_order q_tried q_touches q_out q_cuts q_boxWide q_boxTall q_boxTurns q_goal (-1 : Int32) s_isWindow s_panes s_picks s_hasLack s_ordered s_founds hc) (cwV 1 hts gX12_as_X12_answer rfl rfl rfl (by decide +kernel) ⟨Nat.le_of_ble_eq_true rfl, Nat.le_of_ble_eq_true rfl⟩) (va_recv hK.1 hP (q0 := 0) rfl rfl) hP hD hK hS hA [0, 1] [2, 3] [2, 3, 0, 1] rfl (by decide +kernel) rfl (by decide +kernel) (by decide +kernel) (by decide +kernel) rfl rfl rfl hl.1 (Nat.le_of_ble_eq_true rfl) dX12_as_18 ⟨Nat.le_of_ble_eq_true rfl, Nat.le_of_ble_eq_true rfl⟩ (fun H locs hP hD hS => ?_)
    cases h
    exact ret _ _ _ _ dX12_as_21 hP hD hS
  · replace h := if_f hc h
    refine lv_iload_n hx hb dX12_as_7 rfl (lv_at hl 2 rfl) ?_
    refine lv_if_lt (tgt := 16) hx hb dX12_as_8 (by decide) (fun hc => ?_) (fun hc => ?_)
    · replace h := if_t hc h
      refine lv_aload_n hx hb dX12_as_16 rfl (lv_at hl 0 rfl) ?_
      refine lv_iconst (v := (-1)) hx hb dX12_as_17 (by decide) ?_
      obtain ⟨⟨r4, o5⟩, hc, h⟩ := ob_of h
      replace h := dm2_of h
      refine cv_i (As := [.int (-1 : Int32)]) (rest := []) (wr := [(q_rackAllowed, .inl (ky 0, 4, .inl s_rackAllowed)), (q_rackKind, .inl (ky 0, 4, .inl s_rackKind))]) (wn := [(q_, .inr (12, [.ref q_now, .int s_isWindow, .ref q_kept, .ref q_isKept, .ref q_paneOf, .int s_panes, .ref q_firstStep, .ref q_kinds, .ref q_allowed, .ref q_colour, .ref q_picked, .int s_picks, .ref q_lacking, .int s_hasLack, .ref q_rackKind, .ref q_rackAllowed, .ref q_founds, .ref q_plus, .ref q_minus, .ref q_under, .ref q_work, .ref q_other, .ref q_order, .int s_ordered, .ref q_tried, .ref q_touches, .ref q_out, .ref q_cuts, .ref q_boxWide, .ref q_boxTall, .ref q_boxTurns, .ref q_goal])), (q_founds, .inl (ky 0, 8, .inl o5)), (q_rackAllowed, .inl (ky 0, 4, .inl s_rackAllowed)), (q_rackKind, .inl (ky 0, 4, .inl s_rackKind))]) ⟨hx, hb, hml, hown, hts⟩ (c_X12_answer l D ky q_ q_now q_kept q_isKept q_paneOf q_firstStep q_kinds q_allowed q_colour q_picked q_lacking q_rackKind q_rackAllowed q_founds q_plus q_minus q_under q_work q_other q_order q_tried q_touches q_out q_cuts q_boxWide q_boxTall q_boxTurns q_goal (-1 : Int32) s_isWindow s_panes s_picks s_hasLack s_ordered s_founds hc) (cwV 1 hts gX12_as_X12_answer rfl rfl rfl (by decide +kernel) ⟨Nat.le_of_ble_eq_true rfl, Nat.le_of_ble_eq_true rfl⟩) (va_recv hK.1 hP (q0 := 0) rfl rfl) hP hD hK hS hA [0, 1] [2, 3] [2, 3, 0, 1] rfl (by decide +kernel) rfl (by decide +kernel) (by decide +kernel) (by decide +kernel) rfl rfl rfl hl.1 (Nat.le_of_ble_eq_true rfl) dX12_as_18 ⟨Nat.le_of_ble_eq_true rfl, Nat.le_of_ble_eq_true rfl⟩ (fun H locs hP hD hS => ?_)
      cases h
      exact ret _ _ _ _ dX12_as_21 hP hD hS
    · replace h := if_f hc h
      refine lv_iload_n hx hb dX12_as_11 rfl (lv_at hl 2 rfl) ?_
      refine lv_iconst (v := 2) hx hb dX12_as_12 (by decide) ?_
      refine lv_icmp_le (tgt := 22) hx hb dX12_as_13 (by decide) (fun hc => ?_) (fun hc => ?_)
      · replace h := if_t hc h
        refine lv_aload_n hx hb dX12_as_22 rfl (lv_at hl 0 rfl) ?_
        refine va_get (D := D) (ci := 12) (v := .ref q_rackKind) (C := RX12) (T := TX12) (N := 32) hx hb hts hi_X12 hown hK.1 hP 0 rfl rfl 14 (by decide) hf_52 (fun _ h9 => h9) rfl dX12_as_23 ?_
        refine lv_iload_n hx hb dX12_as_26 rfl (lv_at hl 1 rfl) ?_
        obtain ⟨hg, h⟩ := gd_of h
        refine va_iald hx hb hK.1 hP 3 0 rfl rfl hg dX12_as_27 ?_
        refine lv_if_ge (tgt := 38) hx hb dX12_as_28 (by decide) (fun hc => ?_) (fun hc => ?_)
        · replace h := if_t hc h
          refine lv_aload_n hx hb dX12_as_38 rfl (lv_at hl 0 rfl) ?_
          refine va_get (D := D) (ci := 12) (v := .ref q_rackKind) (C := RX12) (T := TX12) (N := 32) hx hb hts hi_X12 hown hK.1 hP 0 rfl rfl 14 (by decide) hf_52 (fun _ h9 => h9) rfl dX12_as_39 ?_
          refine lv_iload_n hx hb dX12_as_42 rfl (lv_at hl 1 rfl) ?_
          obtain ⟨hg, h⟩ := gd_of h
          refine va_iald hx hb hK.1 hP 3 0 rfl rfl hg dX12_as_43 ?_
          refine lv_iload_n hx hb dX12_as_44 rfl (lv_at hl 2 rfl) ?_
          refine lv_icmp_ge (tgt := 57) hx hb dX12_as_45 (by decide) (fun hc => ?_) (fun hc => ?_)
          · replace h := if_t hc h
            refine lv_aload_n hx hb dX12_as_57 rfl (lv_at hl 0 rfl) ?_
            refine va_get (D := D) (ci := 12) (v := .ref q_rackAllowed) (C := RX12) (T := TX12) (N := 32) hx hb hts hi_X12 hown hK.1 hP 0 rfl rfl 15 (by decide) hf_55 (fun _ h9 => h9) rfl dX12_as_58 ?_
            refine lv_iload_n hx hb dX12_as_61 rfl (lv_at hl 1 rfl) ?_
            obtain ⟨hg, h⟩ := gd_of h
            refine va_iald hx hb hK.1 hP 2 0 rfl rfl hg dX12_as_62 ?_
            cases h
            exact ret _ _ _ _ dX12_as_63 hP hD hS
          · replace h := if_f hc h
            refine lv_aload_n hx hb dX12_as_48 rfl (lv_at hl 0 rfl) ?_
            refine lv_bipush (v := (-5)) hx hb dX12_as_49 (by decide) ?_
            obtain ⟨⟨r6, o7⟩, hc, h⟩ := ob_of h
            replace h := dm2_of h
            refine cv_i (As := [.int (-5 : Int32)]) (rest := []) (wr := [(q_rackAllowed, .inl (ky 0, 4, .inl s_rackAllowed)), (q_rackKind, .inl (ky 0, 4, .inl s_rackKind))]) (wn := [(q_, .inr (12, [.ref q_now, .int s_isWindow, .ref q_kept, .ref q_isKept, .ref q_paneOf, .int s_panes, .ref q_firstStep, .ref q_kinds, .ref q_allowed, .ref q_colour, .ref q_picked, .int s_picks, .ref q_lacking, .int s_hasLack, .ref q_rackKind, .ref q_rackAllowed, .ref q_founds, .ref q_plus, .ref q_minus, .ref q_under, .ref q_work, .ref q_other, .ref q_order, .int s_ordered, .ref q_tried, .ref q_touches, .ref q_out, .ref q_cuts, .ref q_boxWide, .ref q_boxTall, .ref q_boxTurns, .ref q_goal])), (q_founds, .inl (ky 0, 8, .inl o7)), (q_rackAllowed, .inl (ky 0, 4, .inl s_rackAllowed)), (q_rackKind, .inl (ky 0, 4, .inl s_rackKind))]) ⟨hx, hb, hml, hown, hts⟩ (c_X12_answer l D ky q_ q_now q_kept q_isKept q_paneOf q_firstStep q_kinds q_allowed q_colour q_picked q_lacking q_rackKind q_rackAllowed q_founds q_plus q_minus q_under q_work q_other q_order q_tried q_touches q_out q_cuts q_boxWide q_boxTall q_boxTurns q_goal (-5 : Int32) s_isWindow s_panes s_picks s_hasLack s_ordered s_founds hc) (cwV 1 hts gX12_as_X12_answer rfl rfl rfl (by decide +kernel) ⟨Nat.le_of_ble_eq_true rfl, Nat.le_of_ble_eq_true rfl⟩) (va_recv hK.1 hP (q0 := 0) rfl rfl) hP hD hK hS hA [0, 1] [2, 3] [2, 3, 0, 1] rfl (by decide +kernel) rfl (by decide +kernel) (by decide +kernel) (by decide +kernel) rfl rfl rfl hl.1 (Nat.le_of_ble_eq_true rfl) dX12_as_51 ⟨Nat.le_of_ble_eq_true rfl, Nat.le_of_ble_eq_true rfl⟩ (fun H locs hP hD hS => ?_)
            refine lv_goto (tgt := 63) hx hb dX12_as_54 (by decide) ?_
            cases h
            exact ret _ _ _ _ dX12_as_63 hP hD hS
        · replace h := if_f hc h
          refine lv_aload_n hx hb dX12_as_31 rfl (lv_at hl 0 rfl) ?_
          refine lv_bipush (v := (-4)) hx hb dX12_as_32 (by decide) ?_
          obtain ⟨⟨r8, o9⟩, hc, h⟩ := ob_of h
          replace h := dm2_of h
          refine cv_i (As := [.int (-4 : Int32)]) (rest := []) (wr := [(q_rackAllowed, .inl (ky 0, 4, .inl s_rackAllowed)), (q_rackKind, .inl (ky 0, 4, .inl s_rackKind))]) (wn := [(q_, .inr (12, [.ref q_now, .int s_isWindow, .ref q_kept, .ref q_isKept, .ref q_paneOf, .int s_panes, .ref q_firstStep, .ref q_kinds, .ref q_allowed, .ref q_colour, .ref q_picked, .int s_picks, .ref q_lacking, .int s_hasLack, .ref q_rackKind, .ref q_rackAllowed, .ref q_founds, .ref q_plus, .ref q_minus, .ref q_under, .ref q_work, .ref q_other, .ref q_order, .int s_ordered, .ref q_tried, .ref q_touches, .ref q_out, .ref q_cuts, .ref q_boxWide, .ref q_boxTall, .ref q_boxTurns, .ref q_goal])), (q_founds, .inl (ky 0, 8, .inl o9)), (q_rackAllowed, .inl (ky 0, 4, .inl s_rackAllowed)), (q_rackKind, .inl (ky 0, 4, .inl s_rackKind))]) ⟨hx, hb, hml, hown, hts⟩ (c_X12_answer l D ky q_ q_now q_kept q_isKept q_paneOf q_firstStep q_kinds q_allowed q_colour q_picked q_lacking q_rackKind q_rackAllowed q_founds q_plus q_minus q_under q_work q_other q_order q_tried q_touches q_out q_cuts q_boxWide q_boxTall q_boxTurns q_goal (-4 : Int32) s_isWindow s_panes s_picks s_hasLack s_ordered s_founds hc) (cwV 1 hts gX12_as_X12_answer rfl rfl rfl (by decide +kernel) ⟨Nat.le_of_ble_eq_true rfl, Nat.le_of_ble_eq_true rfl⟩) (va_recv hK.1 hP (q0 := 0) rfl rfl) hP hD hK hS hA [0, 1] [2, 3] [2, 3, 0, 1] rfl (by decide +kernel) rfl (by decide +kernel) (by decide +kernel) (by decide +kernel) rfl rfl rfl hl.1 (Nat.le_of_ble_eq_true rfl) dX12_as_34 ⟨Nat.le_of_ble_eq_true rfl, Nat.le_of_ble_eq_true rfl⟩ (fun H locs hP hD hS => ?_)
          cases h
          exact ret _ _ _ _ dX12_as_37 hP hD hS
      · replace h := if_f hc h
        refine lv_aload_n hx hb dX12_as_16 rfl (lv_at hl 0 rfl) ?_
        refine lv_iconst (v := (-1)) hx hb dX12_as_17 (by decide) ?_
        obtain ⟨⟨r10, o11⟩, hc, h⟩ := ob_of h
        replace h := dm2_of h
        refine cv_i (As := [.int (-1 : Int32)]) (rest := []) (wr := [(q_rackAllowed, .inl (ky 0, 4, .inl s_rackAllowed)), (q_rackKind, .inl (ky 0, 4, .inl s_rackKind))]) (wn := [(q_, .inr (12, [.ref q_now, .int s_isWindow, .ref q_kept, .ref q_isKept, .ref q_paneOf, .int s_panes, .ref q_firstStep, .ref q_kinds, .ref q_allowed, .ref q_colour, .ref q_picked, .int s_picks, .ref q_lacking, .int s_hasLack, .ref q_rackKind, .ref q_rackAllowed, .ref q_founds, .ref q_plus, .ref q_minus, .ref q_under, .ref q_work, .ref q_other, .ref q_order, .int s_ordered, .ref q_tried, .ref q_touches, .ref q_out, .ref q_cuts, .ref q_boxWide, .ref q_boxTall, .ref q_boxTurns, .ref q_goal])), (q_founds, .inl (ky 0, 8, .inl o11)), (q_rackAllowed, .inl (ky 0, 4, .inl s_rackAllowed)), (q_rackKind, .inl (ky 0, 4, .inl s_rackKind))]) ⟨hx, hb, hml, hown, hts⟩ (c_X12_answer l D ky q_ q_now q_kept q_isKept q_paneOf q_firstStep q_kinds q_allowed q_colour q_picked q_lacking q_rackKind q_rackAllowed q_founds q_plus q_minus q_under q_work q_other q_order q_tried q_touches q_out q_cuts q_boxWide q_boxTall q_boxTurns q_goal (-1 : Int32) s_isWindow s_panes s_picks s_hasLack s_ordered s_founds hc) (cwV 1 hts gX12_as_X12_answer rfl rfl rfl (by decide +kernel) ⟨Nat.le_of_ble_eq_true rfl, Nat.le_of_ble_eq_true rfl⟩) (va_recv hK.1 hP (q0 := 0) rfl rfl) hP hD hK hS hA [0, 1] [2, 3] [2, 3, 0, 1] rfl (by decide +kernel) rfl (by decide +kernel) (by decide +kernel) (by decide +kernel) rfl rfl rfl hl.1 (Nat.le_of_ble_eq_true rfl) dX12_as_18 ⟨Nat.le_of_ble_eq_true rfl, Nat.le_of_ble_eq_true rfl⟩ (fun H locs hP hD hS => ?_)
        cases h
        exact ret _ _ _ _ dX12_as_21 hP hD hS

def sX12_found (a1 : Int32) (s_founds : Nat → Int32) : Option (Int32 × (Nat → Int32)) := if 0 ≤ a1 then ob (sX12_answer (-1 : Int32) s_founds) (fun o => dm2 o (fun (r1 : Int32) (o2 : Nat → Int32) => some (r1, o2))) else if a1 < (-7 : Int32) then ob (sX12_answer (-1 : Int32) s_founds) (fun o => dm2 o (fun (r3 : Int32) (o4 : Nat → Int32) => some (r3, o4))) else gd (¬ ((-a1) < 0 ∨ 8 ≤ (-a1).toNatClampNeg)) (some ((s_founds (-a1).toNatClampNeg), s_founds))
abbrev rmX12_found : Room := { frames := 1, cells := 0, slots := 0, locals := 21 }
set_option maxHeartbeats 4000000 in
set_option maxRecDepth 100000 in
theorem c_X12_found (l : Launch) (D : va_G) (ky : Nat → ClassId) (q_ q_now q_kept q_isKept q_paneOf q_firstStep q_kinds q_allowed q_colour q_picked q_lacking q_rackKind q_rackAllowed q_founds q_plus q_minus q_under q_work q_other q_order q_tried q_touches q_out q_cuts q_boxWide q_boxTall q_boxTurns q_goal : Nat) (a1 : Int32) (s_isWindow : Int32) (s_panes : Int32) (s_picks : Int32) (s_hasLack : Int32) (s_ordered : Int32) (s_founds : Nat → Int32) {o_r : Int32} {o_founds : Nat → Int32} (h : sX12_found a1 s_founds = some (o_r, o_founds)) : MtI l D ky yX12_found wsX12_found rmX12_found [.ref q_, .int a1] [(q_, .inr (12, [.ref q_now, .int s_isWindow, .ref q_kept, .ref q_isKept, .ref q_paneOf, .int s_panes, .ref q_firstStep, .ref q_kinds, .ref q_allowed, .ref q_colour, .ref q_picked, .int s_picks, .ref q_lacking, .int s_hasLack, .ref q_rackKind, .ref q_rackAllowed, .ref q_founds, .ref q_plus, .ref q_minus, .ref q_under, .ref q_work, .ref q_other, .ref q_order, .int s_ordered, .ref q_tried, .ref q_touches, .ref q_out, .ref q_cuts, .ref q_boxWide, .ref q_boxTall, .ref q_boxTurns, .ref q_goal])), (q_founds, .inl (ky 0, 8, .inl s_founds))] [(q_, .inr (12, [.ref q_now, .int s_isWindow, .ref q_kept, .ref q_isKept, .ref q_paneOf, .int s_panes, .ref q_firstStep, .ref q_kinds, .ref q_allowed, .ref q_colour, .ref q_picked, .int s_picks, .ref q_lacking, .int s_hasLack, .ref q_rackKind, .ref q_rackAllowed, .ref q_founds, .ref q_plus, .ref q_minus, .ref q_under, .ref q_work, .ref q_other, .ref q_order, .int s_ordered, .ref q_tried, .ref q_touches, .ref q_out, .ref q_cuts, .ref q_boxWide, .ref q_boxTall, .ref q_boxTurns, .ref q_goal])), (q_founds, .inl (ky 0, 8, .inl o_founds))] o_r 0 0 := by
  refine MtI.of (cc := cX12_found) (maxL := 2) (by decide +kernel) rfl (Nat.le_of_ble_eq_true rfl) ?_
  intro p e R s m args below meth c A Q ls hR hx hb hts hown hnm hml hP hK hD hA ret hl
  subst hR
  obtain ⟨H, hH⟩ : ∃ H, H = s.heap := ⟨_, rfl⟩
  obtain ⟨locs, hlocs⟩ : ∃ locs : List Loc, locs = [] := ⟨_, rfl⟩
  have hS : va_S A s.heap H locs := by rw [hH, hlocs]; exact va_S.rf
  rw [← hH] at hP
  suffices hgo : W p l e rmX12_found s m args below meth c H locs 0 0 Q (F0 m 0 ls []) by rw [hH, hlocs] at hgo; exact hgo
  clear hH hlocs
  replace hl : lv_has ls 2 [(0, .ref q_), (1, .int a1)] := hl
  replace hown : s.vm.findClass RX12 = some m.cls := hown
  have hi_X12 := (by decide +kernel : ∀ w ∈ u_ws RX12 TX12 32, w ∈ wsX12_found)
  have hf_58 := hts (.fieldLink RX12 58 "GlazierBenchModel" "founds" "[I") (by decide +kernel)
  unfold sX12_found at h
  refine lv_iload_n hx hb dX12_found_0 rfl (lv_at hl 1 rfl) ?_
  refine lv_if_ge (tgt := 20) hx hb dX12_found_1 (by decide) (fun hc => ?_) (fun hc => ?_)
  · replace h := if_t hc h
    refine lv_aload_n hx hb dX12_found_20 rfl (lv_at hl 0 rfl) ?_
    refine lv_iconst (v := (-1)) hx hb dX12_found_21 (by decide) ?_
    obtain ⟨⟨r1, o2⟩, hc, h⟩ := ob_of h
    replace h := dm2_of h
    refine cv_i (As := [.int (-1 : Int32)]) (rest := []) (wr := []) (wn := [(q_, .inr (12, [.ref q_now, .int s_isWindow, .ref q_kept, .ref q_isKept, .ref q_paneOf, .int s_panes, .ref q_firstStep, .ref q_kinds, .ref q_allowed, .ref q_colour, .ref q_picked, .int s_picks, .ref q_lacking, .int s_hasLack, .ref q_rackKind, .ref q_rackAllowed, .ref q_founds, .ref q_plus, .ref q_minus, .ref q_under, .ref q_work, .ref q_other, .ref q_order, .int s_ordered, .ref q_tried, .ref q_touches, .ref q_out, .ref q_cuts, .ref q_boxWide, .ref q_boxTall, .ref q_boxTurns, .ref q_goal])), (q_founds, .inl (ky 0, 8, .inl o2))]) ⟨hx, hb, hml, hown, hts⟩ (c_X12_answer l D ky q_ q_now q_kept q_isKept q_paneOf q_firstStep q_kinds q_allowed q_colour q_picked q_lacking q_rackKind q_rackAllowed q_founds q_plus q_minus q_under q_work q_other q_order q_tried q_touches q_out q_cuts q_boxWide q_boxTall q_boxTurns q_goal (-1 : Int32) s_isWindow s_panes s_picks s_hasLack s_ordered s_founds hc) (cwV 1 hts gX12_found_X12_answer rfl rfl rfl (by decide +kernel) ⟨Nat.le_of_ble_eq_true rfl, Nat.le_of_ble_eq_true rfl⟩) (va_recv hK.1 hP (q0 := 0) rfl rfl) hP hD hK hS hA [0, 1] [] [0, 1] rfl (by decide +kernel) rfl (by decide +kernel) (by decide +kernel) (by decide +kernel) rfl rfl rfl hl.1 (Nat.le_of_ble_eq_true rfl) dX12_found_22 ⟨Nat.le_of_ble_eq_true rfl, Nat.le_of_ble_eq_true rfl⟩ (fun H locs hP hD hS => ?_)
    cases h
    exact ret _ _ _ _ dX12_found_25 hP hD hS
  · replace h := if_f hc h
    refine lv_iload_n hx hb dX12_found_4 rfl (lv_at hl 1 rfl) ?_
    refine lv_bipush (v := (-7)) hx hb dX12_found_5 (by decide) ?_
    refine lv_icmp_lt (tgt := 20) hx hb dX12_found_7 (by decide) (fun hc => ?_) (fun hc => ?_)
    · replace h := if_t hc h
      refine lv_aload_n hx hb dX12_found_20 rfl (lv_at hl 0 rfl) ?_
      refine lv_iconst (v := (-1)) hx hb dX12_found_21 (by decide) ?_
      obtain ⟨⟨r3, o4⟩, hc, h⟩ := ob_of h
      replace h := dm2_of h
      refine cv_i (As := [.int (-1 : Int32)]) (rest := []) (wr := []) (wn := [(q_, .inr (12, [.ref q_now, .int s_isWindow, .ref q_kept, .ref q_isKept, .ref q_paneOf, .int s_panes, .ref q_firstStep, .ref q_kinds, .ref q_allowed, .ref q_colour, .ref q_picked, .int s_picks, .ref q_lacking, .int s_hasLack, .ref q_rackKind, .ref q_rackAllowed, .ref q_founds, .ref q_plus, .ref q_minus, .ref q_under, .ref q_work, .ref q_other, .ref q_order, .int s_ordered, .ref q_tried, .ref q_touches, .ref q_out, .ref q_cuts, .ref q_boxWide, .ref q_boxTall, .ref q_boxTurns, .ref q_goal])), (q_founds, .inl (ky 0, 8, .inl o4))]) ⟨hx, hb, hml, hown, hts⟩ (c_X12_answer l D ky q_ q_now q_kept q_isKept q_paneOf q_firstStep q_kinds q_allowed q_colour q_picked q_lacking q_rackKind q_rackAllowed q_founds q_plus q_minus q_under q_work q_other q_order q_tried q_touches q_out q_cuts q_boxWide q_boxTall q_boxTurns q_goal (-1 : Int32) s_isWindow s_panes s_picks s_hasLack s_ordered s_founds hc) (cwV 1 hts gX12_found_X12_answer rfl rfl rfl (by decide +kernel) ⟨Nat.le_of_ble_eq_true rfl, Nat.le_of_ble_eq_true rfl⟩) (va_recv hK.1 hP (q0 := 0) rfl rfl) hP hD hK hS hA [0, 1] [] [0, 1] rfl (by decide +kernel) rfl (by decide +kernel) (by decide +kernel) (by decide +kernel) rfl rfl rfl hl.1 (Nat.le_of_ble_eq_true rfl) dX12_found_22 ⟨Nat.le_of_ble_eq_true rfl, Nat.le_of_ble_eq_true rfl⟩ (fun H locs hP hD hS => ?_)
      cases h
      exact ret _ _ _ _ dX12_found_25 hP hD hS
    · replace h := if_f hc h
      refine lv_aload_n hx hb dX12_found_10 rfl (lv_at hl 0 rfl) ?_
      refine va_get (D := D) (ci := 12) (v := .ref q_founds) (C := RX12) (T := TX12) (N := 32) hx hb hts hi_X12 hown hK.1 hP 0 rfl rfl 16 (by decide) hf_58 (fun _ h9 => h9) rfl dX12_found_11 ?_
      refine lv_iload_n hx hb dX12_found_14 rfl (lv_at hl 1 rfl) ?_
      refine lv_ineg hx hb dX12_found_15 ?_
      obtain ⟨hg, h⟩ := gd_of h
      refine va_iald hx hb hK.1 hP 1 0 rfl rfl hg dX12_found_16 ?_
      refine lv_goto (tgt := 25) hx hb dX12_found_17 (by decide) ?_
      cases h
      exact ret _ _ _ _ dX12_found_25 hP hD hS

