def sX12_answer (a1 : Int32) (s_founds : Nat → Int32) : Option (Int32 × (Nat → Int32)) := if 0 ≤ a1 then some (a1, s_founds) else gd (¬ ((-a1) < 0 ∨ 8 ≤ (-a1).toNatClampNeg)) (gd (¬ ((-a1) < 0 ∨ 8 ≤ (-a1).toNatClampNeg)) (lt (upd s_founds (-a1).toNatClampNeg ((s_founds (-a1).toNatClampNeg) + (1 : Int32))) (fun f1 => some (a1, f1))))
abbrev rmX12_answer : Room := { frames := 0, cells := 0, slots := 0, locals := 0 }
set_option maxHeartbeats 4000000 in
set_option maxRecDepth 100000 in
theorem c_X12_answer (l : Launch) (D : va_G) (ky : Nat → ClassId) (q_ q_now q_kept q_isKept q_paneOf q_firstStep q_kinds q_allowed q_colour q_picked q_lacking q_rackKind q_rackAllowed q_founds q_plus q_minus q_under q_work q_other q_order q_tried q_touches q_out q_cuts q_boxWide q_boxTall q_boxTurns q_goal : Nat) (a1 : Int32) (s_isWindow : Int32) (s_panes : Int32) (s_picks : Int32) (s_hasLack : Int32) (s_ordered : Int32) (s_founds : Nat → Int32) {o_r : Int32} {o_founds : Nat → Int32} (h : sX12_answer a1 s_founds = some (o_r, o_founds)) : MtI l D ky yX12_answer wsX12_answer rmX12_answer [.ref q_, .int a1] [(q_, .inr (12, [.ref q_now, .int s_isWindow, .ref q_kept, .ref q_isKept, .ref q_paneOf, .int s_panes, .ref q_firstStep, .ref q_kinds, .ref q_allowed, .ref q_colour, .ref q_picked, .int s_picks, .ref q_lacking, .int s_hasLack, .ref q_rackKind, .ref q_rackAllowed, .ref q_founds, .ref q_plus, .ref q_minus, .ref q_under, .ref q_work, .ref q_other, .ref q_order, .int s_ordered, .ref q_tried, .ref q_touches, .ref q_out, .ref q_cuts, .ref q_boxWide, .ref q_boxTall, .ref q_boxTurns, .ref q_goal])), (q_founds, .inl (ky 0, 8, .inl s_founds))] [(q_, .inr (12, [.ref q_now, .int s_isWindow, .ref q_kept, .ref q_isKept, .ref q_paneOf, .int s_panes, .ref q_firstStep, .ref q_kinds, .ref q_allowed, .ref q_colour, .ref q_picked, .int s_picks, .ref q_lacking, .int s_hasLack, .ref q_rackKind, .ref q_rackAllowed, .ref q_founds, .ref q_plus, .ref q_minus, .ref q_under, .ref q_work, .ref q_other, .ref q_order, .int s_ordered, .ref q_tried, .ref q_touches, .ref q_out, .ref q_cuts, .ref q_boxWide, .ref q_boxTall, .ref q_boxTurns, .ref q_goal])), (q_founds, .inl (ky 0, 8, .inl o_founds))] o_r 0 0 := by
  refine MtI.of (cc := cX12_answer) (maxL := 2) (by decide +kernel) rfl (Nat.le_of_ble_eq_true rfl) ?_
  intro p e R s m args below meth c A Q ls hR hx hb hts hown hnm hml hP hK hD hA ret hl
  have rt := rtI (dc := fun pc => decode cX12_answer pc = .ok (.ireturn, 1)) (o_r, o_founds) (fun t => [(q_, .inr (12, [.ref q_now, .int s_isWindow, .ref q_kept, .ref q_isKept, .ref q_paneOf, .int s_panes, .ref q_firstStep, .ref q_kinds, .ref q_allowed, .ref q_colour, .ref q_picked, .int s_picks, .ref q_lacking, .int s_hasLack, .ref q_rackKind, .ref q_rackAllowed, .ref q_founds, .ref q_plus, .ref q_minus, .ref q_under, .ref q_work, .ref q_other, .ref q_order, .int s_ordered, .ref q_tried, .ref q_touches, .ref q_out, .ref q_cuts, .ref q_boxWide, .ref q_boxTall, .ref q_boxTurns, .ref q_goal])), (q_founds, .inl (ky 0, 8, .inl t.2))]) (fun t => t.1) ret
  subst hR
  obtain ⟨H, hH⟩ : ∃ H, H = s.heap := ⟨_, rfl⟩
  obtain ⟨locs, hlocs⟩ : ∃ locs : List Loc, locs = [] := ⟨_, rfl⟩
  have hS : va_S A s.heap H locs := by rw [hH, hlocs]; exact va_S.rf
  rw [← hH] at hP
  suffices hgo : W p l e rmX12_answer s m args below meth c H locs 0 0 Q (F0 m 0 ls []) by rw [hH, hlocs] at hgo; exact hgo
  clear hH hlocs
  replace hl : lv_has ls 2 [(0, .ref q_), (1, .int a1)] := hl
  replace hown : s.vm.findClass RX12 = some m.cls := hown
  have hi_X12 : ∀ w ∈ u_ws RX12 TX12 32, w ∈ wsX12_answer := fun _ h9 => List.mem_cons_of_mem _ (List.mem_append_right _ h9)
  have hf_58 := hts (.fieldLink RX12 58 "GlazierBenchModel" "founds" "[I") (by decide +kernel)
  unfold sX12_answer at h
  refine lv_iload_n hx hb dX12_answer_0 rfl (lv_at hl 1 rfl) ?_
  refine lv_if_ge (tgt := 15) hx hb dX12_answer_1 (by decide) (fun hc => ?_) (fun hc => ?_)
  · replace h := if_t hc h
    refine lv_iload_n hx hb dX12_answer_15 rfl (lv_at hl 1 rfl) ?_
    exact rt _ h _ _ _ _ dX12_answer_16 hP hD hS
  · replace h := if_f hc h
    refine lv_aload_n hx hb dX12_answer_4 rfl (lv_at hl 0 rfl) ?_
    refine va_get (D := D) (ci := 12) (v := .ref q_founds) (C := RX12) (T := TX12) (N := 32) hx hb hts hi_X12 hown hK.1 hP 0 rfl rfl 16 (by decide) hf_58 (fun _ h9 => h9) rfl dX12_answer_5 ?_
    refine lv_iload_n hx hb dX12_answer_8 rfl (lv_at hl 1 rfl) ?_
    refine lv_ineg hx hb dX12_answer_9 ?_
    refine lv_dup2_11 hx hb dX12_answer_10 rfl rfl ?_
    obtain ⟨hg, h⟩ := gd_of h
    refine va_iald hx hb hK.1 hP 1 0 rfl rfl hg dX12_answer_11 ?_
    refine lv_iconst (v := 1) hx hb dX12_answer_12 (by decide) ?_
    refine lv_iadd hx hb dX12_answer_13 ?_
    obtain ⟨hg, h⟩ := gd_of h
    refine r_iast hx hb hK.1 hP hD hS 1 0 rfl rfl hg dX12_answer_14 (fun f1 ef1 H locs hP hD hS => ?_)
    replace h := lt_at ef1 h
    replace hP : va_P D vwCl [(q_, .inr (12, [.ref q_now, .int s_isWindow, .ref q_kept, .ref q_isKept, .ref q_paneOf, .int s_panes, .ref q_firstStep, .ref q_kinds, .ref q_allowed, .ref q_colour, .ref q_picked, .int s_picks, .ref q_lacking, .int s_hasLack, .ref q_rackKind, .ref q_rackAllowed, .ref q_founds, .ref q_plus, .ref q_minus, .ref q_under, .ref q_work, .ref q_other, .ref q_order, .int s_ordered, .ref q_tried, .ref q_touches, .ref q_out, .ref q_cuts, .ref q_boxWide, .ref q_boxTall, .ref q_boxTurns, .ref q_goal])), (q_founds, .inl (ky 0, 8, .inl f1))] H := hP
    replace hD : va_D A [(q_, .inr (12, [.ref q_now, .int s_isWindow, .ref q_kept, .ref q_isKept, .ref q_paneOf, .int s_panes, .ref q_firstStep, .ref q_kinds, .ref q_allowed, .ref q_colour, .ref q_picked, .int s_picks, .ref q_lacking, .int s_hasLack, .ref q_rackKind, .ref q_rackAllowed, .ref q_founds, .ref q_plus, .ref q_minus, .ref q_under, .ref q_work, .ref q_other, .ref q_order, .int s_ordered, .ref q_tried, .ref q_touches, .ref q_out, .ref q_cuts, .ref q_boxWide, .ref q_boxTall, .ref q_boxTurns, .ref q_goal])), (q_founds, .inl (ky 0, 8, .inl f1))] := hD
    refine lv_iload_n hx hb dX12_answer_15 rfl (lv_at hl 1 rfl) ?_
    exact rt _ h _ _ _ _ dX12_answer_16 hP hD hS

def sX12_beginOf (a1 : Int32) (s_now_from : Nat → Int32) (s_now_to : Nat → Int32) : Option (Int32) := if ¬ (a1 &&& (1 : Int32)) = 0 then gd (¬ (2 : Int32) = 0) (gd (¬ ((a1 / (2 : Int32)) < 0 ∨ 800 ≤ (a1 / (2 : Int32)).toNatClampNeg)) (some (s_now_to (a1 / (2 : Int32)).toNatClampNeg))) else gd (¬ (2 : Int32) = 0) (gd (¬ ((a1 / (2 : Int32)) < 0 ∨ 800 ≤ (a1 / (2 : Int32)).toNatClampNeg)) (some (s_now_from (a1 / (2 : Int32)).toNatClampNeg)))
abbrev rmX12_beginOf : Room := { frames := 0, cells := 0, slots := 0, locals := 0 }
set_option maxHeartbeats 4000000 in
set_option maxRecDepth 100000 in
theorem c_X12_beginOf (l : Launch) (D : va_G) (ky : Nat → ClassId) (q_ q_now q_kept q_isKept q_paneOf q_firstStep q_kinds q_allowed q_colour q_picked q_lacking q_rackKind q_rackAllowed q_founds q_plus q_minus q_under q_work q_other q_order q_tried q_touches q_out q_cuts q_boxWide q_boxTall q_boxTurns q_goal q_now_ax q_now_ay q_now_bx q_now_by q_now_x q_now_y q_now_d q_now_from q_now_to q_now_firm : Nat) (a1 : Int32) (s_isWindow : Int32) (s_panes : Int32) (s_picks : Int32) (s_hasLack : Int32) (s_ordered : Int32) (s_now_w : Int32) (s_now_h : Int32) (s_now_leads : Int32) (s_now_lines : Int32) (s_now_joints : Int32) (s_now_pieces : Int32) (s_now_from : Nat → Int32) (s_now_to : Nat → Int32) {o_r : Int32} (h : sX12_beginOf a1 s_now_from s_now_to = some o_r) : MtI l D ky yX12_beginOf wsX12_beginOf rmX12_beginOf [.ref q_, .int a1] [(q_, .inr (12, [.ref q_now, .int s_isWindow, .ref q_kept, .ref q_isKept, .ref q_paneOf, .int s_panes, .ref q_firstStep, .ref q_kinds, .ref q_allowed, .ref q_colour, .ref q_picked, .int s_picks, .ref q_lacking, .int s_hasLack, .ref q_rackKind, .ref q_rackAllowed, .ref q_founds, .ref q_plus, .ref q_minus, .ref q_under, .ref q_work, .ref q_other, .ref q_order, .int s_ordered, .ref q_tried, .ref q_touches, .ref q_out, .ref q_cuts, .ref q_boxWide, .ref q_boxTall, .ref q_boxTurns, .ref q_goal])), (q_now, .inr (10, [.int s_now_w, .int s_now_h, .int s_now_leads, .int s_now_lines, .ref q_now_ax, .ref q_now_ay, .ref q_now_bx, .ref q_now_by, .int s_now_joints, .ref q_now_x, .ref q_now_y, .ref q_now_d, .int s_now_pieces, .ref q_now_from, .ref q_now_to, .ref q_now_firm])), (q_now_from, .inl (ky 0, 800, .inl s_now_from)), (q_now_to, .inl (ky 0, 800, .inl s_now_to))] [(q_, .inr (12, [.ref q_now, .int s_isWindow, .ref q_kept, .ref q_isKept, .ref q_paneOf, .int s_panes, .ref q_firstStep, .ref q_kinds, .ref q_allowed, .ref q_colour, .ref q_picked, .int s_picks, .ref q_lacking, .int s_hasLack, .ref q_rackKind, .ref q_rackAllowed, .ref q_founds, .ref q_plus, .ref q_minus, .ref q_under, .ref q_work, .ref q_other, .ref q_order, .int s_ordered, .ref q_tried, .ref q_touches, .ref q_out, .ref q_cuts, .ref q_boxWide, .ref q_boxTall, .ref q_boxTurns, .ref q_goal])), (q_now, .inr (10, [.int s_now_w, .int s_now_h, .int s_now_leads, .int s_now_lines, .ref q_now_ax, .ref q_now_ay, .ref q_now_bx, .ref q_now_by, .int s_now_joints, .ref q_now_x, .ref q_now_y, .ref q_now_d, .int s_now_pieces, .ref q_now_from, .ref q_now_to, .ref q_now_firm])), (q_now_from, .inl (ky 0, 800, .inl s_now_from)), (q_now_to, .inl (ky 0, 800, .inl s_now_to))] o_r 0 0 := by
  refine MtI.of (cc := cX12_beginOf) (maxL := 2) (by decide +kernel) rfl (Nat.le_of_ble_eq_true rfl) ?_
  intro p e R s m args below meth c A Q ls hR hx hb hts hown hnm hml hP hK hD hA ret hl
  subst hR
  obtain ⟨H, hH⟩ : ∃ H, H = s.heap := ⟨_, rfl⟩
  obtain ⟨locs, hlocs⟩ : ∃ locs : List Loc, locs = [] := ⟨_, rfl⟩
  have hS : va_S A s.heap H locs := by rw [hH, hlocs]; exact va_S.rf
  rw [← hH] at hP
  suffices hgo : W p l e rmX12_beginOf s m args below meth c H locs 0 0 Q (F0 m 0 ls []) by rw [hH, hlocs] at hgo; exact hgo
  clear hH hlocs
  replace hl : lv_has ls 2 [(0, .ref q_), (1, .int a1)] := hl
  replace hown : s.vm.findClass RX12 = some m.cls := hown
  have hi_X12 : ∀ w ∈ u_ws RX12 TX12 32, w ∈ wsX12_beginOf := fun _ h9 => List.mem_cons_of_mem _ (List.mem_append_left _ (List.mem_append_right _ h9))
  have hf_16 := hts (.fieldLink RX12 16 "GlazierBenchModel" "now" "LGlazierBenchModel$Drawing;") (by decide +kernel)
  have hi_X10 : ∀ w ∈ u_ws RX10 TX10 16, w ∈ wsX12_beginOf := fun _ h9 => List.mem_cons_of_mem _ (List.mem_append_right _ h9)
  have hf_110 := (va_Nw.use (A := args) rfl (hK.2 (.fieldLinkNest RX12 110 RX10 "to" "[I" RX12) (by decide +kernel)) : (Cond.fieldLinkNest RX12 110 RX10 "to" "[I" RX12).before args s = true)
  have hf_107 := (va_Nw.use (A := args) rfl (hK.2 (.fieldLinkNest RX12 107 RX10 "from" "[I" RX12) (by decide +kernel)) : (Cond.fieldLinkNest RX12 107 RX10 "from" "[I" RX12).before args s = true)
  unfold sX12_beginOf at h
  refine lv_iload_n hx hb dX12_beginOf_0 rfl (lv_at hl 1 rfl) ?_
  refine lv_iconst (v := 1) hx hb dX12_beginOf_1 (by decide) ?_
  refine lv_iand hx hb dX12_beginOf_2 ?_
  refine lv_if_ne (tgt := 20) hx hb dX12_beginOf_3 (by decide) (fun hc => ?_) (fun hc => ?_)
  · replace h := if_t hc h
    refine lv_aload_n hx hb dX12_beginOf_20 rfl (lv_at hl 0 rfl) ?_
    refine va_get (D := D) (ci := 12) (v := .ref q_now) (C := RX12) (T := TX12) (N := 32) hx hb hts hi_X12 hown hK.1 hP 0 rfl rfl 0 (by decide) hf_16 (fun _ h9 => h9) rfl dX12_beginOf_21 ?_
    refine va_getN (D := D) (ci := 10) (v := .ref q_now_to) (C := RX10) (T := TX10) (N := 16) hx hb hts hi_X10 hown hK.1 hP 1 rfl rfl 14 (by decide) hf_110 (fun _ h9 => h9) rfl dX12_beginOf_24 ?_
    refine lv_iload_n hx hb dX12_beginOf_27 rfl (lv_at hl 1 rfl) ?_
    refine lv_iconst (v := 2) hx hb dX12_beginOf_28 (by decide) ?_
    obtain ⟨hg, h⟩ := gd_of h
    refine lv_idiv hx hb dX12_beginOf_29 hg ?_
    obtain ⟨hg, h⟩ := gd_of h
    refine va_iald hx hb hK.1 hP 3 0 rfl rfl hg dX12_beginOf_30 ?_
    cases h
    exact ret _ _ _ _ dX12_beginOf_31 hP hD hS
  · replace h := if_f (fun z => z hc) h
    refine lv_aload_n hx hb dX12_beginOf_6 rfl (lv_at hl 0 rfl) ?_
    refine va_get (D := D) (ci := 12) (v := .ref q_now) (C := RX12) (T := TX12) (N := 32) hx hb hts hi_X12 hown hK.1 hP 0 rfl rfl 0 (by decide) hf_16 (fun _ h9 => h9) rfl dX12_beginOf_7 ?_
    refine va_getN (D := D) (ci := 10) (v := .ref q_now_from) (C := RX10) (T := TX10) (N := 16) hx hb hts hi_X10 hown hK.1 hP 1 rfl rfl 13 (by decide) hf_107 (fun _ h9 => h9) rfl dX12_beginOf_10 ?_
    refine lv_iload_n hx hb dX12_beginOf_13 rfl (lv_at hl 1 rfl) ?_
    refine lv_iconst (v := 2) hx hb dX12_beginOf_14 (by decide) ?_
    obtain ⟨hg, h⟩ := gd_of h
    refine lv_idiv hx hb dX12_beginOf_15 hg ?_
    obtain ⟨hg, h⟩ := gd_of h
    refine va_iald hx hb hK.1 hP 2 0 rfl rfl hg dX12_beginOf_16 ?_
    refine lv_goto (tgt := 31) hx hb dX12_beginOf_17 (by decide) ?_
    cases h
    exact ret _ _ _ _ dX12_beginOf_31 hP hD hS

def sX12_endOf (a1 : Int32) (s_now_from : Nat → Int32) (s_now_to : Nat → Int32) : Option (Int32) := ob (sX12_beginOf (a1 ^^^ (1 : Int32)) s_now_from s_now_to) (fun o => dm1 o (fun (r1 : Int32) => some r1))
abbrev rmX12_endOf : Room := { frames := 1, cells := 0, slots := 0, locals := 21 }
set_option maxHeartbeats 4000000 in
set_option maxRecDepth 100000 in
theorem c_X12_endOf (l : Launch) (D : va_G) (ky : Nat → ClassId) (q_ q_now q_kept q_isKept q_paneOf q_firstStep q_kinds q_allowed q_colour q_picked q_lacking q_rackKind q_rackAllowed q_founds q_plus q_minus q_under q_work q_other q_order q_tried q_touches q_out q_cuts q_boxWide q_boxTall q_boxTurns q_goal q_now_ax q_now_ay q_now_bx q_now_by q_now_x q_now_y q_now_d q_now_from q_now_to q_now_firm : Nat) (a1 : Int32) (s_isWindow : Int32) (s_panes : Int32) (s_picks : Int32) (s_hasLack : Int32) (s_ordered : Int32) (s_now_w : Int32) (s_now_h : Int32) (s_now_leads : Int32) (s_now_lines : Int32) (s_now_joints : Int32) (s_now_pieces : Int32) (s_now_from : Nat → Int32) (s_now_to : Nat → Int32) {o_r : Int32} (h : sX12_endOf a1 s_now_from s_now_to = some o_r) : MtI l D ky yX12_endOf wsX12_endOf rmX12_endOf [.ref q_, .int a1] [(q_, .inr (12, [.ref q_now, .int s_isWindow, .ref q_kept, .ref q_isKept, .ref q_paneOf, .int s_panes, .ref q_firstStep, .ref q_kinds, .ref q_allowed, .ref q_colour, .ref q_picked, .int s_picks, .ref q_lacking, .int s_hasLack, .ref q_rackKind, .ref q_rackAllowed, .ref q_founds, .ref q_plus, .ref q_minus, .ref q_under, .ref q_work, .ref q_other, .ref q_order, .int s_ordered, .ref q_tried, .ref q_touches, .ref q_out, .ref q_cuts, .ref q_boxWide, .ref q_boxTall, .ref q_boxTurns, .ref q_goal])), (q_now, .inr (10, [.int s_now_w, .int s_now_h, .int s_now_leads, .int s_now_lines, .ref q_now_ax, .ref q_now_ay, .ref q_now_bx, .ref q_now_by, .int s_now_joints, .ref q_now_x, .ref q_now_y, .ref q_now_d, .int s_now_pieces, .ref q_now_from, .ref q_now_to, .ref q_now_firm])), (q_now_from, .inl (ky 0, 800, .inl s_now_from)), (q_now_to, .inl (ky 0, 800, .inl s_now_to))] [(q_, .inr (12, [.ref q_now, .int s_isWindow, .ref q_kept, .ref q_isKept, .ref q_paneOf, .int s_panes, .ref q_firstStep, .ref q_kinds, .ref q_allowed, .ref q_colour, .ref q_picked, .int s_picks, .ref q_lacking, .int s_hasLack, .ref q_rackKind, .ref q_rackAllowed, .ref q_founds, .ref q_plus, .ref q_minus, .ref q_under, .ref q_work, .ref q_other, .ref q_order, .int s_ordered, .ref q_tried, .ref q_touches, .ref q_out, .ref q_cuts, .ref q_boxWide, .ref q_boxTall, .ref q_boxTurns, .ref q_goal])), (q_now, .inr (10, [.int s_now_w, .int s_now_h, .int s_now_leads, .int s_now_lines, .ref q_now_ax, .ref q_now_ay, .ref q_now_bx, .ref q_now_by, .int s_now_joints, .ref q_now_x, .ref q_now_y, .ref q_now_d, .int s_now_pieces, .ref q_now_from, .ref q_now_to, .ref q_now_firm])), (q_now_from, .inl (ky 0, 800, .inl s_now_from)), (q_now_to, .inl (ky 0, 800, .inl s_now_to))] o_r 0 0 := by
  refine MtI.of (cc := cX12_endOf) (maxL := 2) (by decide +kernel) rfl (Nat.le_of_ble_eq_true rfl) ?_
  intro p e R s m args below meth c A Q ls hR hx hb hts hown hnm hml hP hK hD hA ret hl
  subst hR
  obtain ⟨H, hH⟩ : ∃ H, H = s.heap := ⟨_, rfl⟩
  obtain ⟨locs, hlocs⟩ : ∃ locs : List Loc, locs = [] := ⟨_, rfl⟩
  have hS : va_S A s.heap H locs := by rw [hH, hlocs]; exact va_S.rf
  rw [← hH] at hP
  suffices hgo : W p l e rmX12_endOf s m args below meth c H locs 0 0 Q (F0 m 0 ls []) by rw [hH, hlocs] at hgo; exact hgo
  clear hH hlocs
  replace hl : lv_has ls 2 [(0, .ref q_), (1, .int a1)] := hl
  replace hown : s.vm.findClass RX12 = some m.cls := hown
  unfold sX12_endOf at h
  refine lv_aload_n hx hb dX12_endOf_0 rfl (lv_at hl 0 rfl) ?_
  refine lv_iload_n hx hb dX12_endOf_1 rfl (lv_at hl 1 rfl) ?_
  refine lv_iconst (v := 1) hx hb dX12_endOf_2 (by decide) ?_
  refine lv_ixor hx hb dX12_endOf_3 ?_
  obtain ⟨r1, hc, h⟩ := ob_of h
  replace h := dm1_of h
  refine cv_i (As := [.int (a1 ^^^ (1 : Int32))]) (rest := []) (wr := []) (wn := [(q_, .inr (12, [.ref q_now, .int s_isWindow, .ref q_kept, .ref q_isKept, .ref q_paneOf, .int s_panes, .ref q_firstStep, .ref q_kinds, .ref q_allowed, .ref q_colour, .ref q_picked, .int s_picks, .ref q_lacking, .int s_hasLack, .ref q_rackKind, .ref q_rackAllowed, .ref q_founds, .ref q_plus, .ref q_minus, .ref q_under, .ref q_work, .ref q_other, .ref q_order, .int s_ordered, .ref q_tried, .ref q_touches, .ref q_out, .ref q_cuts, .ref q_boxWide, .ref q_boxTall, .ref q_boxTurns, .ref q_goal])), (q_now, .inr (10, [.int s_now_w, .int s_now_h, .int s_now_leads, .int s_now_lines, .ref q_now_ax, .ref q_now_ay, .ref q_now_bx, .ref q_now_by, .int s_now_joints, .ref q_now_x, .ref q_now_y, .ref q_now_d, .int s_now_pieces, .ref q_now_from, .ref q_now_to, .ref q_now_firm])), (q_now_from, .inl (ky 0, 800, .inl s_now_from)), (q_now_to, .inl (ky 0, 800, .inl s_now_to))]) ⟨hx, hb, hml, hown, hts⟩ (c_X12_beginOf l D ky q_ q_now q_kept q_isKept q_paneOf q_firstStep q_kinds q_allowed q_colour q_picked q_lacking q_rackKind q_rackAllowed q_founds q_plus q_minus q_under q_work q_other q_order q_tried q_touches q_out q_cuts q_boxWide q_boxTall q_boxTurns q_goal q_now_ax q_now_ay q_now_bx q_now_by q_now_x q_now_y q_now_d q_now_from q_now_to q_now_firm (a1 ^^^ (1 : Int32)) s_isWindow s_panes s_picks s_hasLack s_ordered s_now_w s_now_h s_now_leads s_now_lines s_now_joints s_now_pieces s_now_from s_now_to hc) (cwV 1 hts gX12_endOf_X12_beginOf rfl rfl rfl (by decide +kernel) ⟨Nat.le_of_ble_eq_true rfl, Nat.le_of_ble_eq_true rfl⟩) (rcv hK.1 hP (q0 := 0) rfl rfl) hP hD hK hS hA [0, 1, 2, 3] [] [0, 1, 2, 3] rfl (by decide +kernel) rfl (by decide +kernel) (by decide +kernel) (by decide +kernel) rfl rfl rfl hl.1 (Nat.le_of_ble_eq_true rfl) dX12_endOf_4 ⟨Nat.le_of_ble_eq_true rfl, Nat.le_of_ble_eq_true rfl⟩ (fun H locs hP hD hS => ?_)
  cases h
  exact ret _ _ _ _ dX12_endOf_7 hP hD hS

def sX12_wayX (a1 : Int32) (a2 : Int32) (s_now_d : Nat → Int64) (s_now_x : Nat → Int64) : Option (Int64) := gd (¬ (a2 < 0 ∨ 240 ≤ a2.toNatClampNeg)) (gd (¬ (a1 < 0 ∨ 240 ≤ a1.toNatClampNeg)) (gd (¬ (a1 < 0 ∨ 240 ≤ a1.toNatClampNeg)) (gd (¬ (a2 < 0 ∨ 240 ≤ a2.toNatClampNeg)) (some (((s_now_x a2.toNatClampNeg) * (s_now_d a1.toNatClampNeg)) - ((s_now_x a1.toNatClampNeg) * (s_now_d a2.toNatClampNeg)))))))
abbrev rmX12_wayX : Room := { frames := 0, cells := 0, slots := 0, locals := 0 }
set_option maxHeartbeats 4000000 in
set_option maxRecDepth 100000 in
theorem c_X12_wayX (l : Launch) (D : va_G) (ky : Nat → ClassId) (q_ q_now q_kept q_isKept q_paneOf q_firstStep q_kinds q_allowed q_colour q_picked q_lacking q_rackKind q_rackAllowed q_founds q_plus q_minus q_under q_work q_other q_order q_tried q_touches q_out q_cuts q_boxWide q_boxTall q_boxTurns q_goal q_now_ax q_now_ay q_now_bx q_now_by q_now_x q_now_y q_now_d q_now_from q_now_to q_now_firm : Nat) (a1 : Int32) (a2 : Int32) (s_isWindow : Int32) (s_panes : Int32) (s_picks : Int32) (s_hasLack : Int32) (s_ordered : Int32) (s_now_w : Int32) (s_now_h : Int32) (s_now_leads : Int32) (s_now_lines : Int32) (s_now_joints : Int32) (s_now_pieces : Int32) (s_now_d : Nat → Int64) (s_now_x : Nat → Int64) {o_r : Int64} (h : sX12_wayX a1 a2 s_now_d s_now_x = some o_r) : MtL l D ky yX12_wayX wsX12_wayX rmX12_wayX [.ref q_, .int a1, .int a2] [(q_, .inr (12, [.ref q_now, .int s_isWindow, .ref q_kept, .ref q_isKept, .ref q_paneOf, .int s_panes, .ref q_firstStep, .ref q_kinds, .ref q_allowed, .ref q_colour, .ref q_picked, .int s_picks, .ref q_lacking, .int s_hasLack, .ref q_rackKind, .ref q_rackAllowed, .ref q_founds, .ref q_plus, .ref q_minus, .ref q_under, .ref q_work, .ref q_other, .ref q_order, .int s_ordered, .ref q_tried, .ref q_touches, .ref q_out, .ref q_cuts, .ref q_boxWide, .ref q_boxTall, .ref q_boxTurns, .ref q_goal])), (q_now, .inr (10, [.int s_now_w, .int s_now_h, .int s_now_leads, .int s_now_lines, .ref q_now_ax, .ref q_now_ay, .ref q_now_bx, .ref q_now_by, .int s_now_joints, .ref q_now_x, .ref q_now_y, .ref q_now_d, .int s_now_pieces, .ref q_now_from, .ref q_now_to, .ref q_now_firm])), (q_now_d, .inl (ky 1, 240, .inr (.inl s_now_d))), (q_now_x, .inl (ky 1, 240, .inr (.inl s_now_x)))] [(q_, .inr (12, [.ref q_now, .int s_isWindow, .ref q_kept, .ref q_isKept, .ref q_paneOf, .int s_panes, .ref q_firstStep, .ref q_kinds, .ref q_allowed, .ref q_colour, .ref q_picked, .int s_picks, .ref q_lacking, .int s_hasLack, .ref q_rackKind, .ref q_rackAllowed, .ref q_founds, .ref q_plus, .ref q_minus, .ref q_under, .ref q_work, .ref q_other, .ref q_order, .int s_ordered, .ref q_tried, .ref q_touches, .ref q_out, .ref q_cuts, .ref q_boxWide, .ref q_boxTall, .ref q_boxTurns, .ref q_goal])), (q_now, .inr (10, [.int s_now_w, .int s_now_h, .int s_now_leads, .int s_now_lines, .ref q_now_ax, .ref q_now_ay, .ref q_now_bx, .ref q_now_by, .int s_now_joints, .ref q_now_x, .ref q_now_y, .ref q_now_d, .int s_now_pieces, .ref q_now_from, .ref q_now_to, .ref q_now_firm])), (q_now_d, .inl (ky 1, 240, .inr (.inl s_now_d))), (q_now_x, .inl (ky 1, 240, .inr (.inl s_now_x)))] o_r 0 0 := by
  refine MtL.of (cc := cX12_wayX) (maxL := 3) (by decide +kernel) rfl (Nat.le_of_ble_eq_true rfl) ?_
  intro p e R s m args below meth c A Q ls hR hx hb hts hown hnm hml hP hK hD hA ret hl
  subst hR
  obtain ⟨H, hH⟩ : ∃ H, H = s.heap := ⟨_, rfl⟩
  obtain ⟨locs, hlocs⟩ : ∃ locs : List Loc, locs = [] := ⟨_, rfl⟩
  have hS : va_S A s.heap H locs := by rw [hH, hlocs]; exact va_S.rf
  rw [← hH] at hP
  suffices hgo : W p l e rmX12_wayX s m args below meth c H locs 0 0 Q (F0 m 0 ls []) by rw [hH, hlocs] at hgo; exact hgo
  clear hH hlocs
  replace hl : lv_has ls 3 [(0, .ref q_), (1, .int a1), (2, .int a2)] := hl
  replace hown : s.vm.findClass RX12 = some m.cls := hown
  have hi_X12 : ∀ w ∈ u_ws RX12 TX12 32, w ∈ wsX12_wayX := fun _ h9 => List.mem_cons_of_mem _ (List.mem_append_left _ (List.mem_append_right _ h9))
  have hf_16 := hts (.fieldLink RX12 16 "GlazierBenchModel" "now" "LGlazierBenchModel$Drawing;") (by decide +kernel)
  have hi_X10 : ∀ w ∈ u_ws RX10 TX10 16, w ∈ wsX12_wayX := fun _ h9 => List.mem_cons_of_mem _ (List.mem_append_right _ h9)
  have hf_117 := (va_Nw.use (A := args) rfl (hK.2 (.fieldLinkNest RX12 117 RX10 "x" "[J" RX12) (by decide +kernel)) : (Cond.fieldLinkNest RX12 117 RX10 "x" "[J" RX12).before args s = true)
  have hf_121 := (va_Nw.use (A := args) rfl (hK.2 (.fieldLinkNest RX12 121 RX10 "d" "[J" RX12) (by decide +kernel)) : (Cond.fieldLinkNest RX12 121 RX10 "d" "[J" RX12).before args s = true)
  unfold sX12_wayX at h
  refine lv_aload_n hx hb dX12_wayX_0 rfl (lv_at hl 0 rfl) ?_
  refine va_get (D := D) (ci := 12) (v := .ref q_now) (C := RX12) (T := TX12) (N := 32) hx hb hts hi_X12 hown hK.1 hP 0 rfl rfl 0 (by decide) hf_16 (fun _ h9 => h9) rfl dX12_wayX_1 ?_
  refine va_getN (D := D) (ci := 10) (v := .ref q_now_x) (C := RX10) (T := TX10) (N := 16) hx hb hts hi_X10 hown hK.1 hP 1 rfl rfl 9 (by decide) hf_117 (fun _ h9 => h9) rfl dX12_wayX_4 ?_
  refine lv_iload_n hx hb dX12_wayX_7 rfl (lv_at hl 2 rfl) ?_
  obtain ⟨hg, h⟩ := gd_of h
  refine va_lald hx hb hK.1 hP 3 1 rfl rfl hg dX12_wayX_8 ?_
  refine lv_aload_n hx hb dX12_wayX_9 rfl (lv_at hl 0 rfl) ?_
  refine va_get (D := D) (ci := 12) (v := .ref q_now) (C := RX12) (T := TX12) (N := 32) hx hb hts hi_X12 hown hK.1 hP 0 rfl rfl 0 (by decide) hf_16 (fun _ h9 => h9) rfl dX12_wayX_10 ?_
  refine va_getN (D := D) (ci := 10) (v := .ref q_now_d) (C := RX10) (T := TX10) (N := 16) hx hb hts hi_X10 hown hK.1 hP 1 rfl rfl 11 (by decide) hf_121 (fun _ h9 => h9) rfl dX12_wayX_13 ?_
  refine lv_iload_n hx hb dX12_wayX_16 rfl (lv_at hl 1 rfl) ?_
  obtain ⟨hg, h⟩ := gd_of h
  refine va_lald hx hb hK.1 hP 2 1 rfl rfl hg dX12_wayX_17 ?_
  refine lv_lmul hx hb dX12_wayX_18 ?_
  refine lv_aload_n hx hb dX12_wayX_19 rfl (lv_at hl 0 rfl) ?_
  refine va_get (D := D) (ci := 12) (v := .ref q_now) (C := RX12) (T := TX12) (N := 32) hx hb hts hi_X12 hown hK.1 hP 0 rfl rfl 0 (by decide) hf_16 (fun _ h9 => h9) rfl dX12_wayX_20 ?_
  refine va_getN (D := D) (ci := 10) (v := .ref q_now_x) (C := RX10) (T := TX10) (N := 16) hx hb hts hi_X10 hown hK.1 hP 1 rfl rfl 9 (by decide) hf_117 (fun _ h9 => h9) rfl dX12_wayX_23 ?_
  refine lv_iload_n hx hb dX12_wayX_26 rfl (lv_at hl 1 rfl) ?_
  obtain ⟨hg, h⟩ := gd_of h
  refine va_lald hx hb hK.1 hP 3 1 rfl rfl hg dX12_wayX_27 ?_
  refine lv_aload_n hx hb dX12_wayX_28 rfl (lv_at hl 0 rfl) ?_
  refine va_get (D := D) (ci := 12) (v := .ref q_now) (C := RX12) (T := TX12) (N := 32) hx hb hts hi_X12 hown hK.1 hP 0 rfl rfl 0 (by decide) hf_16 (fun _ h9 => h9) rfl dX12_wayX_29 ?_
  refine va_getN (D := D) (ci := 10) (v := .ref q_now_d) (C := RX10) (T := TX10) (N := 16) hx hb hts hi_X10 hown hK.1 hP 1 rfl rfl 11 (by decide) hf_121 (fun _ h9 => h9) rfl dX12_wayX_32 ?_
  refine lv_iload_n hx hb dX12_wayX_35 rfl (lv_at hl 2 rfl) ?_
  obtain ⟨hg, h⟩ := gd_of h
  refine va_lald hx hb hK.1 hP 2 1 rfl rfl hg dX12_wayX_36 ?_
  refine lv_lmul hx hb dX12_wayX_37 ?_
  refine lv_lsub hx hb dX12_wayX_38 ?_
  cases h
  exact ret _ _ _ _ dX12_wayX_39 hP hD hS

def sX12_wayY (a1 : Int32) (a2 : Int32) (s_now_d : Nat → Int64) (s_now_y : Nat → Int64) : Option (Int64) := gd (¬ (a2 < 0 ∨ 240 ≤ a2.toNatClampNeg)) (gd (¬ (a1 < 0 ∨ 240 ≤ a1.toNatClampNeg)) (gd (¬ (a1 < 0 ∨ 240 ≤ a1.toNatClampNeg)) (gd (¬ (a2 < 0 ∨ 240 ≤ a2.toNatClampNeg)) (some (((s_now_y a2.toNatClampNeg) * (s_now_d a1.toNatClampNeg)) - ((s_now_y a1.toNatClampNeg) * (s_now_d a2.toNatClampNeg)))))))
abbrev rmX12_wayY : Room := { frames := 0, cells := 0, slots := 0, locals := 0 }
set_option maxHeartbeats 4000000 in
set_option maxRecDepth 100000 in
theorem c_X12_wayY (l : Launch) (D : va_G) (ky : Nat → ClassId) (q_ q_now q_kept q_isKept q_paneOf q_firstStep q_kinds q_allowed q_colour q_picked q_lacking q_rackKind q_rackAllowed q_founds q_plus q_minus q_under q_work q_other q_order q_tried q_touches q_out q_cuts q_boxWide q_boxTall q_boxTurns q_goal q_now_ax q_now_ay q_now_bx q_now_by q_now_x q_now_y q_now_d q_now_from q_now_to q_now_firm : Nat) (a1 : Int32) (a2 : Int32) (s_isWindow : Int32) (s_panes : Int32) (s_picks : Int32) (s_hasLack : Int32) (s_ordered : Int32) (s_now_w : Int32) (s_now_h : Int32) (s_now_leads : Int32) (s_now_lines : Int32) (s_now_joints : Int32) (s_now_pieces : Int32) (s_now_d : Nat → Int64) (s_now_y : Nat → Int64) {o_r : Int64} (h : sX12_wayY a1 a2 s_now_d s_now_y = some o_r) : MtL l D ky yX12_wayY wsX12_wayY rmX12_wayY [.ref q_, .int a1, .int a2] [(q_, .inr (12, [.ref q_now, .int s_isWindow, .ref q_kept, .ref q_isKept, .ref q_paneOf, .int s_panes, .ref q_firstStep, .ref q_kinds, .ref q_allowed, .ref q_colour, .ref q_picked, .int s_picks, .ref q_lacking, .int s_hasLack, .ref q_rackKind, .ref q_rackAllowed, .ref q_founds, .ref q_plus, .ref q_minus, .ref q_under, .ref q_work, .ref q_other, .ref q_order, .int s_ordered, .ref q_tried, .ref q_touches, .ref q_out, .ref q_cuts, .ref q_boxWide, .ref q_boxTall, .ref q_boxTurns, .ref q_goal])), (q_now, .inr (10, [.int s_now_w, .int s_now_h, .int s_now_leads, .int s_now_lines, .ref q_now_ax, .ref q_now_ay, .ref q_now_bx, .ref q_now_by, .int s_now_joints, .ref q_now_x, .ref q_now_y, .ref q_now_d, .int s_now_pieces, .ref q_now_from, .ref q_now_to, .ref q_now_firm])), (q_now_d, .inl (ky 1, 240, .inr (.inl s_now_d))), (q_now_y, .inl (ky 1, 240, .inr (.inl s_now_y)))] [(q_, .inr (12, [.ref q_now, .int s_isWindow, .ref q_kept, .ref q_isKept, .ref q_paneOf, .int s_panes, .ref q_firstStep, .ref q_kinds, .ref q_allowed, .ref q_colour, .ref q_picked, .int s_picks, .ref q_lacking, .int s_hasLack, .ref q_rackKind, .ref q_rackAllowed, .ref q_founds, .ref q_plus, .ref q_minus, .ref q_under, .ref q_work, .ref q_other, .ref q_order, .int s_ordered, .ref q_tried, .ref q_touches, .ref q_out, .ref q_cuts, .ref q_boxWide, .ref q_boxTall, .ref q_boxTurns, .ref q_goal])), (q_now, .inr (10, [.int s_now_w, .int s_now_h, .int s_now_leads, .int s_now_lines, .ref q_now_ax, .ref q_now_ay, .ref q_now_bx, .ref q_now_by, .int s_now_joints, .ref q_now_x, .ref q_now_y, .ref q_now_d, .int s_now_pieces, .ref q_now_from, .ref q_now_to, .ref q_now_firm])), (q_now_d, .inl (ky 1, 240, .inr (.inl s_now_d))), (q_now_y, .inl (ky 1, 240, .inr (.inl s_now_y)))] o_r 0 0 := by
  refine MtL.of (cc := cX12_wayY) (maxL := 3) (by decide +kernel) rfl (Nat.le_of_ble_eq_true rfl) ?_
  intro p e R s m args below meth c A Q ls hR hx hb hts hown hnm hml hP hK hD hA ret hl
  subst hR
  obtain ⟨H, hH⟩ : ∃ H, H = s.heap := ⟨_, rfl⟩
  obtain ⟨locs, hlocs⟩ : ∃ locs : List Loc, locs = [] := ⟨_, rfl⟩
  have hS : va_S A s.heap H locs := by rw [hH, hlocs]; exact va_S.rf
  rw [← hH] at hP
  suffices hgo : W p l e rmX12_wayY s m args below meth c H locs 0 0 Q (F0 m 0 ls []) by rw [hH, hlocs] at hgo; exact hgo
  clear hH hlocs
  replace hl : lv_has ls 3 [(0, .ref q_), (1, .int a1), (2, .int a2)] := hl
  replace hown : s.vm.findClass RX12 = some m.cls := hown
  have hi_X12 : ∀ w ∈ u_ws RX12 TX12 32, w ∈ wsX12_wayY := fun _ h9 => List.mem_cons_of_mem _ (List.mem_append_left _ (List.mem_append_right _ h9))
  have hf_16 := hts (.fieldLink RX12 16 "GlazierBenchModel" "now" "LGlazierBenchModel$Drawing;") (by decide +kernel)
  have hi_X10 : ∀ w ∈ u_ws RX10 TX10 16, w ∈ wsX12_wayY := fun _ h9 => List.mem_cons_of_mem _ (List.mem_append_right _ h9)
  have hf_124 := (va_Nw.use (A := args) rfl (hK.2 (.fieldLinkNest RX12 124 RX10 "y" "[J" RX12) (by decide +kernel)) : (Cond.fieldLinkNest RX12 124 RX10 "y" "[J" RX12).before args s = true)
  have hf_121 := (va_Nw.use (A := args) rfl (hK.2 (.fieldLinkNest RX12 121 RX10 "d" "[J" RX12) (by decide +kernel)) : (Cond.fieldLinkNest RX12 121 RX10 "d" "[J" RX12).before args s = true)
  unfold sX12_wayY at h
  refine lv_aload_n hx hb dX12_wayY_0 rfl (lv_at hl 0 rfl) ?_
  refine va_get (D := D) (ci := 12) (v := .ref q_now) (C := RX12) (T := TX12) (N := 32) hx hb hts hi_X12 hown hK.1 hP 0 rfl rfl 0 (by decide) hf_16 (fun _ h9 => h9) rfl dX12_wayY_1 ?_
  refine va_getN (D := D) (ci := 10) (v := .ref q_now_y) (C := RX10) (T := TX10) (N := 16) hx hb hts hi_X10 hown hK.1 hP 1 rfl rfl 10 (by decide) hf_124 (fun _ h9 => h9) rfl dX12_wayY_4 ?_
  refine lv_iload_n hx hb dX12_wayY_7 rfl (lv_at hl 2 rfl) ?_
  obtain ⟨hg, h⟩ := gd_of h
  refine va_lald hx hb hK.1 hP 3 1 rfl rfl hg dX12_wayY_8 ?_
  refine lv_aload_n hx hb dX12_wayY_9 rfl (lv_at hl 0 rfl) ?_
  refine va_get (D := D) (ci := 12) (v := .ref q_now) (C := RX12) (T := TX12) (N := 32) hx hb hts hi_X12 hown hK.1 hP 0 rfl rfl 0 (by decide) hf_16 (fun _ h9 => h9) rfl dX12_wayY_10 ?_
  refine va_getN (D := D) (ci := 10) (v := .ref q_now_d) (C := RX10) (T := TX10) (N := 16) hx hb hts hi_X10 hown hK.1 hP 1 rfl rfl 11 (by decide) hf_121 (fun _ h9 => h9) rfl dX12_wayY_13 ?_
  refine lv_iload_n hx hb dX12_wayY_16 rfl (lv_at hl 1 rfl) ?_
  obtain ⟨hg, h⟩ := gd_of h
  refine va_lald hx hb hK.1 hP 2 1 rfl rfl hg dX12_wayY_17 ?_
  refine lv_lmul hx hb dX12_wayY_18 ?_
  refine lv_aload_n hx hb dX12_wayY_19 rfl (lv_at hl 0 rfl) ?_
  refine va_get (D := D) (ci := 12) (v := .ref q_now) (C := RX12) (T := TX12) (N := 32) hx hb hts hi_X12 hown hK.1 hP 0 rfl rfl 0 (by decide) hf_16 (fun _ h9 => h9) rfl dX12_wayY_20 ?_
  refine va_getN (D := D) (ci := 10) (v := .ref q_now_y) (C := RX10) (T := TX10) (N := 16) hx hb hts hi_X10 hown hK.1 hP 1 rfl rfl 10 (by decide) hf_124 (fun _ h9 => h9) rfl dX12_wayY_23 ?_
  refine lv_iload_n hx hb dX12_wayY_26 rfl (lv_at hl 1 rfl) ?_
  obtain ⟨hg, h⟩ := gd_of h
  refine va_lald hx hb hK.1 hP 3 1 rfl rfl hg dX12_wayY_27 ?_
  refine lv_aload_n hx hb dX12_wayY_28 rfl (lv_at hl 0 rfl) ?_
  refine va_get (D := D) (ci := 12) (v := .ref q_now) (C := RX12) (T := TX12) (N := 32) hx hb hts hi_X12 hown hK.1 hP 0 rfl rfl 0 (by decide) hf_16 (fun _ h9 => h9) rfl dX12_wayY_29 ?_
  refine va_getN (D := D) (ci := 10) (v := .ref q_now_d) (C := RX10) (T := TX10) (N := 16) hx hb hts hi_X10 hown hK.1 hP 1 rfl rfl 11 (by decide) hf_121 (fun _ h9 => h9) rfl dX12_wayY_32 ?_
  refine lv_iload_n hx hb dX12_wayY_35 rfl (lv_at hl 2 rfl) ?_
  obtain ⟨hg, h⟩ := gd_of h
  refine va_lald hx hb hK.1 hP 2 1 rfl rfl hg dX12_wayY_36 ?_
  refine lv_lmul hx hb dX12_wayY_37 ?_
  refine lv_lsub hx hb dX12_wayY_38 ?_
  cases h
  exact ret _ _ _ _ dX12_wayY_39 hP hD hS

def sX12_turnOf (a0 : Int64) (a2 : Int64) (a4 : Int64) (a6 : Int64)  : Option (Int32) := lt ((a0 * a6) - (a2 * a4)) (fun x1 => if 0 ≤ (lg_cmp x1 (0 : Int64)) then if ¬ (lg_cmp x1 (0 : Int64)) = 0 then some (2 : Int32) else some (1 : Int32) else some (0 : Int32))
abbrev rmX12_turnOf : Room := { frames := 0, cells := 0, slots := 0, locals := 0 }
set_option maxHeartbeats 4000000 in
set_option maxRecDepth 100000 in
theorem c_X12_turnOf (l : Launch) (D : va_G) (ky : Nat → ClassId) (a0 : Int64) (a2 : Int64) (a4 : Int64) (a6 : Int64) {o_r : Int32} (h : sX12_turnOf a0 a2 a4 a6 = some o_r) : MtI l D ky yX12_turnOf wsX12_turnOf rmX12_turnOf [.long a0, .long a2, .long a4, .long a6] [] [] o_r 0 0 := by
  refine MtI.of (cc := cX12_turnOf) (maxL := 10) (by decide +kernel) rfl (Nat.le_of_ble_eq_true rfl) ?_
  intro p e R s m args below meth c A Q ls hR hx hb hts hown hnm hml hP hK hD hA ret hl
  subst hR
  obtain ⟨H, hH⟩ : ∃ H, H = s.heap := ⟨_, rfl⟩
  obtain ⟨locs, hlocs⟩ : ∃ locs : List Loc, locs = [] := ⟨_, rfl⟩
  have hS : va_S A s.heap H locs := by rw [hH, hlocs]; exact va_S.rf
  rw [← hH] at hP
  suffices hgo : W p l e rmX12_turnOf s m args below meth c H locs 0 0 Q (F0 m 0 ls []) by rw [hH, hlocs] at hgo; exact hgo
  clear hH hlocs
  replace hl : lv_has ls 10 [(0, .long a0), (2, .long a2), (4, .long a4), (6, .long a6)] := hl
  replace hown : s.vm.findClass RX12 = some m.cls := hown
  unfold sX12_turnOf at h
  refine lv_lload_n hx hb dX12_turnOf_0 rfl (lv_at hl 0 rfl) ?_
  refine lv_lload hx hb dX12_turnOf_1 (lv_at hl 3 rfl) ?_
  refine lv_lmul hx hb dX12_turnOf_3 ?_
  refine lv_lload_n hx hb dX12_turnOf_4 rfl (lv_at hl 1 rfl) ?_
  refine lv_lload hx hb dX12_turnOf_5 (lv_at hl 2 rfl) ?_
  refine lv_lmul hx hb dX12_turnOf_7 ?_
  refine lv_lsub hx hb dX12_turnOf_8 ?_
  refine lv_topl (fun x1 ex1 => ?_)
  replace h := lt_at ex1 h
  refine lv_lstore (lv' := [(8, .long x1), (0, .long a0), (2, .long a2), (4, .long a4), (6, .long a6)]) hx hb dX12_turnOf_9 hl (by decide) rfl (fun ls hl => ?_)
  refine lv_lload hx hb dX12_turnOf_11 (lv_at hl 0 rfl) ?_
  refine lv_lconst (v := 0) hx hb dX12_turnOf_13 (by decide) ?_
  refine W.lcmp hx hb dX12_turnOf_14 ?_
  refine lv_if_ge (tgt := 22) hx hb dX12_turnOf_15 (by decide) (fun hc => ?_) (fun hc => ?_)
  · replace h := if_t hc h
    refine lv_lload hx hb dX12_turnOf_22 (lv_at hl 0 rfl) ?_
    refine lv_lconst (v := 0) hx hb dX12_turnOf_24 (by decide) ?_
    refine W.lcmp hx hb dX12_turnOf_25 ?_
    refine lv_if_ne (tgt := 33) hx hb dX12_turnOf_26 (by decide) (fun hc => ?_) (fun hc => ?_)
    · replace h := if_t hc h
      refine lv_iconst (v := 2) hx hb dX12_turnOf_33 (by decide) ?_
      cases h
      exact ret _ _ _ _ dX12_turnOf_34 hP hD hS
    · replace h := if_f (fun z => z hc) h
      refine lv_iconst (v := 1) hx hb dX12_turnOf_29 (by decide) ?_
      refine lv_goto (tgt := 34) hx hb dX12_turnOf_30 (by decide) ?_
      cases h
      exact ret _ _ _ _ dX12_turnOf_34 hP hD hS
  · replace h := if_f hc h
    refine lv_iconst (v := 0) hx hb dX12_turnOf_18 (by decide) ?_
    refine lv_goto (tgt := 34) hx hb dX12_turnOf_19 (by decide) ?_
    cases h
    exact ret _ _ _ _ dX12_turnOf_34 hP hD hS

def sX12_isSooner (a1 : Int64) (a3 : Int64) (a5 : Int32) (a6 : Int32) (a7 : Int32) (s_now_d : Nat → Int64) (s_now_x : Nat → Int64) (s_now_y : Nat → Int64) : Option (Int32) := ob (sX12_wayX a5 a6 s_now_d s_now_x) (fun o => dm1 o (fun (r1 : Int64) => ob (sX12_wayY a5 a6 s_now_d s_now_y) (fun o => dm1 o (fun (r2 : Int64) => ob (sX12_turnOf a1 a3 r1 r2) (fun o => dm1 o (fun (r3 : Int32) => ob (sX12_wayX a5 a7 s_now_d s_now_x) (fun o => dm1 o (fun (r4 : Int64) => ob (sX12_wayY a5 a7 s_now_d s_now_y) (fun o => dm1 o (fun (r5 : Int64) => ob (sX12_turnOf a1 a3 r4 r5) (fun o => dm1 o (fun (r6 : Int32) => if r3 = r6 then ob (sX12_wayX a5 a6 s_now_d s_now_x) (fun o => dm1 o (fun (r7 : Int64) => ob (sX12_wayY a5 a7 s_now_d s_now_y) (fun o => dm1 o (fun (r8 : Int64) => ob (sX12_wayY a5 a6 s_now_d s_now_y) (fun o => dm1 o (fun (r9 : Int64) => ob (sX12_wayX a5 a7 s_now_d s_now_x) (fun o => dm1 o (fun (r10 : Int64) => if 0 ≤ (lg_cmp ((r7 * r8) - (r9 * r10)) (0 : Int64)) then some (0 : Int32) else some (1 : Int32))))))))) else if r6 ≤ r3 then some (0 : Int32) else some (1 : Int32)))))))))))))
abbrev rmX12_isSooner : Room := { frames := 1, cells := 0, slots := 0, locals := 29 }
set_option maxHeartbeats 4000000 in
set_option maxRecDepth 100000 in
theorem c_X12_isSooner (l : Launch) (D : va_G) (ky : Nat → ClassId) (q_ q_now q_kept q_isKept q_paneOf q_firstStep q_kinds q_allowed q_colour q_picked q_lacking q_rackKind q_rackAllowed q_founds q_plus q_minus q_under q_work q_other q_order q_tried q_touches q_out q_cuts q_boxWide q_boxTall q_boxTurns q_goal q_now_ax q_now_ay q_now_bx q_now_by q_now_x q_now_y q_now_d q_now_from q_now_to q_now_firm : Nat) (a1 : Int64) (a3 : Int64) (a5 : Int32) (a6 : Int32) (a7 : Int32) (s_isWindow : Int32) (s_panes : Int32) (s_picks : Int32) (s_hasLack : Int32) (s_ordered : Int32) (s_now_w : Int32) (s_now_h : Int32) (s_now_leads : Int32) (s_now_lines : Int32) (s_now_joints : Int32) (s_now_pieces : Int32) (s_now_d : Nat → Int64) (s_now_x : Nat → Int64) (s_now_y : Nat → Int64) {o_r : Int32} (h : sX12_isSooner a1 a3 a5 a6 a7 s_now_d s_now_x s_now_y = some o_r) : MtI l D ky yX12_isSooner wsX12_isSooner rmX12_isSooner [.ref q_, .long a1, .long a3, .int a5, .int a6, .int a7] [(q_, .inr (12, [.ref q_now, .int s_isWindow, .ref q_kept, .ref q_isKept, .ref q_paneOf, .int s_panes, .ref q_firstStep, .ref q_kinds, .ref q_allowed, .ref q_colour, .ref q_picked, .int s_picks, .ref q_lacking, .int s_hasLack, .ref q_rackKind, .ref q_rackAllowed, .ref q_founds, .ref q_plus, .ref q_minus, .ref q_under, .ref q_work, .ref q_other, .ref q_order, .int s_ordered, .ref q_tried, .ref q_touches, .ref q_out, .ref q_cuts, .ref q_boxWide, .ref q_boxTall, .ref q_boxTurns, .ref q_goal])), (q_now, .inr (10, [.int s_now_w, .int s_now_h, .int s_now_leads, .int s_now_lines, .ref q_now_ax, .ref q_now_ay, .ref q_now_bx, .ref q_now_by, .int s_now_joints, .ref q_now_x, .ref q_now_y, .ref q_now_d, .int s_now_pieces, .ref q_now_from, .ref q_now_to, .ref q_now_firm])), (q_now_d, .inl (ky 1, 240, .inr (.inl s_now_d))), (q_now_x, .inl (ky 1, 240, .inr (.inl s_now_x))), (q_now_y, .inl (ky 1, 240, .inr (.inl s_now_y)))] [(q_, .inr (12, [.ref q_now, .int s_isWindow, .ref q_kept, .ref q_isKept, .ref q_paneOf, .int s_panes, .ref q_firstStep, .ref q_kinds, .ref q_allowed, .ref q_colour, .ref q_picked, .int s_picks, .ref q_lacking, .int s_hasLack, .ref q_rackKind, .ref q_rackAllowed, .ref q_founds, .ref q_plus, .ref q_minus, .ref q_under, .ref q_work, .ref q_other, .ref q_order, .int s_ordered, .ref q_tried, .ref q_touches, .ref q_out, .ref q_cuts, .ref q_boxWide, .ref q_boxTall, .ref q_boxTurns, .ref q_goal])), (q_now, .inr (10, [.int s_now_w, .int s_now_h, .int s_now_leads, .int s_now_lines, .ref q_now_ax, .ref q_now_ay, .ref q_now_bx, .ref q_now_by, .int s_now_joints, .ref q_now_x, .ref q_now_y, .ref q_now_d, .int s_now_pieces, .ref q_now_from, .ref q_now_to, .ref q_now_firm])), (q_now_d, .inl (ky 1, 240, .inr (.inl s_now_d))), (q_now_x, .inl (ky 1, 240, .inr (.inl s_now_x))), (q_now_y, .inl (ky 1, 240, .inr (.inl s_now_y)))] o_r 0 0 := by
  refine MtI.ofB (cc := cX12_isSooner) (maxL := 10) (by decide +kernel) rfl (Nat.le_of_ble_eq_true rfl) ?_
  intro p e R s m args below meth c A Q ls hR hx hb hts hown hnm hml hP hK hD hA ret hl
  subst hR
  obtain ⟨H, hH⟩ : ∃ H, H = s.heap := ⟨_, rfl⟩
  obtain ⟨locs, hlocs⟩ : ∃ locs : List Loc, locs = [] := ⟨_, rfl⟩
  have hS : va_S A s.heap H locs := by rw [hH, hlocs]; exact va_S.rf
  rw [← hH] at hP
  suffices hgo : W p l e rmX12_isSooner s m args below meth c H locs 0 0 Q (F0 m 0 ls []) by rw [hH, hlocs] at hgo; exact hgo
  clear hH hlocs
  replace hl : lv_has ls 10 [(0, .ref q_), (1, .long a1), (3, .long a3), (5, .int a5), (6, .int a6), (7, .int a7)] := hl
  replace hown : s.vm.findClass RX12 = some m.cls := hown
  unfold sX12_isSooner at h
  refine lv_lload_n hx hb dX12_isSooner_0 rfl (lv_at hl 1 rfl) ?_
  refine lv_lload_n hx hb dX12_isSooner_1 rfl (lv_at hl 2 rfl) ?_
  refine lv_aload_n hx hb dX12_isSooner_2 rfl (lv_at hl 0 rfl) ?_
  refine lv_iload hx hb dX12_isSooner_3 (lv_at hl 3 rfl) ?_
  refine lv_iload hx hb dX12_isSooner_5 (lv_at hl 4 rfl) ?_
  obtain ⟨r1, hc, h⟩ := ob_of h
  replace h := dm1_of h
  refine cv_l (As := [.int a5, .int a6]) (rest := [.long a3, .long a1]) (wr := [(q_now_y, .inl (ky 1, 240, .inr (.inl s_now_y)))]) (wn := [(q_, .inr (12, [.ref q_now, .int s_isWindow, .ref q_kept, .ref q_isKept, .ref q_paneOf, .int s_panes, .ref q_firstStep, .ref q_kinds, .ref q_allowed, .ref q_colour, .ref q_picked, .int s_picks, .ref q_lacking, .int s_hasLack, .ref q_rackKind, .ref q_rackAllowed, .ref q_founds, .ref q_plus, .ref q_minus, .ref q_under, .ref q_work, .ref q_other, .ref q_order, .int s_ordered, .ref q_tried, .ref q_touches, .ref q_out, .ref q_cuts, .ref q_boxWide, .ref q_boxTall, .ref q_boxTurns, .ref q_goal])), (q_now, .inr (10, [.int s_now_w, .int s_now_h, .int s_now_leads, .int s_now_lines, .ref q_now_ax, .ref q_now_ay, .ref q_now_bx, .ref q_now_by, .int s_now_joints, .ref q_now_x, .ref q_now_y, .ref q_now_d, .int s_now_pieces, .ref q_now_from, .ref q_now_to, .ref q_now_firm])), (q_now_d, .inl (ky 1, 240, .inr (.inl s_now_d))), (q_now_x, .inl (ky 1, 240, .inr (.inl s_now_x))), (q_now_y, .inl (ky 1, 240, .inr (.inl s_now_y)))]) ⟨hx, hb, hml, hown, hts⟩ (c_X12_wayX l D ky q_ q_now q_kept q_isKept q_paneOf q_firstStep q_kinds q_allowed q_colour q_picked q_lacking q_rackKind q_rackAllowed q_founds q_plus q_minus q_under q_work q_other q_order q_tried q_touches q_out q_cuts q_boxWide q_boxTall q_boxTurns q_goal q_now_ax q_now_ay q_now_bx q_now_by q_now_x q_now_y q_now_d q_now_from q_now_to q_now_firm a5 a6 s_isWindow s_panes s_picks s_hasLack s_ordered s_now_w s_now_h s_now_leads s_now_lines s_now_joints s_now_pieces s_now_d s_now_x hc) (cwV 2 hts gX12_isSooner_X12_wayX rfl rfl rfl (by decide +kernel) ⟨Nat.le_of_ble_eq_true rfl, Nat.le_of_ble_eq_true rfl⟩) (rcv hK.1 hP (q0 := 0) rfl rfl) hP hD hK hS hA [0, 1, 2, 3] [4] [1, 2, 3, 4, 0] rfl (by decide +kernel) rfl (by decide +kernel) (by decide +kernel) (by decide +kernel) rfl rfl rfl hl.1 (Nat.le_of_ble_eq_true rfl) dX12_isSooner_7 ⟨Nat.le_of_ble_eq_true rfl, Nat.le_of_ble_eq_true rfl⟩ (fun H locs hP hD hS => ?_)
  refine lv_aload_n hx hb dX12_isSooner_10 rfl (lv_at hl 0 rfl) ?_
  refine lv_iload hx hb dX12_isSooner_11 (lv_at hl 3 rfl) ?_
  refine lv_iload hx hb dX12_isSooner_13 (lv_at hl 4 rfl) ?_
  obtain ⟨r2, hc, h⟩ := ob_of h
  replace h := dm1_of h
  refine cv_l (As := [.int a5, .int a6]) (rest := [.long r1, .long a3, .long a1]) (wr := [(q_now_x, .inl (ky 1, 240, .inr (.inl s_now_x)))]) (wn := [(q_, .inr (12, [.ref q_now, .int s_isWindow, .ref q_kept, .ref q_isKept, .ref q_paneOf, .int s_panes, .ref q_firstStep, .ref q_kinds, .ref q_allowed, .ref q_colour, .ref q_picked, .int s_picks, .ref q_lacking, .int s_hasLack, .ref q_rackKind, .ref q_rackAllowed, .ref q_founds, .ref q_plus, .ref q_minus, .ref q_under, .ref q_work, .ref q_other, .ref q_order, .int s_ordered, .ref q_tried, .ref q_touches, .ref q_out, .ref q_cuts, .ref q_boxWide, .ref q_boxTall, .ref q_boxTurns, .ref q_goal])), (q_now, .inr (10, [.int s_now_w, .int s_now_h, .int s_now_leads, .int s_now_lines, .ref q_now_ax, .ref q_now_ay, .ref q_now_bx, .ref q_now_by, .int s_now_joints, .ref q_now_x, .ref q_now_y, .ref q_now_d, .int s_now_pieces, .ref q_now_from, .ref q_now_to, .ref q_now_firm])), (q_now_d, .inl (ky 1, 240, .inr (.inl s_now_d))), (q_now_x, .inl (ky 1, 240, .inr (.inl s_now_x))), (q_now_y, .inl (ky 1, 240, .inr (.inl s_now_y)))]) ⟨hx, hb, hml, hown, hts⟩ (c_X12_wayY l D ky q_ q_now q_kept q_isKept q_paneOf q_firstStep q_kinds q_allowed q_colour q_picked q_lacking q_rackKind q_rackAllowed q_founds q_plus q_minus q_under q_work q_other q_order q_tried q_touches q_out q_cuts q_boxWide q_boxTall q_boxTurns q_goal q_now_ax q_now_ay q_now_bx q_now_by q_now_x q_now_y q_now_d q_now_from q_now_to q_now_firm a5 a6 s_isWindow s_panes s_picks s_hasLack s_ordered s_now_w s_now_h s_now_leads s_now_lines s_now_joints s_now_pieces s_now_d s_now_y hc) (cwV 2 hts gX12_isSooner_X12_wayY rfl rfl rfl (by decide +kernel) ⟨Nat.le_of_ble_eq_true rfl, Nat.le_of_ble_eq_true rfl⟩) (rcv hK.1 hP (q0 := 0) rfl rfl) hP hD hK hS hA [0, 1, 2, 4] [3] [1, 2, 3, 0, 4] rfl (by decide +kernel) rfl (by decide +kernel) (by decide +kernel) (by decide +kernel) rfl rfl rfl hl.1 (Nat.le_of_ble_eq_true rfl) dX12_isSooner_15 ⟨Nat.le_of_ble_eq_true rfl, Nat.le_of_ble_eq_true rfl⟩ (fun H locs hP hD hS => ?_)
  obtain ⟨r3, hc, h⟩ := ob_of h
  replace h := dm1_of h
  refine cs_i (As := [.long a1, .long a3, .long r1, .long r2]) (rest := []) (wr := [(q_, .inr (12, [.ref q_now, .int s_isWindow, .ref q_kept, .ref q_isKept, .ref q_paneOf, .int s_panes, .ref q_firstStep, .ref q_kinds, .ref q_allowed, .ref q_colour, .ref q_picked, .int s_picks, .ref q_lacking, .int s_hasLack, .ref q_rackKind, .ref q_rackAllowed, .ref q_founds, .ref q_plus, .ref q_minus, .ref q_under, .ref q_work, .ref q_other, .ref q_order, .int s_ordered, .ref q_tried, .ref q_touches, .ref q_out, .ref q_cuts, .ref q_boxWide, .ref q_boxTall, .ref q_boxTurns, .ref q_goal])), (q_now, .inr (10, [.int s_now_w, .int s_now_h, .int s_now_leads, .int s_now_lines, .ref q_now_ax, .ref q_now_ay, .ref q_now_bx, .ref q_now_by, .int s_now_joints, .ref q_now_x, .ref q_now_y, .ref q_now_d, .int s_now_pieces, .ref q_now_from, .ref q_now_to, .ref q_now_firm])), (q_now_d, .inl (ky 1, 240, .inr (.inl s_now_d))), (q_now_x, .inl (ky 1, 240, .inr (.inl s_now_x))), (q_now_y, .inl (ky 1, 240, .inr (.inl s_now_y)))]) (wn := [(q_, .inr (12, [.ref q_now, .int s_isWindow, .ref q_kept, .ref q_isKept, .ref q_paneOf, .int s_panes, .ref q_firstStep, .ref q_kinds, .ref q_allowed, .ref q_colour, .ref q_picked, .int s_picks, .ref q_lacking, .int s_hasLack, .ref q_rackKind, .ref q_rackAllowed, .ref q_founds, .ref q_plus, .ref q_minus, .ref q_under, .ref q_work, .ref q_other, .ref q_order, .int s_ordered, .ref q_tried, .ref q_touches, .ref q_out, .ref q_cuts, .ref q_boxWide, .ref q_boxTall, .ref q_boxTurns, .ref q_goal])), (q_now, .inr (10, [.int s_now_w, .int s_now_h, .int s_now_leads, .int s_now_lines, .ref q_now_ax, .ref q_now_ay, .ref q_now_bx, .ref q_now_by, .int s_now_joints, .ref q_now_x, .ref q_now_y, .ref q_now_d, .int s_now_pieces, .ref q_now_from, .ref q_now_to, .ref q_now_firm])), (q_now_d, .inl (ky 1, 240, .inr (.inl s_now_d))), (q_now_x, .inl (ky 1, 240, .inr (.inl s_now_x))), (q_now_y, .inl (ky 1, 240, .inr (.inl s_now_y)))]) ⟨hx, hb, hml, hown, hts⟩ (c_X12_turnOf l D ky a1 a3 r1 r2 hc) (va_cwS 4 hts gX12_isSooner_X12_turnOf rfl rfl rfl (by decide +kernel) ⟨Nat.le_of_ble_eq_true rfl, Nat.le_of_ble_eq_true rfl⟩) hP hD hK hS hA [] [0, 1, 2, 3, 4] [0, 1, 2, 3, 4] rfl (by decide +kernel) rfl (by decide +kernel) (by decide +kernel) (by decide +kernel) rfl rfl rfl hl.1 (Nat.le_of_ble_eq_true rfl) dX12_isSooner_18 ⟨Nat.le_of_ble_eq_true rfl, Nat.le_of_ble_eq_true rfl⟩ (fun H locs hP hD hS => ?_)
  refine lv_istore (lv' := [(8, .int r3), (0, .ref q_), (1, .long a1), (3, .long a3), (5, .int a5), (6, .int a6), (7, .int a7)]) hx hb dX12_isSooner_21 hl (by decide) rfl (fun ls hl => ?_)
  refine lv_lload_n hx hb dX12_isSooner_23 rfl (lv_at hl 2 rfl) ?_
  refine lv_lload_n hx hb dX12_isSooner_24 rfl (lv_at hl 3 rfl) ?_
  refine lv_aload_n hx hb dX12_isSooner_25 rfl (lv_at hl 1 rfl) ?_
  refine lv_iload hx hb dX12_isSooner_26 (lv_at hl 4 rfl) ?_
  refine lv_iload hx hb dX12_isSooner_28 (lv_at hl 6 rfl) ?_
  obtain ⟨r4, hc, h⟩ := ob_of h
  replace h := dm1_of h
  refine cv_l (As := [.int a5, .int a7]) (rest := [.long a3, .long a1]) (wr := [(q_now_y, .inl (ky 1, 240, .inr (.inl s_now_y)))]) (wn := [(q_, .inr (12, [.ref q_now, .int s_isWindow, .ref q_kept, .ref q_isKept, .ref q_paneOf, .int s_panes, .ref q_firstStep, .ref q_kinds, .ref q_allowed, .ref q_colour, .ref q_picked, .int s_picks, .ref q_lacking, .int s_hasLack, .ref q_rackKind, .ref q_rackAllowed, .ref q_founds, .ref q_plus, .ref q_minus, .ref q_under, .ref q_work, .ref q_other, .ref q_order, .int s_ordered, .ref q_tried, .ref q_touches, .ref q_out, .ref q_cuts, .ref q_boxWide, .ref q_boxTall, .ref q_boxTurns, .ref q_goal])), (q_now, .inr (10, [.int s_now_w, .int s_now_h, .int s_now_leads, .int s_now_lines, .ref q_now_ax, .ref q_now_ay, .ref q_now_bx, .ref q_now_by, .int s_now_joints, .ref q_now_x, .ref q_now_y, .ref q_now_d, .int s_now_pieces, .ref q_now_from, .ref q_now_to, .ref q_now_firm])), (q_now_d, .inl (ky 1, 240, .inr (.inl s_now_d))), (q_now_x, .inl (ky 1, 240, .inr (.inl s_now_x))), (q_now_y, .inl (ky 1, 240, .inr (.inl s_now_y)))]) ⟨hx, hb, hml, hown, hts⟩ (c_X12_wayX l D ky q_ q_now q_kept q_isKept q_paneOf q_firstStep q_kinds q_allowed q_colour q_picked q_lacking q_rackKind q_rackAllowed q_founds q_plus q_minus q_under q_work q_other q_order q_tried q_touches q_out q_cuts q_boxWide q_boxTall q_boxTurns q_goal q_now_ax q_now_ay q_now_bx q_now_by q_now_x q_now_y q_now_d q_now_from q_now_to q_now_firm a5 a7 s_isWindow s_panes s_picks s_hasLack s_ordered s_now_w s_now_h s_now_leads s_now_lines s_now_joints s_now_pieces s_now_d s_now_x hc) (cwV 2 hts gX12_isSooner_X12_wayX rfl rfl rfl (by decide +kernel) ⟨Nat.le_of_ble_eq_true rfl, Nat.le_of_ble_eq_true rfl⟩) (rcv hK.1 hP (q0 := 0) rfl rfl) hP hD hK hS hA [0, 1, 2, 3] [4] [1, 2, 3, 4, 0] rfl (by decide +kernel) rfl (by decide +kernel) (by decide +kernel) (by decide +kernel) rfl rfl rfl hl.1 (Nat.le_of_ble_eq_true rfl) dX12_isSooner_30 ⟨Nat.le_of_ble_eq_true rfl, Nat.le_of_ble_eq_true rfl⟩ (fun H locs hP hD hS => ?_)
  refine lv_aload_n hx hb dX12_isSooner_33 rfl (lv_at hl 1 rfl) ?_
  refine lv_iload hx hb dX12_isSooner_34 (lv_at hl 4 rfl) ?_
  refine lv_iload hx hb dX12_isSooner_36 (lv_at hl 6 rfl) ?_
  obtain ⟨r5, hc, h⟩ := ob_of h
  replace h := dm1_of h
  refine cv_l (As := [.int a5, .int a7]) (rest := [.long r4, .long a3, .long a1]) (wr := [(q_now_x, .inl (ky 1, 240, .inr (.inl s_now_x)))]) (wn := [(q_, .inr (12, [.ref q_now, .int s_isWindow, .ref q_kept, .ref q_isKept, .ref q_paneOf, .int s_panes, .ref q_firstStep, .ref q_kinds, .ref q_allowed, .ref q_colour, .ref q_picked, .int s_picks, .ref q_lacking, .int s_hasLack, .ref q_rackKind, .ref q_rackAllowed, .ref q_founds, .ref q_plus, .ref q_minus, .ref q_under, .ref q_work, .ref q_other, .ref q_order, .int s_ordered, .ref q_tried, .ref q_touches, .ref q_out, .ref q_cuts, .ref q_boxWide, .ref q_boxTall, .ref q_boxTurns, .ref q_goal])), (q_now, .inr (10, [.int s_now_w, .int s_now_h, .int s_now_leads, .int s_now_lines, .ref q_now_ax, .ref q_now_ay, .ref q_now_bx, .ref q_now_by, .int s_now_joints, .ref q_now_x, .ref q_now_y, .ref q_now_d, .int s_now_pieces, .ref q_now_from, .ref q_now_to, .ref q_now_firm])), (q_now_d, .inl (ky 1, 240, .inr (.inl s_now_d))), (q_now_x, .inl (ky 1, 240, .inr (.inl s_now_x))), (q_now_y, .inl (ky 1, 240, .inr (.inl s_now_y)))]) ⟨hx, hb, hml, hown, hts⟩ (c_X12_wayY l D ky q_ q_now q_kept q_isKept q_paneOf q_firstStep q_kinds q_allowed q_colour q_picked q_lacking q_rackKind q_rackAllowed q_founds q_plus q_minus q_under q_work q_other q_order q_tried q_touches q_out q_cuts q_boxWide q_boxTall q_boxTurns q_goal q_now_ax q_now_ay q_now_bx q_now_by q_now_x q_now_y q_now_d q_now_from q_now_to q_now_firm a5 a7 s_isWindow s_panes s_picks s_hasLack s_ordered s_now_w s_now_h s_now_leads s_now_lines s_now_joints s_now_pieces s_now_d s_now_y hc) (cwV 2 hts gX12_isSooner_X12_wayY rfl rfl rfl (by decide +kernel) ⟨Nat.le_of_ble_eq_true rfl, Nat.le_of_ble_eq_true rfl⟩) (rcv hK.1 hP (q0 := 0) rfl rfl) hP hD hK hS hA [0, 1, 2, 4] [3] [1, 2, 3, 0, 4] rfl (by decide +kernel) rfl (by decide +kernel) (by decide +kernel) (by decide +kernel) rfl rfl rfl hl.1 (Nat.le_of_ble_eq_true rfl) dX12_isSooner_38 ⟨Nat.le_of_ble_eq_true rfl, Nat.le_of_ble_eq_true rfl⟩ (fun H locs hP hD hS => ?_)
  obtain ⟨r6, hc, h⟩ := ob_of h
  replace h := dm1_of h
  refine cs_i (As := [.long a1, .long a3, .long r4, .long r5]) (rest := []) (wr := [(q_, .inr (12, [.ref q_now, .int s_isWindow, .ref q_kept, .ref q_isKept, .ref q_paneOf, .int s_panes, .ref q_firstStep, .ref q_kinds, .ref q_allowed, .ref q_colour, .ref q_picked, .int s_picks, .ref q_lacking, .int s_hasLack, .ref q_rackKind, .ref q_rackAllowed, .ref q_founds, .ref q_plus, .ref q_minus, .ref q_under, .ref q_work, .ref q_other, .ref q_order, .int s_ordered, .ref q_tried, .ref q_touches, .ref q_out, .ref q_cuts, .ref q_boxWide, .ref q_boxTall, .ref q_boxTurns, .ref q_goal])), (q_now, .inr (10, [.int s_now_w, .int s_now_h, .int s_now_leads, .int s_now_lines, .ref q_now_ax, .ref q_now_ay, .ref q_now_bx, .ref q_now_by, .int s_now_joints, .ref q_now_x, .ref q_now_y, .ref q_now_d, .int s_now_pieces, .ref q_now_from, .ref q_now_to, .ref q_now_firm])), (q_now_d, .inl (ky 1, 240, .inr (.inl s_now_d))), (q_now_x, .inl (ky 1, 240, .inr (.inl s_now_x))), (q_now_y, .inl (ky 1, 240, .inr (.inl s_now_y)))]) (wn := [(q_, .inr (12, [.ref q_now, .int s_isWindow, .ref q_kept, .ref q_isKept, .ref q_paneOf, .int s_panes, .ref q_firstStep, .ref q_kinds, .ref q_allowed, .ref q_colour, .ref q_picked, .int s_picks, .ref q_lacking, .int s_hasLack, .ref q_rackKind, .ref q_rackAllowed, .ref q_founds, .ref q_plus, .ref q_minus, .ref q_under, .ref q_work, .ref q_other, .ref q_order, .int s_ordered, .ref q_tried, .ref q_touches, .ref q_out, .ref q_cuts, .ref q_boxWide, .ref q_boxTall, .ref q_boxTurns, .ref q_goal])), (q_now, .inr (10, [.int s_now_w, .int s_now_h, .int s_now_leads, .int s_now_lines, .ref q_now_ax, .ref q_now_ay, .ref q_now_bx, .ref q_now_by, .int s_now_joints, .ref q_now_x, .ref q_now_y, .ref q_now_d, .int s_now_pieces, .ref q_now_from, .ref q_now_to, .ref q_now_firm])), (q_now_d, .inl (ky 1, 240, .inr (.inl s_now_d))), (q_now_x, .inl (ky 1, 240, .inr (.inl s_now_x))), (q_now_y, .inl (ky 1, 240, .inr (.inl s_now_y)))]) ⟨hx, hb, hml, hown, hts⟩ (c_X12_turnOf l D ky a1 a3 r4 r5 hc) (va_cwS 4 hts gX12_isSooner_X12_turnOf rfl rfl rfl (by decide +kernel) ⟨Nat.le_of_ble_eq_true rfl, Nat.le_of_ble_eq_true rfl⟩) hP hD hK hS hA [] [0, 1, 2, 3, 4] [0, 1, 2, 3, 4] rfl (by decide +kernel) rfl (by decide +kernel) (by decide +kernel) (by decide +kernel) rfl rfl rfl hl.1 (Nat.le_of_ble_eq_true rfl) dX12_isSooner_41 ⟨Nat.le_of_ble_eq_true rfl, Nat.le_of_ble_eq_true rfl⟩ (fun H locs hP hD hS => ?_)
  refine lv_istore (lv' := [(9, .int r6), (8, .int r3), (0, .ref q_), (1, .long a1), (3, .long a3), (5, .int a5), (6, .int a6), (7, .int a7)]) hx hb dX12_isSooner_44 hl (by decide) rfl (fun ls hl => ?_)
  refine lv_iload hx hb dX12_isSooner_46 (lv_at hl 1 rfl) ?_
  refine lv_iload hx hb dX12_isSooner_48 (lv_at hl 0 rfl) ?_
  refine lv_icmp_eq (tgt := 68) hx hb dX12_isSooner_50 (by decide) (fun hc => ?_) (fun hc => ?_)
  · replace h := if_t hc h
    refine lv_aload_n hx hb dX12_isSooner_68 rfl (lv_at hl 2 rfl) ?_
    refine lv_iload hx hb dX12_isSooner_69 (lv_at hl 5 rfl) ?_
    refine lv_iload hx hb dX12_isSooner_71 (lv_at hl 6 rfl) ?_
    obtain ⟨r7, hc, h⟩ := ob_of h
    replace h := dm1_of h
    refine cv_l (As := [.int a5, .int a6]) (rest := []) (wr := [(q_now_y, .inl (ky 1, 240, .inr (.inl s_now_y)))]) (wn := [(q_, .inr (12, [.ref q_now, .int s_isWindow, .ref q_kept, .ref q_isKept, .ref q_paneOf, .int s_panes, .ref q_firstStep, .ref q_kinds, .ref q_allowed, .ref q_colour, .ref q_picked, .int s_picks, .ref q_lacking, .int s_hasLack, .ref q_rackKind, .ref q_rackAllowed, .ref q_founds, .ref q_plus, .ref q_minus, .ref q_under, .ref q_work, .ref q_other, .ref q_order, .int s_ordered, .ref q_tried, .ref q_touches, .ref q_out, .ref q_cuts, .ref q_boxWide, .ref q_boxTall, .ref q_boxTurns, .ref q_goal])), (q_now, .inr (10, [.int s_now_w, .int s_now_h, .int s_now_leads, .int s_now_lines, .ref q_now_ax, .ref q_now_ay, .ref q_now_bx, .ref q_now_by, .int s_now_joints, .ref q_now_x, .ref q_now_y, .ref q_now_d, .int s_now_pieces, .ref q_now_from, .ref q_now_to, .ref q_now_firm])), (q_now_d, .inl (ky 1, 240, .inr (.inl s_now_d))), (q_now_x, .inl (ky 1, 240, .inr (.inl s_now_x))), (q_now_y, .inl (ky 1, 240, .inr (.inl s_now_y)))]) ⟨hx, hb, hml, hown, hts⟩ (c_X12_wayX l D ky q_ q_now q_kept q_isKept q_paneOf q_firstStep q_kinds q_allowed q_colour q_picked q_lacking q_rackKind q_rackAllowed q_founds q_plus q_minus q_under q_work q_other q_order q_tried q_touches q_out q_cuts q_boxWide q_boxTall q_boxTurns q_goal q_now_ax q_now_ay q_now_bx q_now_by q_now_x q_now_y q_now_d q_now_from q_now_to q_now_firm a5 a6 s_isWindow s_panes s_picks s_hasLack s_ordered s_now_w s_now_h s_now_leads s_now_lines s_now_joints s_now_pieces s_now_d s_now_x hc) (cwV 2 hts gX12_isSooner_X12_wayX rfl rfl rfl (by decide +kernel) ⟨Nat.le_of_ble_eq_true rfl, Nat.le_of_ble_eq_true rfl⟩) (rcv hK.1 hP (q0 := 0) rfl rfl) hP hD hK hS hA [0, 1, 2, 3] [4] [1, 2, 3, 4, 0] rfl (by decide +kernel) rfl (by decide +kernel) (by decide +kernel) (by decide +kernel) rfl rfl rfl hl.1 (Nat.le_of_ble_eq_true rfl) dX12_isSooner_73 ⟨Nat.le_of_ble_eq_true rfl, Nat.le_of_ble_eq_true rfl⟩ (fun H locs hP hD hS => ?_)
    refine lv_aload_n hx hb dX12_isSooner_76 rfl (lv_at hl 2 rfl) ?_
    refine lv_iload hx hb dX12_isSooner_77 (lv_at hl 5 rfl) ?_
    refine lv_iload hx hb dX12_isSooner_79 (lv_at hl 7 rfl) ?_
    obtain ⟨r8, hc, h⟩ := ob_of h
    replace h := dm1_of h
    refine cv_l (As := [.int a5, .int a7]) (rest := [.long r7]) (wr := [(q_now_x, .inl (ky 1, 240, .inr (.inl s_now_x)))]) (wn := [(q_, .inr (12, [.ref q_now, .int s_isWindow, .ref q_kept, .ref q_isKept, .ref q_paneOf, .int s_panes, .ref q_firstStep, .ref q_kinds, .ref q_allowed, .ref q_colour, .ref q_picked, .int s_picks, .ref q_lacking, .int s_hasLack, .ref q_rackKind, .ref q_rackAllowed, .ref q_founds, .ref q_plus, .ref q_minus, .ref q_under, .ref q_work, .ref q_other, .ref q_order, .int s_ordered, .ref q_tried, .ref q_touches, .ref q_out, .ref q_cuts, .ref q_boxWide, .ref q_boxTall, .ref q_boxTurns, .ref q_goal])), (q_now, .inr (10, [.int s_now_w, .int s_now_h, .int s_now_leads, .int s_now_lines, .ref q_now_ax, .ref q_now_ay, .ref q_now_bx, .ref q_now_by, .int s_now_joints, .ref q_now_x, .ref q_now_y, .ref q_now_d, .int s_now_pieces, .ref q_now_from, .ref q_now_to, .ref q_now_firm])), (q_now_d, .inl (ky 1, 240, .inr (.inl s_now_d))), (q_now_x, .inl (ky 1, 240, .inr (.inl s_now_x))), (q_now_y, .inl (ky 1, 240, .inr (.inl s_now_y)))]) ⟨hx, hb, hml, hown, hts⟩ (c_X12_wayY l D ky q_ q_now q_kept q_isKept q_paneOf q_firstStep q_kinds q_allowed q_colour q_picked q_lacking q_rackKind q_rackAllowed q_founds q_plus q_minus q_under q_work q_other q_order q_tried q_touches q_out q_cuts q_boxWide q_boxTall q_boxTurns q_goal q_now_ax q_now_ay q_now_bx q_now_by q_now_x q_now_y q_now_d q_now_from q_now_to q_now_firm a5 a7 s_isWindow s_panes s_picks s_hasLack s_ordered s_now_w s_now_h s_now_leads s_now_lines s_now_joints s_now_pieces s_now_d s_now_y hc) (cwV 2 hts gX12_isSooner_X12_wayY rfl rfl rfl (by decide +kernel) ⟨Nat.le_of_ble_eq_true rfl, Nat.le_of_ble_eq_true rfl⟩) (rcv hK.1 hP (q0 := 0) rfl rfl) hP hD hK hS hA [0, 1, 2, 4] [3] [1, 2, 3, 0, 4] rfl (by decide +kernel) rfl (by decide +kernel) (by decide +kernel) (by decide +kernel) rfl rfl rfl hl.1 (Nat.le_of_ble_eq_true rfl) dX12_isSooner_81 ⟨Nat.le_of_ble_eq_true rfl, Nat.le_of_ble_eq_true rfl⟩ (fun H locs hP hD hS => ?_)
    refine lv_lmul hx hb dX12_isSooner_84 ?_
    refine lv_aload_n hx hb dX12_isSooner_85 rfl (lv_at hl 2 rfl) ?_
    refine lv_iload hx hb dX12_isSooner_86 (lv_at hl 5 rfl) ?_
    refine lv_iload hx hb dX12_isSooner_88 (lv_at hl 6 rfl) ?_
    obtain ⟨r9, hc, h⟩ := ob_of h
    replace h := dm1_of h
    refine cv_l (As := [.int a5, .int a6]) (rest := [.long (r7 * r8)]) (wr := [(q_now_x, .inl (ky 1, 240, .inr (.inl s_now_x)))]) (wn := [(q_, .inr (12, [.ref q_now, .int s_isWindow, .ref q_kept, .ref q_isKept, .ref q_paneOf, .int s_panes, .ref q_firstStep, .ref q_kinds, .ref q_allowed, .ref q_colour, .ref q_picked, .int s_picks, .ref q_lacking, .int s_hasLack, .ref q_rackKind, .ref q_rackAllowed, .ref q_founds, .ref q_plus, .ref q_minus, .ref q_under, .ref q_work, .ref q_other, .ref q_order, .int s_ordered, .ref q_tried, .ref q_touches, .ref q_out, .ref q_cuts, .ref q_boxWide, .ref q_boxTall, .ref q_boxTurns, .ref q_goal])), (q_now, .inr (10, [.int s_now_w, .int s_now_h, .int s_now_leads, .int s_now_lines, .ref q_now_ax, .ref q_now_ay, .ref q_now_bx, .ref q_now_by, .int s_now_joints, .ref q_now_x, .ref q_now_y, .ref q_now_d, .int s_now_pieces, .ref q_now_from, .ref q_now_to, .ref q_now_firm])), (q_now_d, .inl (ky 1, 240, .inr (.inl s_now_d))), (q_now_x, .inl (ky 1, 240, .inr (.inl s_now_x))), (q_now_y, .inl (ky 1, 240, .inr (.inl s_now_y)))]) ⟨hx, hb, hml, hown, hts⟩ (c_X12_wayY l D ky q_ q_now q_kept q_isKept q_paneOf q_firstStep q_kinds q_allowed q_colour q_picked q_lacking q_rackKind q_rackAllowed q_founds q_plus q_minus q_under q_work q_other q_order q_tried q_touches q_out q_cuts q_boxWide q_boxTall q_boxTurns q_goal q_now_ax q_now_ay q_now_bx q_now_by q_now_x q_now_y q_now_d q_now_from q_now_to q_now_firm a5 a6 s_isWindow s_panes s_picks s_hasLack s_ordered s_now_w s_now_h s_now_leads s_now_lines s_now_joints s_now_pieces s_now_d s_now_y hc) (cwV 2 hts gX12_isSooner_X12_wayY rfl rfl rfl (by decide +kernel) ⟨Nat.le_of_ble_eq_true rfl, Nat.le_of_ble_eq_true rfl⟩) (rcv hK.1 hP (q0 := 0) rfl rfl) hP hD hK hS hA [0, 1, 2, 4] [3] [1, 2, 3, 0, 4] rfl (by decide +kernel) rfl (by decide +kernel) (by decide +kernel) (by decide +kernel) rfl rfl rfl hl.1 (Nat.le_of_ble_eq_true rfl) dX12_isSooner_90 ⟨Nat.le_of_ble_eq_true rfl, Nat.le_of_ble_eq_true rfl⟩ (fun H locs hP hD hS => ?_)
    refine lv_aload_n hx hb dX12_isSooner_93 rfl (lv_at hl 2 rfl) ?_
    refine lv_iload hx hb dX12_isSooner_94 (lv_at hl 5 rfl) ?_
    refine lv_iload hx hb dX12_isSooner_96 (lv_at hl 7 rfl) ?_
    obtain ⟨r10, hc, h⟩ := ob_of h
    replace h := dm1_of h
    refine cv_l (As := [.int a5, .int a7]) (rest := [.long r9, .long (r7 * r8)]) (wr := [(q_now_y, .inl (ky 1, 240, .inr (.inl s_now_y)))]) (wn := [(q_, .inr (12, [.ref q_now, .int s_isWindow, .ref q_kept, .ref q_isKept, .ref q_paneOf, .int s_panes, .ref q_firstStep, .ref q_kinds, .ref q_allowed, .ref q_colour, .ref q_picked, .int s_picks, .ref q_lacking, .int s_hasLack, .ref q_rackKind, .ref q_rackAllowed, .ref q_founds, .ref q_plus, .ref q_minus, .ref q_under, .ref q_work, .ref q_other, .ref q_order, .int s_ordered, .ref q_tried, .ref q_touches, .ref q_out, .ref q_cuts, .ref q_boxWide, .ref q_boxTall, .ref q_boxTurns, .ref q_goal])), (q_now, .inr (10, [.int s_now_w, .int s_now_h, .int s_now_leads, .int s_now_lines, .ref q_now_ax, .ref q_now_ay, .ref q_now_bx, .ref q_now_by, .int s_now_joints, .ref q_now_x, .ref q_now_y, .ref q_now_d, .int s_now_pieces, .ref q_now_from, .ref q_now_to, .ref q_now_firm])), (q_now_d, .inl (ky 1, 240, .inr (.inl s_now_d))), (q_now_x, .inl (ky 1, 240, .inr (.inl s_now_x))), (q_now_y, .inl (ky 1, 240, .inr (.inl s_now_y)))]) ⟨hx, hb, hml, hown, hts⟩ (c_X12_wayX l D ky q_ q_now q_kept q_isKept q_paneOf q_firstStep q_kinds q_allowed q_colour q_picked q_lacking q_rackKind q_rackAllowed q_founds q_plus q_minus q_under q_work q_other q_order q_tried q_touches q_out q_cuts q_boxWide q_boxTall q_boxTurns q_goal q_now_ax q_now_ay q_now_bx q_now_by q_now_x q_now_y q_now_d q_now_from q_now_to q_now_firm a5 a7 s_isWindow s_panes s_picks s_hasLack s_ordered s_now_w s_now_h s_now_leads s_now_lines s_now_joints s_now_pieces s_now_d s_now_x hc) (cwV 2 hts gX12_isSooner_X12_wayX rfl rfl rfl (by decide +kernel) ⟨Nat.le_of_ble_eq_true rfl, Nat.le_of_ble_eq_true rfl⟩) (rcv hK.1 hP (q0 := 0) rfl rfl) hP hD hK hS hA [0, 1, 2, 3] [4] [1, 2, 3, 4, 0] rfl (by decide +kernel) rfl (by decide +kernel) (by decide +kernel) (by decide +kernel) rfl rfl rfl hl.1 (Nat.le_of_ble_eq_true rfl) dX12_isSooner_98 ⟨Nat.le_of_ble_eq_true rfl, Nat.le_of_ble_eq_true rfl⟩ (fun H locs hP hD hS => ?_)
    refine lv_lmul hx hb dX12_isSooner_101 ?_
    refine lv_lsub hx hb dX12_isSooner_102 ?_
    refine lv_lconst (v := 0) hx hb dX12_isSooner_103 (by decide) ?_
    refine W.lcmp hx hb dX12_isSooner_104 ?_
    refine lv_if_ge (tgt := 112) hx hb dX12_isSooner_105 (by decide) (fun hc => ?_) (fun hc => ?_)
    · replace h := if_t hc h
      refine lv_iconst (v := 0) hx hb dX12_isSooner_112 (by decide) ?_
      cases h
      exact ret _ _ _ _ (Or.inl rfl) dX12_isSooner_113 hP hD hS
    · replace h := if_f hc h
      refine lv_iconst (v := 1) hx hb dX12_isSooner_108 (by decide) ?_
      refine lv_goto (tgt := 113) hx hb dX12_isSooner_109 (by decide) ?_
      cases h
      exact ret _ _ _ _ (Or.inr rfl) dX12_isSooner_113 hP hD hS
  · replace h := if_f hc h
    refine lv_iload hx hb dX12_isSooner_53 (lv_at hl 1 rfl) ?_
    refine lv_iload hx hb dX12_isSooner_55 (lv_at hl 0 rfl) ?_
    refine lv_icmp_ge (tgt := 64) hx hb dX12_isSooner_57 (by decide) (fun hc => ?_) (fun hc => ?_)
    · replace h := if_t hc h
      refine lv_iconst (v := 0) hx hb dX12_isSooner_64 (by decide) ?_
      refine lv_goto (tgt := 113) hx hb dX12_isSooner_65 (by decide) ?_
      cases h
      exact ret _ _ _ _ (Or.inl rfl) dX12_isSooner_113 hP hD hS
    · replace h := if_f hc h
      refine lv_iconst (v := 1) hx hb dX12_isSooner_60 (by decide) ?_
      refine lv_goto (tgt := 113) hx hb dX12_isSooner_61 (by decide) ?_
      cases h
      exact ret _ _ _ _ (Or.inr rfl) dX12_isSooner_113 hP hD hS

def bX12_next_34 (s_now_pieces : Int32) (s_now_d : Nat → Int64) (s_now_firm : Nat → Int32) (s_now_from : Nat → Int32) (s_now_to : Nat → Int32) (s_now_x : Nat → Int64) (s_now_y : Nat → Int64) (r1 : Int32) (r2 : Int32) (r3 : Int64) (r4 : Int64) (t : Int32 × Int32) : Option (Nat × (Int32 × Int32)) := dm2 t (fun (v5 : Int32) (v6 : Int32) => if ((2 : Int32) * s_now_pieces) ≤ v6 then some (1, (v5, v6)) else gd (¬ (2 : Int32) = 0) (gd (¬ ((v6 / (2 : Int32)) < 0 ∨ 800 ≤ (v6 / (2 : Int32)).toNatClampNeg)) (ob (if (s_now_firm (v6 / (2 : Int32)).toNatClampNeg) = 0 then some v5 else ob (sX12_beginOf v6 s_now_from s_now_to) (fun o => dm1 o (fun (r9 : Int32) => if ¬ r9 = r2 then some v5 else ob (sX12_endOf v6 s_now_from s_now_to) (fun o => dm1 o (fun (r10 : Int32) => if ¬ r10 = r1 then if v5 < 0 then some v6 else ob (sX12_endOf v6 s_now_from s_now_to) (fun o => dm1 o (fun (r11 : Int32) => ob (sX12_endOf v5 s_now_from s_now_to) (fun o => dm1 o (fun (r12 : Int32) => ob (sX12_isSooner r3 r4 r2 r11 r12 s_now_d s_now_x s_now_y) (fun o => dm1 o (fun (r13 : Int32) => if r13 = 0 then some v5 else some v6)))))) else some v5))))) (fun t => dm1 t (fun (v7 : Int32) => lt (v6 + 1) (fun x8 => some (0, (v7, x8))))))))
def sX12_next (a1 : Int32) (s_now_pieces : Int32) (s_now_d : Nat → Int64) (s_now_firm : Nat → Int32) (s_now_from : Nat → Int32) (s_now_to : Nat → Int32) (s_now_x : Nat → Int64) (s_now_y : Nat → Int64) : Option (Int32) := ob (sX12_beginOf a1 s_now_from s_now_to) (fun o => dm1 o (fun (r1 : Int32) => ob (sX12_endOf a1 s_now_from s_now_to) (fun o => dm1 o (fun (r2 : Int32) => ob (sX12_wayX r2 r1 s_now_d s_now_x) (fun o => dm1 o (fun (r3 : Int64) => ob (sX12_wayY r2 r1 s_now_d s_now_y) (fun o => dm1 o (fun (r4 : Int64) => ob (iter (bX12_next_34 s_now_pieces s_now_d s_now_firm s_now_from s_now_to s_now_x s_now_y r1 r2 r3 r4) FU ((-1 : Int32), (0 : Int32))) (fun kt => ex1 kt (fun t => dm2 t (fun (v14 : Int32) (v15 : Int32) => if 0 ≤ v14 then some v14 else some (a1 ^^^ (1 : Int32)))))))))))))
abbrev rmX12_next : Room := { frames := 2, cells := 0, slots := 0, locals := 58 }
set_option maxHeartbeats 4000000 in
set_option maxRecDepth 100000 in
theorem c_X12_next (l : Launch) (D : va_G) (ky : Nat → ClassId) (q_ q_now q_kept q_isKept q_paneOf q_firstStep q_kinds q_allowed q_colour q_picked q_lacking q_rackKind q_rackAllowed q_founds q_plus q_minus q_under q_work q_other q_order q_tried q_touches q_out q_cuts q_boxWide q_boxTall q_boxTurns q_goal q_now_ax q_now_ay q_now_bx q_now_by q_now_x q_now_y q_now_d q_now_from q_now_to q_now_firm : Nat) (a1 : Int32) (s_isWindow : Int32) (s_panes : Int32) (s_picks : Int32) (s_hasLack : Int32) (s_ordered : Int32) (s_now_w : Int32) (s_now_h : Int32) (s_now_leads : Int32) (s_now_lines : Int32) (s_now_joints : Int32) (s_now_pieces : Int32) (s_now_d : Nat → Int64) (s_now_firm : Nat → Int32) (s_now_from : Nat → Int32) (s_now_to : Nat → Int32) (s_now_x : Nat → Int64) (s_now_y : Nat → Int64) {o_r : Int32} (h : sX12_next a1 s_now_pieces s_now_d s_now_firm s_now_from s_now_to s_now_x s_now_y = some o_r) : MtI l D ky yX12_next wsX12_next rmX12_next [.ref q_, .int a1] [(q_, .inr (12, [.ref q_now, .int s_isWindow, .ref q_kept, .ref q_isKept, .ref q_paneOf, .int s_panes, .ref q_firstStep, .ref q_kinds, .ref q_allowed, .ref q_colour, .ref q_picked, .int s_picks, .ref q_lacking, .int s_hasLack, .ref q_rackKind, .ref q_rackAllowed, .ref q_founds, .ref q_plus, .ref q_minus, .ref q_under, .ref q_work, .ref q_other, .ref q_order, .int s_ordered, .ref q_tried, .ref q_touches, .ref q_out, .ref q_cuts, .ref q_boxWide, .ref q_boxTall, .ref q_boxTurns, .ref q_goal])), (q_now, .inr (10, [.int s_now_w, .int s_now_h, .int s_now_leads, .int s_now_lines, .ref q_now_ax, .ref q_now_ay, .ref q_now_bx, .ref q_now_by, .int s_now_joints, .ref q_now_x, .ref q_now_y, .ref q_now_d, .int s_now_pieces, .ref q_now_from, .ref q_now_to, .ref q_now_firm])), (q_now_d, .inl (ky 1, 240, .inr (.inl s_now_d))), (q_now_firm, .inl (ky 2, 800, .inl s_now_firm)), (q_now_from, .inl (ky 0, 800, .inl s_now_from)), (q_now_to, .inl (ky 0, 800, .inl s_now_to)), (q_now_x, .inl (ky 1, 240, .inr (.inl s_now_x))), (q_now_y, .inl (ky 1, 240, .inr (.inl s_now_y)))] [(q_, .inr (12, [.ref q_now, .int s_isWindow, .ref q_kept, .ref q_isKept, .ref q_paneOf, .int s_panes, .ref q_firstStep, .ref q_kinds, .ref q_allowed, .ref q_colour, .ref q_picked, .int s_picks, .ref q_lacking, .int s_hasLack, .ref q_rackKind, .ref q_rackAllowed, .ref q_founds, .ref q_plus, .ref q_minus, .ref q_under, .ref q_work, .ref q_other, .ref q_order, .int s_ordered, .ref q_tried, .ref q_touches, .ref q_out, .ref q_cuts, .ref q_boxWide, .ref q_boxTall, .ref q_boxTurns, .ref q_goal])), (q_now, .inr (10, [.int s_now_w, .int s_now_h, .int s_now_leads, .int s_now_lines, .ref q_now_ax, .ref q_now_ay, .ref q_now_bx, .ref q_now_by, .int s_now_joints, .ref q_now_x, .ref q_now_y, .ref q_now_d, .int s_now_pieces, .ref q_now_from, .ref q_now_to, .ref q_now_firm])), (q_now_d, .inl (ky 1, 240, .inr (.inl s_now_d))), (q_now_firm, .inl (ky 2, 800, .inl s_now_firm)), (q_now_from, .inl (ky 0, 800, .inl s_now_from)), (q_now_to, .inl (ky 0, 800, .inl s_now_to)), (q_now_x, .inl (ky 1, 240, .inr (.inl s_now_x))), (q_now_y, .inl (ky 1, 240, .inr (.inl s_now_y)))] o_r 0 0 := by
  refine MtI.of (cc := cX12_next) (maxL := 10) (by decide +kernel) rfl (Nat.le_of_ble_eq_true rfl) ?_
  intro p e R s m args below meth c A Q ls hR hx hb hts hown hnm hml hP hK hD hA ret hl
  subst hR
  obtain ⟨H, hH⟩ : ∃ H, H = s.heap := ⟨_, rfl⟩
  obtain ⟨locs, hlocs⟩ : ∃ locs : List Loc, locs = [] := ⟨_, rfl⟩
  have hS : va_S A s.heap H locs := by rw [hH, hlocs]; exact va_S.rf
  rw [← hH] at hP
  suffices hgo : W p l e rmX12_next s m args below meth c H locs 0 0 Q (F0 m 0 ls []) by rw [hH, hlocs] at hgo; exact hgo
  clear hH hlocs
  replace hl : lv_has ls 10 [(0, .ref q_), (1, .int a1)] := hl
  replace hown : s.vm.findClass RX12 = some m.cls := hown
  have hi_X12 : ∀ w ∈ u_ws RX12 TX12 32, w ∈ wsX12_next := fun _ h9 => List.mem_cons_of_mem _ (List.mem_append_left _ (List.mem_append_right _ h9))
  have hf_16 := hts (.fieldLink RX12 16 "GlazierBenchModel" "now" "LGlazierBenchModel$Drawing;") (by decide +kernel)
  have hi_X10 : ∀ w ∈ u_ws RX10 TX10 16, w ∈ wsX12_next := fun _ h9 => List.mem_cons_of_mem _ (List.mem_append_right _ h9)
  have hf_137 := (va_Nw.use (A := args) rfl (hK.2 (.fieldLinkNest RX12 137 RX10 "pieces" "I" RX12) (by decide +kernel)) : (Cond.fieldLinkNest RX12 137 RX10 "pieces" "I" RX12).before args s = true)
  have hf_141 := (va_Nw.use (A := args) rfl (hK.2 (.fieldLinkNest RX12 141 RX10 "firm" "[Z" RX12) (by decide +kernel)) : (Cond.fieldLinkNest RX12 141 RX10 "firm" "[Z" RX12).before args s = true)
  unfold sX12_next at h
  refine lv_aload_n hx hb dX12_next_0 rfl (lv_at hl 0 rfl) ?_
  refine lv_iload_n hx hb dX12_next_1 rfl (lv_at hl 1 rfl) ?_
  obtain ⟨r1, hc, h⟩ := ob_of h
  replace h := dm1_of h
  refine cv_i (As := [.int a1]) (rest := []) (wr := [(q_now_d, .inl (ky 1, 240, .inr (.inl s_now_d))), (q_now_firm, .inl (ky 2, 800, .inl s_now_firm)), (q_now_x, .inl (ky 1, 240, .inr (.inl s_now_x))), (q_now_y, .inl (ky 1, 240, .inr (.inl s_now_y)))]) (wn := [(q_, .inr (12, [.ref q_now, .int s_isWindow, .ref q_kept, .ref q_isKept, .ref q_paneOf, .int s_panes, .ref q_firstStep, .ref q_kinds, .ref q_allowed, .ref q_colour, .ref q_picked, .int s_picks, .ref q_lacking, .int s_hasLack, .ref q_rackKind, .ref q_rackAllowed, .ref q_founds, .ref q_plus, .ref q_minus, .ref q_under, .ref q_work, .ref q_other, .ref q_order, .int s_ordered, .ref q_tried, .ref q_touches, .ref q_out, .ref q_cuts, .ref q_boxWide, .ref q_boxTall, .ref q_boxTurns, .ref q_goal])), (q_now, .inr (10, [.int s_now_w, .int s_now_h, .int s_now_leads, .int s_now_lines, .ref q_now_ax, .ref q_now_ay, .ref q_now_bx, .ref q_now_by, .int s_now_joints, .ref q_now_x, .ref q_now_y, .ref q_now_d, .int s_now_pieces, .ref q_now_from, .ref q_now_to, .ref q_now_firm])), (q_now_d, .inl (ky 1, 240, .inr (.inl s_now_d))), (q_now_firm, .inl (ky 2, 800, .inl s_now_firm)), (q_now_from, .inl (ky 0, 800, .inl s_now_from)), (q_now_to, .inl (ky 0, 800, .inl s_now_to)), (q_now_x, .inl (ky 1, 240, .inr (.inl s_now_x))), (q_now_y, .inl (ky 1, 240, .inr (.inl s_now_y)))]) ⟨hx, hb, hml, hown, hts⟩ (c_X12_beginOf l D ky q_ q_now q_kept q_isKept q_paneOf q_firstStep q_kinds q_allowed q_colour q_picked q_lacking q_rackKind q_rackAllowed q_founds q_plus q_minus q_under q_work q_other q_order q_tried q_touches q_out q_cuts q_boxWide q_boxTall q_boxTurns q_goal q_now_ax q_now_ay q_now_bx q_now_by q_now_x q_now_y q_now_d q_now_from q_now_to q_now_firm a1 s_isWindow s_panes s_picks s_hasLack s_ordered s_now_w s_now_h s_now_leads s_now_lines s_now_joints s_now_pieces s_now_from s_now_to hc) (cwV 1 hts gX12_next_X12_beginOf rfl rfl rfl (by decide +kernel) ⟨Nat.le_of_ble_eq_true rfl, Nat.le_of_ble_eq_true rfl⟩) (rcv hK.1 hP (q0 := 0) rfl rfl) hP hD hK hS hA [0, 1, 4, 5] [2, 3, 6, 7] [4, 5, 0, 1, 6, 7, 2, 3] rfl (by decide +kernel) rfl (by decide +kernel) (by decide +kernel) (by decide +kernel) rfl rfl rfl hl.1 (Nat.le_of_ble_eq_true rfl) dX12_next_2 ⟨Nat.le_of_ble_eq_true rfl, Nat.le_of_ble_eq_true rfl⟩ (fun H locs hP hD hS => ?_)
  refine lv_istore_n (lv' := [(2, .int r1), (0, .ref q_), (1, .int a1)]) hx hb dX12_next_5 rfl hl (by decide) rfl (fun ls hl => ?_)
  refine lv_aload_n hx hb dX12_next_6 rfl (lv_at hl 1 rfl) ?_
  refine lv_iload_n hx hb dX12_next_7 rfl (lv_at hl 2 rfl) ?_
  obtain ⟨r2, hc, h⟩ := ob_of h
  replace h := dm1_of h
  refine cv_i (As := [.int a1]) (rest := []) (wr := [(q_now_d, .inl (ky 1, 240, .inr (.inl s_now_d))), (q_now_firm, .inl (ky 2, 800, .inl s_now_firm)), (q_now_x, .inl (ky 1, 240, .inr (.inl s_now_x))), (q_now_y, .inl (ky 1, 240, .inr (.inl s_now_y)))]) (wn := [(q_, .inr (12, [.ref q_now, .int s_isWindow, .ref q_kept, .ref q_isKept, .ref q_paneOf, .int s_panes, .ref q_firstStep, .ref q_kinds, .ref q_allowed, .ref q_colour, .ref q_picked, .int s_picks, .ref q_lacking, .int s_hasLack, .ref q_rackKind, .ref q_rackAllowed, .ref q_founds, .ref q_plus, .ref q_minus, .ref q_under, .ref q_work, .ref q_other, .ref q_order, .int s_ordered, .ref q_tried, .ref q_touches, .ref q_out, .ref q_cuts, .ref q_boxWide, .ref q_boxTall, .ref q_boxTurns, .ref q_goal])), (q_now, .inr (10, [.int s_now_w, .int s_now_h, .int s_now_leads, .int s_now_lines, .ref q_now_ax, .ref q_now_ay, .ref q_now_bx, .ref q_now_by, .int s_now_joints, .ref q_now_x, .ref q_now_y, .ref q_now_d, .int s_now_pieces, .ref q_now_from, .ref q_now_to, .ref q_now_firm])), (q_now_d, .inl (ky 1, 240, .inr (.inl s_now_d))), (q_now_firm, .inl (ky 2, 800, .inl s_now_firm)), (q_now_from, .inl (ky 0, 800, .inl s_now_from)), (q_now_to, .inl (ky 0, 800, .inl s_now_to)), (q_now_x, .inl (ky 1, 240, .inr (.inl s_now_x))), (q_now_y, .inl (ky 1, 240, .inr (.inl s_now_y)))]) ⟨hx, hb, hml, hown, hts⟩ (c_X12_endOf l D ky q_ q_now q_kept q_isKept q_paneOf q_firstStep q_kinds q_allowed q_colour q_picked q_lacking q_rackKind q_rackAllowed q_founds q_plus q_minus q_under q_work q_other q_order q_tried q_touches q_out q_cuts q_boxWide q_boxTall q_boxTurns q_goal q_now_ax q_now_ay q_now_bx q_now_by q_now_x q_now_y q_now_d q_now_from q_now_to q_now_firm a1 s_isWindow s_panes s_picks s_hasLack s_ordered s_now_w s_now_h s_now_leads s_now_lines s_now_joints s_now_pieces s_now_from s_now_to hc) (cwV 1 hts gX12_next_X12_endOf rfl rfl rfl (by decide +kernel) ⟨Nat.le_of_ble_eq_true rfl, Nat.le_of_ble_eq_true rfl⟩) (rcv hK.1 hP (q0 := 0) rfl rfl) hP hD hK hS hA [0, 1, 4, 5] [2, 3, 6, 7] [4, 5, 0, 1, 6, 7, 2, 3] rfl (by decide +kernel) rfl (by decide +kernel) (by decide +kernel) (by decide +kernel) rfl rfl rfl hl.1 (Nat.le_of_ble_eq_true rfl) dX12_next_8 ⟨Nat.le_of_ble_eq_true rfl, Nat.le_of_ble_eq_true rfl⟩ (fun H locs hP hD hS => ?_)
  refine lv_istore_n (lv' := [(3, .int r2), (2, .int r1), (0, .ref q_), (1, .int a1)]) hx hb dX12_next_11 rfl hl (by decide) rfl (fun ls hl => ?_)
  refine lv_aload_n hx hb dX12_next_12 rfl (lv_at hl 2 rfl) ?_
  refine lv_iload_n hx hb dX12_next_13 rfl (lv_at hl 0 rfl) ?_
  refine lv_iload_n hx hb dX12_next_14 rfl (lv_at hl 1 rfl) ?_
  obtain ⟨r3, hc, h⟩ := ob_of h
  replace h := dm1_of h
  refine cv_l (As := [.int r2, .int r1]) (rest := []) (wr := [(q_now_firm, .inl (ky 2, 800, .inl s_now_firm)), (q_now_from, .inl (ky 0, 800, .inl s_now_from)), (q_now_to, .inl (ky 0, 800, .inl s_now_to)), (q_now_y, .inl (ky 1, 240, .inr (.inl s_now_y)))]) (wn := [(q_, .inr (12, [.ref q_now, .int s_isWindow, .ref q_kept, .ref q_isKept, .ref q_paneOf, .int s_panes, .ref q_firstStep, .ref q_kinds, .ref q_allowed, .ref q_colour, .ref q_picked, .int s_picks, .ref q_lacking, .int s_hasLack, .ref q_rackKind, .ref q_rackAllowed, .ref q_founds, .ref q_plus, .ref q_minus, .ref q_under, .ref q_work, .ref q_other, .ref q_order, .int s_ordered, .ref q_tried, .ref q_touches, .ref q_out, .ref q_cuts, .ref q_boxWide, .ref q_boxTall, .ref q_boxTurns, .ref q_goal])), (q_now, .inr (10, [.int s_now_w, .int s_now_h, .int s_now_leads, .int s_now_lines, .ref q_now_ax, .ref q_now_ay, .ref q_now_bx, .ref q_now_by, .int s_now_joints, .ref q_now_x, .ref q_now_y, .ref q_now_d, .int s_now_pieces, .ref q_now_from, .ref q_now_to, .ref q_now_firm])), (q_now_d, .inl (ky 1, 240, .inr (.inl s_now_d))), (q_now_firm, .inl (ky 2, 800, .inl s_now_firm)), (q_now_from, .inl (ky 0, 800, .inl s_now_from)), (q_now_to, .inl (ky 0, 800, .inl s_now_to)), (q_now_x, .inl (ky 1, 240, .inr (.inl s_now_x))), (q_now_y, .inl (ky 1, 240, .inr (.inl s_now_y)))]) ⟨hx, hb, hml, hown, hts⟩ (c_X12_wayX l D ky q_ q_now q_kept q_isKept q_paneOf q_firstStep q_kinds q_allowed q_colour q_picked q_lacking q_rackKind q_rackAllowed q_founds q_plus q_minus q_under q_work q_other q_order q_tried q_touches q_out q_cuts q_boxWide q_boxTall q_boxTurns q_goal q_now_ax q_now_ay q_now_bx q_now_by q_now_x q_now_y q_now_d q_now_from q_now_to q_now_firm r2 r1 s_isWindow s_panes s_picks s_hasLack s_ordered s_now_w s_now_h s_now_leads s_now_lines s_now_joints s_now_pieces s_now_d s_now_x hc) (cwV 2 hts gX12_next_X12_wayX rfl rfl rfl (by decide +kernel) ⟨Nat.le_of_ble_eq_true rfl, Nat.le_of_ble_eq_true rfl⟩) (rcv hK.1 hP (q0 := 0) rfl rfl) hP hD hK hS hA [0, 1, 2, 6] [3, 4, 5, 7] [4, 5, 6, 0, 1, 2, 7, 3] rfl (by decide +kernel) rfl (by decide +kernel) (by decide +kernel) (by decide +kernel) rfl rfl rfl hl.1 (Nat.le_of_ble_eq_true rfl) dX12_next_15 ⟨Nat.le_of_ble_eq_true rfl, Nat.le_of_ble_eq_true rfl⟩ (fun H locs hP hD hS => ?_)
  refine lv_lstore (lv' := [(4, .long r3), (3, .int r2), (2, .int r1), (0, .ref q_), (1, .int a1)]) hx hb dX12_next_18 hl (by decide) rfl (fun ls hl => ?_)
  refine lv_aload_n hx hb dX12_next_20 rfl (lv_at hl 3 rfl) ?_
  refine lv_iload_n hx hb dX12_next_21 rfl (lv_at hl 1 rfl) ?_
  refine lv_iload_n hx hb dX12_next_22 rfl (lv_at hl 2 rfl) ?_
  obtain ⟨r4, hc, h⟩ := ob_of h
  replace h := dm1_of h
  refine cv_l (As := [.int r2, .int r1]) (rest := []) (wr := [(q_now_firm, .inl (ky 2, 800, .inl s_now_firm)), (q_now_from, .inl (ky 0, 800, .inl s_now_from)), (q_now_to, .inl (ky 0, 800, .inl s_now_to)), (q_now_x, .inl (ky 1, 240, .inr (.inl s_now_x)))]) (wn := [(q_, .inr (12, [.ref q_now, .int s_isWindow, .ref q_kept, .ref q_isKept, .ref q_paneOf, .int s_panes, .ref q_firstStep, .ref q_kinds, .ref q_allowed, .ref q_colour, .ref q_picked, .int s_picks, .ref q_lacking, .int s_hasLack, .ref q_rackKind, .ref q_rackAllowed, .ref q_founds, .ref q_plus, .ref q_minus, .ref q_under, .ref q_work, .ref q_other, .ref q_order, .int s_ordered, .ref q_tried, .ref q_touches, .ref q_out, .ref q_cuts, .ref q_boxWide, .ref q_boxTall, .ref q_boxTurns, .ref q_goal])), (q_now, .inr (10, [.int s_now_w, .int s_now_h, .int s_now_leads, .int s_now_lines, .ref q_now_ax, .ref q_now_ay, .ref q_now_bx, .ref q_now_by, .int s_now_joints, .ref q_now_x, .ref q_now_y, .ref q_now_d, .int s_now_pieces, .ref q_now_from, .ref q_now_to, .ref q_now_firm])), (q_now_d, .inl (ky 1, 240, .inr (.inl s_now_d))), (q_now_firm, .inl (ky 2, 800, .inl s_now_firm)), (q_now_from, .inl (ky 0, 800, .inl s_now_from)), (q_now_to, .inl (ky 0, 800, .inl s_now_to)), (q_now_x, .inl (ky 1, 240, .inr (.inl s_now_x))), (q_now_y, .inl (ky 1, 240, .inr (.inl s_now_y)))]) ⟨hx, hb, hml, hown, hts⟩ (c_X12_wayY l D ky q_ q_now q_kept q_isKept q_paneOf q_firstStep q_kinds q_allowed q_colour q_picked q_lacking q_rackKind q_rackAllowed q_founds q_plus q_minus q_under q_work q_other q_order q_tried q_touches q_out q_cuts q_boxWide q_boxTall q_boxTurns q_goal q_now_ax q_now_ay q_now_bx q_now_by q_now_x q_now_y q_now_d q_now_from q_now_to q_now_firm r2 r1 s_isWindow s_panes s_picks s_hasLack s_ordered s_now_w s_now_h s_now_leads s_now_lines s_now_joints s_now_pieces s_now_d s_now_y hc) (cwV 2 hts gX12_next_X12_wayY rfl rfl rfl (by decide +kernel) ⟨Nat.le_of_ble_eq_true rfl, Nat.le_of_ble_eq_true rfl⟩) (rcv hK.1 hP (q0 := 0) rfl rfl) hP hD hK hS hA [0, 1, 2, 7] [3, 4, 5, 6] [4, 5, 6, 0, 1, 2, 3, 7] rfl (by decide +kernel) rfl (by decide +kernel) (by decide +kernel) (by decide +kernel) rfl rfl rfl hl.1 (Nat.le_of_ble_eq_true rfl) dX12_next_23 ⟨Nat.le_of_ble_eq_true rfl, Nat.le_of_ble_eq_true rfl⟩ (fun H locs hP hD hS => ?_)
  refine lv_lstore (lv' := [(6, .long r4), (4, .long r3), (3, .int r2), (2, .int r1), (0, .ref q_), (1, .int a1)]) hx hb dX12_next_26 hl (by decide) rfl (fun ls hl => ?_)
  refine lv_iconst (v := (-1)) hx hb dX12_next_28 (by decide) ?_
  refine lv_istore (lv' := [(8, .int (-1 : Int32)), (6, .long r4), (4, .long r3), (3, .int r2), (2, .int r1), (0, .ref q_), (1, .int a1)]) hx hb dX12_next_29 hl (by decide) rfl (fun ls hl => ?_)
  refine lv_iconst (v := 0) hx hb dX12_next_31 (by decide) ?_
  refine lv_istore (lv' := [(9, .int (0 : Int32)), (8, .int (-1 : Int32)), (6, .long r4), (4, .long r3), (3, .int r2), (2, .int r1), (0, .ref q_), (1, .int a1)]) hx hb dX12_next_32 hl (by decide) rfl (fun ls hl => ?_)
  obtain ⟨⟨k, t⟩, hi, h⟩ := ob_of h
  refine iter_rule (P := fun (k : Nat) (t : Int32 × Int32) => ∀ (H : Heap) (locs : List Loc) (ls : Array Slot), va_P D vwCl [(q_, .inr (12, [.ref q_now, .int s_isWindow, .ref q_kept, .ref q_isKept, .ref q_paneOf, .int s_panes, .ref q_firstStep, .ref q_kinds, .ref q_allowed, .ref q_colour, .ref q_picked, .int s_picks, .ref q_lacking, .int s_hasLack, .ref q_rackKind, .ref q_rackAllowed, .ref q_founds, .ref q_plus, .ref q_minus, .ref q_under, .ref q_work, .ref q_other, .ref q_order, .int s_ordered, .ref q_tried, .ref q_touches, .ref q_out, .ref q_cuts, .ref q_boxWide, .ref q_boxTall, .ref q_boxTurns, .ref q_goal])), (q_now, .inr (10, [.int s_now_w, .int s_now_h, .int s_now_leads, .int s_now_lines, .ref q_now_ax, .ref q_now_ay, .ref q_now_bx, .ref q_now_by, .int s_now_joints, .ref q_now_x, .ref q_now_y, .ref q_now_d, .int s_now_pieces, .ref q_now_from, .ref q_now_to, .ref q_now_firm])), (q_now_d, .inl (ky 1, 240, .inr (.inl s_now_d))), (q_now_firm, .inl (ky 2, 800, .inl s_now_firm)), (q_now_from, .inl (ky 0, 800, .inl s_now_from)), (q_now_to, .inl (ky 0, 800, .inl s_now_to)), (q_now_x, .inl (ky 1, 240, .inr (.inl s_now_x))), (q_now_y, .inl (ky 1, 240, .inr (.inl s_now_y)))] H → va_D A [(q_, .inr (12, [.ref q_now, .int s_isWindow, .ref q_kept, .ref q_isKept, .ref q_paneOf, .int s_panes, .ref q_firstStep, .ref q_kinds, .ref q_allowed, .ref q_colour, .ref q_picked, .int s_picks, .ref q_lacking, .int s_hasLack, .ref q_rackKind, .ref q_rackAllowed, .ref q_founds, .ref q_plus, .ref q_minus, .ref q_under, .ref q_work, .ref q_other, .ref q_order, .int s_ordered, .ref q_tried, .ref q_touches, .ref q_out, .ref q_cuts, .ref q_boxWide, .ref q_boxTall, .ref q_boxTurns, .ref q_goal])), (q_now, .inr (10, [.int s_now_w, .int s_now_h, .int s_now_leads, .int s_now_lines, .ref q_now_ax, .ref q_now_ay, .ref q_now_bx, .ref q_now_by, .int s_now_joints, .ref q_now_x, .ref q_now_y, .ref q_now_d, .int s_now_pieces, .ref q_now_from, .ref q_now_to, .ref q_now_firm])), (q_now_d, .inl (ky 1, 240, .inr (.inl s_now_d))), (q_now_firm, .inl (ky 2, 800, .inl s_now_firm)), (q_now_from, .inl (ky 0, 800, .inl s_now_from)), (q_now_to, .inl (ky 0, 800, .inl s_now_to)), (q_now_x, .inl (ky 1, 240, .inr (.inl s_now_x))), (q_now_y, .inl (ky 1, 240, .inr (.inl s_now_y)))] → va_S A s.heap H locs → lv_has ls 10 [(0, .ref q_), (1, .int a1), (2, .int r1), (3, .int r2), (4, .long r3), (6, .long r4), (8, .int t.1), (9, .int t.2)] → W p l e rmX12_next s m args below meth c H locs 0 0 Q (F0 m ([34, 125].getD k 0) ls [])) ?_ _ _ _ _ hi ?_ H locs ls hP hD hS (lv_sub hl [6, 7, 5, 4, 3, 2, 1, 0] rfl)
  · clear h hi hP hD hS hl
    intro t k t' h K
    obtain ⟨v5, v6⟩ := t
    intro H locs ls hP hD hS hl
    replace h := dm2_of h
    replace hP : va_P D vwCl [(q_, .inr (12, [.ref q_now, .int s_isWindow, .ref q_kept, .ref q_isKept, .ref q_paneOf, .int s_panes, .ref q_firstStep, .ref q_kinds, .ref q_allowed, .ref q_colour, .ref q_picked, .int s_picks, .ref q_lacking, .int s_hasLack, .ref q_rackKind, .ref q_rackAllowed, .ref q_founds, .ref q_plus, .ref q_minus, .ref q_under, .ref q_work, .ref q_other, .ref q_order, .int s_ordered, .ref q_tried, .ref q_touches, .ref q_out, .ref q_cuts, .ref q_boxWide, .ref q_boxTall, .ref q_boxTurns, .ref q_goal])), (q_now, .inr (10, [.int s_now_w, .int s_now_h, .int s_now_leads, .int s_now_lines, .ref q_now_ax, .ref q_now_ay, .ref q_now_bx, .ref q_now_by, .int s_now_joints, .ref q_now_x, .ref q_now_y, .ref q_now_d, .int s_now_pieces, .ref q_now_from, .ref q_now_to, .ref q_now_firm])), (q_now_d, .inl (ky 1, 240, .inr (.inl s_now_d))), (q_now_firm, .inl (ky 2, 800, .inl s_now_firm)), (q_now_from, .inl (ky 0, 800, .inl s_now_from)), (q_now_to, .inl (ky 0, 800, .inl s_now_to)), (q_now_x, .inl (ky 1, 240, .inr (.inl s_now_x))), (q_now_y, .inl (ky 1, 240, .inr (.inl s_now_y)))] H := hP
    replace hD : va_D A [(q_, .inr (12, [.ref q_now, .int s_isWindow, .ref q_kept, .ref q_isKept, .ref q_paneOf, .int s_panes, .ref q_firstStep, .ref q_kinds, .ref q_allowed, .ref q_colour, .ref q_picked, .int s_picks, .ref q_lacking, .int s_hasLack, .ref q_rackKind, .ref q_rackAllowed, .ref q_founds, .ref q_plus, .ref q_minus, .ref q_under, .ref q_work, .ref q_other, .ref q_order, .int s_ordered, .ref q_tried, .ref q_touches, .ref q_out, .ref q_cuts, .ref q_boxWide, .ref q_boxTall, .ref q_boxTurns, .ref q_goal])), (q_now, .inr (10, [.int s_now_w, .int s_now_h, .int s_now_leads, .int s_now_lines, .ref q_now_ax, .ref q_now_ay, .ref q_now_bx, .ref q_now_by, .int s_now_joints, .ref q_now_x, .ref q_now_y, .ref q_now_d, .int s_now_pieces, .ref q_now_from, .ref q_now_to, .ref q_now_firm])), (q_now_d, .inl (ky 1, 240, .inr (.inl s_now_d))), (q_now_firm, .inl (ky 2, 800, .inl s_now_firm)), (q_now_from, .inl (ky 0, 800, .inl s_now_from)), (q_now_to, .inl (ky 0, 800, .inl s_now_to)), (q_now_x, .inl (ky 1, 240, .inr (.inl s_now_x))), (q_now_y, .inl (ky 1, 240, .inr (.inl s_now_y)))] := hD
    replace hl : lv_has ls 10 [(0, .ref q_), (1, .int a1), (2, .int r1), (3, .int r2), (4, .long r3), (6, .long r4), (8, .int v5), (9, .int v6)] := hl
    refine lv_iload hx hb dX12_next_34 (lv_at hl 7 rfl) ?_
    refine lv_iconst (v := 2) hx hb dX12_next_36 (by decide) ?_
    refine lv_aload_n hx hb dX12_next_37 rfl (lv_at hl 0 rfl) ?_
    refine va_get (D := D) (ci := 12) (v := .ref q_now) (C := RX12) (T := TX12) (N := 32) hx hb hts hi_X12 hown hK.1 hP 0 rfl rfl 0 (by decide) hf_16 (fun _ h9 => h9) rfl dX12_next_38 ?_
    refine va_getN (D := D) (ci := 10) (v := .int s_now_pieces) (C := RX10) (T := TX10) (N := 16) hx hb hts hi_X10 hown hK.1 hP 1 rfl rfl 12 (by decide) hf_137 (fun _ h9 => h9) rfl dX12_next_41 ?_
    refine lv_imul hx hb dX12_next_44 ?_
    refine lv_icmp_ge (tgt := 125) hx hb dX12_next_45 (by decide) (fun hc => ?_) (fun hc => ?_)
    · replace h := if_t hc h
      cases h
      exact K _ _ _ hP hD hS (lv_sub hl [0, 1, 2, 3, 4, 5, 6, 7] rfl)
    · replace h := if_f hc h
      refine lv_aload_n hx hb dX12_next_48 rfl (lv_at hl 0 rfl) ?_
      refine va_get (D := D) (ci := 12) (v := .ref q_now) (C := RX12) (T := TX12) (N := 32) hx hb hts hi_X12 hown hK.1 hP 0 rfl rfl 0 (by decide) hf_16 (fun _ h9 => h9) rfl dX12_next_49 ?_
      refine va_getN (D := D) (ci := 10) (v := .ref q_now_firm) (C := RX10) (T := TX10) (N := 16) hx hb hts hi_X10 hown hK.1 hP 1 rfl rfl 15 (by decide) hf_141 (fun _ h9 => h9) rfl dX12_next_52 ?_
      refine lv_iload hx hb dX12_next_55 (lv_at hl 7 rfl) ?_
      refine lv_iconst (v := 2) hx hb dX12_next_57 (by decide) ?_
      obtain ⟨hg, h⟩ := gd_of h
      refine lv_idiv hx hb dX12_next_58 hg ?_
      obtain ⟨hg, h⟩ := gd_of h
      refine va_zald hx hb hK.1 hP 3 2 rfl rfl hg dX12_next_59 ?_
      obtain ⟨t, hd, h⟩ := ob_of h
      have K : ∀ (H : Heap) (locs : List Loc) (ls : Array Slot), va_P D vwCl [(q_, .inr (12, [.ref q_now, .int s_isWindow, .ref q_kept, .ref q_isKept, .ref q_paneOf, .int s_panes, .ref q_firstStep, .ref q_kinds, .ref q_allowed, .ref q_colour, .ref q_picked, .int s_picks, .ref q_lacking, .int s_hasLack, .ref q_rackKind, .ref q_rackAllowed, .ref q_founds, .ref q_plus, .ref q_minus, .ref q_under, .ref q_work, .ref q_other, .ref q_order, .int s_ordered, .ref q_tried, .ref q_touches, .ref q_out, .ref q_cuts, .ref q_boxWide, .ref q_boxTall, .ref q_boxTurns, .ref q_goal])), (q_now, .inr (10, [.int s_now_w, .int s_now_h, .int s_now_leads, .int s_now_lines, .ref q_now_ax, .ref q_now_ay, .ref q_now_bx, .ref q_now_by, .int s_now_joints, .ref q_now_x, .ref q_now_y, .ref q_now_d, .int s_now_pieces, .ref q_now_from, .ref q_now_to, .ref q_now_firm])), (q_now_d, .inl (ky 1, 240, .inr (.inl s_now_d))), (q_now_firm, .inl (ky 2, 800, .inl s_now_firm)), (q_now_from, .inl (ky 0, 800, .inl s_now_from)), (q_now_to, .inl (ky 0, 800, .inl s_now_to)), (q_now_x, .inl (ky 1, 240, .inr (.inl s_now_x))), (q_now_y, .inl (ky 1, 240, .inr (.inl s_now_y)))] H → va_D A [(q_, .inr (12, [.ref q_now, .int s_isWindow, .ref q_kept, .ref q_isKept, .ref q_paneOf, .int s_panes, .ref q_firstStep, .ref q_kinds, .ref q_allowed, .ref q_colour, .ref q_picked, .int s_picks, .ref q_lacking, .int s_hasLack, .ref q_rackKind, .ref q_rackAllowed, .ref q_founds, .ref q_plus, .ref q_minus, .ref q_under, .ref q_work, .ref q_other, .ref q_order, .int s_ordered, .ref q_tried, .ref q_touches, .ref q_out, .ref q_cuts, .ref q_boxWide, .ref q_boxTall, .ref q_boxTurns, .ref q_goal])), (q_now, .inr (10, [.int s_now_w, .int s_now_h, .int s_now_leads, .int s_now_lines, .ref q_now_ax, .ref q_now_ay, .ref q_now_bx, .ref q_now_by, .int s_now_joints, .ref q_now_x, .ref q_now_y, .ref q_now_d, .int s_now_pieces, .ref q_now_from, .ref q_now_to, .ref q_now_firm])), (q_now_d, .inl (ky 1, 240, .inr (.inl s_now_d))), (q_now_firm, .inl (ky 2, 800, .inl s_now_firm)), (q_now_from, .inl (ky 0, 800, .inl s_now_from)), (q_now_to, .inl (ky 0, 800, .inl s_now_to)), (q_now_x, .inl (ky 1, 240, .inr (.inl s_now_x))), (q_now_y, .inl (ky 1, 240, .inr (.inl s_now_y)))] → va_S A s.heap H locs → lv_has ls 10 [(0, .ref q_), (1, .int a1), (2, .int r1), (3, .int r2), (4, .long r3), (6, .long r4), (8, .int t), (9, .int v6)] → W p l e rmX12_next s m args below meth c H locs 0 0 Q (F0 m 119 ls []) := by
        clear hd hP hD hS hl
        obtain ⟨v7, rfl⟩ : ∃ z, z = t := ⟨_, rfl⟩
        replace h := dm1_of h
        intro H locs ls hP hD hS hl
        replace hP : va_P D vwCl [(q_, .inr (12, [.ref q_now, .int s_isWindow, .ref q_kept, .ref q_isKept, .ref q_paneOf, .int s_panes, .ref q_firstStep, .ref q_kinds, .ref q_allowed, .ref q_colour, .ref q_picked, .int s_picks, .ref q_lacking, .int s_hasLack, .ref q_rackKind, .ref q_rackAllowed, .ref q_founds, .ref q_plus, .ref q_minus, .ref q_under, .ref q_work, .ref q_other, .ref q_order, .int s_ordered, .ref q_tried, .ref q_touches, .ref q_out, .ref q_cuts, .ref q_boxWide, .ref q_boxTall, .ref q_boxTurns, .ref q_goal])), (q_now, .inr (10, [.int s_now_w, .int s_now_h, .int s_now_leads, .int s_now_lines, .ref q_now_ax, .ref q_now_ay, .ref q_now_bx, .ref q_now_by, .int s_now_joints, .ref q_now_x, .ref q_now_y, .ref q_now_d, .int s_now_pieces, .ref q_now_from, .ref q_now_to, .ref q_now_firm])), (q_now_d, .inl (ky 1, 240, .inr (.inl s_now_d))), (q_now_firm, .inl (ky 2, 800, .inl s_now_firm)), (q_now_from, .inl (ky 0, 800, .inl s_now_from)), (q_now_to, .inl (ky 0, 800, .inl s_now_to)), (q_now_x, .inl (ky 1, 240, .inr (.inl s_now_x))), (q_now_y, .inl (ky 1, 240, .inr (.inl s_now_y)))] H := hP
        replace hD : va_D A [(q_, .inr (12, [.ref q_now, .int s_isWindow, .ref q_kept, .ref q_isKept, .ref q_paneOf, .int s_panes, .ref q_firstStep, .ref q_kinds, .ref q_allowed, .ref q_colour, .ref q_picked, .int s_picks, .ref q_lacking, .int s_hasLack, .ref q_rackKind, .ref q_rackAllowed, .ref q_founds, .ref q_plus, .ref q_minus, .ref q_under, .ref q_work, .ref q_other, .ref q_order, .int s_ordered, .ref q_tried, .ref q_touches, .ref q_out, .ref q_cuts, .ref q_boxWide, .ref q_boxTall, .ref q_boxTurns, .ref q_goal])), (q_now, .inr (10, [.int s_now_w, .int s_now_h, .int s_now_leads, .int s_now_lines, .ref q_now_ax, .ref q_now_ay, .ref q_now_bx, .ref q_now_by, .int s_now_joints, .ref q_now_x, .ref q_now_y, .ref q_now_d, .int s_now_pieces, .ref q_now_from, .ref q_now_to, .ref q_now_firm])), (q_now_d, .inl (ky 1, 240, .inr (.inl s_now_d))), (q_now_firm, .inl (ky 2, 800, .inl s_now_firm)), (q_now_from, .inl (ky 0, 800, .inl s_now_from)), (q_now_to, .inl (ky 0, 800, .inl s_now_to)), (q_now_x, .inl (ky 1, 240, .inr (.inl s_now_x))), (q_now_y, .inl (ky 1, 240, .inr (.inl s_now_y)))] := hD
        replace hl : lv_has ls 10 [(0, .ref q_), (1, .int a1), (2, .int r1), (3, .int r2), (4, .long r3), (6, .long r4), (8, .int v7), (9, .int v6)] := hl
        refine W.eq (g2 := F0 m 119 ls []) rfl ?_
        obtain ⟨x8, ex8⟩ : ∃ z : Int32, z = v6 + 1 := ⟨_, rfl⟩
        replace h := lt_at ex8 h
        refine lv_iinc (v := x8) (lv' := [(9, .int x8), (0, .ref q_), (1, .int a1), (2, .int r1), (3, .int r2), (4, .long r3), (6, .long r4), (8, .int v7)]) hx hb dX12_next_119 hl (k := 7) rfl (by rw [ex8]; rfl) (by decide) rfl (fun ls hl => ?_)
        refine lv_goto (tgt := 34) hx hb dX12_next_122 (by decide) ?_
        cases h
        exact K _ _ _ hP hD hS (lv_sub hl [1, 2, 3, 4, 5, 6, 7, 0] rfl)
      replace h := hd
      clear hd
      refine lv_if_eq (tgt := 119) hx hb dX12_next_60 (by decide) (fun hc => ?_) (fun hc => ?_)
      · replace h := if_t hc h
        cases h
        exact K _ _ _ hP hD hS (lv_sub hl [0, 1, 2, 3, 4, 5, 6, 7] rfl)
      · replace h := if_f hc h
        refine lv_aload_n hx hb dX12_next_63 rfl (lv_at hl 0 rfl) ?_
        refine lv_iload hx hb dX12_next_64 (lv_at hl 7 rfl) ?_
        obtain ⟨r9, hc, h⟩ := ob_of h
        replace h := dm1_of h
        refine cv_i (As := [.int v6]) (rest := []) (wr := [(q_now_d, .inl (ky 1, 240, .inr (.inl s_now_d))), (q_now_firm, .inl (ky 2, 800, .inl s_now_firm)), (q_now_x, .inl (ky 1, 240, .inr (.inl s_now_x))), (q_now_y, .inl (ky 1, 240, .inr (.inl s_now_y)))]) (wn := [(q_, .inr (12, [.ref q_now, .int s_isWindow, .ref q_kept, .ref q_isKept, .ref q_paneOf, .int s_panes, .ref q_firstStep, .ref q_kinds, .ref q_allowed, .ref q_colour, .ref q_picked, .int s_picks, .ref q_lacking, .int s_hasLack, .ref q_rackKind, .ref q_rackAllowed, .ref q_founds, .ref q_plus, .ref q_minus, .ref q_under, .ref q_work, .ref q_other, .ref q_order, .int s_ordered, .ref q_tried, .ref q_touches, .ref q_out, .ref q_cuts, .ref q_boxWide, .ref q_boxTall, .ref q_boxTurns, .ref q_goal])), (q_now, .inr (10, [.int s_now_w, .int s_now_h, .int s_now_leads, .int s_now_lines, .ref q_now_ax, .ref q_now_ay, .ref q_now_bx, .ref q_now_by, .int s_now_joints, .ref q_now_x, .ref q_now_y, .ref q_now_d, .int s_now_pieces, .ref q_now_from, .ref q_now_to, .ref q_now_firm])), (q_now_d, .inl (ky 1, 240, .inr (.inl s_now_d))), (q_now_firm, .inl (ky 2, 800, .inl s_now_firm)), (q_now_from, .inl (ky 0, 800, .inl s_now_from)), (q_now_to, .inl (ky 0, 800, .inl s_now_to)), (q_now_x, .inl (ky 1, 240, .inr (.inl s_now_x))), (q_now_y, .inl (ky 1, 240, .inr (.inl s_now_y)))]) ⟨hx, hb, hml, hown, hts⟩ (c_X12_beginOf l D ky q_ q_now q_kept q_isKept q_paneOf q_firstStep q_kinds q_allowed q_colour q_picked q_lacking q_rackKind q_rackAllowed q_founds q_plus q_minus q_under q_work q_other q_order q_tried q_touches q_out q_cuts q_boxWide q_boxTall q_boxTurns q_goal q_now_ax q_now_ay q_now_bx q_now_by q_now_x q_now_y q_now_d q_now_from q_now_to q_now_firm v6 s_isWindow s_panes s_picks s_hasLack s_ordered s_now_w s_now_h s_now_leads s_now_lines s_now_joints s_now_pieces s_now_from s_now_to hc) (cwV 1 hts gX12_next_X12_beginOf rfl rfl rfl (by decide +kernel) ⟨Nat.le_of_ble_eq_true rfl, Nat.le_of_ble_eq_true rfl⟩) (rcv hK.1 hP (q0 := 0) rfl rfl) hP hD hK hS hA [0, 1, 4, 5] [2, 3, 6, 7] [4, 5, 0, 1, 6, 7, 2, 3] rfl (by decide +kernel) rfl (by decide +kernel) (by decide +kernel) (by decide +kernel) rfl rfl rfl hl.1 (Nat.le_of_ble_eq_true rfl) dX12_next_66 ⟨Nat.le_of_ble_eq_true rfl, Nat.le_of_ble_eq_true rfl⟩ (fun H locs hP hD hS => ?_)
        refine lv_iload_n hx hb dX12_next_69 rfl (lv_at hl 3 rfl) ?_
        refine lv_icmp_ne (tgt := 119) hx hb dX12_next_70 (by decide) (fun hc => ?_) (fun hc => ?_)
        · replace h := if_t hc h
          cases h
          exact K _ _ _ hP hD hS (lv_sub hl [0, 1, 2, 3, 4, 5, 6, 7] rfl)
        · replace h := if_f (fun z => z hc) h
          refine lv_aload_n hx hb dX12_next_73 rfl (lv_at hl 0 rfl) ?_
          refine lv_iload hx hb dX12_next_74 (lv_at hl 7 rfl) ?_
          obtain ⟨r10, hc, h⟩ := ob_of h
          replace h := dm1_of h
          refine cv_i (As := [.int v6]) (rest := []) (wr := [(q_now_d, .inl (ky 1, 240, .inr (.inl s_now_d))), (q_now_firm, .inl (ky 2, 800, .inl s_now_firm)), (q_now_x, .inl (ky 1, 240, .inr (.inl s_now_x))), (q_now_y, .inl (ky 1, 240, .inr (.inl s_now_y)))]) (wn := [(q_, .inr (12, [.ref q_now, .int s_isWindow, .ref q_kept, .ref q_isKept, .ref q_paneOf, .int s_panes, .ref q_firstStep, .ref q_kinds, .ref q_allowed, .ref q_colour, .ref q_picked, .int s_picks, .ref q_lacking, .int s_hasLack, .ref q_rackKind, .ref q_rackAllowed, .ref q_founds, .ref q_plus, .ref q_minus, .ref q_under, .ref q_work, .ref q_other, .ref q_order, .int s_ordered, .ref q_tried, .ref q_touches, .ref q_out, .ref q_cuts, .ref q_boxWide, .ref q_boxTall, .ref q_boxTurns, .ref q_goal])), (q_now, .inr (10, [.int s_now_w, .int s_now_h, .int s_now_leads, .int s_now_lines, .ref q_now_ax, .ref q_now_ay, .ref q_now_bx, .ref q_now_by, .int s_now_joints, .ref q_now_x, .ref q_now_y, .ref q_now_d, .int s_now_pieces, .ref q_now_from, .ref q_now_to, .ref q_now_firm])), (q_now_d, .inl (ky 1, 240, .inr (.inl s_now_d))), (q_now_firm, .inl (ky 2, 800, .inl s_now_firm)), (q_now_from, .inl (ky 0, 800, .inl s_now_from)), (q_now_to, .inl (ky 0, 800, .inl s_now_to)), (q_now_x, .inl (ky 1, 240, .inr (.inl s_now_x))), (q_now_y, .inl (ky 1, 240, .inr (.inl s_now_y)))]) ⟨hx, hb, hml, hown, hts⟩ (c_X12_endOf l D ky q_ q_now q_kept q_isKept q_paneOf q_firstStep q_kinds q_allowed q_colour q_picked q_lacking q_rackKind q_rackAllowed q_founds q_plus q_minus q_under q_work q_other q_order q_tried q_touches q_out q_cuts q_boxWide q_boxTall q_boxTurns q_goal q_now_ax q_now_ay q_now_bx q_now_by q_now_x q_now_y q_now_d q_now_from q_now_to q_now_firm v6 s_isWindow s_panes s_picks s_hasLack s_ordered s_now_w s_now_h s_now_leads s_now_lines s_now_joints s_now_pieces s_now_from s_now_to hc) (cwV 1 hts gX12_next_X12_endOf rfl rfl rfl (by decide +kernel) ⟨Nat.le_of_ble_eq_true rfl, Nat.le_of_ble_eq_true rfl⟩) (rcv hK.1 hP (q0 := 0) rfl rfl) hP hD hK hS hA [0, 1, 4, 5] [2, 3, 6, 7] [4, 5, 0, 1, 6, 7, 2, 3] rfl (by decide +kernel) rfl (by decide +kernel) (by decide +kernel) (by decide +kernel) rfl rfl rfl hl.1 (Nat.le_of_ble_eq_true rfl) dX12_next_76 ⟨Nat.le_of_ble_eq_true rfl, Nat.le_of_ble_eq_true rfl⟩ (fun H locs hP hD hS => ?_)
          refine lv_iload_n hx hb dX12_next_79 rfl (lv_at hl 2 rfl) ?_
          refine lv_icmp_ne (tgt := 86) hx hb dX12_next_80 (by decide) (fun hc => ?_) (fun hc => ?_)
          · replace h := if_t hc h
            refine lv_iload hx hb dX12_next_86 (lv_at hl 6 rfl) ?_
            refine lv_if_lt (tgt := 115) hx hb dX12_next_88 (by decide) (fun hc => ?_) (fun hc => ?_)
            · replace h := if_t hc h
              refine lv_iload hx hb dX12_next_115 (lv_at hl 7 rfl) ?_
              refine lv_istore (lv' := [(8, .int v6), (0, .ref q_), (1, .int a1), (2, .int r1), (3, .int r2), (4, .long r3), (6, .long r4), (9, .int v6)]) hx hb dX12_next_117 hl (by decide) rfl (fun ls hl => ?_)
              cases h
              exact K _ _ _ hP hD hS (lv_sub hl [1, 2, 3, 4, 5, 6, 0, 7] rfl)
            · replace h := if_f hc h
              refine lv_aload_n hx hb dX12_next_91 rfl (lv_at hl 0 rfl) ?_
              refine lv_lload hx hb dX12_next_92 (lv_at hl 4 rfl) ?_
              refine lv_lload hx hb dX12_next_94 (lv_at hl 5 rfl) ?_
              refine lv_iload_n hx hb dX12_next_96 rfl (lv_at hl 3 rfl) ?_
              refine lv_aload_n hx hb dX12_next_97 rfl (lv_at hl 0 rfl) ?_
              refine lv_iload hx hb dX12_next_98 (lv_at hl 7 rfl) ?_
              obtain ⟨r11, hc, h⟩ := ob_of h
              replace h := dm1_of h
              refine cv_i (As := [.int v6]) (rest := [.int r2, .long r4, .long r3, .ref q_]) (wr := [(q_now_d, .inl (ky 1, 240, .inr (.inl s_now_d))), (q_now_firm, .inl (ky 2, 800, .inl s_now_firm)), (q_now_x, .inl (ky 1, 240, .inr (.inl s_now_x))), (q_now_y, .inl (ky 1, 240, .inr (.inl s_now_y)))]) (wn := [(q_, .inr (12, [.ref q_now, .int s_isWindow, .ref q_kept, .ref q_isKept, .ref q_paneOf, .int s_panes, .ref q_firstStep, .ref q_kinds, .ref q_allowed, .ref q_colour, .ref q_picked, .int s_picks, .ref q_lacking, .int s_hasLack, .ref q_rackKind, .ref q_rackAllowed, .ref q_founds, .ref q_plus, .ref q_minus, .ref q_under, .ref q_work, .ref q_other, .ref q_order, .int s_ordered, .ref q_tried, .ref q_touches, .ref q_out, .ref q_cuts, .ref q_boxWide, .ref q_boxTall, .ref q_boxTurns, .ref q_goal])), (q_now, .inr (10, [.int s_now_w, .int s_now_h, .int s_now_leads, .int s_now_lines, .ref q_now_ax, .ref q_now_ay, .ref q_now_bx, .ref q_now_by, .int s_now_joints, .ref q_now_x, .ref q_now_y, .ref q_now_d, .int s_now_pieces, .ref q_now_from, .ref q_now_to, .ref q_now_firm])), (q_now_d, .inl (ky 1, 240, .inr (.inl s_now_d))), (q_now_firm, .inl (ky 2, 800, .inl s_now_firm)), (q_now_from, .inl (ky 0, 800, .inl s_now_from)), (q_now_to, .inl (ky 0, 800, .inl s_now_to)), (q_now_x, .inl (ky 1, 240, .inr (.inl s_now_x))), (q_now_y, .inl (ky 1, 240, .inr (.inl s_now_y)))]) ⟨hx, hb, hml, hown, hts⟩ (c_X12_endOf l D ky q_ q_now q_kept q_isKept q_paneOf q_firstStep q_kinds q_allowed q_colour q_picked q_lacking q_rackKind q_rackAllowed q_founds q_plus q_minus q_under q_work q_other q_order q_tried q_touches q_out q_cuts q_boxWide q_boxTall q_boxTurns q_goal q_now_ax q_now_ay q_now_bx q_now_by q_now_x q_now_y q_now_d q_now_from q_now_to q_now_firm v6 s_isWindow s_panes s_picks s_hasLack s_ordered s_now_w s_now_h s_now_leads s_now_lines s_now_joints s_now_pieces s_now_from s_now_to hc) (cwV 1 hts gX12_next_X12_endOf rfl rfl rfl (by decide +kernel) ⟨Nat.le_of_ble_eq_true rfl, Nat.le_of_ble_eq_true rfl⟩) (rcv hK.1 hP (q0 := 0) rfl rfl) hP hD hK hS hA [0, 1, 4, 5] [2, 3, 6, 7] [4, 5, 0, 1, 6, 7, 2, 3] rfl (by decide +kernel) rfl (by decide +kernel) (by decide +kernel) (by decide +kernel) rfl rfl rfl hl.1 (Nat.le_of_ble_eq_true rfl) dX12_next_100 ⟨Nat.le_of_ble_eq_true rfl, Nat.le_of_ble_eq_true rfl⟩ (fun H locs hP hD hS => ?_)
              refine lv_aload_n hx hb dX12_next_103 rfl (lv_at hl 0 rfl) ?_
              refine lv_iload hx hb dX12_next_104 (lv_at hl 6 rfl) ?_
              obtain ⟨r12, hc, h⟩ := ob_of h
              replace h := dm1_of h
              refine cv_i (As := [.int v5]) (rest := [.int r11, .int r2, .long r4, .long r3, .ref q_]) (wr := [(q_now_d, .inl (ky 1, 240, .inr (.inl s_now_d))), (q_now_firm, .inl (ky 2, 800, .inl s_now_firm)), (q_now_x, .inl (ky 1, 240, .inr (.inl s_now_x))), (q_now_y, .inl (ky 1, 240, .inr (.inl s_now_y)))]) (wn := [(q_, .inr (12, [.ref q_now, .int s_isWindow, .ref q_kept, .ref q_isKept, .ref q_paneOf, .int s_panes, .ref q_firstStep, .ref q_kinds, .ref q_allowed, .ref q_colour, .ref q_picked, .int s_picks, .ref q_lacking, .int s_hasLack, .ref q_rackKind, .ref q_rackAllowed, .ref q_founds, .ref q_plus, .ref q_minus, .ref q_under, .ref q_work, .ref q_other, .ref q_order, .int s_ordered, .ref q_tried, .ref q_touches, .ref q_out, .ref q_cuts, .ref q_boxWide, .ref q_boxTall, .ref q_boxTurns, .ref q_goal])), (q_now, .inr (10, [.int s_now_w, .int s_now_h, .int s_now_leads, .int s_now_lines, .ref q_now_ax, .ref q_now_ay, .ref q_now_bx, .ref q_now_by, .int s_now_joints, .ref q_now_x, .ref q_now_y, .ref q_now_d, .int s_now_pieces, .ref q_now_from, .ref q_now_to, .ref q_now_firm])), (q_now_d, .inl (ky 1, 240, .inr (.inl s_now_d))), (q_now_firm, .inl (ky 2, 800, .inl s_now_firm)), (q_now_from, .inl (ky 0, 800, .inl s_now_from)), (q_now_to, .inl (ky 0, 800, .inl s_now_to)), (q_now_x, .inl (ky 1, 240, .inr (.inl s_now_x))), (q_now_y, .inl (ky 1, 240, .inr (.inl s_now_y)))]) ⟨hx, hb, hml, hown, hts⟩ (c_X12_endOf l D ky q_ q_now q_kept q_isKept q_paneOf q_firstStep q_kinds q_allowed q_colour q_picked q_lacking q_rackKind q_rackAllowed q_founds q_plus q_minus q_under q_work q_other q_order q_tried q_touches q_out q_cuts q_boxWide q_boxTall q_boxTurns q_goal q_now_ax q_now_ay q_now_bx q_now_by q_now_x q_now_y q_now_d q_now_from q_now_to q_now_firm v5 s_isWindow s_panes s_picks s_hasLack s_ordered s_now_w s_now_h s_now_leads s_now_lines s_now_joints s_now_pieces s_now_from s_now_to hc) (cwV 1 hts gX12_next_X12_endOf rfl rfl rfl (by decide +kernel) ⟨Nat.le_of_ble_eq_true rfl, Nat.le_of_ble_eq_true rfl⟩) (rcv hK.1 hP (q0 := 0) rfl rfl) hP hD hK hS hA [0, 1, 4, 5] [2, 3, 6, 7] [4, 5, 0, 1, 6, 7, 2, 3] rfl (by decide +kernel) rfl (by decide +kernel) (by decide +kernel) (by decide +kernel) rfl rfl rfl hl.1 (Nat.le_of_ble_eq_true rfl) dX12_next_106 ⟨Nat.le_of_ble_eq_true rfl, Nat.le_of_ble_eq_true rfl⟩ (fun H locs hP hD hS => ?_)
              obtain ⟨r13, hc, h⟩ := ob_of h
              replace h := dm1_of h
              refine cv_i (As := [.long r3, .long r4, .int r2, .int r11, .int r12]) (rest := []) (wr := [(q_now_firm, .inl (ky 2, 800, .inl s_now_firm)), (q_now_from, .inl (ky 0, 800, .inl s_now_from)), (q_now_to, .inl (ky 0, 800, .inl s_now_to))]) (wn := [(q_, .inr (12, [.ref q_now, .int s_isWindow, .ref q_kept, .ref q_isKept, .ref q_paneOf, .int s_panes, .ref q_firstStep, .ref q_kinds, .ref q_allowed, .ref q_colour, .ref q_picked, .int s_picks, .ref q_lacking, .int s_hasLack, .ref q_rackKind, .ref q_rackAllowed, .ref q_founds, .ref q_plus, .ref q_minus, .ref q_under, .ref q_work, .ref q_other, .ref q_order, .int s_ordered, .ref q_tried, .ref q_touches, .ref q_out, .ref q_cuts, .ref q_boxWide, .ref q_boxTall, .ref q_boxTurns, .ref q_goal])), (q_now, .inr (10, [.int s_now_w, .int s_now_h, .int s_now_leads, .int s_now_lines, .ref q_now_ax, .ref q_now_ay, .ref q_now_bx, .ref q_now_by, .int s_now_joints, .ref q_now_x, .ref q_now_y, .ref q_now_d, .int s_now_pieces, .ref q_now_from, .ref q_now_to, .ref q_now_firm])), (q_now_d, .inl (ky 1, 240, .inr (.inl s_now_d))), (q_now_firm, .inl (ky 2, 800, .inl s_now_firm)), (q_now_from, .inl (ky 0, 800, .inl s_now_from)), (q_now_to, .inl (ky 0, 800, .inl s_now_to)), (q_now_x, .inl (ky 1, 240, .inr (.inl s_now_x))), (q_now_y, .inl (ky 1, 240, .inr (.inl s_now_y)))]) ⟨hx, hb, hml, hown, hts⟩ (c_X12_isSooner l D ky q_ q_now q_kept q_isKept q_paneOf q_firstStep q_kinds q_allowed q_colour q_picked q_lacking q_rackKind q_rackAllowed q_founds q_plus q_minus q_under q_work q_other q_order q_tried q_touches q_out q_cuts q_boxWide q_boxTall q_boxTurns q_goal q_now_ax q_now_ay q_now_bx q_now_by q_now_x q_now_y q_now_d q_now_from q_now_to q_now_firm r3 r4 r2 r11 r12 s_isWindow s_panes s_picks s_hasLack s_ordered s_now_w s_now_h s_now_leads s_now_lines s_now_joints s_now_pieces s_now_d s_now_x s_now_y hc) (cwV 5 hts gX12_next_X12_isSooner rfl rfl rfl (by decide +kernel) ⟨Nat.le_of_ble_eq_true rfl, Nat.le_of_ble_eq_true rfl⟩) (rcv hK.1 hP (q0 := 0) rfl rfl) hP hD hK hS hA [0, 1, 2, 6, 7] [3, 4, 5] [3, 4, 5, 0, 1, 2, 6, 7] rfl (by decide +kernel) rfl (by decide +kernel) (by decide +kernel) (by decide +kernel) rfl rfl rfl hl.1 (Nat.le_of_ble_eq_true rfl) dX12_next_109 ⟨Nat.le_of_ble_eq_true rfl, Nat.le_of_ble_eq_true rfl⟩ (fun H locs hP hD hS => ?_)
              refine lv_if_eq (tgt := 119) hx hb dX12_next_112 (by decide) (fun hc => ?_) (fun hc => ?_)
              · replace h := if_t hc h
                cases h
                exact K _ _ _ hP hD hS (lv_sub hl [0, 1, 2, 3, 4, 5, 6, 7] rfl)
              · replace h := if_f hc h
                refine lv_iload hx hb dX12_next_115 (lv_at hl 7 rfl) ?_
                refine lv_istore (lv' := [(8, .int v6), (0, .ref q_), (1, .int a1), (2, .int r1), (3, .int r2), (4, .long r3), (6, .long r4), (9, .int v6)]) hx hb dX12_next_117 hl (by decide) rfl (fun ls hl => ?_)
                cases h
                exact K _ _ _ hP hD hS (lv_sub hl [1, 2, 3, 4, 5, 6, 0, 7] rfl)
          · replace h := if_f (fun z => z hc) h
            refine lv_goto (tgt := 119) hx hb dX12_next_83 (by decide) ?_
            cases h
            exact K _ _ _ hP hD hS (lv_sub hl [0, 1, 2, 3, 4, 5, 6, 7] rfl)
  · have h1 := ex1_of h
    clear h hi
    rcases h1 with ⟨rfl, h⟩
    obtain ⟨v14, v15⟩ := t
    replace h := dm2_of h
    intro H locs ls hP hD hS hl
    replace hP : va_P D vwCl [(q_, .inr (12, [.ref q_now, .int s_isWindow, .ref q_kept, .ref q_isKept, .ref q_paneOf, .int s_panes, .ref q_firstStep, .ref q_kinds, .ref q_allowed, .ref q_colour, .ref q_picked, .int s_picks, .ref q_lacking, .int s_hasLack, .ref q_rackKind, .ref q_rackAllowed, .ref q_founds, .ref q_plus, .ref q_minus, .ref q_under, .ref q_work, .ref q_other, .ref q_order, .int s_ordered, .ref q_tried, .ref q_touches, .ref q_out, .ref q_cuts, .ref q_boxWide, .ref q_boxTall, .ref q_boxTurns, .ref q_goal])), (q_now, .inr (10, [.int s_now_w, .int s_now_h, .int s_now_leads, .int s_now_lines, .ref q_now_ax, .ref q_now_ay, .ref q_now_bx, .ref q_now_by, .int s_now_joints, .ref q_now_x, .ref q_now_y, .ref q_now_d, .int s_now_pieces, .ref q_now_from, .ref q_now_to, .ref q_now_firm])), (q_now_d, .inl (ky 1, 240, .inr (.inl s_now_d))), (q_now_firm, .inl (ky 2, 800, .inl s_now_firm)), (q_now_from, .inl (ky 0, 800, .inl s_now_from)), (q_now_to, .inl (ky 0, 800, .inl s_now_to)), (q_now_x, .inl (ky 1, 240, .inr (.inl s_now_x))), (q_now_y, .inl (ky 1, 240, .inr (.inl s_now_y)))] H := hP
    replace hD : va_D A [(q_, .inr (12, [.ref q_now, .int s_isWindow, .ref q_kept, .ref q_isKept, .ref q_paneOf, .int s_panes, .ref q_firstStep, .ref q_kinds, .ref q_allowed, .ref q_colour, .ref q_picked, .int s_picks, .ref q_lacking, .int s_hasLack, .ref q_rackKind, .ref q_rackAllowed, .ref q_founds, .ref q_plus, .ref q_minus, .ref q_under, .ref q_work, .ref q_other, .ref q_order, .int s_ordered, .ref q_tried, .ref q_touches, .ref q_out, .ref q_cuts, .ref q_boxWide, .ref q_boxTall, .ref q_boxTurns, .ref q_goal])), (q_now, .inr (10, [.int s_now_w, .int s_now_h, .int s_now_leads, .int s_now_lines, .ref q_now_ax, .ref q_now_ay, .ref q_now_bx, .ref q_now_by, .int s_now_joints, .ref q_now_x, .ref q_now_y, .ref q_now_d, .int s_now_pieces, .ref q_now_from, .ref q_now_to, .ref q_now_firm])), (q_now_d, .inl (ky 1, 240, .inr (.inl s_now_d))), (q_now_firm, .inl (ky 2, 800, .inl s_now_firm)), (q_now_from, .inl (ky 0, 800, .inl s_now_from)), (q_now_to, .inl (ky 0, 800, .inl s_now_to)), (q_now_x, .inl (ky 1, 240, .inr (.inl s_now_x))), (q_now_y, .inl (ky 1, 240, .inr (.inl s_now_y)))] := hD
    replace hl : lv_has ls 10 [(0, .ref q_), (1, .int a1), (2, .int r1), (3, .int r2), (4, .long r3), (6, .long r4), (8, .int v14), (9, .int v15)] := hl
    refine W.eq (g2 := F0 m 125 ls []) rfl ?_
    refine lv_iload hx hb dX12_next_125 (lv_at hl 6 rfl) ?_
    refine lv_if_ge (tgt := 136) hx hb dX12_next_127 (by decide) (fun hc => ?_) (fun hc => ?_)
    · replace h := if_t hc h
      refine lv_iload hx hb dX12_next_136 (lv_at hl 6 rfl) ?_
      cases h
      exact ret _ _ _ _ dX12_next_138 hP hD hS
    · replace h := if_f hc h
      refine lv_iload_n hx hb dX12_next_130 rfl (lv_at hl 1 rfl) ?_
      refine lv_iconst (v := 1) hx hb dX12_next_131 (by decide) ?_
      refine lv_ixor hx hb dX12_next_132 ?_
      refine lv_goto (tgt := 138) hx hb dX12_next_133 (by decide) ?_
      cases h
      exact ret _ _ _ _ dX12_next_138 hP hD hS

def sX12_isOutside (a1 : Int32) (s_now_d : Nat → Int64) (s_now_from : Nat → Int32) (s_now_to : Nat → Int32) (s_now_x : Nat → Int64) (s_now_y : Nat → Int64) : Option (Int32) := ob (sX12_beginOf a1 s_now_from s_now_to) (fun o => dm1 o (fun (r1 : Int32) => ob (sX12_endOf a1 s_now_from s_now_to) (fun o => dm1 o (fun (r2 : Int32) => gd (¬ (r1 < 0 ∨ 240 ≤ r1.toNatClampNeg)) (ob (if ¬ (lg_cmp (s_now_y r1.toNatClampNeg) (0 : Int64)) = 0 then some (0 : Int32) else gd (¬ (r2 < 0 ∨ 240 ≤ r2.toNatClampNeg)) (if ¬ (lg_cmp (s_now_y r2.toNatClampNeg) (0 : Int64)) = 0 then some (0 : Int32) else some (1 : Int32))) (fun t => dm1 t (fun (v3 : Int32) => if v3 = 0 then some (0 : Int32) else ob (sX12_wayX r1 r2 s_now_d s_now_x) (fun o => dm1 o (fun (r4 : Int64) => if 0 ≤ (lg_cmp r4 (0 : Int64)) then some (0 : Int32) else some (1 : Int32))))))))))
abbrev rmX12_isOutside : Room := { frames := 2, cells := 0, slots := 0, locals := 42 }
set_option maxHeartbeats 4000000 in
set_option maxRecDepth 100000 in
theorem c_X12_isOutside (l : Launch) (D : va_G) (ky : Nat → ClassId) (q_ q_now q_kept q_isKept q_paneOf q_firstStep q_kinds q_allowed q_colour q_picked q_lacking q_rackKind q_rackAllowed q_founds q_plus q_minus q_under q_work q_other q_order q_tried q_touches q_out q_cuts q_boxWide q_boxTall q_boxTurns q_goal q_now_ax q_now_ay q_now_bx q_now_by q_now_x q_now_y q_now_d q_now_from q_now_to q_now_firm : Nat) (a1 : Int32) (s_isWindow : Int32) (s_panes : Int32) (s_picks : Int32) (s_hasLack : Int32) (s_ordered : Int32) (s_now_w : Int32) (s_now_h : Int32) (s_now_leads : Int32) (s_now_lines : Int32) (s_now_joints : Int32) (s_now_pieces : Int32) (s_now_d : Nat → Int64) (s_now_from : Nat → Int32) (s_now_to : Nat → Int32) (s_now_x : Nat → Int64) (s_now_y : Nat → Int64) {o_r : Int32} (h : sX12_isOutside a1 s_now_d s_now_from s_now_to s_now_x s_now_y = some o_r) : MtI l D ky yX12_isOutside wsX12_isOutside rmX12_isOutside [.ref q_, .int a1] [(q_, .inr (12, [.ref q_now, .int s_isWindow, .ref q_kept, .ref q_isKept, .ref q_paneOf, .int s_panes, .ref q_firstStep, .ref q_kinds, .ref q_allowed, .ref q_colour, .ref q_picked, .int s_picks, .ref q_lacking, .int s_hasLack, .ref q_rackKind, .ref q_rackAllowed, .ref q_founds, .ref q_plus, .ref q_minus, .ref q_under, .ref q_work, .ref q_other, .ref q_order, .int s_ordered, .ref q_tried, .ref q_touches, .ref q_out, .ref q_cuts, .ref q_boxWide, .ref q_boxTall, .ref q_boxTurns, .ref q_goal])), (q_now, .inr (10, [.int s_now_w, .int s_now_h, .int s_now_leads, .int s_now_lines, .ref q_now_ax, .ref q_now_ay, .ref q_now_bx, .ref q_now_by, .int s_now_joints, .ref q_now_x, .ref q_now_y, .ref q_now_d, .int s_now_pieces, .ref q_now_from, .ref q_now_to, .ref q_now_firm])), (q_now_d, .inl (ky 1, 240, .inr (.inl s_now_d))), (q_now_from, .inl (ky 0, 800, .inl s_now_from)), (q_now_to, .inl (ky 0, 800, .inl s_now_to)), (q_now_x, .inl (ky 1, 240, .inr (.inl s_now_x))), (q_now_y, .inl (ky 1, 240, .inr (.inl s_now_y)))] [(q_, .inr (12, [.ref q_now, .int s_isWindow, .ref q_kept, .ref q_isKept, .ref q_paneOf, .int s_panes, .ref q_firstStep, .ref q_kinds, .ref q_allowed, .ref q_colour, .ref q_picked, .int s_picks, .ref q_lacking, .int s_hasLack, .ref q_rackKind, .ref q_rackAllowed, .ref q_founds, .ref q_plus, .ref q_minus, .ref q_under, .ref q_work, .ref q_other, .ref q_order, .int s_ordered, .ref q_tried, .ref q_touches, .ref q_out, .ref q_cuts, .ref q_boxWide, .ref q_boxTall, .ref q_boxTurns, .ref q_goal])), (q_now, .inr (10, [.int s_now_w, .int s_now_h, .int s_now_leads, .int s_now_lines, .ref q_now_ax, .ref q_now_ay, .ref q_now_bx, .ref q_now_by, .int s_now_joints, .ref q_now_x, .ref q_now_y, .ref q_now_d, .int s_now_pieces, .ref q_now_from, .ref q_now_to, .ref q_now_firm])), (q_now_d, .inl (ky 1, 240, .inr (.inl s_now_d))), (q_now_from, .inl (ky 0, 800, .inl s_now_from)), (q_now_to, .inl (ky 0, 800, .inl s_now_to)), (q_now_x, .inl (ky 1, 240, .inr (.inl s_now_x))), (q_now_y, .inl (ky 1, 240, .inr (.inl s_now_y)))] o_r 0 0 := by
  refine MtI.ofB (cc := cX12_isOutside) (maxL := 5) (by decide +kernel) rfl (Nat.le_of_ble_eq_true rfl) ?_
  intro p e R s m args below meth c A Q ls hR hx hb hts hown hnm hml hP hK hD hA ret hl
  subst hR
  obtain ⟨H, hH⟩ : ∃ H, H = s.heap := ⟨_, rfl⟩
  obtain ⟨locs, hlocs⟩ : ∃ locs : List Loc, locs = [] := ⟨_, rfl⟩
  have hS : va_S A s.heap H locs := by rw [hH, hlocs]; exact va_S.rf
  rw [← hH] at hP
  suffices hgo : W p l e rmX12_isOutside s m args below meth c H locs 0 0 Q (F0 m 0 ls []) by rw [hH, hlocs] at hgo; exact hgo
  clear hH hlocs
  replace hl : lv_has ls 5 [(0, .ref q_), (1, .int a1)] := hl
  replace hown : s.vm.findClass RX12 = some m.cls := hown
  have hi_X12 : ∀ w ∈ u_ws RX12 TX12 32, w ∈ wsX12_isOutside := fun _ h9 => List.mem_cons_of_mem _ (List.mem_append_left _ (List.mem_append_right _ h9))
  have hf_16 := hts (.fieldLink RX12 16 "GlazierBenchModel" "now" "LGlazierBenchModel$Drawing;") (by decide +kernel)
  have hi_X10 : ∀ w ∈ u_ws RX10 TX10 16, w ∈ wsX12_isOutside := fun _ h9 => List.mem_cons_of_mem _ (List.mem_append_right _ h9)
  have hf_124 := (va_Nw.use (A := args) rfl (hK.2 (.fieldLinkNest RX12 124 RX10 "y" "[J" RX12) (by decide +kernel)) : (Cond.fieldLinkNest RX12 124 RX10 "y" "[J" RX12).before args s = true)
  unfold sX12_isOutside at h
  refine lv_aload_n hx hb dX12_isOutside_0 rfl (lv_at hl 0 rfl) ?_
  refine lv_iload_n hx hb dX12_isOutside_1 rfl (lv_at hl 1 rfl) ?_
  obtain ⟨r1, hc, h⟩ := ob_of h
  replace h := dm1_of h
  refine cv_i (As := [.int a1]) (rest := []) (wr := [(q_now_d, .inl (ky 1, 240, .inr (.inl s_now_d))), (q_now_x, .inl (ky 1, 240, .inr (.inl s_now_x))), (q_now_y, .inl (ky 1, 240, .inr (.inl s_now_y)))]) (wn := [(q_, .inr (12, [.ref q_now, .int s_isWindow, .ref q_kept, .ref q_isKept, .ref q_paneOf, .int s_panes, .ref q_firstStep, .ref q_kinds, .ref q_allowed, .ref q_colour, .ref q_picked, .int s_picks, .ref q_lacking, .int s_hasLack, .ref q_rackKind, .ref q_rackAllowed, .ref q_founds, .ref q_plus, .ref q_minus, .ref q_under, .ref q_work, .ref q_other, .ref q_order, .int s_ordered, .ref q_tried, .ref q_touches, .ref q_out, .ref q_cuts, .ref q_boxWide, .ref q_boxTall, .ref q_boxTurns, .ref q_goal])), (q_now, .inr (10, [.int s_now_w, .int s_now_h, .int s_now_leads, .int s_now_lines, .ref q_now_ax, .ref q_now_ay, .ref q_now_bx, .ref q_now_by, .int s_now_joints, .ref q_now_x, .ref q_now_y, .ref q_now_d, .int s_now_pieces, .ref q_now_from, .ref q_now_to, .ref q_now_firm])), (q_now_d, .inl (ky 1, 240, .inr (.inl s_now_d))), (q_now_from, .inl (ky 0, 800, .inl s_now_from)), (q_now_to, .inl (ky 0, 800, .inl s_now_to)), (q_now_x, .inl (ky 1, 240, .inr (.inl s_now_x))), (q_now_y, .inl (ky 1, 240, .inr (.inl s_now_y)))]) ⟨hx, hb, hml, hown, hts⟩ (c_X12_beginOf l D ky q_ q_now q_kept q_isKept q_paneOf q_firstStep q_kinds q_allowed q_colour q_picked q_lacking q_rackKind q_rackAllowed q_founds q_plus q_minus q_under q_work q_other q_order q_tried q_touches q_out q_cuts q_boxWide q_boxTall q_boxTurns q_goal q_now_ax q_now_ay q_now_bx q_now_by q_now_x q_now_y q_now_d q_now_from q_now_to q_now_firm a1 s_isWindow s_panes s_picks s_hasLack s_ordered s_now_w s_now_h s_now_leads s_now_lines s_now_joints s_now_pieces s_now_from s_now_to hc) (cwV 1 hts gX12_isOutside_X12_beginOf rfl rfl rfl (by decide +kernel) ⟨Nat.le_of_ble_eq_true rfl, Nat.le_of_ble_eq_true rfl⟩) (rcv hK.1 hP (q0 := 0) rfl rfl) hP hD hK hS hA [0, 1, 3, 4] [2, 5, 6] [3, 4, 0, 5, 6, 1, 2] rfl (by decide +kernel) rfl (by decide +kernel) (by decide +kernel) (by decide +kernel) rfl rfl rfl hl.1 (Nat.le_of_ble_eq_true rfl) dX12_isOutside_2 ⟨Nat.le_of_ble_eq_true rfl, Nat.le_of_ble_eq_true rfl⟩ (fun H locs hP hD hS => ?_)
  refine lv_istore_n (lv' := [(2, .int r1), (0, .ref q_), (1, .int a1)]) hx hb dX12_isOutside_5 rfl hl (by decide) rfl (fun ls hl => ?_)
  refine lv_aload_n hx hb dX12_isOutside_6 rfl (lv_at hl 1 rfl) ?_
  refine lv_iload_n hx hb dX12_isOutside_7 rfl (lv_at hl 2 rfl) ?_
  obtain ⟨r2, hc, h⟩ := ob_of h
  replace h := dm1_of h
  refine cv_i (As := [.int a1]) (rest := []) (wr := [(q_now_d, .inl (ky 1, 240, .inr (.inl s_now_d))), (q_now_x, .inl (ky 1, 240, .inr (.inl s_now_x))), (q_now_y, .inl (ky 1, 240, .inr (.inl s_now_y)))]) (wn := [(q_, .inr (12, [.ref q_now, .int s_isWindow, .ref q_kept, .ref q_isKept, .ref q_paneOf, .int s_panes, .ref q_firstStep, .ref q_kinds, .ref q_allowed, .ref q_colour, .ref q_picked, .int s_picks, .ref q_lacking, .int s_hasLack, .ref q_rackKind, .ref q_rackAllowed, .ref q_founds, .ref q_plus, .ref q_minus, .ref q_under, .ref q_work, .ref q_other, .ref q_order, .int s_ordered, .ref q_tried, .ref q_touches, .ref q_out, .ref q_cuts, .ref q_boxWide, .ref q_boxTall, .ref q_boxTurns, .ref q_goal])), (q_now, .inr (10, [.int s_now_w, .int s_now_h, .int s_now_leads, .int s_now_lines, .ref q_now_ax, .ref q_now_ay, .ref q_now_bx, .ref q_now_by, .int s_now_joints, .ref q_now_x, .ref q_now_y, .ref q_now_d, .int s_now_pieces, .ref q_now_from, .ref q_now_to, .ref q_now_firm])), (q_now_d, .inl (ky 1, 240, .inr (.inl s_now_d))), (q_now_from, .inl (ky 0, 800, .inl s_now_from)), (q_now_to, .inl (ky 0, 800, .inl s_now_to)), (q_now_x, .inl (ky 1, 240, .inr (.inl s_now_x))), (q_now_y, .inl (ky 1, 240, .inr (.inl s_now_y)))]) ⟨hx, hb, hml, hown, hts⟩ (c_X12_endOf l D ky q_ q_now q_kept q_isKept q_paneOf q_firstStep q_kinds q_allowed q_colour q_picked q_lacking q_rackKind q_rackAllowed q_founds q_plus q_minus q_under q_work q_other q_order q_tried q_touches q_out q_cuts q_boxWide q_boxTall q_boxTurns q_goal q_now_ax q_now_ay q_now_bx q_now_by q_now_x q_now_y q_now_d q_now_from q_now_to q_now_firm a1 s_isWindow s_panes s_picks s_hasLack s_ordered s_now_w s_now_h s_now_leads s_now_lines s_now_joints s_now_pieces s_now_from s_now_to hc) (cwV 1 hts gX12_isOutside_X12_endOf rfl rfl rfl (by decide +kernel) ⟨Nat.le_of_ble_eq_true rfl, Nat.le_of_ble_eq_true rfl⟩) (rcv hK.1 hP (q0 := 0) rfl rfl) hP hD hK hS hA [0, 1, 3, 4] [2, 5, 6] [3, 4, 0, 5, 6, 1, 2] rfl (by decide +kernel) rfl (by decide +kernel) (by decide +kernel) (by decide +kernel) rfl rfl rfl hl.1 (Nat.le_of_ble_eq_true rfl) dX12_isOutside_8 ⟨Nat.le_of_ble_eq_true rfl, Nat.le_of_ble_eq_true rfl⟩ (fun H locs hP hD hS => ?_)
  refine lv_istore_n (lv' := [(3, .int r2), (2, .int r1), (0, .ref q_), (1, .int a1)]) hx hb dX12_isOutside_11 rfl hl (by decide) rfl (fun ls hl => ?_)
  refine lv_aload_n hx hb dX12_isOutside_12 rfl (lv_at hl 2 rfl) ?_
  refine va_get (D := D) (ci := 12) (v := .ref q_now) (C := RX12) (T := TX12) (N := 32) hx hb hts hi_X12 hown hK.1 hP 0 rfl rfl 0 (by decide) hf_16 (fun _ h9 => h9) rfl dX12_isOutside_13 ?_
  refine va_getN (D := D) (ci := 10) (v := .ref q_now_y) (C := RX10) (T := TX10) (N := 16) hx hb hts hi_X10 hown hK.1 hP 1 rfl rfl 10 (by decide) hf_124 (fun _ h9 => h9) rfl dX12_isOutside_16 ?_
  refine lv_iload_n hx hb dX12_isOutside_19 rfl (lv_at hl 1 rfl) ?_
  obtain ⟨hg, h⟩ := gd_of h
  refine va_lald hx hb hK.1 hP 6 1 rfl rfl hg dX12_isOutside_20 ?_
  refine lv_lconst (v := 0) hx hb dX12_isOutside_21 (by decide) ?_
  refine W.lcmp hx hb dX12_isOutside_22 ?_
  obtain ⟨t, hd, h⟩ := ob_of h
  have K : ∀ (H : Heap) (locs : List Loc) (ls : Array Slot), va_P D vwCl [(q_, .inr (12, [.ref q_now, .int s_isWindow, .ref q_kept, .ref q_isKept, .ref q_paneOf, .int s_panes, .ref q_firstStep, .ref q_kinds, .ref q_allowed, .ref q_colour, .ref q_picked, .int s_picks, .ref q_lacking, .int s_hasLack, .ref q_rackKind, .ref q_rackAllowed, .ref q_founds, .ref q_plus, .ref q_minus, .ref q_under, .ref q_work, .ref q_other, .ref q_order, .int s_ordered, .ref q_tried, .ref q_touches, .ref q_out, .ref q_cuts, .ref q_boxWide, .ref q_boxTall, .ref q_boxTurns, .ref q_goal])), (q_now, .inr (10, [.int s_now_w, .int s_now_h, .int s_now_leads, .int s_now_lines, .ref q_now_ax, .ref q_now_ay, .ref q_now_bx, .ref q_now_by, .int s_now_joints, .ref q_now_x, .ref q_now_y, .ref q_now_d, .int s_now_pieces, .ref q_now_from, .ref q_now_to, .ref q_now_firm])), (q_now_d, .inl (ky 1, 240, .inr (.inl s_now_d))), (q_now_from, .inl (ky 0, 800, .inl s_now_from)), (q_now_to, .inl (ky 0, 800, .inl s_now_to)), (q_now_x, .inl (ky 1, 240, .inr (.inl s_now_x))), (q_now_y, .inl (ky 1, 240, .inr (.inl s_now_y)))] H → va_D A [(q_, .inr (12, [.ref q_now, .int s_isWindow, .ref q_kept, .ref q_isKept, .ref q_paneOf, .int s_panes, .ref q_firstStep, .ref q_kinds, .ref q_allowed, .ref q_colour, .ref q_picked, .int s_picks, .ref q_lacking, .int s_hasLack, .ref q_rackKind, .ref q_rackAllowed, .ref q_founds, .ref q_plus, .ref q_minus, .ref q_under, .ref q_work, .ref q_other, .ref q_order, .int s_ordered, .ref q_tried, .ref q_touches, .ref q_out, .ref q_cuts, .ref q_boxWide, .ref q_boxTall, .ref q_boxTurns, .ref q_goal])), (q_now, .inr (10, [.int s_now_w, .int s_now_h, .int s_now_leads, .int s_now_lines, .ref q_now_ax, .ref q_now_ay, .ref q_now_bx, .ref q_now_by, .int s_now_joints, .ref q_now_x, .ref q_now_y, .ref q_now_d, .int s_now_pieces, .ref q_now_from, .ref q_now_to, .ref q_now_firm])), (q_now_d, .inl (ky 1, 240, .inr (.inl s_now_d))), (q_now_from, .inl (ky 0, 800, .inl s_now_from)), (q_now_to, .inl (ky 0, 800, .inl s_now_to)), (q_now_x, .inl (ky 1, 240, .inr (.inl s_now_x))), (q_now_y, .inl (ky 1, 240, .inr (.inl s_now_y)))] → va_S A s.heap H locs → lv_has ls 5 [(0, .ref q_), (2, .int r1), (3, .int r2)] → W p l e rmX12_isOutside s m args below meth c H locs 0 0 Q (F0 m 45 ls [.int t]) := by
    clear hd hP hD hS hl
    obtain ⟨v3, rfl⟩ : ∃ z, z = t := ⟨_, rfl⟩
    replace h := dm1_of h
    intro H locs ls hP hD hS hl
    replace hP : va_P D vwCl [(q_, .inr (12, [.ref q_now, .int s_isWindow, .ref q_kept, .ref q_isKept, .ref q_paneOf, .int s_panes, .ref q_firstStep, .ref q_kinds, .ref q_allowed, .ref q_colour, .ref q_picked, .int s_picks, .ref q_lacking, .int s_hasLack, .ref q_rackKind, .ref q_rackAllowed, .ref q_founds, .ref q_plus, .ref q_minus, .ref q_under, .ref q_work, .ref q_other, .ref q_order, .int s_ordered, .ref q_tried, .ref q_touches, .ref q_out, .ref q_cuts, .ref q_boxWide, .ref q_boxTall, .ref q_boxTurns, .ref q_goal])), (q_now, .inr (10, [.int s_now_w, .int s_now_h, .int s_now_leads, .int s_now_lines, .ref q_now_ax, .ref q_now_ay, .ref q_now_bx, .ref q_now_by, .int s_now_joints, .ref q_now_x, .ref q_now_y, .ref q_now_d, .int s_now_pieces, .ref q_now_from, .ref q_now_to, .ref q_now_firm])), (q_now_d, .inl (ky 1, 240, .inr (.inl s_now_d))), (q_now_from, .inl (ky 0, 800, .inl s_now_from)), (q_now_to, .inl (ky 0, 800, .inl s_now_to)), (q_now_x, .inl (ky 1, 240, .inr (.inl s_now_x))), (q_now_y, .inl (ky 1, 240, .inr (.inl s_now_y)))] H := hP
    replace hD : va_D A [(q_, .inr (12, [.ref q_now, .int s_isWindow, .ref q_kept, .ref q_isKept, .ref q_paneOf, .int s_panes, .ref q_firstStep, .ref q_kinds, .ref q_allowed, .ref q_colour, .ref q_picked, .int s_picks, .ref q_lacking, .int s_hasLack, .ref q_rackKind, .ref q_rackAllowed, .ref q_founds, .ref q_plus, .ref q_minus, .ref q_under, .ref q_work, .ref q_other, .ref q_order, .int s_ordered, .ref q_tried, .ref q_touches, .ref q_out, .ref q_cuts, .ref q_boxWide, .ref q_boxTall, .ref q_boxTurns, .ref q_goal])), (q_now, .inr (10, [.int s_now_w, .int s_now_h, .int s_now_leads, .int s_now_lines, .ref q_now_ax, .ref q_now_ay, .ref q_now_bx, .ref q_now_by, .int s_now_joints, .ref q_now_x, .ref q_now_y, .ref q_now_d, .int s_now_pieces, .ref q_now_from, .ref q_now_to, .ref q_now_firm])), (q_now_d, .inl (ky 1, 240, .inr (.inl s_now_d))), (q_now_from, .inl (ky 0, 800, .inl s_now_from)), (q_now_to, .inl (ky 0, 800, .inl s_now_to)), (q_now_x, .inl (ky 1, 240, .inr (.inl s_now_x))), (q_now_y, .inl (ky 1, 240, .inr (.inl s_now_y)))] := hD
    replace hl : lv_has ls 5 [(0, .ref q_), (2, .int r1), (3, .int r2)] := hl
    refine W.eq (g2 := F0 m 45 ls [.int v3]) rfl ?_
    refine lv_istore (lv' := [(4, .int v3), (0, .ref q_), (2, .int r1), (3, .int r2)]) hx hb dX12_isOutside_45 hl (by decide) rfl (fun ls hl => ?_)
    refine lv_iload hx hb dX12_isOutside_47 (lv_at hl 0 rfl) ?_
    refine lv_if_eq (tgt := 67) hx hb dX12_isOutside_49 (by decide) (fun hc => ?_) (fun hc => ?_)
    · replace h := if_t hc h
      refine lv_iconst (v := 0) hx hb dX12_isOutside_67 (by decide) ?_
      cases h
      exact ret _ _ _ _ (Or.inl rfl) dX12_isOutside_68 hP hD hS
    · replace h := if_f hc h
      refine lv_aload_n hx hb dX12_isOutside_52 rfl (lv_at hl 1 rfl) ?_
      refine lv_iload_n hx hb dX12_isOutside_53 rfl (lv_at hl 2 rfl) ?_
      refine lv_iload_n hx hb dX12_isOutside_54 rfl (lv_at hl 3 rfl) ?_
      obtain ⟨r4, hc, h⟩ := ob_of h
      replace h := dm1_of h
      refine cv_l (As := [.int r1, .int r2]) (rest := []) (wr := [(q_now_from, .inl (ky 0, 800, .inl s_now_from)), (q_now_to, .inl (ky 0, 800, .inl s_now_to)), (q_now_y, .inl (ky 1, 240, .inr (.inl s_now_y)))]) (wn := [(q_, .inr (12, [.ref q_now, .int s_isWindow, .ref q_kept, .ref q_isKept, .ref q_paneOf, .int s_panes, .ref q_firstStep, .ref q_kinds, .ref q_allowed, .ref q_colour, .ref q_picked, .int s_picks, .ref q_lacking, .int s_hasLack, .ref q_rackKind, .ref q_rackAllowed, .ref q_founds, .ref q_plus, .ref q_minus, .ref q_under, .ref q_work, .ref q_other, .ref q_order, .int s_ordered, .ref q_tried, .ref q_touches, .ref q_out, .ref q_cuts, .ref q_boxWide, .ref q_boxTall, .ref q_boxTurns, .ref q_goal])), (q_now, .inr (10, [.int s_now_w, .int s_now_h, .int s_now_leads, .int s_now_lines, .ref q_now_ax, .ref q_now_ay, .ref q_now_bx, .ref q_now_by, .int s_now_joints, .ref q_now_x, .ref q_now_y, .ref q_now_d, .int s_now_pieces, .ref q_now_from, .ref q_now_to, .ref q_now_firm])), (q_now_d, .inl (ky 1, 240, .inr (.inl s_now_d))), (q_now_from, .inl (ky 0, 800, .inl s_now_from)), (q_now_to, .inl (ky 0, 800, .inl s_now_to)), (q_now_x, .inl (ky 1, 240, .inr (.inl s_now_x))), (q_now_y, .inl (ky 1, 240, .inr (.inl s_now_y)))]) ⟨hx, hb, hml, hown, hts⟩ (c_X12_wayX l D ky q_ q_now q_kept q_isKept q_paneOf q_firstStep q_kinds q_allowed q_colour q_picked q_lacking q_rackKind q_rackAllowed q_founds q_plus q_minus q_under q_work q_other q_order q_tried q_touches q_out q_cuts q_boxWide q_boxTall q_boxTurns q_goal q_now_ax q_now_ay q_now_bx q_now_by q_now_x q_now_y q_now_d q_now_from q_now_to q_now_firm r1 r2 s_isWindow s_panes s_picks s_hasLack s_ordered s_now_w s_now_h s_now_leads s_now_lines s_now_joints s_now_pieces s_now_d s_now_x hc) (cwV 2 hts gX12_isOutside_X12_wayX rfl rfl rfl (by decide +kernel) ⟨Nat.le_of_ble_eq_true rfl, Nat.le_of_ble_eq_true rfl⟩) (rcv hK.1 hP (q0 := 0) rfl rfl) hP hD hK hS hA [0, 1, 2, 5] [3, 4, 6] [3, 4, 5, 0, 1, 6, 2] rfl (by decide +kernel) rfl (by decide +kernel) (by decide +kernel) (by decide +kernel) rfl rfl rfl hl.1 (Nat.le_of_ble_eq_true rfl) dX12_isOutside_55 ⟨Nat.le_of_ble_eq_true rfl, Nat.le_of_ble_eq_true rfl⟩ (fun H locs hP hD hS => ?_)
      refine lv_lconst (v := 0) hx hb dX12_isOutside_58 (by decide) ?_
      refine W.lcmp hx hb dX12_isOutside_59 ?_
      refine lv_if_ge (tgt := 67) hx hb dX12_isOutside_60 (by decide) (fun hc => ?_) (fun hc => ?_)
      · replace h := if_t hc h
        refine lv_iconst (v := 0) hx hb dX12_isOutside_67 (by decide) ?_
        cases h
        exact ret _ _ _ _ (Or.inl rfl) dX12_isOutside_68 hP hD hS
      · replace h := if_f hc h
        refine lv_iconst (v := 1) hx hb dX12_isOutside_63 (by decide) ?_
        refine lv_goto (tgt := 68) hx hb dX12_isOutside_64 (by decide) ?_
        cases h
        exact ret _ _ _ _ (Or.inr rfl) dX12_isOutside_68 hP hD hS
  replace h := hd
  clear hd
  refine lv_if_ne (tgt := 44) hx hb dX12_isOutside_23 (by decide) (fun hc => ?_) (fun hc => ?_)
  · replace h := if_t hc h
    refine lv_iconst (v := 0) hx hb dX12_isOutside_44 (by decide) ?_
    cases h
    exact K _ _ _ hP hD hS (lv_sub hl [2, 1, 0] rfl)
  · replace h := if_f (fun z => z hc) h
    refine lv_aload_n hx hb dX12_isOutside_26 rfl (lv_at hl 2 rfl) ?_
    refine va_get (D := D) (ci := 12) (v := .ref q_now) (C := RX12) (T := TX12) (N := 32) hx hb hts hi_X12 hown hK.1 hP 0 rfl rfl 0 (by decide) hf_16 (fun _ h9 => h9) rfl dX12_isOutside_27 ?_
    refine va_getN (D := D) (ci := 10) (v := .ref q_now_y) (C := RX10) (T := TX10) (N := 16) hx hb hts hi_X10 hown hK.1 hP 1 rfl rfl 10 (by decide) hf_124 (fun _ h9 => h9) rfl dX12_isOutside_30 ?_
    refine lv_iload_n hx hb dX12_isOutside_33 rfl (lv_at hl 0 rfl) ?_
    obtain ⟨hg, h⟩ := gd_of h
    refine va_lald hx hb hK.1 hP 6 1 rfl rfl hg dX12_isOutside_34 ?_
    refine lv_lconst (v := 0) hx hb dX12_isOutside_35 (by decide) ?_
    refine W.lcmp hx hb dX12_isOutside_36 ?_
    refine lv_if_ne (tgt := 44) hx hb dX12_isOutside_37 (by decide) (fun hc => ?_) (fun hc => ?_)
    · replace h := if_t hc h
      refine lv_iconst (v := 0) hx hb dX12_isOutside_44 (by decide) ?_
      cases h
      exact K _ _ _ hP hD hS (lv_sub hl [2, 1, 0] rfl)
    · replace h := if_f (fun z => z hc) h
      refine lv_iconst (v := 1) hx hb dX12_isOutside_40 (by decide) ?_
      refine lv_goto (tgt := 45) hx hb dX12_isOutside_41 (by decide) ?_
      cases h
      exact K _ _ _ hP hD hS (lv_sub hl [2, 1, 0] rfl)

def bX12_least_4 (s_now_pieces : Int32) (s_now_firm : Nat → Int32) (s_now_from : Nat → Int32) (s_now_to : Nat → Int32) (s_paneOf : Nat → Int32) (t : Int32 × Int32) : Option (Nat × (Int32 × Int32)) := dm2 t (fun (v1 : Int32) (v2 : Int32) => if ((2 : Int32) * s_now_pieces) ≤ v2 then some (1, (v1, v2)) else gd (¬ (2 : Int32) = 0) (gd (¬ ((v2 / (2 : Int32)) < 0 ∨ 800 ≤ (v2 / (2 : Int32)).toNatClampNeg)) (ob (if (s_now_firm (v2 / (2 : Int32)).toNatClampNeg) = 0 then some v1 else gd (¬ (v2 < 0 ∨ 1600 ≤ v2.toNatClampNeg)) (if (s_paneOf v2.toNatClampNeg) = (-2 : Int32) then if v1 < 0 then if (1 : Int32) = 0 then some v1 else some v2 else ob (sX12_beginOf v2 s_now_from s_now_to) (fun o => dm1 o (fun (r5 : Int32) => ob (sX12_beginOf v1 s_now_from s_now_to) (fun o => dm1 o (fun (r6 : Int32) => if r5 < r6 then if (1 : Int32) = 0 then some v1 else some v2 else ob (sX12_beginOf v2 s_now_from s_now_to) (fun o => dm1 o (fun (r7 : Int32) => ob (sX12_beginOf v1 s_now_from s_now_to) (fun o => dm1 o (fun (r8 : Int32) => if ¬ r7 = r8 then if (0 : Int32) = 0 then some v1 else some v2 else ob (sX12_endOf v2 s_now_from s_now_to) (fun o => dm1 o (fun (r9 : Int32) => ob (sX12_endOf v1 s_now_from s_now_to) (fun o => dm1 o (fun (r10 : Int32) => if r10 ≤ r9 then if (0 : Int32) = 0 then some v1 else some v2 else if (1 : Int32) = 0 then some v1 else some v2)))))))))))) else some v1)) (fun t => dm1 t (fun (v3 : Int32) => lt (v2 + 1) (fun x4 => some (0, (v3, x4))))))))
def sX12_least  (s_now_pieces : Int32) (s_now_firm : Nat → Int32) (s_now_from : Nat → Int32) (s_now_to : Nat → Int32) (s_paneOf : Nat → Int32) : Option (Int32) := ob (iter (bX12_least_4 s_now_pieces s_now_firm s_now_from s_now_to s_paneOf) FU ((-1 : Int32), (0 : Int32))) (fun kt => ex1 kt (fun t => dm2 t (fun (v11 : Int32) (v12 : Int32) => some v11)))
abbrev rmX12_least : Room := { frames := 2, cells := 0, slots := 0, locals := 42 }
set_option maxHeartbeats 4000000 in
set_option maxRecDepth 100000 in
theorem c_X12_least (l : Launch) (D : va_G) (ky : Nat → ClassId) (q_ q_now q_kept q_isKept q_paneOf q_firstStep q_kinds q_allowed q_colour q_picked q_lacking q_rackKind q_rackAllowed q_founds q_plus q_minus q_under q_work q_other q_order q_tried q_touches q_out q_cuts q_boxWide q_boxTall q_boxTurns q_goal q_now_ax q_now_ay q_now_bx q_now_by q_now_x q_now_y q_now_d q_now_from q_now_to q_now_firm : Nat) (s_isWindow : Int32) (s_panes : Int32) (s_picks : Int32) (s_hasLack : Int32) (s_ordered : Int32) (s_now_w : Int32) (s_now_h : Int32) (s_now_leads : Int32) (s_now_lines : Int32) (s_now_joints : Int32) (s_now_pieces : Int32) (s_now_firm : Nat → Int32) (s_now_from : Nat → Int32) (s_now_to : Nat → Int32) (s_paneOf : Nat → Int32) {o_r : Int32} (h : sX12_least s_now_pieces s_now_firm s_now_from s_now_to s_paneOf = some o_r) : MtI l D ky yX12_least wsX12_least rmX12_least [.ref q_] [(q_, .inr (12, [.ref q_now, .int s_isWindow, .ref q_kept, .ref q_isKept, .ref q_paneOf, .int s_panes, .ref q_firstStep, .ref q_kinds, .ref q_allowed, .ref q_colour, .ref q_picked, .int s_picks, .ref q_lacking, .int s_hasLack, .ref q_rackKind, .ref q_rackAllowed, .ref q_founds, .ref q_plus, .ref q_minus, .ref q_under, .ref q_work, .ref q_other, .ref q_order, .int s_ordered, .ref q_tried, .ref q_touches, .ref q_out, .ref q_cuts, .ref q_boxWide, .ref q_boxTall, .ref q_boxTurns, .ref q_goal])), (q_now, .inr (10, [.int s_now_w, .int s_now_h, .int s_now_leads, .int s_now_lines, .ref q_now_ax, .ref q_now_ay, .ref q_now_bx, .ref q_now_by, .int s_now_joints, .ref q_now_x, .ref q_now_y, .ref q_now_d, .int s_now_pieces, .ref q_now_from, .ref q_now_to, .ref q_now_firm])), (q_now_firm, .inl (ky 2, 800, .inl s_now_firm)), (q_now_from, .inl (ky 0, 800, .inl s_now_from)), (q_now_to, .inl (ky 0, 800, .inl s_now_to)), (q_paneOf, .inl (ky 0, 1600, .inl s_paneOf))] [(q_, .inr (12, [.ref q_now, .int s_isWindow, .ref q_kept, .ref q_isKept, .ref q_paneOf, .int s_panes, .ref q_firstStep, .ref q_kinds, .ref q_allowed, .ref q_colour, .ref q_picked, .int s_picks, .ref q_lacking, .int s_hasLack, .ref q_rackKind, .ref q_rackAllowed, .ref q_founds, .ref q_plus, .ref q_minus, .ref q_under, .ref q_work, .ref q_other, .ref q_order, .int s_ordered, .ref q_tried, .ref q_touches, .ref q_out, .ref q_cuts, .ref q_boxWide, .ref q_boxTall, .ref q_boxTurns, .ref q_goal])), (q_now, .inr (10, [.int s_now_w, .int s_now_h, .int s_now_leads, .int s_now_lines, .ref q_now_ax, .ref q_now_ay, .ref q_now_bx, .ref q_now_by, .int s_now_joints, .ref q_now_x, .ref q_now_y, .ref q_now_d, .int s_now_pieces, .ref q_now_from, .ref q_now_to, .ref q_now_firm])), (q_now_firm, .inl (ky 2, 800, .inl s_now_firm)), (q_now_from, .inl (ky 0, 800, .inl s_now_from)), (q_now_to, .inl (ky 0, 800, .inl s_now_to)), (q_paneOf, .inl (ky 0, 1600, .inl s_paneOf))] o_r 0 0 := by
  refine MtI.of (cc := cX12_least) (maxL := 4) (by decide +kernel) rfl (Nat.le_of_ble_eq_true rfl) ?_
  intro p e R s m args below meth c A Q ls hR hx hb hts hown hnm hml hP hK hD hA ret hl
  subst hR
  obtain ⟨H, hH⟩ : ∃ H, H = s.heap := ⟨_, rfl⟩
  obtain ⟨locs, hlocs⟩ : ∃ locs : List Loc, locs = [] := ⟨_, rfl⟩
  have hS : va_S A s.heap H locs := by rw [hH, hlocs]; exact va_S.rf
  rw [← hH] at hP
  suffices hgo : W p l e rmX12_least s m args below meth c H locs 0 0 Q (F0 m 0 ls []) by rw [hH, hlocs] at hgo; exact hgo
  clear hH hlocs
  replace hl : lv_has ls 4 [(0, .ref q_)] := hl
  replace hown : s.vm.findClass RX12 = some m.cls := hown
  have hi_X12 : ∀ w ∈ u_ws RX12 TX12 32, w ∈ wsX12_least := fun _ h9 => List.mem_cons_of_mem _ (List.mem_append_left _ (List.mem_append_right _ h9))
  have hf_16 := hts (.fieldLink RX12 16 "GlazierBenchModel" "now" "LGlazierBenchModel$Drawing;") (by decide +kernel)
  have hi_X10 : ∀ w ∈ u_ws RX10 TX10 16, w ∈ wsX12_least := fun _ h9 => List.mem_cons_of_mem _ (List.mem_append_right _ h9)
  have hf_137 := (va_Nw.use (A := args) rfl (hK.2 (.fieldLinkNest RX12 137 RX10 "pieces" "I" RX12) (by decide +kernel)) : (Cond.fieldLinkNest RX12 137 RX10 "pieces" "I" RX12).before args s = true)
  have hf_141 := (va_Nw.use (A := args) rfl (hK.2 (.fieldLinkNest RX12 141 RX10 "firm" "[Z" RX12) (by decide +kernel)) : (Cond.fieldLinkNest RX12 141 RX10 "firm" "[Z" RX12).before args s = true)
  have hf_30 := hts (.fieldLink RX12 30 "GlazierBenchModel" "paneOf" "[I") (by decide +kernel)
  unfold sX12_least at h
  refine lv_iconst (v := (-1)) hx hb dX12_least_0 (by decide) ?_
  refine lv_istore_n (lv' := [(1, .int (-1 : Int32)), (0, .ref q_)]) hx hb dX12_least_1 rfl hl (by decide) rfl (fun ls hl => ?_)
  refine lv_iconst (v := 0) hx hb dX12_least_2 (by decide) ?_
  refine lv_istore_n (lv' := [(2, .int (0 : Int32)), (1, .int (-1 : Int32)), (0, .ref q_)]) hx hb dX12_least_3 rfl hl (by decide) rfl (fun ls hl => ?_)
  obtain ⟨⟨k, t⟩, hi, h⟩ := ob_of h
  refine iter_rule (P := fun (k : Nat) (t : Int32 × Int32) => ∀ (H : Heap) (locs : List Loc) (ls : Array Slot), va_P D vwCl [(q_, .inr (12, [.ref q_now, .int s_isWindow, .ref q_kept, .ref q_isKept, .ref q_paneOf, .int s_panes, .ref q_firstStep, .ref q_kinds, .ref q_allowed, .ref q_colour, .ref q_picked, .int s_picks, .ref q_lacking, .int s_hasLack, .ref q_rackKind, .ref q_rackAllowed, .ref q_founds, .ref q_plus, .ref q_minus, .ref q_under, .ref q_work, .ref q_other, .ref q_order, .int s_ordered, .ref q_tried, .ref q_touches, .ref q_out, .ref q_cuts, .ref q_boxWide, .ref q_boxTall, .ref q_boxTurns, .ref q_goal])), (q_now, .inr (10, [.int s_now_w, .int s_now_h, .int s_now_leads, .int s_now_lines, .ref q_now_ax, .ref q_now_ay, .ref q_now_bx, .ref q_now_by, .int s_now_joints, .ref q_now_x, .ref q_now_y, .ref q_now_d, .int s_now_pieces, .ref q_now_from, .ref q_now_to, .ref q_now_firm])), (q_now_firm, .inl (ky 2, 800, .inl s_now_firm)), (q_now_from, .inl (ky 0, 800, .inl s_now_from)), (q_now_to, .inl (ky 0, 800, .inl s_now_to)), (q_paneOf, .inl (ky 0, 1600, .inl s_paneOf))] H → va_D A [(q_, .inr (12, [.ref q_now, .int s_isWindow, .ref q_kept, .ref q_isKept, .ref q_paneOf, .int s_panes, .ref q_firstStep, .ref q_kinds, .ref q_allowed, .ref q_colour, .ref q_picked, .int s_picks, .ref q_lacking, .int s_hasLack, .ref q_rackKind, .ref q_rackAllowed, .ref q_founds, .ref q_plus, .ref q_minus, .ref q_under, .ref q_work, .ref q_other, .ref q_order, .int s_ordered, .ref q_tried, .ref q_touches, .ref q_out, .ref q_cuts, .ref q_boxWide, .ref q_boxTall, .ref q_boxTurns, .ref q_goal])), (q_now, .inr (10, [.int s_now_w, .int s_now_h, .int s_now_leads, .int s_now_lines, .ref q_now_ax, .ref q_now_ay, .ref q_now_bx, .ref q_now_by, .int s_now_joints, .ref q_now_x, .ref q_now_y, .ref q_now_d, .int s_now_pieces, .ref q_now_from, .ref q_now_to, .ref q_now_firm])), (q_now_firm, .inl (ky 2, 800, .inl s_now_firm)), (q_now_from, .inl (ky 0, 800, .inl s_now_from)), (q_now_to, .inl (ky 0, 800, .inl s_now_to)), (q_paneOf, .inl (ky 0, 1600, .inl s_paneOf))] → va_S A s.heap H locs → lv_has ls 4 [(0, .ref q_), (1, .int t.1), (2, .int t.2)] → W p l e rmX12_least s m args below meth c H locs 0 0 Q (F0 m ([4, 110].getD k 0) ls [])) ?_ _ _ _ _ hi ?_ H locs ls hP hD hS (lv_sub hl [2, 1, 0] rfl)
  · clear h hi hP hD hS hl
    intro t k t' h K
    obtain ⟨v1, v2⟩ := t
    intro H locs ls hP hD hS hl
    replace h := dm2_of h
    replace hP : va_P D vwCl [(q_, .inr (12, [.ref q_now, .int s_isWindow, .ref q_kept, .ref q_isKept, .ref q_paneOf, .int s_panes, .ref q_firstStep, .ref q_kinds, .ref q_allowed, .ref q_colour, .ref q_picked, .int s_picks, .ref q_lacking, .int s_hasLack, .ref q_rackKind, .ref q_rackAllowed, .ref q_founds, .ref q_plus, .ref q_minus, .ref q_under, .ref q_work, .ref q_other, .ref q_order, .int s_ordered, .ref q_tried, .ref q_touches, .ref q_out, .ref q_cuts, .ref q_boxWide, .ref q_boxTall, .ref q_boxTurns, .ref q_goal])), (q_now, .inr (10, [.int s_now_w, .int s_now_h, .int s_now_leads, .int s_now_lines, .ref q_now_ax, .ref q_now_ay, .ref q_now_bx, .ref q_now_by, .int s_now_joints, .ref q_now_x, .ref q_now_y, .ref q_now_d, .int s_now_pieces, .ref q_now_from, .ref q_now_to, .ref q_now_firm])), (q_now_firm, .inl (ky 2, 800, .inl s_now_firm)), (q_now_from, .inl (ky 0, 800, .inl s_now_from)), (q_now_to, .inl (ky 0, 800, .inl s_now_to)), (q_paneOf, .inl (ky 0, 1600, .inl s_paneOf))] H := hP
    replace hD : va_D A [(q_, .inr (12, [.ref q_now, .int s_isWindow, .ref q_kept, .ref q_isKept, .ref q_paneOf, .int s_panes, .ref q_firstStep, .ref q_kinds, .ref q_allowed, .ref q_colour, .ref q_picked, .int s_picks, .ref q_lacking, .int s_hasLack, .ref q_rackKind, .ref q_rackAllowed, .ref q_founds, .ref q_plus, .ref q_minus, .ref q_under, .ref q_work, .ref q_other, .ref q_order, .int s_ordered, .ref q_tried, .ref q_touches, .ref q_out, .ref q_cuts, .ref q_boxWide, .ref q_boxTall, .ref q_boxTurns, .ref q_goal])), (q_now, .inr (10, [.int s_now_w, .int s_now_h, .int s_now_leads, .int s_now_lines, .ref q_now_ax, .ref q_now_ay, .ref q_now_bx, .ref q_now_by, .int s_now_joints, .ref q_now_x, .ref q_now_y, .ref q_now_d, .int s_now_pieces, .ref q_now_from, .ref q_now_to, .ref q_now_firm])), (q_now_firm, .inl (ky 2, 800, .inl s_now_firm)), (q_now_from, .inl (ky 0, 800, .inl s_now_from)), (q_now_to, .inl (ky 0, 800, .inl s_now_to)), (q_paneOf, .inl (ky 0, 1600, .inl s_paneOf))] := hD
    replace hl : lv_has ls 4 [(0, .ref q_), (1, .int v1), (2, .int v2)] := hl
    refine lv_iload_n hx hb dX12_least_4 rfl (lv_at hl 2 rfl) ?_
    refine lv_iconst (v := 2) hx hb dX12_least_5 (by decide) ?_
    refine lv_aload_n hx hb dX12_least_6 rfl (lv_at hl 0 rfl) ?_
    refine va_get (D := D) (ci := 12) (v := .ref q_now) (C := RX12) (T := TX12) (N := 32) hx hb hts hi_X12 hown hK.1 hP 0 rfl rfl 0 (by decide) hf_16 (fun _ h9 => h9) rfl dX12_least_7 ?_
    refine va_getN (D := D) (ci := 10) (v := .int s_now_pieces) (C := RX10) (T := TX10) (N := 16) hx hb hts hi_X10 hown hK.1 hP 1 rfl rfl 12 (by decide) hf_137 (fun _ h9 => h9) rfl dX12_least_10 ?_
    refine lv_imul hx hb dX12_least_13 ?_
    refine lv_icmp_ge (tgt := 110) hx hb dX12_least_14 (by decide) (fun hc => ?_) (fun hc => ?_)
    · replace h := if_t hc h
      cases h
      exact K _ _ _ hP hD hS (lv_sub hl [0, 1, 2] rfl)
    · replace h := if_f hc h
      refine lv_aload_n hx hb dX12_least_17 rfl (lv_at hl 0 rfl) ?_
      refine va_get (D := D) (ci := 12) (v := .ref q_now) (C := RX12) (T := TX12) (N := 32) hx hb hts hi_X12 hown hK.1 hP 0 rfl rfl 0 (by decide) hf_16 (fun _ h9 => h9) rfl dX12_least_18 ?_
      refine va_getN (D := D) (ci := 10) (v := .ref q_now_firm) (C := RX10) (T := TX10) (N := 16) hx hb hts hi_X10 hown hK.1 hP 1 rfl rfl 15 (by decide) hf_141 (fun _ h9 => h9) rfl dX12_least_21 ?_
      refine lv_iload_n hx hb dX12_least_24 rfl (lv_at hl 2 rfl) ?_
      refine lv_iconst (v := 2) hx hb dX12_least_25 (by decide) ?_
      obtain ⟨hg, h⟩ := gd_of h
      refine lv_idiv hx hb dX12_least_26 hg ?_
      obtain ⟨hg, h⟩ := gd_of h
      refine va_zald hx hb hK.1 hP 2 2 rfl rfl hg dX12_least_27 ?_
      obtain ⟨t, hd, h⟩ := ob_of h
      have K : ∀ (H : Heap) (locs : List Loc) (ls : Array Slot), va_P D vwCl [(q_, .inr (12, [.ref q_now, .int s_isWindow, .ref q_kept, .ref q_isKept, .ref q_paneOf, .int s_panes, .ref q_firstStep, .ref q_kinds, .ref q_allowed, .ref q_colour, .ref q_picked, .int s_picks, .ref q_lacking, .int s_hasLack, .ref q_rackKind, .ref q_rackAllowed, .ref q_founds, .ref q_plus, .ref q_minus, .ref q_under, .ref q_work, .ref q_other, .ref q_order, .int s_ordered, .ref q_tried, .ref q_touches, .ref q_out, .ref q_cuts, .ref q_boxWide, .ref q_boxTall, .ref q_boxTurns, .ref q_goal])), (q_now, .inr (10, [.int s_now_w, .int s_now_h, .int s_now_leads, .int s_now_lines, .ref q_now_ax, .ref q_now_ay, .ref q_now_bx, .ref q_now_by, .int s_now_joints, .ref q_now_x, .ref q_now_y, .ref q_now_d, .int s_now_pieces, .ref q_now_from, .ref q_now_to, .ref q_now_firm])), (q_now_firm, .inl (ky 2, 800, .inl s_now_firm)), (q_now_from, .inl (ky 0, 800, .inl s_now_from)), (q_now_to, .inl (ky 0, 800, .inl s_now_to)), (q_paneOf, .inl (ky 0, 1600, .inl s_paneOf))] H → va_D A [(q_, .inr (12, [.ref q_now, .int s_isWindow, .ref q_kept, .ref q_isKept, .ref q_paneOf, .int s_panes, .ref q_firstStep, .ref q_kinds, .ref q_allowed, .ref q_colour, .ref q_picked, .int s_picks, .ref q_lacking, .int s_hasLack, .ref q_rackKind, .ref q_rackAllowed, .ref q_founds, .ref q_plus, .ref q_minus, .ref q_under, .ref q_work, .ref q_other, .ref q_order, .int s_ordered, .ref q_tried, .ref q_touches, .ref q_out, .ref q_cuts, .ref q_boxWide, .ref q_boxTall, .ref q_boxTurns, .ref q_goal])), (q_now, .inr (10, [.int s_now_w, .int s_now_h, .int s_now_leads, .int s_now_lines, .ref q_now_ax, .ref q_now_ay, .ref q_now_bx, .ref q_now_by, .int s_now_joints, .ref q_now_x, .ref q_now_y, .ref q_now_d, .int s_now_pieces, .ref q_now_from, .ref q_now_to, .ref q_now_firm])), (q_now_firm, .inl (ky 2, 800, .inl s_now_firm)), (q_now_from, .inl (ky 0, 800, .inl s_now_from)), (q_now_to, .inl (ky 0, 800, .inl s_now_to)), (q_paneOf, .inl (ky 0, 1600, .inl s_paneOf))] → va_S A s.heap H locs → lv_has ls 4 [(0, .ref q_), (1, .int t), (2, .int v2)] → W p l e rmX12_least s m args below meth c H locs 0 0 Q (F0 m 104 ls []) := by
        clear hd hP hD hS hl
        obtain ⟨v3, rfl⟩ : ∃ z, z = t := ⟨_, rfl⟩
        replace h := dm1_of h
        intro H locs ls hP hD hS hl
        replace hP : va_P D vwCl [(q_, .inr (12, [.ref q_now, .int s_isWindow, .ref q_kept, .ref q_isKept, .ref q_paneOf, .int s_panes, .ref q_firstStep, .ref q_kinds, .ref q_allowed, .ref q_colour, .ref q_picked, .int s_picks, .ref q_lacking, .int s_hasLack, .ref q_rackKind, .ref q_rackAllowed, .ref q_founds, .ref q_plus, .ref q_minus, .ref q_under, .ref q_work, .ref q_other, .ref q_order, .int s_ordered, .ref q_tried, .ref q_touches, .ref q_out, .ref q_cuts, .ref q_boxWide, .ref q_boxTall, .ref q_boxTurns, .ref q_goal])), (q_now, .inr (10, [.int s_now_w, .int s_now_h, .int s_now_leads, .int s_now_lines, .ref q_now_ax, .ref q_now_ay, .ref q_now_bx, .ref q_now_by, .int s_now_joints, .ref q_now_x, .ref q_now_y, .ref q_now_d, .int s_now_pieces, .ref q_now_from, .ref q_now_to, .ref q_now_firm])), (q_now_firm, .inl (ky 2, 800, .inl s_now_firm)), (q_now_from, .inl (ky 0, 800, .inl s_now_from)), (q_now_to, .inl (ky 0, 800, .inl s_now_to)), (q_paneOf, .inl (ky 0, 1600, .inl s_paneOf))] H := hP
        replace hD : va_D A [(q_, .inr (12, [.ref q_now, .int s_isWindow, .ref q_kept, .ref q_isKept, .ref q_paneOf, .int s_panes, .ref q_firstStep, .ref q_kinds, .ref q_allowed, .ref q_colour, .ref q_picked, .int s_picks, .ref q_lacking, .int s_hasLack, .ref q_rackKind, .ref q_rackAllowed, .ref q_founds, .ref q_plus, .ref q_minus, .ref q_under, .ref q_work, .ref q_other, .ref q_order, .int s_ordered, .ref q_tried, .ref q_touches, .ref q_out, .ref q_cuts, .ref q_boxWide, .ref q_boxTall, .ref q_boxTurns, .ref q_goal])), (q_now, .inr (10, [.int s_now_w, .int s_now_h, .int s_now_leads, .int s_now_lines, .ref q_now_ax, .ref q_now_ay, .ref q_now_bx, .ref q_now_by, .int s_now_joints, .ref q_now_x, .ref q_now_y, .ref q_now_d, .int s_now_pieces, .ref q_now_from, .ref q_now_to, .ref q_now_firm])), (q_now_firm, .inl (ky 2, 800, .inl s_now_firm)), (q_now_from, .inl (ky 0, 800, .inl s_now_from)), (q_now_to, .inl (ky 0, 800, .inl s_now_to)), (q_paneOf, .inl (ky 0, 1600, .inl s_paneOf))] := hD
        replace hl : lv_has ls 4 [(0, .ref q_), (1, .int v3), (2, .int v2)] := hl
        refine W.eq (g2 := F0 m 104 ls []) rfl ?_
        obtain ⟨x4, ex4⟩ : ∃ z : Int32, z = v2 + 1 := ⟨_, rfl⟩
        replace h := lt_at ex4 h
        refine lv_iinc (v := x4) (lv' := [(2, .int x4), (0, .ref q_), (1, .int v3)]) hx hb dX12_least_104 hl (k := 2) rfl (by rw [ex4]; rfl) (by decide) rfl (fun ls hl => ?_)
        refine lv_goto (tgt := 4) hx hb dX12_least_107 (by decide) ?_
        cases h
        exact K _ _ _ hP hD hS (lv_sub hl [1, 2, 0] rfl)
      replace h := hd
      clear hd
      refine lv_if_eq (tgt := 104) hx hb dX12_least_28 (by decide) (fun hc => ?_) (fun hc => ?_)
      · replace h := if_t hc h
        cases h
        exact K _ _ _ hP hD hS (lv_sub hl [0, 1, 2] rfl)
      · replace h := if_f hc h
        refine lv_aload_n hx hb dX12_least_31 rfl (lv_at hl 0 rfl) ?_
        refine va_get (D := D) (ci := 12) (v := .ref q_paneOf) (C := RX12) (T := TX12) (N := 32) hx hb hts hi_X12 hown hK.1 hP 0 rfl rfl 4 (by decide) hf_30 (fun _ h9 => h9) rfl dX12_least_32 ?_
        refine lv_iload_n hx hb dX12_least_35 rfl (lv_at hl 2 rfl) ?_
        obtain ⟨hg, h⟩ := gd_of h
        refine va_iald hx hb hK.1 hP 5 0 rfl rfl hg dX12_least_36 ?_
        refine lv_bipush (v := (-2)) hx hb dX12_least_37 (by decide) ?_
        refine lv_icmp_eq (tgt := 45) hx hb dX12_least_39 (by decide) (fun hc => ?_) (fun hc => ?_)
        · replace h := if_t hc h
          refine lv_iload_n hx hb dX12_least_45 rfl (lv_at hl 1 rfl) ?_
          refine lv_if_lt (tgt := 88) hx hb dX12_least_46 (by decide) (fun hc => ?_) (fun hc => ?_)
          · replace h := if_t hc h
            refine lv_iconst (v := 1) hx hb dX12_least_88 (by decide) ?_
            refine lv_goto (tgt := 93) hx hb dX12_least_89 (by decide) ?_
            refine lv_istore_n (lv' := [(3, .int (1 : Int32)), (0, .ref q_), (1, .int v1), (2, .int v2)]) hx hb dX12_least_93 rfl hl (by decide) rfl (fun ls hl => ?_)
            refine lv_iload_n hx hb dX12_least_94 rfl (lv_at hl 0 rfl) ?_
            refine lv_if_eq (tgt := 102) hx hb dX12_least_95 (by decide) (fun hc => ?_) (fun hc => ?_)
            · replace h := if_t hc h
              refine lv_iload_n hx hb dX12_least_102 rfl (lv_at hl 2 rfl) ?_
              refine lv_istore_n (lv' := [(1, .int v1), (3, .int (1 : Int32)), (0, .ref q_), (2, .int v2)]) hx hb dX12_least_103 rfl hl (by decide) rfl (fun ls hl => ?_)
              cases h
              exact K _ _ _ hP hD hS (lv_sub hl [2, 0, 3] rfl)
            · replace h := if_f hc h
              refine lv_iload_n hx hb dX12_least_98 rfl (lv_at hl 3 rfl) ?_
              refine lv_goto (tgt := 103) hx hb dX12_least_99 (by decide) ?_
              refine lv_istore_n (lv' := [(1, .int v2), (3, .int (1 : Int32)), (0, .ref q_), (2, .int v2)]) hx hb dX12_least_103 rfl hl (by decide) rfl (fun ls hl => ?_)
              cases h
              exact K _ _ _ hP hD hS (lv_sub hl [2, 0, 3] rfl)
          · replace h := if_f hc h
            refine lv_aload_n hx hb dX12_least_49 rfl (lv_at hl 0 rfl) ?_
            refine lv_iload_n hx hb dX12_least_50 rfl (lv_at hl 2 rfl) ?_
            obtain ⟨r5, hc, h⟩ := ob_of h
            replace h := dm1_of h
            refine cv_i (As := [.int v2]) (rest := []) (wr := [(q_now_firm, .inl (ky 2, 800, .inl s_now_firm)), (q_paneOf, .inl (ky 0, 1600, .inl s_paneOf))]) (wn := [(q_, .inr (12, [.ref q_now, .int s_isWindow, .ref q_kept, .ref q_isKept, .ref q_paneOf, .int s_panes, .ref q_firstStep, .ref q_kinds, .ref q_allowed, .ref q_colour, .ref q_picked, .int s_picks, .ref q_lacking, .int s_hasLack, .ref q_rackKind, .ref q_rackAllowed, .ref q_founds, .ref q_plus, .ref q_minus, .ref q_under, .ref q_work, .ref q_other, .ref q_order, .int s_ordered, .ref q_tried, .ref q_touches, .ref q_out, .ref q_cuts, .ref q_boxWide, .ref q_boxTall, .ref q_boxTurns, .ref q_goal])), (q_now, .inr (10, [.int s_now_w, .int s_now_h, .int s_now_leads, .int s_now_lines, .ref q_now_ax, .ref q_now_ay, .ref q_now_bx, .ref q_now_by, .int s_now_joints, .ref q_now_x, .ref q_now_y, .ref q_now_d, .int s_now_pieces, .ref q_now_from, .ref q_now_to, .ref q_now_firm])), (q_now_firm, .inl (ky 2, 800, .inl s_now_firm)), (q_now_from, .inl (ky 0, 800, .inl s_now_from)), (q_now_to, .inl (ky 0, 800, .inl s_now_to)), (q_paneOf, .inl (ky 0, 1600, .inl s_paneOf))]) ⟨hx, hb, hml, hown, hts⟩ (c_X12_beginOf l D ky q_ q_now q_kept q_isKept q_paneOf q_firstStep q_kinds q_allowed q_colour q_picked q_lacking q_rackKind q_rackAllowed q_founds q_plus q_minus q_under q_work q_other q_order q_tried q_touches q_out q_cuts q_boxWide q_boxTall q_boxTurns q_goal q_now_ax q_now_ay q_now_bx q_now_by q_now_x q_now_y q_now_d q_now_from q_now_to q_now_firm v2 s_isWindow s_panes s_picks s_hasLack s_ordered s_now_w s_now_h s_now_leads s_now_lines s_now_joints s_now_pieces s_now_from s_now_to hc) (cwV 1 hts gX12_least_X12_beginOf rfl rfl rfl (by decide +kernel) ⟨Nat.le_of_ble_eq_true rfl, Nat.le_of_ble_eq_true rfl⟩) (rcv hK.1 hP (q0 := 0) rfl rfl) hP hD hK hS hA [0, 1, 3, 4] [2, 5] [2, 3, 0, 4, 5, 1] rfl (by decide +kernel) rfl (by decide +kernel) (by decide +kernel) (by decide +kernel) rfl rfl rfl hl.1 (Nat.le_of_ble_eq_true rfl) dX12_least_51 ⟨Nat.le_of_ble_eq_true rfl, Nat.le_of_ble_eq_true rfl⟩ (fun H locs hP hD hS => ?_)
            refine lv_aload_n hx hb dX12_least_54 rfl (lv_at hl 0 rfl) ?_
            refine lv_iload_n hx hb dX12_least_55 rfl (lv_at hl 1 rfl) ?_
            obtain ⟨r6, hc, h⟩ := ob_of h
            replace h := dm1_of h
            refine cv_i (As := [.int v1]) (rest := [.int r5]) (wr := [(q_now_firm, .inl (ky 2, 800, .inl s_now_firm)), (q_paneOf, .inl (ky 0, 1600, .inl s_paneOf))]) (wn := [(q_, .inr (12, [.ref q_now, .int s_isWindow, .ref q_kept, .ref q_isKept, .ref q_paneOf, .int s_panes, .ref q_firstStep, .ref q_kinds, .ref q_allowed, .ref q_colour, .ref q_picked, .int s_picks, .ref q_lacking, .int s_hasLack, .ref q_rackKind, .ref q_rackAllowed, .ref q_founds, .ref q_plus, .ref q_minus, .ref q_under, .ref q_work, .ref q_other, .ref q_order, .int s_ordered, .ref q_tried, .ref q_touches, .ref q_out, .ref q_cuts, .ref q_boxWide, .ref q_boxTall, .ref q_boxTurns, .ref q_goal])), (q_now, .inr (10, [.int s_now_w, .int s_now_h, .int s_now_leads, .int s_now_lines, .ref q_now_ax, .ref q_now_ay, .ref q_now_bx, .ref q_now_by, .int s_now_joints, .ref q_now_x, .ref q_now_y, .ref q_now_d, .int s_now_pieces, .ref q_now_from, .ref q_now_to, .ref q_now_firm])), (q_now_firm, .inl (ky 2, 800, .inl s_now_firm)), (q_now_from, .inl (ky 0, 800, .inl s_now_from)), (q_now_to, .inl (ky 0, 800, .inl s_now_to)), (q_paneOf, .inl (ky 0, 1600, .inl s_paneOf))]) ⟨hx, hb, hml, hown, hts⟩ (c_X12_beginOf l D ky q_ q_now q_kept q_isKept q_paneOf q_firstStep q_kinds q_allowed q_colour q_picked q_lacking q_rackKind q_rackAllowed q_founds q_plus q_minus q_under q_work q_other q_order q_tried q_touches q_out q_cuts q_boxWide q_boxTall q_boxTurns q_goal q_now_ax q_now_ay q_now_bx q_now_by q_now_x q_now_y q_now_d q_now_from q_now_to q_now_firm v1 s_isWindow s_panes s_picks s_hasLack s_ordered s_now_w s_now_h s_now_leads s_now_lines s_now_joints s_now_pieces s_now_from s_now_to hc) (cwV 1 hts gX12_least_X12_beginOf rfl rfl rfl (by decide +kernel) ⟨Nat.le_of_ble_eq_true rfl, Nat.le_of_ble_eq_true rfl⟩) (rcv hK.1 hP (q0 := 0) rfl rfl) hP hD hK hS hA [0, 1, 3, 4] [2, 5] [2, 3, 0, 4, 5, 1] rfl (by decide +kernel) rfl (by decide +kernel) (by decide +kernel) (by decide +kernel) rfl rfl rfl hl.1 (Nat.le_of_ble_eq_true rfl) dX12_least_56 ⟨Nat.le_of_ble_eq_true rfl, Nat.le_of_ble_eq_true rfl⟩ (fun H locs hP hD hS => ?_)
            refine lv_icmp_lt (tgt := 88) hx hb dX12_least_59 (by decide) (fun hc => ?_) (fun hc => ?_)
            · replace h := if_t hc h
              refine lv_iconst (v := 1) hx hb dX12_least_88 (by decide) ?_
              refine lv_goto (tgt := 93) hx hb dX12_least_89 (by decide) ?_
              refine lv_istore_n (lv' := [(3, .int (1 : Int32)), (0, .ref q_), (1, .int v1), (2, .int v2)]) hx hb dX12_least_93 rfl hl (by decide) rfl (fun ls hl => ?_)
              refine lv_iload_n hx hb dX12_least_94 rfl (lv_at hl 0 rfl) ?_
              refine lv_if_eq (tgt := 102) hx hb dX12_least_95 (by decide) (fun hc => ?_) (fun hc => ?_)
              · replace h := if_t hc h
                refine lv_iload_n hx hb dX12_least_102 rfl (lv_at hl 2 rfl) ?_
                refine lv_istore_n (lv' := [(1, .int v1), (3, .int (1 : Int32)), (0, .ref q_), (2, .int v2)]) hx hb dX12_least_103 rfl hl (by decide) rfl (fun ls hl => ?_)
                cases h
                exact K _ _ _ hP hD hS (lv_sub hl [2, 0, 3] rfl)
              · replace h := if_f hc h
                refine lv_iload_n hx hb dX12_least_98 rfl (lv_at hl 3 rfl) ?_
                refine lv_goto (tgt := 103) hx hb dX12_least_99 (by decide) ?_
                refine lv_istore_n (lv' := [(1, .int v2), (3, .int (1 : Int32)), (0, .ref q_), (2, .int v2)]) hx hb dX12_least_103 rfl hl (by decide) rfl (fun ls hl => ?_)
                cases h
                exact K _ _ _ hP hD hS (lv_sub hl [2, 0, 3] rfl)
            · replace h := if_f hc h
              refine lv_aload_n hx hb dX12_least_62 rfl (lv_at hl 0 rfl) ?_
              refine lv_iload_n hx hb dX12_least_63 rfl (lv_at hl 2 rfl) ?_
              obtain ⟨r7, hc, h⟩ := ob_of h
              replace h := dm1_of h
              refine cv_i (As := [.int v2]) (rest := []) (wr := [(q_now_firm, .inl (ky 2, 800, .inl s_now_firm)), (q_paneOf, .inl (ky 0, 1600, .inl s_paneOf))]) (wn := [(q_, .inr (12, [.ref q_now, .int s_isWindow, .ref q_kept, .ref q_isKept, .ref q_paneOf, .int s_panes, .ref q_firstStep, .ref q_kinds, .ref q_allowed, .ref q_colour, .ref q_picked, .int s_picks, .ref q_lacking, .int s_hasLack, .ref q_rackKind, .ref q_rackAllowed, .ref q_founds, .ref q_plus, .ref q_minus, .ref q_under, .ref q_work, .ref q_other, .ref q_order, .int s_ordered, .ref q_tried, .ref q_touches, .ref q_out, .ref q_cuts, .ref q_boxWide, .ref q_boxTall, .ref q_boxTurns, .ref q_goal])), (q_now, .inr (10, [.int s_now_w, .int s_now_h, .int s_now_leads, .int s_now_lines, .ref q_now_ax, .ref q_now_ay, .ref q_now_bx, .ref q_now_by, .int s_now_joints, .ref q_now_x, .ref q_now_y, .ref q_now_d, .int s_now_pieces, .ref q_now_from, .ref q_now_to, .ref q_now_firm])), (q_now_firm, .inl (ky 2, 800, .inl s_now_firm)), (q_now_from, .inl (ky 0, 800, .inl s_now_from)), (q_now_to, .inl (ky 0, 800, .inl s_now_to)), (q_paneOf, .inl (ky 0, 1600, .inl s_paneOf))]) ⟨hx, hb, hml, hown, hts⟩ (c_X12_beginOf l D ky q_ q_now q_kept q_isKept q_paneOf q_firstStep q_kinds q_allowed q_colour q_picked q_lacking q_rackKind q_rackAllowed q_founds q_plus q_minus q_under q_work q_other q_order q_tried q_touches q_out q_cuts q_boxWide q_boxTall q_boxTurns q_goal q_now_ax q_now_ay q_now_bx q_now_by q_now_x q_now_y q_now_d q_now_from q_now_to q_now_firm v2 s_isWindow s_panes s_picks s_hasLack s_ordered s_now_w s_now_h s_now_leads s_now_lines s_now_joints s_now_pieces s_now_from s_now_to hc) (cwV 1 hts gX12_least_X12_beginOf rfl rfl rfl (by decide +kernel) ⟨Nat.le_of_ble_eq_true rfl, Nat.le_of_ble_eq_true rfl⟩) (rcv hK.1 hP (q0 := 0) rfl rfl) hP hD hK hS hA [0, 1, 3, 4] [2, 5] [2, 3, 0, 4, 5, 1] rfl (by decide +kernel) rfl (by decide +kernel) (by decide +kernel) (by decide +kernel) rfl rfl rfl hl.1 (Nat.le_of_ble_eq_true rfl) dX12_least_64 ⟨Nat.le_of_ble_eq_true rfl, Nat.le_of_ble_eq_true rfl⟩ (fun H locs hP hD hS => ?_)
              refine lv_aload_n hx hb dX12_least_67 rfl (lv_at hl 0 rfl) ?_
              refine lv_iload_n hx hb dX12_least_68 rfl (lv_at hl 1 rfl) ?_
              obtain ⟨r8, hc, h⟩ := ob_of h
              replace h := dm1_of h
              refine cv_i (As := [.int v1]) (rest := [.int r7]) (wr := [(q_now_firm, .inl (ky 2, 800, .inl s_now_firm)), (q_paneOf, .inl (ky 0, 1600, .inl s_paneOf))]) (wn := [(q_, .inr (12, [.ref q_now, .int s_isWindow, .ref q_kept, .ref q_isKept, .ref q_paneOf, .int s_panes, .ref q_firstStep, .ref q_kinds, .ref q_allowed, .ref q_colour, .ref q_picked, .int s_picks, .ref q_lacking, .int s_hasLack, .ref q_rackKind, .ref q_rackAllowed, .ref q_founds, .ref q_plus, .ref q_minus, .ref q_under, .ref q_work, .ref q_other, .ref q_order, .int s_ordered, .ref q_tried, .ref q_touches, .ref q_out, .ref q_cuts, .ref q_boxWide, .ref q_boxTall, .ref q_boxTurns, .ref q_goal])), (q_now, .inr (10, [.int s_now_w, .int s_now_h, .int s_now_leads, .int s_now_lines, .ref q_now_ax, .ref q_now_ay, .ref q_now_bx, .ref q_now_by, .int s_now_joints, .ref q_now_x, .ref q_now_y, .ref q_now_d, .int s_now_pieces, .ref q_now_from, .ref q_now_to, .ref q_now_firm])), (q_now_firm, .inl (ky 2, 800, .inl s_now_firm)), (q_now_from, .inl (ky 0, 800, .inl s_now_from)), (q_now_to, .inl (ky 0, 800, .inl s_now_to)), (q_paneOf, .inl (ky 0, 1600, .inl s_paneOf))]) ⟨hx, hb, hml, hown, hts⟩ (c_X12_beginOf l D ky q_ q_now q_kept q_isKept q_paneOf q_firstStep q_kinds q_allowed q_colour q_picked q_lacking q_rackKind q_rackAllowed q_founds q_plus q_minus q_under q_work q_other q_order q_tried q_touches q_out q_cuts q_boxWide q_boxTall q_boxTurns q_goal q_now_ax q_now_ay q_now_bx q_now_by q_now_x q_now_y q_now_d q_now_from q_now_to q_now_firm v1 s_isWindow s_panes s_picks s_hasLack s_ordered s_now_w s_now_h s_now_leads s_now_lines s_now_joints s_now_pieces s_now_from s_now_to hc) (cwV 1 hts gX12_least_X12_beginOf rfl rfl rfl (by decide +kernel) ⟨Nat.le_of_ble_eq_true rfl, Nat.le_of_ble_eq_true rfl⟩) (rcv hK.1 hP (q0 := 0) rfl rfl) hP hD hK hS hA [0, 1, 3, 4] [2, 5] [2, 3, 0, 4, 5, 1] rfl (by decide +kernel) rfl (by decide +kernel) (by decide +kernel) (by decide +kernel) rfl rfl rfl hl.1 (Nat.le_of_ble_eq_true rfl) dX12_least_69 ⟨Nat.le_of_ble_eq_true rfl, Nat.le_of_ble_eq_true rfl⟩ (fun H locs hP hD hS => ?_)
              refine lv_icmp_ne (tgt := 92) hx hb dX12_least_72 (by decide) (fun hc => ?_) (fun hc => ?_)
              · replace h := if_t hc h
                refine lv_iconst (v := 0) hx hb dX12_least_92 (by decide) ?_
                refine lv_istore_n (lv' := [(3, .int (0 : Int32)), (0, .ref q_), (1, .int v1), (2, .int v2)]) hx hb dX12_least_93 rfl hl (by decide) rfl (fun ls hl => ?_)
                refine lv_iload_n hx hb dX12_least_94 rfl (lv_at hl 0 rfl) ?_
                refine lv_if_eq (tgt := 102) hx hb dX12_least_95 (by decide) (fun hc => ?_) (fun hc => ?_)
                · replace h := if_t hc h
                  refine lv_iload_n hx hb dX12_least_102 rfl (lv_at hl 2 rfl) ?_
                  refine lv_istore_n (lv' := [(1, .int v1), (3, .int (0 : Int32)), (0, .ref q_), (2, .int v2)]) hx hb dX12_least_103 rfl hl (by decide) rfl (fun ls hl => ?_)
                  cases h
                  exact K _ _ _ hP hD hS (lv_sub hl [2, 0, 3] rfl)
                · replace h := if_f hc h
                  refine lv_iload_n hx hb dX12_least_98 rfl (lv_at hl 3 rfl) ?_
                  refine lv_goto (tgt := 103) hx hb dX12_least_99 (by decide) ?_
                  refine lv_istore_n (lv' := [(1, .int v2), (3, .int (0 : Int32)), (0, .ref q_), (2, .int v2)]) hx hb dX12_least_103 rfl hl (by decide) rfl (fun ls hl => ?_)
                  cases h
                  exact K _ _ _ hP hD hS (lv_sub hl [2, 0, 3] rfl)
              · replace h := if_f (fun z => z hc) h
                refine lv_aload_n hx hb dX12_least_75 rfl (lv_at hl 0 rfl) ?_
                refine lv_iload_n hx hb dX12_least_76 rfl (lv_at hl 2 rfl) ?_
                obtain ⟨r9, hc, h⟩ := ob_of h
                replace h := dm1_of h
                refine cv_i (As := [.int v2]) (rest := []) (wr := [(q_now_firm, .inl (ky 2, 800, .inl s_now_firm)), (q_paneOf, .inl (ky 0, 1600, .inl s_paneOf))]) (wn := [(q_, .inr (12, [.ref q_now, .int s_isWindow, .ref q_kept, .ref q_isKept, .ref q_paneOf, .int s_panes, .ref q_firstStep, .ref q_kinds, .ref q_allowed, .ref q_colour, .ref q_picked, .int s_picks, .ref q_lacking, .int s_hasLack, .ref q_rackKind, .ref q_rackAllowed, .ref q_founds, .ref q_plus, .ref q_minus, .ref q_under, .ref q_work, .ref q_other, .ref q_order, .int s_ordered, .ref q_tried, .ref q_touches, .ref q_out, .ref q_cuts, .ref q_boxWide, .ref q_boxTall, .ref q_boxTurns, .ref q_goal])), (q_now, .inr (10, [.int s_now_w, .int s_now_h, .int s_now_leads, .int s_now_lines, .ref q_now_ax, .ref q_now_ay, .ref q_now_bx, .ref q_now_by, .int s_now_joints, .ref q_now_x, .ref q_now_y, .ref q_now_d, .int s_now_pieces, .ref q_now_from, .ref q_now_to, .ref q_now_firm])), (q_now_firm, .inl (ky 2, 800, .inl s_now_firm)), (q_now_from, .inl (ky 0, 800, .inl s_now_from)), (q_now_to, .inl (ky 0, 800, .inl s_now_to)), (q_paneOf, .inl (ky 0, 1600, .inl s_paneOf))]) ⟨hx, hb, hml, hown, hts⟩ (c_X12_endOf l D ky q_ q_now q_kept q_isKept q_paneOf q_firstStep q_kinds q_allowed q_colour q_picked q_lacking q_rackKind q_rackAllowed q_founds q_plus q_minus q_under q_work q_other q_order q_tried q_touches q_out q_cuts q_boxWide q_boxTall q_boxTurns q_goal q_now_ax q_now_ay q_now_bx q_now_by q_now_x q_now_y q_now_d q_now_from q_now_to q_now_firm v2 s_isWindow s_panes s_picks s_hasLack s_ordered s_now_w s_now_h s_now_leads s_now_lines s_now_joints s_now_pieces s_now_from s_now_to hc) (cwV 1 hts gX12_least_X12_endOf rfl rfl rfl (by decide +kernel) ⟨Nat.le_of_ble_eq_true rfl, Nat.le_of_ble_eq_true rfl⟩) (rcv hK.1 hP (q0 := 0) rfl rfl) hP hD hK hS hA [0, 1, 3, 4] [2, 5] [2, 3, 0, 4, 5, 1] rfl (by decide +kernel) rfl (by decide +kernel) (by decide +kernel) (by decide +kernel) rfl rfl rfl hl.1 (Nat.le_of_ble_eq_true rfl) dX12_least_77 ⟨Nat.le_of_ble_eq_true rfl, Nat.le_of_ble_eq_true rfl⟩ (fun H locs hP hD hS => ?_)
                refine lv_aload_n hx hb dX12_least_80 rfl (lv_at hl 0 rfl) ?_
                refine lv_iload_n hx hb dX12_least_81 rfl (lv_at hl 1 rfl) ?_
                obtain ⟨r10, hc, h⟩ := ob_of h
                replace h := dm1_of h
                refine cv_i (As := [.int v1]) (rest := [.int r9]) (wr := [(q_now_firm, .inl (ky 2, 800, .inl s_now_firm)), (q_paneOf, .inl (ky 0, 1600, .inl s_paneOf))]) (wn := [(q_, .inr (12, [.ref q_now, .int s_isWindow, .ref q_kept, .ref q_isKept, .ref q_paneOf, .int s_panes, .ref q_firstStep, .ref q_kinds, .ref q_allowed, .ref q_colour, .ref q_picked, .int s_picks, .ref q_lacking, .int s_hasLack, .ref q_rackKind, .ref q_rackAllowed, .ref q_founds, .ref q_plus, .ref q_minus, .ref q_under, .ref q_work, .ref q_other, .ref q_order, .int s_ordered, .ref q_tried, .ref q_touches, .ref q_out, .ref q_cuts, .ref q_boxWide, .ref q_boxTall, .ref q_boxTurns, .ref q_goal])), (q_now, .inr (10, [.int s_now_w, .int s_now_h, .int s_now_leads, .int s_now_lines, .ref q_now_ax, .ref q_now_ay, .ref q_now_bx, .ref q_now_by, .int s_now_joints, .ref q_now_x, .ref q_now_y, .ref q_now_d, .int s_now_pieces, .ref q_now_from, .ref q_now_to, .ref q_now_firm])), (q_now_firm, .inl (ky 2, 800, .inl s_now_firm)), (q_now_from, .inl (ky 0, 800, .inl s_now_from)), (q_now_to, .inl (ky 0, 800, .inl s_now_to)), (q_paneOf, .inl (ky 0, 1600, .inl s_paneOf))]) ⟨hx, hb, hml, hown, hts⟩ (c_X12_endOf l D ky q_ q_now q_kept q_isKept q_paneOf q_firstStep q_kinds q_allowed q_colour q_picked q_lacking q_rackKind q_rackAllowed q_founds q_plus q_minus q_under q_work q_other q_order q_tried q_touches q_out q_cuts q_boxWide q_boxTall q_boxTurns q_goal q_now_ax q_now_ay q_now_bx q_now_by q_now_x q_now_y q_now_d q_now_from q_now_to q_now_firm v1 s_isWindow s_panes s_picks s_hasLack s_ordered s_now_w s_now_h s_now_leads s_now_lines s_now_joints s_now_pieces s_now_from s_now_to hc) (cwV 1 hts gX12_least_X12_endOf rfl rfl rfl (by decide +kernel) ⟨Nat.le_of_ble_eq_true rfl, Nat.le_of_ble_eq_true rfl⟩) (rcv hK.1 hP (q0 := 0) rfl rfl) hP hD hK hS hA [0, 1, 3, 4] [2, 5] [2, 3, 0, 4, 5, 1] rfl (by decide +kernel) rfl (by decide +kernel) (by decide +kernel) (by decide +kernel) rfl rfl rfl hl.1 (Nat.le_of_ble_eq_true rfl) dX12_least_82 ⟨Nat.le_of_ble_eq_true rfl, Nat.le_of_ble_eq_true rfl⟩ (fun H locs hP hD hS => ?_)
                refine lv_icmp_ge (tgt := 92) hx hb dX12_least_85 (by decide) (fun hc => ?_) (fun hc => ?_)
                · replace h := if_t hc h
                  refine lv_iconst (v := 0) hx hb dX12_least_92 (by decide) ?_
                  refine lv_istore_n (lv' := [(3, .int (0 : Int32)), (0, .ref q_), (1, .int v1), (2, .int v2)]) hx hb dX12_least_93 rfl hl (by decide) rfl (fun ls hl => ?_)
                  refine lv_iload_n hx hb dX12_least_94 rfl (lv_at hl 0 rfl) ?_
                  refine lv_if_eq (tgt := 102) hx hb dX12_least_95 (by decide) (fun hc => ?_) (fun hc => ?_)
                  · replace h := if_t hc h
                    refine lv_iload_n hx hb dX12_least_102 rfl (lv_at hl 2 rfl) ?_
                    refine lv_istore_n (lv' := [(1, .int v1), (3, .int (0 : Int32)), (0, .ref q_), (2, .int v2)]) hx hb dX12_least_103 rfl hl (by decide) rfl (fun ls hl => ?_)
                    cases h
                    exact K _ _ _ hP hD hS (lv_sub hl [2, 0, 3] rfl)
                  · replace h := if_f hc h
                    refine lv_iload_n hx hb dX12_least_98 rfl (lv_at hl 3 rfl) ?_
                    refine lv_goto (tgt := 103) hx hb dX12_least_99 (by decide) ?_
                    refine lv_istore_n (lv' := [(1, .int v2), (3, .int (0 : Int32)), (0, .ref q_), (2, .int v2)]) hx hb dX12_least_103 rfl hl (by decide) rfl (fun ls hl => ?_)
                    cases h
                    exact K _ _ _ hP hD hS (lv_sub hl [2, 0, 3] rfl)
                · replace h := if_f hc h
                  refine lv_iconst (v := 1) hx hb dX12_least_88 (by decide) ?_
                  refine lv_goto (tgt := 93) hx hb dX12_least_89 (by decide) ?_
                  refine lv_istore_n (lv' := [(3, .int (1 : Int32)), (0, .ref q_), (1, .int v1), (2, .int v2)]) hx hb dX12_least_93 rfl hl (by decide) rfl (fun ls hl => ?_)
                  refine lv_iload_n hx hb dX12_least_94 rfl (lv_at hl 0 rfl) ?_
                  refine lv_if_eq (tgt := 102) hx hb dX12_least_95 (by decide) (fun hc => ?_) (fun hc => ?_)
                  · replace h := if_t hc h
                    refine lv_iload_n hx hb dX12_least_102 rfl (lv_at hl 2 rfl) ?_
                    refine lv_istore_n (lv' := [(1, .int v1), (3, .int (1 : Int32)), (0, .ref q_), (2, .int v2)]) hx hb dX12_least_103 rfl hl (by decide) rfl (fun ls hl => ?_)
                    cases h
                    exact K _ _ _ hP hD hS (lv_sub hl [2, 0, 3] rfl)
                  · replace h := if_f hc h
                    refine lv_iload_n hx hb dX12_least_98 rfl (lv_at hl 3 rfl) ?_
                    refine lv_goto (tgt := 103) hx hb dX12_least_99 (by decide) ?_
                    refine lv_istore_n (lv' := [(1, .int v2), (3, .int (1 : Int32)), (0, .ref q_), (2, .int v2)]) hx hb dX12_least_103 rfl hl (by decide) rfl (fun ls hl => ?_)
                    cases h
                    exact K _ _ _ hP hD hS (lv_sub hl [2, 0, 3] rfl)
        · replace h := if_f hc h
          refine lv_goto (tgt := 104) hx hb dX12_least_42 (by decide) ?_
          cases h
          exact K _ _ _ hP hD hS (lv_sub hl [0, 1, 2] rfl)
  · have h1 := ex1_of h
    clear h hi
    rcases h1 with ⟨rfl, h⟩
    obtain ⟨v11, v12⟩ := t
    replace h := dm2_of h
    intro H locs ls hP hD hS hl
    replace hP : va_P D vwCl [(q_, .inr (12, [.ref q_now, .int s_isWindow, .ref q_kept, .ref q_isKept, .ref q_paneOf, .int s_panes, .ref q_firstStep, .ref q_kinds, .ref q_allowed, .ref q_colour, .ref q_picked, .int s_picks, .ref q_lacking, .int s_hasLack, .ref q_rackKind, .ref q_rackAllowed, .ref q_founds, .ref q_plus, .ref q_minus, .ref q_under, .ref q_work, .ref q_other, .ref q_order, .int s_ordered, .ref q_tried, .ref q_touches, .ref q_out, .ref q_cuts, .ref q_boxWide, .ref q_boxTall, .ref q_boxTurns, .ref q_goal])), (q_now, .inr (10, [.int s_now_w, .int s_now_h, .int s_now_leads, .int s_now_lines, .ref q_now_ax, .ref q_now_ay, .ref q_now_bx, .ref q_now_by, .int s_now_joints, .ref q_now_x, .ref q_now_y, .ref q_now_d, .int s_now_pieces, .ref q_now_from, .ref q_now_to, .ref q_now_firm])), (q_now_firm, .inl (ky 2, 800, .inl s_now_firm)), (q_now_from, .inl (ky 0, 800, .inl s_now_from)), (q_now_to, .inl (ky 0, 800, .inl s_now_to)), (q_paneOf, .inl (ky 0, 1600, .inl s_paneOf))] H := hP
    replace hD : va_D A [(q_, .inr (12, [.ref q_now, .int s_isWindow, .ref q_kept, .ref q_isKept, .ref q_paneOf, .int s_panes, .ref q_firstStep, .ref q_kinds, .ref q_allowed, .ref q_colour, .ref q_picked, .int s_picks, .ref q_lacking, .int s_hasLack, .ref q_rackKind, .ref q_rackAllowed, .ref q_founds, .ref q_plus, .ref q_minus, .ref q_under, .ref q_work, .ref q_other, .ref q_order, .int s_ordered, .ref q_tried, .ref q_touches, .ref q_out, .ref q_cuts, .ref q_boxWide, .ref q_boxTall, .ref q_boxTurns, .ref q_goal])), (q_now, .inr (10, [.int s_now_w, .int s_now_h, .int s_now_leads, .int s_now_lines, .ref q_now_ax, .ref q_now_ay, .ref q_now_bx, .ref q_now_by, .int s_now_joints, .ref q_now_x, .ref q_now_y, .ref q_now_d, .int s_now_pieces, .ref q_now_from, .ref q_now_to, .ref q_now_firm])), (q_now_firm, .inl (ky 2, 800, .inl s_now_firm)), (q_now_from, .inl (ky 0, 800, .inl s_now_from)), (q_now_to, .inl (ky 0, 800, .inl s_now_to)), (q_paneOf, .inl (ky 0, 1600, .inl s_paneOf))] := hD
    replace hl : lv_has ls 4 [(0, .ref q_), (1, .int v11), (2, .int v12)] := hl
    refine W.eq (g2 := F0 m 110 ls []) rfl ?_
    refine lv_iload_n hx hb dX12_least_110 rfl (lv_at hl 1 rfl) ?_
    cases h
    exact ret _ _ _ _ dX12_least_111 hP hD hS

def bX12_fresh_2 (s_panes : Int32) (t : Int32 × (Nat → Int32) × (Nat → Int32) × (Nat → Int32)) : Option (Nat × (Int32 × (Nat → Int32) × (Nat → Int32) × (Nat → Int32))) := dm4 t (fun (v1 : Int32) (v2 : Nat → Int32) (v3 : Nat → Int32) (v4 : Nat → Int32) => if s_panes ≤ v1 then some (1, (v1, v2, v3, v4)) else gd (¬ (v1 < 0 ∨ 160 ≤ v1.toNatClampNeg)) (lt (upd v4 v1.toNatClampNeg (0 : Int32)) (fun f5 => gd (¬ (v1 < 0 ∨ 160 ≤ v1.toNatClampNeg)) (lt (upd v2 v1.toNatClampNeg (255 : Int32)) (fun f6 => gd (¬ (v1 < 0 ∨ 160 ≤ v1.toNatClampNeg)) (lt (upd v3 v1.toNatClampNeg (8 : Int32)) (fun f7 => lt (v1 + 1) (fun x8 => some (0, (x8, f6, f7, f5))))))))))
def sX12_fresh  (s_panes : Int32) (s_picks : Int32) (s_hasLack : Int32) (s_allowed : Nat → Int32) (s_colour : Nat → Int32) (s_kinds : Nat → Int32) : Option (Int32 × Int32 × (Nat → Int32) × (Nat → Int32) × (Nat → Int32)) := ob (iter (bX12_fresh_2 s_panes) FU ((0 : Int32), s_allowed, s_colour, s_kinds)) (fun kt => ex1 kt (fun t => dm4 t (fun (v9 : Int32) (v10 : Nat → Int32) (v11 : Nat → Int32) (v12 : Nat → Int32) => some ((0 : Int32), (0 : Int32), v10, v11, v12))))
abbrev rmX12_fresh : Room := { frames := 0, cells := 0, slots := 0, locals := 0 }
set_option maxHeartbeats 4000000 in
set_option maxRecDepth 100000 in
theorem c_X12_fresh (l : Launch) (D : va_G) (ky : Nat → ClassId) (q_ q_now q_kept q_isKept q_paneOf q_firstStep q_kinds q_allowed q_colour q_picked q_lacking q_rackKind q_rackAllowed q_founds q_plus q_minus q_under q_work q_other q_order q_tried q_touches q_out q_cuts q_boxWide q_boxTall q_boxTurns q_goal : Nat) (s_isWindow : Int32) (s_panes : Int32) (s_picks : Int32) (s_hasLack : Int32) (s_ordered : Int32) (s_allowed : Nat → Int32) (s_colour : Nat → Int32) (s_kinds : Nat → Int32) {o_picks : Int32} {o_hasLack : Int32} {o_allowed : Nat → Int32} {o_colour : Nat → Int32} {o_kinds : Nat → Int32} (h : sX12_fresh s_panes s_picks s_hasLack s_allowed s_colour s_kinds = some (o_picks, o_hasLack, o_allowed, o_colour, o_kinds)) : MtV l D ky yX12_fresh wsX12_fresh rmX12_fresh [.ref q_] [(q_, .inr (12, [.ref q_now, .int s_isWindow, .ref q_kept, .ref q_isKept, .ref q_paneOf, .int s_panes, .ref q_firstStep, .ref q_kinds, .ref q_allowed, .ref q_colour, .ref q_picked, .int s_picks, .ref q_lacking, .int s_hasLack, .ref q_rackKind, .ref q_rackAllowed, .ref q_founds, .ref q_plus, .ref q_minus, .ref q_under, .ref q_work, .ref q_other, .ref q_order, .int s_ordered, .ref q_tried, .ref q_touches, .ref q_out, .ref q_cuts, .ref q_boxWide, .ref q_boxTall, .ref q_boxTurns, .ref q_goal])), (q_allowed, .inl (ky 0, 160, .inl s_allowed)), (q_colour, .inl (ky 0, 160, .inl s_colour)), (q_kinds, .inl (ky 0, 160, .inl s_kinds))] [(q_, .inr (12, [.ref q_now, .int s_isWindow, .ref q_kept, .ref q_isKept, .ref q_paneOf, .int s_panes, .ref q_firstStep, .ref q_kinds, .ref q_allowed, .ref q_colour, .ref q_picked, .int o_picks, .ref q_lacking, .int o_hasLack, .ref q_rackKind, .ref q_rackAllowed, .ref q_founds, .ref q_plus, .ref q_minus, .ref q_under, .ref q_work, .ref q_other, .ref q_order, .int s_ordered, .ref q_tried, .ref q_touches, .ref q_out, .ref q_cuts, .ref q_boxWide, .ref q_boxTall, .ref q_boxTurns, .ref q_goal])), (q_allowed, .inl (ky 0, 160, .inl o_allowed)), (q_colour, .inl (ky 0, 160, .inl o_colour)), (q_kinds, .inl (ky 0, 160, .inl o_kinds))] 0 0 := by
  refine MtV.of (cc := cX12_fresh) (maxL := 2) (by decide +kernel) rfl (Nat.le_of_ble_eq_true rfl) ?_
  intro p e R s m args below meth c A Q ls hR hx hb hts hown hnm hml hP hK hD hA ret hl
  have rt := rtV (dc := fun pc => decode cX12_fresh pc = .ok (.return_, 1)) (o_picks, o_hasLack, o_allowed, o_colour, o_kinds) (fun t => [(q_, .inr (12, [.ref q_now, .int s_isWindow, .ref q_kept, .ref q_isKept, .ref q_paneOf, .int s_panes, .ref q_firstStep, .ref q_kinds, .ref q_allowed, .ref q_colour, .ref q_picked, .int t.1, .ref q_lacking, .int t.2.1, .ref q_rackKind, .ref q_rackAllowed, .ref q_founds, .ref q_plus, .ref q_minus, .ref q_under, .ref q_work, .ref q_other, .ref q_order, .int s_ordered, .ref q_tried, .ref q_touches, .ref q_out, .ref q_cuts, .ref q_boxWide, .ref q_boxTall, .ref q_boxTurns, .ref q_goal])), (q_allowed, .inl (ky 0, 160, .inl t.2.2.1)), (q_colour, .inl (ky 0, 160, .inl t.2.2.2.1)), (q_kinds, .inl (ky 0, 160, .inl t.2.2.2.2))]) ret
  subst hR
  obtain ⟨H, hH⟩ : ∃ H, H = s.heap := ⟨_, rfl⟩
  obtain ⟨locs, hlocs⟩ : ∃ locs : List Loc, locs = [] := ⟨_, rfl⟩
  have hS : va_S A s.heap H locs := by rw [hH, hlocs]; exact va_S.rf
  rw [← hH] at hP
  suffices hgo : W p l e rmX12_fresh s m args below meth c H locs 0 0 Q (F0 m 0 ls []) by rw [hH, hlocs] at hgo; exact hgo
  clear hH hlocs
  replace hl : lv_has ls 2 [(0, .ref q_)] := hl
  replace hown : s.vm.findClass RX12 = some m.cls := hown
  have hi_X12 : ∀ w ∈ u_ws RX12 TX12 32, w ∈ wsX12_fresh := fun _ h9 => List.mem_cons_of_mem _ (List.mem_append_right _ h9)
  have hf_155 := hts (.fieldLink RX12 155 "GlazierBenchModel" "panes" "I") (by decide +kernel)
  have hf_37 := hts (.fieldLink RX12 37 "GlazierBenchModel" "kinds" "[I") (by decide +kernel)
  have hf_40 := hts (.fieldLink RX12 40 "GlazierBenchModel" "allowed" "[I") (by decide +kernel)
  have hf_43 := hts (.fieldLink RX12 43 "GlazierBenchModel" "colour" "[I") (by decide +kernel)
  have hf_172 := hts (.fieldLink RX12 172 "GlazierBenchModel" "picks" "I") (by decide +kernel)
  have hf_175 := hts (.fieldLink RX12 175 "GlazierBenchModel" "hasLack" "Z") (by decide +kernel)
  unfold sX12_fresh at h
  refine lv_iconst (v := 0) hx hb dX12_fresh_0 (by decide) ?_
  refine lv_istore_n (lv' := [(1, .int (0 : Int32)), (0, .ref q_)]) hx hb dX12_fresh_1 rfl hl (by decide) rfl (fun ls hl => ?_)
  obtain ⟨⟨k, t⟩, hi, h⟩ := ob_of h
  refine iter_rule (P := fun (k : Nat) (t : Int32 × (Nat → Int32) × (Nat → Int32) × (Nat → Int32)) => ∀ (H : Heap) (locs : List Loc) (ls : Array Slot), va_P D vwCl [(q_, .inr (12, [.ref q_now, .int s_isWindow, .ref q_kept, .ref q_isKept, .ref q_paneOf, .int s_panes, .ref q_firstStep, .ref q_kinds, .ref q_allowed, .ref q_colour, .ref q_picked, .int s_picks, .ref q_lacking, .int s_hasLack, .ref q_rackKind, .ref q_rackAllowed, .ref q_founds, .ref q_plus, .ref q_minus, .ref q_under, .ref q_work, .ref q_other, .ref q_order, .int s_ordered, .ref q_tried, .ref q_touches, .ref q_out, .ref q_cuts, .ref q_boxWide, .ref q_boxTall, .ref q_boxTurns, .ref q_goal])), (q_allowed, .inl (ky 0, 160, .inl t.2.1)), (q_colour, .inl (ky 0, 160, .inl t.2.2.1)), (q_kinds, .inl (ky 0, 160, .inl t.2.2.2))] H → va_D A [(q_, .inr (12, [.ref q_now, .int s_isWindow, .ref q_kept, .ref q_isKept, .ref q_paneOf, .int s_panes, .ref q_firstStep, .ref q_kinds, .ref q_allowed, .ref q_colour, .ref q_picked, .int s_picks, .ref q_lacking, .int s_hasLack, .ref q_rackKind, .ref q_rackAllowed, .ref q_founds, .ref q_plus, .ref q_minus, .ref q_under, .ref q_work, .ref q_other, .ref q_order, .int s_ordered, .ref q_tried, .ref q_touches, .ref q_out, .ref q_cuts, .ref q_boxWide, .ref q_boxTall, .ref q_boxTurns, .ref q_goal])), (q_allowed, .inl (ky 0, 160, .inl t.2.1)), (q_colour, .inl (ky 0, 160, .inl t.2.2.1)), (q_kinds, .inl (ky 0, 160, .inl t.2.2.2))] → va_S A s.heap H locs → lv_has ls 2 [(0, .ref q_), (1, .int t.1)] → W p l e rmX12_fresh s m args below meth c H locs 0 0 Q (F0 m ([2, 40].getD k 0) ls [])) ?_ _ _ _ _ hi ?_ H locs ls hP hD hS (lv_sub hl [1, 0] rfl)
  · clear h hi hP hD hS hl
    intro t k t' h K
    obtain ⟨v1, v2, v3, v4⟩ := t
    intro H locs ls hP hD hS hl
    replace h := dm4_of h
    replace hP : va_P D vwCl [(q_, .inr (12, [.ref q_now, .int s_isWindow, .ref q_kept, .ref q_isKept, .ref q_paneOf, .int s_panes, .ref q_firstStep, .ref q_kinds, .ref q_allowed, .ref q_colour, .ref q_picked, .int s_picks, .ref q_lacking, .int s_hasLack, .ref q_rackKind, .ref q_rackAllowed, .ref q_founds, .ref q_plus, .ref q_minus, .ref q_under, .ref q_work, .ref q_other, .ref q_order, .int s_ordered, .ref q_tried, .ref q_touches, .ref q_out, .ref q_cuts, .ref q_boxWide, .ref q_boxTall, .ref q_boxTurns, .ref q_goal])), (q_allowed, .inl (ky 0, 160, .inl v2)), (q_colour, .inl (ky 0, 160, .inl v3)), (q_kinds, .inl (ky 0, 160, .inl v4))] H := hP
    replace hD : va_D A [(q_, .inr (12, [.ref q_now, .int s_isWindow, .ref q_kept, .ref q_isKept, .ref q_paneOf, .int s_panes, .ref q_firstStep, .ref q_kinds, .ref q_allowed, .ref q_colour, .ref q_picked, .int s_picks, .ref q_lacking, .int s_hasLack, .ref q_rackKind, .ref q_rackAllowed, .ref q_founds, .ref q_plus, .ref q_minus, .ref q_under, .ref q_work, .ref q_other, .ref q_order, .int s_ordered, .ref q_tried, .ref q_touches, .ref q_out, .ref q_cuts, .ref q_boxWide, .ref q_boxTall, .ref q_boxTurns, .ref q_goal])), (q_allowed, .inl (ky 0, 160, .inl v2)), (q_colour, .inl (ky 0, 160, .inl v3)), (q_kinds, .inl (ky 0, 160, .inl v4))] := hD
    replace hl : lv_has ls 2 [(0, .ref q_), (1, .int v1)] := hl
    refine lv_iload_n hx hb dX12_fresh_2 rfl (lv_at hl 1 rfl) ?_
    refine lv_aload_n hx hb dX12_fresh_3 rfl (lv_at hl 0 rfl) ?_
    refine va_get (D := D) (ci := 12) (v := .int s_panes) (C := RX12) (T := TX12) (N := 32) hx hb hts hi_X12 hown hK.1 hP 0 rfl rfl 5 (by decide) hf_155 (fun _ h9 => h9) rfl dX12_fresh_4 ?_
    refine lv_icmp_ge (tgt := 40) hx hb dX12_fresh_7 (by decide) (fun hc => ?_) (fun hc => ?_)
    · replace h := if_t hc h
      cases h
      exact K _ _ _ hP hD hS (lv_sub hl [0, 1] rfl)
    · replace h := if_f hc h
      refine lv_aload_n hx hb dX12_fresh_10 rfl (lv_at hl 0 rfl) ?_
      refine va_get (D := D) (ci := 12) (v := .ref q_kinds) (C := RX12) (T := TX12) (N := 32) hx hb hts hi_X12 hown hK.1 hP 0 rfl rfl 7 (by decide) hf_37 (fun _ h9 => h9) rfl dX12_fresh_11 ?_
      refine lv_iload_n hx hb dX12_fresh_14 rfl (lv_at hl 1 rfl) ?_
      refine lv_iconst (v := 0) hx hb dX12_fresh_15 (by decide) ?_
      obtain ⟨hg, h⟩ := gd_of h
      refine r_iast hx hb hK.1 hP hD hS 3 0 rfl rfl hg dX12_fresh_16 (fun f5 ef5 H locs hP hD hS => ?_)
      replace h := lt_at ef5 h
      replace hP : va_P D vwCl [(q_, .inr (12, [.ref q_now, .int s_isWindow, .ref q_kept, .ref q_isKept, .ref q_paneOf, .int s_panes, .ref q_firstStep, .ref q_kinds, .ref q_allowed, .ref q_colour, .ref q_picked, .int s_picks, .ref q_lacking, .int s_hasLack, .ref q_rackKind, .ref q_rackAllowed, .ref q_founds, .ref q_plus, .ref q_minus, .ref q_under, .ref q_work, .ref q_other, .ref q_order, .int s_ordered, .ref q_tried, .ref q_touches, .ref q_out, .ref q_cuts, .ref q_boxWide, .ref q_boxTall, .ref q_boxTurns, .ref q_goal])), (q_allowed, .inl (ky 0, 160, .inl v2)), (q_colour, .inl (ky 0, 160, .inl v3)), (q_kinds, .inl (ky 0, 160, .inl f5))] H := hP
      replace hD : va_D A [(q_, .inr (12, [.ref q_now, .int s_isWindow, .ref q_kept, .ref q_isKept, .ref q_paneOf, .int s_panes, .ref q_firstStep, .ref q_kinds, .ref q_allowed, .ref q_colour, .ref q_picked, .int s_picks, .ref q_lacking, .int s_hasLack, .ref q_rackKind, .ref q_rackAllowed, .ref q_founds, .ref q_plus, .ref q_minus, .ref q_under, .ref q_work, .ref q_other, .ref q_order, .int s_ordered, .ref q_tried, .ref q_touches, .ref q_out, .ref q_cuts, .ref q_boxWide, .ref q_boxTall, .ref q_boxTurns, .ref q_goal])), (q_allowed, .inl (ky 0, 160, .inl v2)), (q_colour, .inl (ky 0, 160, .inl v3)), (q_kinds, .inl (ky 0, 160, .inl f5))] := hD
      refine lv_aload_n hx hb dX12_fresh_17 rfl (lv_at hl 0 rfl) ?_
      refine va_get (D := D) (ci := 12) (v := .ref q_allowed) (C := RX12) (T := TX12) (N := 32) hx hb hts hi_X12 hown hK.1 hP 0 rfl rfl 8 (by decide) hf_40 (fun _ h9 => h9) rfl dX12_fresh_18 ?_
      refine lv_iload_n hx hb dX12_fresh_21 rfl (lv_at hl 1 rfl) ?_
      refine lv_sipush (v := 255) hx hb dX12_fresh_22 (by decide) ?_
      obtain ⟨hg, h⟩ := gd_of h
      refine r_iast hx hb hK.1 hP hD hS 1 0 rfl rfl hg dX12_fresh_25 (fun f6 ef6 H locs hP hD hS => ?_)
      replace h := lt_at ef6 h
      replace hP : va_P D vwCl [(q_, .inr (12, [.ref q_now, .int s_isWindow, .ref q_kept, .ref q_isKept, .ref q_paneOf, .int s_panes, .ref q_firstStep, .ref q_kinds, .ref q_allowed, .ref q_colour, .ref q_picked, .int s_picks, .ref q_lacking, .int s_hasLack, .ref q_rackKind, .ref q_rackAllowed, .ref q_founds, .ref q_plus, .ref q_minus, .ref q_under, .ref q_work, .ref q_other, .ref q_order, .int s_ordered, .ref q_tried, .ref q_touches, .ref q_out, .ref q_cuts, .ref q_boxWide, .ref q_boxTall, .ref q_boxTurns, .ref q_goal])), (q_allowed, .inl (ky 0, 160, .inl f6)), (q_colour, .inl (ky 0, 160, .inl v3)), (q_kinds, .inl (ky 0, 160, .inl f5))] H := hP
      replace hD : va_D A [(q_, .inr (12, [.ref q_now, .int s_isWindow, .ref q_kept, .ref q_isKept, .ref q_paneOf, .int s_panes, .ref q_firstStep, .ref q_kinds, .ref q_allowed, .ref q_colour, .ref q_picked, .int s_picks, .ref q_lacking, .int s_hasLack, .ref q_rackKind, .ref q_rackAllowed, .ref q_founds, .ref q_plus, .ref q_minus, .ref q_under, .ref q_work, .ref q_other, .ref q_order, .int s_ordered, .ref q_tried, .ref q_touches, .ref q_out, .ref q_cuts, .ref q_boxWide, .ref q_boxTall, .ref q_boxTurns, .ref q_goal])), (q_allowed, .inl (ky 0, 160, .inl f6)), (q_colour, .inl (ky 0, 160, .inl v3)), (q_kinds, .inl (ky 0, 160, .inl f5))] := hD
      refine lv_aload_n hx hb dX12_fresh_26 rfl (lv_at hl 0 rfl) ?_
      refine va_get (D := D) (ci := 12) (v := .ref q_colour) (C := RX12) (T := TX12) (N := 32) hx hb hts hi_X12 hown hK.1 hP 0 rfl rfl 9 (by decide) hf_43 (fun _ h9 => h9) rfl dX12_fresh_27 ?_
      refine lv_iload_n hx hb dX12_fresh_30 rfl (lv_at hl 1 rfl) ?_
      refine lv_bipush (v := 8) hx hb dX12_fresh_31 (by decide) ?_
      obtain ⟨hg, h⟩ := gd_of h
      refine r_iast hx hb hK.1 hP hD hS 2 0 rfl rfl hg dX12_fresh_33 (fun f7 ef7 H locs hP hD hS => ?_)
      replace h := lt_at ef7 h
      replace hP : va_P D vwCl [(q_, .inr (12, [.ref q_now, .int s_isWindow, .ref q_kept, .ref q_isKept, .ref q_paneOf, .int s_panes, .ref q_firstStep, .ref q_kinds, .ref q_allowed, .ref q_colour, .ref q_picked, .int s_picks, .ref q_lacking, .int s_hasLack, .ref q_rackKind, .ref q_rackAllowed, .ref q_founds, .ref q_plus, .ref q_minus, .ref q_under, .ref q_work, .ref q_other, .ref q_order, .int s_ordered, .ref q_tried, .ref q_touches, .ref q_out, .ref q_cuts, .ref q_boxWide, .ref q_boxTall, .ref q_boxTurns, .ref q_goal])), (q_allowed, .inl (ky 0, 160, .inl f6)), (q_colour, .inl (ky 0, 160, .inl f7)), (q_kinds, .inl (ky 0, 160, .inl f5))] H := hP
      replace hD : va_D A [(q_, .inr (12, [.ref q_now, .int s_isWindow, .ref q_kept, .ref q_isKept, .ref q_paneOf, .int s_panes, .ref q_firstStep, .ref q_kinds, .ref q_allowed, .ref q_colour, .ref q_picked, .int s_picks, .ref q_lacking, .int s_hasLack, .ref q_rackKind, .ref q_rackAllowed, .ref q_founds, .ref q_plus, .ref q_minus, .ref q_under, .ref q_work, .ref q_other, .ref q_order, .int s_ordered, .ref q_tried, .ref q_touches, .ref q_out, .ref q_cuts, .ref q_boxWide, .ref q_boxTall, .ref q_boxTurns, .ref q_goal])), (q_allowed, .inl (ky 0, 160, .inl f6)), (q_colour, .inl (ky 0, 160, .inl f7)), (q_kinds, .inl (ky 0, 160, .inl f5))] := hD
      obtain ⟨x8, ex8⟩ : ∃ z : Int32, z = v1 + 1 := ⟨_, rfl⟩
      replace h := lt_at ex8 h
      refine lv_iinc (v := x8) (lv' := [(1, .int x8), (0, .ref q_)]) hx hb dX12_fresh_34 hl (k := 1) rfl (by rw [ex8]; rfl) (by decide) rfl (fun ls hl => ?_)
      refine lv_goto (tgt := 2) hx hb dX12_fresh_37 (by decide) ?_
      cases h
      exact K _ _ _ hP hD hS (lv_sub hl [1, 0] rfl)
  · have h1 := ex1_of h
    clear h hi
    rcases h1 with ⟨rfl, h⟩
    obtain ⟨v9, v10, v11, v12⟩ := t
    replace h := dm4_of h
    intro H locs ls hP hD hS hl
    replace hP : va_P D vwCl [(q_, .inr (12, [.ref q_now, .int s_isWindow, .ref q_kept, .ref q_isKept, .ref q_paneOf, .int s_panes, .ref q_firstStep, .ref q_kinds, .ref q_allowed, .ref q_colour, .ref q_picked, .int s_picks, .ref q_lacking, .int s_hasLack, .ref q_rackKind, .ref q_rackAllowed, .ref q_founds, .ref q_plus, .ref q_minus, .ref q_under, .ref q_work, .ref q_other, .ref q_order, .int s_ordered, .ref q_tried, .ref q_touches, .ref q_out, .ref q_cuts, .ref q_boxWide, .ref q_boxTall, .ref q_boxTurns, .ref q_goal])), (q_allowed, .inl (ky 0, 160, .inl v10)), (q_colour, .inl (ky 0, 160, .inl v11)), (q_kinds, .inl (ky 0, 160, .inl v12))] H := hP
    replace hD : va_D A [(q_, .inr (12, [.ref q_now, .int s_isWindow, .ref q_kept, .ref q_isKept, .ref q_paneOf, .int s_panes, .ref q_firstStep, .ref q_kinds, .ref q_allowed, .ref q_colour, .ref q_picked, .int s_picks, .ref q_lacking, .int s_hasLack, .ref q_rackKind, .ref q_rackAllowed, .ref q_founds, .ref q_plus, .ref q_minus, .ref q_under, .ref q_work, .ref q_other, .ref q_order, .int s_ordered, .ref q_tried, .ref q_touches, .ref q_out, .ref q_cuts, .ref q_boxWide, .ref q_boxTall, .ref q_boxTurns, .ref q_goal])), (q_allowed, .inl (ky 0, 160, .inl v10)), (q_colour, .inl (ky 0, 160, .inl v11)), (q_kinds, .inl (ky 0, 160, .inl v12))] := hD
    replace hl : lv_has ls 2 [(0, .ref q_), (1, .int v9)] := hl
    refine W.eq (g2 := F0 m 40 ls []) rfl ?_
    refine lv_aload_n hx hb dX12_fresh_40 rfl (lv_at hl 0 rfl) ?_
    refine lv_iconst (v := 0) hx hb dX12_fresh_41 (by decide) ?_
    refine va_put (D := D) (ci := 12) (v := .int (0 : Int32)) (ty := .int) (C := RX12) (T := TX12) (N := 32) hx hb hts hi_X12 tyX12 tyX12_ok nmX12 hown hK.1 hP hD hS 0 rfl rfl 11 (by decide) hf_172 (fun _ h9 => h9) rfl (by decide +kernel) rfl rfl (Nat.le_of_ble_eq_true rfl) dX12_fresh_42 (fun H locs hP hD hS => ?_)
    replace hP : va_P D vwCl [(q_, .inr (12, [.ref q_now, .int s_isWindow, .ref q_kept, .ref q_isKept, .ref q_paneOf, .int s_panes, .ref q_firstStep, .ref q_kinds, .ref q_allowed, .ref q_colour, .ref q_picked, .int (0 : Int32), .ref q_lacking, .int s_hasLack, .ref q_rackKind, .ref q_rackAllowed, .ref q_founds, .ref q_plus, .ref q_minus, .ref q_under, .ref q_work, .ref q_other, .ref q_order, .int s_ordered, .ref q_tried, .ref q_touches, .ref q_out, .ref q_cuts, .ref q_boxWide, .ref q_boxTall, .ref q_boxTurns, .ref q_goal])), (q_allowed, .inl (ky 0, 160, .inl v10)), (q_colour, .inl (ky 0, 160, .inl v11)), (q_kinds, .inl (ky 0, 160, .inl v12))] H := hP
    replace hD : va_D A [(q_, .inr (12, [.ref q_now, .int s_isWindow, .ref q_kept, .ref q_isKept, .ref q_paneOf, .int s_panes, .ref q_firstStep, .ref q_kinds, .ref q_allowed, .ref q_colour, .ref q_picked, .int (0 : Int32), .ref q_lacking, .int s_hasLack, .ref q_rackKind, .ref q_rackAllowed, .ref q_founds, .ref q_plus, .ref q_minus, .ref q_under, .ref q_work, .ref q_other, .ref q_order, .int s_ordered, .ref q_tried, .ref q_touches, .ref q_out, .ref q_cuts, .ref q_boxWide, .ref q_boxTall, .ref q_boxTurns, .ref q_goal])), (q_allowed, .inl (ky 0, 160, .inl v10)), (q_colour, .inl (ky 0, 160, .inl v11)), (q_kinds, .inl (ky 0, 160, .inl v12))] := hD
    refine lv_aload_n hx hb dX12_fresh_45 rfl (lv_at hl 0 rfl) ?_
    refine lv_iconst (v := 0) hx hb dX12_fresh_46 (by decide) ?_
    refine va_put (D := D) (ci := 12) (v := .int (0 : Int32)) (ty := .boolean) (C := RX12) (T := TX12) (N := 32) hx hb hts hi_X12 tyX12 tyX12_ok nmX12 hown hK.1 hP hD hS 0 rfl rfl 13 (by decide) hf_175 (fun _ h9 => h9) rfl (by decide +kernel) rfl rfl (Nat.le_of_ble_eq_true rfl) dX12_fresh_47 (fun H locs hP hD hS => ?_)
    replace hP : va_P D vwCl [(q_, .inr (12, [.ref q_now, .int s_isWindow, .ref q_kept, .ref q_isKept, .ref q_paneOf, .int s_panes, .ref q_firstStep, .ref q_kinds, .ref q_allowed, .ref q_colour, .ref q_picked, .int (0 : Int32), .ref q_lacking, .int (0 : Int32), .ref q_rackKind, .ref q_rackAllowed, .ref q_founds, .ref q_plus, .ref q_minus, .ref q_under, .ref q_work, .ref q_other, .ref q_order, .int s_ordered, .ref q_tried, .ref q_touches, .ref q_out, .ref q_cuts, .ref q_boxWide, .ref q_boxTall, .ref q_boxTurns, .ref q_goal])), (q_allowed, .inl (ky 0, 160, .inl v10)), (q_colour, .inl (ky 0, 160, .inl v11)), (q_kinds, .inl (ky 0, 160, .inl v12))] H := hP
    replace hD : va_D A [(q_, .inr (12, [.ref q_now, .int s_isWindow, .ref q_kept, .ref q_isKept, .ref q_paneOf, .int s_panes, .ref q_firstStep, .ref q_kinds, .ref q_allowed, .ref q_colour, .ref q_picked, .int (0 : Int32), .ref q_lacking, .int (0 : Int32), .ref q_rackKind, .ref q_rackAllowed, .ref q_founds, .ref q_plus, .ref q_minus, .ref q_under, .ref q_work, .ref q_other, .ref q_order, .int s_ordered, .ref q_tried, .ref q_touches, .ref q_out, .ref q_cuts, .ref q_boxWide, .ref q_boxTall, .ref q_boxTurns, .ref q_goal])), (q_allowed, .inl (ky 0, 160, .inl v10)), (q_colour, .inl (ky 0, 160, .inl v11)), (q_kinds, .inl (ky 0, 160, .inl v12))] := hD
    exact rt _ h _ _ _ _ dX12_fresh_50 hP hD hS

