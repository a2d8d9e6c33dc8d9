def bX12_isCut_9 (a1 : Int32) (a2 : Int32) (a3 : Int32) (s_picks : Int32) (s_boxTall : Nat → Int32) (s_boxTurns : Nat → Int32) (s_boxWide : Nat → Int32) (t : Int32) : Option (Nat × (Int32)) := dm1 t (fun (v1 : Int32) => if s_picks ≤ v1 then some (2, v1) else if ¬ a1 = ((1 : Int32) <<< (v1 &&& 31)) then lt (v1 + 1) (fun x2 => some (0, x2)) else ob (sX12_isBox v1 a2 a3 s_boxTall s_boxTurns s_boxWide) (fun o => dm1 o (fun (r3 : Int32) => if r3 = 0 then lt (v1 + 1) (fun x4 => some (0, x4)) else some (1, v1))))
def bX12_isCut_56 (a1 : Int32) (a2 : Int32) (a3 : Int32) (s_cuts : Nat → Int32) (v7 : Int32) (t : Int32) : Option (Nat × (Int32)) := dm1 t (fun (v8 : Int32) => if a2 ≤ v8 then some (2, v8) else ob (sX12_place v7 v8 a3) (fun o => dm1 o (fun (r9 : Int32) => gd (¬ (r9 < 0 ∨ 10816 ≤ r9.toNatClampNeg)) (if (s_cuts r9.toNatClampNeg) = 0 then lt (v8 + 1) (fun x10 => some (0, x10)) else ob (sX12_place (a1 &&& (v7 ^^^ (-1 : Int32))) (a2 - v8) a3) (fun o => dm1 o (fun (r11 : Int32) => gd (¬ (r11 < 0 ∨ 10816 ≤ r11.toNatClampNeg)) (if (s_cuts r11.toNatClampNeg) = 0 then lt (v8 + 1) (fun x12 => some (0, x12)) else some (1, v8))))))))
def bX12_isCut_111 (a1 : Int32) (a2 : Int32) (a3 : Int32) (s_cuts : Nat → Int32) (v7 : Int32) (t : Int32) : Option (Nat × (Int32)) := dm1 t (fun (v15 : Int32) => if a3 ≤ v15 then some (2, v15) else ob (sX12_place v7 a2 v15) (fun o => dm1 o (fun (r16 : Int32) => gd (¬ (r16 < 0 ∨ 10816 ≤ r16.toNatClampNeg)) (if (s_cuts r16.toNatClampNeg) = 0 then lt (v15 + 1) (fun x17 => some (0, x17)) else ob (sX12_place (a1 &&& (v7 ^^^ (-1 : Int32))) a2 (a3 - v15)) (fun o => dm1 o (fun (r18 : Int32) => gd (¬ (r18 < 0 ∨ 10816 ≤ r18.toNatClampNeg)) (if (s_cuts r18.toNatClampNeg) = 0 then lt (v15 + 1) (fun x19 => some (0, x19)) else some (1, v15))))))))
def bX12_isCut_48 (a1 : Int32) (a2 : Int32) (a3 : Int32) (s_cuts : Nat → Int32) (t : Int32) : Option (Nat × (Int32)) := dm1 t (fun (v7 : Int32) => if v7 < 0 then some (3, v7) else ob (iter (bX12_isCut_56 a1 a2 a3 s_cuts v7) FU (1 : Int32)) (fun kt => ex2 kt (fun t => dm1 t (fun (v13 : Int32) => some (1, v7))) (fun t => dm1 t (fun (v14 : Int32) => ob (iter (bX12_isCut_111 a1 a2 a3 s_cuts v7) FU (1 : Int32)) (fun kt => ex2 kt (fun t => dm1 t (fun (v20 : Int32) => some (2, v7))) (fun t => dm1 t (fun (v21 : Int32) => ob (if ¬ v7 = 0 then some ((v7 - (1 : Int32)) &&& a1) else some (-1 : Int32)) (fun t => dm1 t (fun (v22 : Int32) => some (0, v22))))))))))
def sX12_isCut (a1 : Int32) (a2 : Int32) (a3 : Int32) (s_picks : Int32) (s_boxTall : Nat → Int32) (s_boxTurns : Nat → Int32) (s_boxWide : Nat → Int32) (s_cuts : Nat → Int32) : Option (Int32) := if ¬ a1 = 0 then ob (iter (bX12_isCut_9 a1 a2 a3 s_picks s_boxTall s_boxTurns s_boxWide) FU (0 : Int32)) (fun kt => ex2 kt (fun t => dm1 t (fun (v5 : Int32) => some (1 : Int32))) (fun t => dm1 t (fun (v6 : Int32) => ob (iter (bX12_isCut_48 a1 a2 a3 s_cuts) FU a1) (fun kt => ex3 kt (fun t => dm1 t (fun (v23 : Int32) => some (1 : Int32))) (fun t => dm1 t (fun (v24 : Int32) => some (1 : Int32))) (fun t => dm1 t (fun (v25 : Int32) => some (0 : Int32))))))) else some (1 : Int32)
abbrev rmX12_isCut : Room := { frames := 1, cells := 0, slots := 0, locals := 23 }
set_option maxHeartbeats 4000000 in
set_option maxRecDepth 100000 in
theorem c_X12_isCut (l : Launch) (D : va_G) (ky : Nat → ClassId) (q_ q_now q_kept q_isKept q_paneOf q_firstStep q_kinds q_allowed q_colour q_picked q_lacking q_rackKind q_rackAllowed q_founds q_plus q_minus q_under q_work q_other q_order q_tried q_touches q_out q_cuts q_boxWide q_boxTall q_boxTurns q_goal : Nat) (a1 : Int32) (a2 : Int32) (a3 : Int32) (s_isWindow : Int32) (s_panes : Int32) (s_picks : Int32) (s_hasLack : Int32) (s_ordered : Int32) (s_boxTall : Nat → Int32) (s_boxTurns : Nat → Int32) (s_boxWide : Nat → Int32) (s_cuts : Nat → Int32) {o_r : Int32} (h : sX12_isCut a1 a2 a3 s_picks s_boxTall s_boxTurns s_boxWide s_cuts = some o_r) : MtI l D ky yX12_isCut wsX12_isCut rmX12_isCut [.ref q_, .int a1, .int a2, .int a3] [(q_, .inr (12, [.ref q_now, .int s_isWindow, .ref q_kept, .ref q_isKept, .ref q_paneOf, .int s_panes, .ref q_firstStep, .ref q_kinds, .ref q_allowed, .ref q_colour, .ref q_picked, .int s_picks, .ref q_lacking, .int s_hasLack, .ref q_rackKind, .ref q_rackAllowed, .ref q_founds, .ref q_plus, .ref q_minus, .ref q_under, .ref q_work, .ref q_other, .ref q_order, .int s_ordered, .ref q_tried, .ref q_touches, .ref q_out, .ref q_cuts, .ref q_boxWide, .ref q_boxTall, .ref q_boxTurns, .ref q_goal])), (q_boxTall, .inl (ky 0, 6, .inl s_boxTall)), (q_boxTurns, .inl (ky 2, 6, .inl s_boxTurns)), (q_boxWide, .inl (ky 0, 6, .inl s_boxWide)), (q_cuts, .inl (ky 2, 10816, .inl s_cuts))] [(q_, .inr (12, [.ref q_now, .int s_isWindow, .ref q_kept, .ref q_isKept, .ref q_paneOf, .int s_panes, .ref q_firstStep, .ref q_kinds, .ref q_allowed, .ref q_colour, .ref q_picked, .int s_picks, .ref q_lacking, .int s_hasLack, .ref q_rackKind, .ref q_rackAllowed, .ref q_founds, .ref q_plus, .ref q_minus, .ref q_under, .ref q_work, .ref q_other, .ref q_order, .int s_ordered, .ref q_tried, .ref q_touches, .ref q_out, .ref q_cuts, .ref q_boxWide, .ref q_boxTall, .ref q_boxTurns, .ref q_goal])), (q_boxTall, .inl (ky 0, 6, .inl s_boxTall)), (q_boxTurns, .inl (ky 2, 6, .inl s_boxTurns)), (q_boxWide, .inl (ky 0, 6, .inl s_boxWide)), (q_cuts, .inl (ky 2, 10816, .inl s_cuts))] o_r 0 0 := by
  refine MtI.ofB (cc := cX12_isCut) (maxL := 6) (by decide +kernel) rfl (Nat.le_of_ble_eq_true rfl) ?_
  intro p e R s m args below meth c A Q ls hR hx hb hts hown hnm hml hP hK hD hA ret hl
  subst hR
  obtain ⟨H, hH⟩ : ∃ H, H = s.heap := ⟨_, rfl⟩
  obtain ⟨locs, hlocs⟩ : ∃ locs : List Loc, locs = [] := ⟨_, rfl⟩
  have hS : va_S A s.heap H locs := by rw [hH, hlocs]; exact va_S.rf
  rw [← hH] at hP
  suffices hgo : W p l e rmX12_isCut s m args below meth c H locs 0 0 Q (F0 m 0 ls []) by rw [hH, hlocs] at hgo; exact hgo
  clear hH hlocs
  replace hl : lv_has ls 6 [(0, .ref q_), (1, .int a1), (2, .int a2), (3, .int a3)] := hl
  replace hown : s.vm.findClass RX12 = some m.cls := hown
  have hi_X12 : ∀ w ∈ u_ws RX12 TX12 32, w ∈ wsX12_isCut := fun _ h9 => List.mem_cons_of_mem _ (List.mem_append_right _ h9)
  have hf_172 := hts (.fieldLink RX12 172 "GlazierBenchModel" "picks" "I") (by decide +kernel)
  have hf_92 := hts (.fieldLink RX12 92 "GlazierBenchModel" "cuts" "[Z") (by decide +kernel)
  unfold sX12_isCut at h
  refine lv_iload_n hx hb dX12_isCut_0 rfl (lv_at hl 1 rfl) ?_
  refine lv_if_ne (tgt := 6) hx hb dX12_isCut_1 (by decide) (fun hc => ?_) (fun hc => ?_)
  · replace h := if_t hc h
    refine lv_iconst (v := 0) hx hb dX12_isCut_6 (by decide) ?_
    refine lv_istore (lv' := [(4, .int (0 : Int32)), (0, .ref q_), (1, .int a1), (2, .int a2), (3, .int a3)]) hx hb dX12_isCut_7 hl (by decide) rfl (fun ls hl => ?_)
    obtain ⟨⟨k, t⟩, hi, h⟩ := ob_of h
    refine iter_rule (P := fun (k : Nat) (t : Int32) => ∀ (H : Heap) (locs : List Loc) (ls : Array Slot), va_P D vwCl [(q_, .inr (12, [.ref q_now, .int s_isWindow, .ref q_kept, .ref q_isKept, .ref q_paneOf, .int s_panes, .ref q_firstStep, .ref q_kinds, .ref q_allowed, .ref q_colour, .ref q_picked, .int s_picks, .ref q_lacking, .int s_hasLack, .ref q_rackKind, .ref q_rackAllowed, .ref q_founds, .ref q_plus, .ref q_minus, .ref q_under, .ref q_work, .ref q_other, .ref q_order, .int s_ordered, .ref q_tried, .ref q_touches, .ref q_out, .ref q_cuts, .ref q_boxWide, .ref q_boxTall, .ref q_boxTurns, .ref q_goal])), (q_boxTall, .inl (ky 0, 6, .inl s_boxTall)), (q_boxTurns, .inl (ky 2, 6, .inl s_boxTurns)), (q_boxWide, .inl (ky 0, 6, .inl s_boxWide)), (q_cuts, .inl (ky 2, 10816, .inl s_cuts))] H → va_D A [(q_, .inr (12, [.ref q_now, .int s_isWindow, .ref q_kept, .ref q_isKept, .ref q_paneOf, .int s_panes, .ref q_firstStep, .ref q_kinds, .ref q_allowed, .ref q_colour, .ref q_picked, .int s_picks, .ref q_lacking, .int s_hasLack, .ref q_rackKind, .ref q_rackAllowed, .ref q_founds, .ref q_plus, .ref q_minus, .ref q_under, .ref q_work, .ref q_other, .ref q_order, .int s_ordered, .ref q_tried, .ref q_touches, .ref q_out, .ref q_cuts, .ref q_boxWide, .ref q_boxTall, .ref q_boxTurns, .ref q_goal])), (q_boxTall, .inl (ky 0, 6, .inl s_boxTall)), (q_boxTurns, .inl (ky 2, 6, .inl s_boxTurns)), (q_boxWide, .inl (ky 0, 6, .inl s_boxWide)), (q_cuts, .inl (ky 2, 10816, .inl s_cuts))] → va_S A s.heap H locs → lv_has ls 6 [(0, .ref q_), (1, .int a1), (2, .int a2), (3, .int a3), (4, .int t)] → W p l e rmX12_isCut s m args below meth c H locs 0 0 Q (F0 m ([9, 37, 45].getD k 0) ls [])) ?_ _ _ _ _ hi ?_ H locs ls hP hD hS (lv_sub hl [1, 2, 3, 4, 0] rfl)
    · clear h hi hP hD hS hl
      intro t k t' h K
      obtain ⟨v1, rfl⟩ : ∃ z, z = t := ⟨_, rfl⟩
      intro H locs ls hP hD hS hl
      replace h := dm1_of h
      replace hP : va_P D vwCl [(q_, .inr (12, [.ref q_now, .int s_isWindow, .ref q_kept, .ref q_isKept, .ref q_paneOf, .int s_panes, .ref q_firstStep, .ref q_kinds, .ref q_allowed, .ref q_colour, .ref q_picked, .int s_picks, .ref q_lacking, .int s_hasLack, .ref q_rackKind, .ref q_rackAllowed, .ref q_founds, .ref q_plus, .ref q_minus, .ref q_under, .ref q_work, .ref q_other, .ref q_order, .int s_ordered, .ref q_tried, .ref q_touches, .ref q_out, .ref q_cuts, .ref q_boxWide, .ref q_boxTall, .ref q_boxTurns, .ref q_goal])), (q_boxTall, .inl (ky 0, 6, .inl s_boxTall)), (q_boxTurns, .inl (ky 2, 6, .inl s_boxTurns)), (q_boxWide, .inl (ky 0, 6, .inl s_boxWide)), (q_cuts, .inl (ky 2, 10816, .inl s_cuts))] H := hP
      replace hD : va_D A [(q_, .inr (12, [.ref q_now, .int s_isWindow, .ref q_kept, .ref q_isKept, .ref q_paneOf, .int s_panes, .ref q_firstStep, .ref q_kinds, .ref q_allowed, .ref q_colour, .ref q_picked, .int s_picks, .ref q_lacking, .int s_hasLack, .ref q_rackKind, .ref q_rackAllowed, .ref q_founds, .ref q_plus, .ref q_minus, .ref q_under, .ref q_work, .ref q_other, .ref q_order, .int s_ordered, .ref q_tried, .ref q_touches, .ref q_out, .ref q_cuts, .ref q_boxWide, .ref q_boxTall, .ref q_boxTurns, .ref q_goal])), (q_boxTall, .inl (ky 0, 6, .inl s_boxTall)), (q_boxTurns, .inl (ky 2, 6, .inl s_boxTurns)), (q_boxWide, .inl (ky 0, 6, .inl s_boxWide)), (q_cuts, .inl (ky 2, 10816, .inl s_cuts))] := hD
      replace hl : lv_has ls 6 [(0, .ref q_), (1, .int a1), (2, .int a2), (3, .int a3), (4, .int v1)] := hl
      refine lv_iload hx hb dX12_isCut_9 (lv_at hl 4 rfl) ?_
      refine lv_aload_n hx hb dX12_isCut_11 rfl (lv_at hl 0 rfl) ?_
      refine va_get (D := D) (ci := 12) (v := .int s_picks) (C := RX12) (T := TX12) (N := 32) hx hb hts hi_X12 hown hK.1 hP 0 rfl rfl 11 (by decide) hf_172 (fun _ h9 => h9) rfl dX12_isCut_12 ?_
      refine lv_icmp_ge (tgt := 45) hx hb dX12_isCut_15 (by decide) (fun hc => ?_) (fun hc => ?_)
      · replace h := if_t hc h
        cases h
        exact K _ _ _ hP hD hS (lv_sub hl [0, 1, 2, 3, 4] rfl)
      · replace h := if_f hc h
        refine lv_iload_n hx hb dX12_isCut_18 rfl (lv_at hl 1 rfl) ?_
        refine lv_iconst (v := 1) hx hb dX12_isCut_19 (by decide) ?_
        refine lv_iload hx hb dX12_isCut_20 (lv_at hl 4 rfl) ?_
        refine lv_ishl hx hb dX12_isCut_22 ?_
        refine lv_icmp_ne (tgt := 39) hx hb dX12_isCut_23 (by decide) (fun hc => ?_) (fun hc => ?_)
        · replace h := if_t hc h
          obtain ⟨x2, ex2⟩ : ∃ z : Int32, z = v1 + 1 := ⟨_, rfl⟩
          replace h := lt_at ex2 h
          refine lv_iinc (v := x2) (lv' := [(4, .int x2), (0, .ref q_), (1, .int a1), (2, .int a2), (3, .int a3)]) hx hb dX12_isCut_39 hl (k := 4) rfl (by rw [ex2]; rfl) (by decide) rfl (fun ls hl => ?_)
          refine lv_goto (tgt := 9) hx hb dX12_isCut_42 (by decide) ?_
          cases h
          exact K _ _ _ hP hD hS (lv_sub hl [1, 2, 3, 4, 0] rfl)
        · replace h := if_f (fun z => z hc) h
          refine lv_aload_n hx hb dX12_isCut_26 rfl (lv_at hl 0 rfl) ?_
          refine lv_iload hx hb dX12_isCut_27 (lv_at hl 4 rfl) ?_
          refine lv_iload_n hx hb dX12_isCut_29 rfl (lv_at hl 2 rfl) ?_
          refine lv_iload_n hx hb dX12_isCut_30 rfl (lv_at hl 3 rfl) ?_
          obtain ⟨r3, hc, h⟩ := ob_of h
          replace h := dm1_of h
          refine cv_i (As := [.int v1, .int a2, .int a3]) (rest := []) (wr := [(q_cuts, .inl (ky 2, 10816, .inl s_cuts))]) (wn := [(q_, .inr (12, [.ref q_now, .int s_isWindow, .ref q_kept, .ref q_isKept, .ref q_paneOf, .int s_panes, .ref q_firstStep, .ref q_kinds, .ref q_allowed, .ref q_colour, .ref q_picked, .int s_picks, .ref q_lacking, .int s_hasLack, .ref q_rackKind, .ref q_rackAllowed, .ref q_founds, .ref q_plus, .ref q_minus, .ref q_under, .ref q_work, .ref q_other, .ref q_order, .int s_ordered, .ref q_tried, .ref q_touches, .ref q_out, .ref q_cuts, .ref q_boxWide, .ref q_boxTall, .ref q_boxTurns, .ref q_goal])), (q_boxTall, .inl (ky 0, 6, .inl s_boxTall)), (q_boxTurns, .inl (ky 2, 6, .inl s_boxTurns)), (q_boxWide, .inl (ky 0, 6, .inl s_boxWide)), (q_cuts, .inl (ky 2, 10816, .inl s_cuts))]) ⟨hx, hb, hml, hown, hts⟩ (c_X12_isBox l D ky q_ q_now q_kept q_isKept q_paneOf q_firstStep q_kinds q_allowed q_colour q_picked q_lacking q_rackKind q_rackAllowed q_founds q_plus q_minus q_under q_work q_other q_order q_tried q_touches q_out q_cuts q_boxWide q_boxTall q_boxTurns q_goal v1 a2 a3 s_isWindow s_panes s_picks s_hasLack s_ordered s_boxTall s_boxTurns s_boxWide hc) (cwV 3 hts gX12_isCut_X12_isBox rfl rfl rfl (by decide +kernel) ⟨Nat.le_of_ble_eq_true rfl, Nat.le_of_ble_eq_true rfl⟩) (rcv hK.1 hP (q0 := 0) rfl rfl) hP hD hK hS hA [0, 1, 2, 3] [4] [1, 2, 3, 4, 0] rfl (by decide +kernel) rfl (by decide +kernel) (by decide +kernel) (by decide +kernel) rfl rfl rfl hl.1 (Nat.le_of_ble_eq_true rfl) dX12_isCut_31 ⟨Nat.le_of_ble_eq_true rfl, Nat.le_of_ble_eq_true rfl⟩ (fun H locs hP hD hS => ?_)
          refine lv_if_eq (tgt := 39) hx hb dX12_isCut_34 (by decide) (fun hc => ?_) (fun hc => ?_)
          · replace h := if_t hc h
            obtain ⟨x4, ex4⟩ : ∃ z : Int32, z = v1 + 1 := ⟨_, rfl⟩
            replace h := lt_at ex4 h
            refine lv_iinc (v := x4) (lv' := [(4, .int x4), (0, .ref q_), (1, .int a1), (2, .int a2), (3, .int a3)]) hx hb dX12_isCut_39 hl (k := 4) rfl (by rw [ex4]; rfl) (by decide) rfl (fun ls hl => ?_)
            refine lv_goto (tgt := 9) hx hb dX12_isCut_42 (by decide) ?_
            cases h
            exact K _ _ _ hP hD hS (lv_sub hl [1, 2, 3, 4, 0] rfl)
          · replace h := if_f hc h
            cases h
            exact K _ _ _ hP hD hS (lv_sub hl [0, 1, 2, 3, 4] rfl)
    · have h1 := ex2_of h
      clear h hi
      rcases h1 with ⟨rfl, h⟩ | ⟨rfl, h⟩
      · skip
        obtain ⟨v5, rfl⟩ : ∃ z, z = t := ⟨_, rfl⟩
        replace h := dm1_of h
        intro H locs ls hP hD hS hl
        replace hP : va_P D vwCl [(q_, .inr (12, [.ref q_now, .int s_isWindow, .ref q_kept, .ref q_isKept, .ref q_paneOf, .int s_panes, .ref q_firstStep, .ref q_kinds, .ref q_allowed, .ref q_colour, .ref q_picked, .int s_picks, .ref q_lacking, .int s_hasLack, .ref q_rackKind, .ref q_rackAllowed, .ref q_founds, .ref q_plus, .ref q_minus, .ref q_under, .ref q_work, .ref q_other, .ref q_order, .int s_ordered, .ref q_tried, .ref q_touches, .ref q_out, .ref q_cuts, .ref q_boxWide, .ref q_boxTall, .ref q_boxTurns, .ref q_goal])), (q_boxTall, .inl (ky 0, 6, .inl s_boxTall)), (q_boxTurns, .inl (ky 2, 6, .inl s_boxTurns)), (q_boxWide, .inl (ky 0, 6, .inl s_boxWide)), (q_cuts, .inl (ky 2, 10816, .inl s_cuts))] H := hP
        replace hD : va_D A [(q_, .inr (12, [.ref q_now, .int s_isWindow, .ref q_kept, .ref q_isKept, .ref q_paneOf, .int s_panes, .ref q_firstStep, .ref q_kinds, .ref q_allowed, .ref q_colour, .ref q_picked, .int s_picks, .ref q_lacking, .int s_hasLack, .ref q_rackKind, .ref q_rackAllowed, .ref q_founds, .ref q_plus, .ref q_minus, .ref q_under, .ref q_work, .ref q_other, .ref q_order, .int s_ordered, .ref q_tried, .ref q_touches, .ref q_out, .ref q_cuts, .ref q_boxWide, .ref q_boxTall, .ref q_boxTurns, .ref q_goal])), (q_boxTall, .inl (ky 0, 6, .inl s_boxTall)), (q_boxTurns, .inl (ky 2, 6, .inl s_boxTurns)), (q_boxWide, .inl (ky 0, 6, .inl s_boxWide)), (q_cuts, .inl (ky 2, 10816, .inl s_cuts))] := hD
        replace hl : lv_has ls 6 [(0, .ref q_), (1, .int a1), (2, .int a2), (3, .int a3), (4, .int v5)] := hl
        refine W.eq (g2 := F0 m 37 ls []) rfl ?_
        refine lv_iconst (v := 1) hx hb dX12_isCut_37 (by decide) ?_
        cases h
        exact ret _ _ _ _ (Or.inr rfl) dX12_isCut_38 hP hD hS
      · skip
        obtain ⟨v6, rfl⟩ : ∃ z, z = t := ⟨_, rfl⟩
        replace h := dm1_of h
        intro H locs ls hP hD hS hl
        replace hP : va_P D vwCl [(q_, .inr (12, [.ref q_now, .int s_isWindow, .ref q_kept, .ref q_isKept, .ref q_paneOf, .int s_panes, .ref q_firstStep, .ref q_kinds, .ref q_allowed, .ref q_colour, .ref q_picked, .int s_picks, .ref q_lacking, .int s_hasLack, .ref q_rackKind, .ref q_rackAllowed, .ref q_founds, .ref q_plus, .ref q_minus, .ref q_under, .ref q_work, .ref q_other, .ref q_order, .int s_ordered, .ref q_tried, .ref q_touches, .ref q_out, .ref q_cuts, .ref q_boxWide, .ref q_boxTall, .ref q_boxTurns, .ref q_goal])), (q_boxTall, .inl (ky 0, 6, .inl s_boxTall)), (q_boxTurns, .inl (ky 2, 6, .inl s_boxTurns)), (q_boxWide, .inl (ky 0, 6, .inl s_boxWide)), (q_cuts, .inl (ky 2, 10816, .inl s_cuts))] H := hP
        replace hD : va_D A [(q_, .inr (12, [.ref q_now, .int s_isWindow, .ref q_kept, .ref q_isKept, .ref q_paneOf, .int s_panes, .ref q_firstStep, .ref q_kinds, .ref q_allowed, .ref q_colour, .ref q_picked, .int s_picks, .ref q_lacking, .int s_hasLack, .ref q_rackKind, .ref q_rackAllowed, .ref q_founds, .ref q_plus, .ref q_minus, .ref q_under, .ref q_work, .ref q_other, .ref q_order, .int s_ordered, .ref q_tried, .ref q_touches, .ref q_out, .ref q_cuts, .ref q_boxWide, .ref q_boxTall, .ref q_boxTurns, .ref q_goal])), (q_boxTall, .inl (ky 0, 6, .inl s_boxTall)), (q_boxTurns, .inl (ky 2, 6, .inl s_boxTurns)), (q_boxWide, .inl (ky 0, 6, .inl s_boxWide)), (q_cuts, .inl (ky 2, 10816, .inl s_cuts))] := hD
        replace hl : lv_has ls 6 [(0, .ref q_), (1, .int a1), (2, .int a2), (3, .int a3), (4, .int v6)] := hl
        refine W.eq (g2 := F0 m 45 ls []) rfl ?_
        refine lv_iload_n hx hb dX12_isCut_45 rfl (lv_at hl 1 rfl) ?_
        refine lv_istore (lv' := [(4, .int a1), (0, .ref q_), (1, .int a1), (2, .int a2), (3, .int a3)]) hx hb dX12_isCut_46 hl (by decide) rfl (fun ls hl => ?_)
        obtain ⟨⟨k, t⟩, hi, h⟩ := ob_of h
        refine iter_rule (P := fun (k : Nat) (t : Int32) => ∀ (H : Heap) (locs : List Loc) (ls : Array Slot), va_P D vwCl [(q_, .inr (12, [.ref q_now, .int s_isWindow, .ref q_kept, .ref q_isKept, .ref q_paneOf, .int s_panes, .ref q_firstStep, .ref q_kinds, .ref q_allowed, .ref q_colour, .ref q_picked, .int s_picks, .ref q_lacking, .int s_hasLack, .ref q_rackKind, .ref q_rackAllowed, .ref q_founds, .ref q_plus, .ref q_minus, .ref q_under, .ref q_work, .ref q_other, .ref q_order, .int s_ordered, .ref q_tried, .ref q_touches, .ref q_out, .ref q_cuts, .ref q_boxWide, .ref q_boxTall, .ref q_boxTurns, .ref q_goal])), (q_boxTall, .inl (ky 0, 6, .inl s_boxTall)), (q_boxTurns, .inl (ky 2, 6, .inl s_boxTurns)), (q_boxWide, .inl (ky 0, 6, .inl s_boxWide)), (q_cuts, .inl (ky 2, 10816, .inl s_cuts))] H → va_D A [(q_, .inr (12, [.ref q_now, .int s_isWindow, .ref q_kept, .ref q_isKept, .ref q_paneOf, .int s_panes, .ref q_firstStep, .ref q_kinds, .ref q_allowed, .ref q_colour, .ref q_picked, .int s_picks, .ref q_lacking, .int s_hasLack, .ref q_rackKind, .ref q_rackAllowed, .ref q_founds, .ref q_plus, .ref q_minus, .ref q_under, .ref q_work, .ref q_other, .ref q_order, .int s_ordered, .ref q_tried, .ref q_touches, .ref q_out, .ref q_cuts, .ref q_boxWide, .ref q_boxTall, .ref q_boxTurns, .ref q_goal])), (q_boxTall, .inl (ky 0, 6, .inl s_boxTall)), (q_boxTurns, .inl (ky 2, 6, .inl s_boxTurns)), (q_boxWide, .inl (ky 0, 6, .inl s_boxWide)), (q_cuts, .inl (ky 2, 10816, .inl s_cuts))] → va_S A s.heap H locs → lv_has ls 6 [(0, .ref q_), (1, .int a1), (2, .int a2), (3, .int a3), (4, .int t)] → W p l e rmX12_isCut s m args below meth c H locs 0 0 Q (F0 m ([48, 100, 155, 183].getD k 0) ls [])) ?_ _ _ _ _ hi ?_ H locs ls hP hD hS (lv_sub hl [1, 2, 3, 4, 0] rfl)
        · clear h hi hP hD hS hl
          intro t k t' h K
          obtain ⟨v7, rfl⟩ : ∃ z, z = t := ⟨_, rfl⟩
          intro H locs ls hP hD hS hl
          replace h := dm1_of h
          replace hP : va_P D vwCl [(q_, .inr (12, [.ref q_now, .int s_isWindow, .ref q_kept, .ref q_isKept, .ref q_paneOf, .int s_panes, .ref q_firstStep, .ref q_kinds, .ref q_allowed, .ref q_colour, .ref q_picked, .int s_picks, .ref q_lacking, .int s_hasLack, .ref q_rackKind, .ref q_rackAllowed, .ref q_founds, .ref q_plus, .ref q_minus, .ref q_under, .ref q_work, .ref q_other, .ref q_order, .int s_ordered, .ref q_tried, .ref q_touches, .ref q_out, .ref q_cuts, .ref q_boxWide, .ref q_boxTall, .ref q_boxTurns, .ref q_goal])), (q_boxTall, .inl (ky 0, 6, .inl s_boxTall)), (q_boxTurns, .inl (ky 2, 6, .inl s_boxTurns)), (q_boxWide, .inl (ky 0, 6, .inl s_boxWide)), (q_cuts, .inl (ky 2, 10816, .inl s_cuts))] H := hP
          replace hD : va_D A [(q_, .inr (12, [.ref q_now, .int s_isWindow, .ref q_kept, .ref q_isKept, .ref q_paneOf, .int s_panes, .ref q_firstStep, .ref q_kinds, .ref q_allowed, .ref q_colour, .ref q_picked, .int s_picks, .ref q_lacking, .int s_hasLack, .ref q_rackKind, .ref q_rackAllowed, .ref q_founds, .ref q_plus, .ref q_minus, .ref q_under, .ref q_work, .ref q_other, .ref q_order, .int s_ordered, .ref q_tried, .ref q_touches, .ref q_out, .ref q_cuts, .ref q_boxWide, .ref q_boxTall, .ref q_boxTurns, .ref q_goal])), (q_boxTall, .inl (ky 0, 6, .inl s_boxTall)), (q_boxTurns, .inl (ky 2, 6, .inl s_boxTurns)), (q_boxWide, .inl (ky 0, 6, .inl s_boxWide)), (q_cuts, .inl (ky 2, 10816, .inl s_cuts))] := hD
          replace hl : lv_has ls 6 [(0, .ref q_), (1, .int a1), (2, .int a2), (3, .int a3), (4, .int v7)] := hl
          refine lv_iload hx hb dX12_isCut_48 (lv_at hl 4 rfl) ?_
          refine lv_if_lt (tgt := 183) hx hb dX12_isCut_50 (by decide) (fun hc => ?_) (fun hc => ?_)
          · replace h := if_t hc h
            cases h
            exact K _ _ _ hP hD hS (lv_sub hl [0, 1, 2, 3, 4] rfl)
          · replace h := if_f hc h
            refine lv_iconst (v := 1) hx hb dX12_isCut_53 (by decide) ?_
            refine lv_istore (lv' := [(5, .int (1 : Int32)), (0, .ref q_), (1, .int a1), (2, .int a2), (3, .int a3), (4, .int v7)]) hx hb dX12_isCut_54 hl (by decide) rfl (fun ls hl => ?_)
            obtain ⟨⟨k, t⟩, hi, h⟩ := ob_of h
            refine iter_rule (P := fun (k : Nat) (t : Int32) => ∀ (H : Heap) (locs : List Loc) (ls : Array Slot), va_P D vwCl [(q_, .inr (12, [.ref q_now, .int s_isWindow, .ref q_kept, .ref q_isKept, .ref q_paneOf, .int s_panes, .ref q_firstStep, .ref q_kinds, .ref q_allowed, .ref q_colour, .ref q_picked, .int s_picks, .ref q_lacking, .int s_hasLack, .ref q_rackKind, .ref q_rackAllowed, .ref q_founds, .ref q_plus, .ref q_minus, .ref q_under, .ref q_work, .ref q_other, .ref q_order, .int s_ordered, .ref q_tried, .ref q_touches, .ref q_out, .ref q_cuts, .ref q_boxWide, .ref q_boxTall, .ref q_boxTurns, .ref q_goal])), (q_boxTall, .inl (ky 0, 6, .inl s_boxTall)), (q_boxTurns, .inl (ky 2, 6, .inl s_boxTurns)), (q_boxWide, .inl (ky 0, 6, .inl s_boxWide)), (q_cuts, .inl (ky 2, 10816, .inl s_cuts))] H → va_D A [(q_, .inr (12, [.ref q_now, .int s_isWindow, .ref q_kept, .ref q_isKept, .ref q_paneOf, .int s_panes, .ref q_firstStep, .ref q_kinds, .ref q_allowed, .ref q_colour, .ref q_picked, .int s_picks, .ref q_lacking, .int s_hasLack, .ref q_rackKind, .ref q_rackAllowed, .ref q_founds, .ref q_plus, .ref q_minus, .ref q_under, .ref q_work, .ref q_other, .ref q_order, .int s_ordered, .ref q_tried, .ref q_touches, .ref q_out, .ref q_cuts, .ref q_boxWide, .ref q_boxTall, .ref q_boxTurns, .ref q_goal])), (q_boxTall, .inl (ky 0, 6, .inl s_boxTall)), (q_boxTurns, .inl (ky 2, 6, .inl s_boxTurns)), (q_boxWide, .inl (ky 0, 6, .inl s_boxWide)), (q_cuts, .inl (ky 2, 10816, .inl s_cuts))] → va_S A s.heap H locs → lv_has ls 6 [(0, .ref q_), (1, .int a1), (2, .int a2), (3, .int a3), (4, .int v7), (5, .int t)] → W p l e rmX12_isCut s m args below meth c H locs 0 0 Q (F0 m ([56, 100, 108].getD k 0) ls [])) ?_ _ _ _ _ hi ?_ H locs ls hP hD hS (lv_sub hl [1, 2, 3, 4, 5, 0] rfl)
            · clear h hi hP hD hS hl
              intro t k t' h K
              obtain ⟨v8, rfl⟩ : ∃ z, z = t := ⟨_, rfl⟩
              intro H locs ls hP hD hS hl
              replace h := dm1_of h
              replace hP : va_P D vwCl [(q_, .inr (12, [.ref q_now, .int s_isWindow, .ref q_kept, .ref q_isKept, .ref q_paneOf, .int s_panes, .ref q_firstStep, .ref q_kinds, .ref q_allowed, .ref q_colour, .ref q_picked, .int s_picks, .ref q_lacking, .int s_hasLack, .ref q_rackKind, .ref q_rackAllowed, .ref q_founds, .ref q_plus, .ref q_minus, .ref q_under, .ref q_work, .ref q_other, .ref q_order, .int s_ordered, .ref q_tried, .ref q_touches, .ref q_out, .ref q_cuts, .ref q_boxWide, .ref q_boxTall, .ref q_boxTurns, .ref q_goal])), (q_boxTall, .inl (ky 0, 6, .inl s_boxTall)), (q_boxTurns, .inl (ky 2, 6, .inl s_boxTurns)), (q_boxWide, .inl (ky 0, 6, .inl s_boxWide)), (q_cuts, .inl (ky 2, 10816, .inl s_cuts))] H := hP
              replace hD : va_D A [(q_, .inr (12, [.ref q_now, .int s_isWindow, .ref q_kept, .ref q_isKept, .ref q_paneOf, .int s_panes, .ref q_firstStep, .ref q_kinds, .ref q_allowed, .ref q_colour, .ref q_picked, .int s_picks, .ref q_lacking, .int s_hasLack, .ref q_rackKind, .ref q_rackAllowed, .ref q_founds, .ref q_plus, .ref q_minus, .ref q_under, .ref q_work, .ref q_other, .ref q_order, .int s_ordered, .ref q_tried, .ref q_touches, .ref q_out, .ref q_cuts, .ref q_boxWide, .ref q_boxTall, .ref q_boxTurns, .ref q_goal])), (q_boxTall, .inl (ky 0, 6, .inl s_boxTall)), (q_boxTurns, .inl (ky 2, 6, .inl s_boxTurns)), (q_boxWide, .inl (ky 0, 6, .inl s_boxWide)), (q_cuts, .inl (ky 2, 10816, .inl s_cuts))] := hD
              replace hl : lv_has ls 6 [(0, .ref q_), (1, .int a1), (2, .int a2), (3, .int a3), (4, .int v7), (5, .int v8)] := hl
              refine lv_iload hx hb dX12_isCut_56 (lv_at hl 5 rfl) ?_
              refine lv_iload_n hx hb dX12_isCut_58 rfl (lv_at hl 2 rfl) ?_
              refine lv_icmp_ge (tgt := 108) hx hb dX12_isCut_59 (by decide) (fun hc => ?_) (fun hc => ?_)
              · replace h := if_t hc h
                cases h
                exact K _ _ _ hP hD hS (lv_sub hl [0, 1, 2, 3, 4, 5] rfl)
              · replace h := if_f hc h
                refine lv_aload_n hx hb dX12_isCut_62 rfl (lv_at hl 0 rfl) ?_
                refine va_get (D := D) (ci := 12) (v := .ref q_cuts) (C := RX12) (T := TX12) (N := 32) hx hb hts hi_X12 hown hK.1 hP 0 rfl rfl 27 (by decide) hf_92 (fun _ h9 => h9) rfl dX12_isCut_63 ?_
                refine lv_iload hx hb dX12_isCut_66 (lv_at hl 4 rfl) ?_
                refine lv_iload hx hb dX12_isCut_68 (lv_at hl 5 rfl) ?_
                refine lv_iload_n hx hb dX12_isCut_70 rfl (lv_at hl 3 rfl) ?_
                obtain ⟨r9, hc, h⟩ := ob_of h
                replace h := dm1_of h
                refine cs_i (As := [.int v7, .int v8, .int a3]) (rest := [.ref q_cuts]) (wr := [(q_, .inr (12, [.ref q_now, .int s_isWindow, .ref q_kept, .ref q_isKept, .ref q_paneOf, .int s_panes, .ref q_firstStep, .ref q_kinds, .ref q_allowed, .ref q_colour, .ref q_picked, .int s_picks, .ref q_lacking, .int s_hasLack, .ref q_rackKind, .ref q_rackAllowed, .ref q_founds, .ref q_plus, .ref q_minus, .ref q_under, .ref q_work, .ref q_other, .ref q_order, .int s_ordered, .ref q_tried, .ref q_touches, .ref q_out, .ref q_cuts, .ref q_boxWide, .ref q_boxTall, .ref q_boxTurns, .ref q_goal])), (q_boxTall, .inl (ky 0, 6, .inl s_boxTall)), (q_boxTurns, .inl (ky 2, 6, .inl s_boxTurns)), (q_boxWide, .inl (ky 0, 6, .inl s_boxWide)), (q_cuts, .inl (ky 2, 10816, .inl s_cuts))]) (wn := [(q_, .inr (12, [.ref q_now, .int s_isWindow, .ref q_kept, .ref q_isKept, .ref q_paneOf, .int s_panes, .ref q_firstStep, .ref q_kinds, .ref q_allowed, .ref q_colour, .ref q_picked, .int s_picks, .ref q_lacking, .int s_hasLack, .ref q_rackKind, .ref q_rackAllowed, .ref q_founds, .ref q_plus, .ref q_minus, .ref q_under, .ref q_work, .ref q_other, .ref q_order, .int s_ordered, .ref q_tried, .ref q_touches, .ref q_out, .ref q_cuts, .ref q_boxWide, .ref q_boxTall, .ref q_boxTurns, .ref q_goal])), (q_boxTall, .inl (ky 0, 6, .inl s_boxTall)), (q_boxTurns, .inl (ky 2, 6, .inl s_boxTurns)), (q_boxWide, .inl (ky 0, 6, .inl s_boxWide)), (q_cuts, .inl (ky 2, 10816, .inl s_cuts))]) ⟨hx, hb, hml, hown, hts⟩ (c_X12_place l D ky v7 v8 a3 hc) (va_cwS 3 hts gX12_isCut_X12_place rfl rfl rfl (by decide +kernel) ⟨Nat.le_of_ble_eq_true rfl, Nat.le_of_ble_eq_true rfl⟩) hP hD hK hS hA [] [0, 1, 2, 3, 4] [0, 1, 2, 3, 4] rfl (by decide +kernel) rfl (by decide +kernel) (by decide +kernel) (by decide +kernel) rfl rfl rfl hl.1 (Nat.le_of_ble_eq_true rfl) dX12_isCut_71 ⟨Nat.le_of_ble_eq_true rfl, Nat.le_of_ble_eq_true rfl⟩ (fun H locs hP hD hS => ?_)
                obtain ⟨hg, h⟩ := gd_of h
                refine va_zald hx hb hK.1 hP 4 2 rfl rfl hg dX12_isCut_74 ?_
                refine lv_if_eq (tgt := 102) hx hb dX12_isCut_75 (by decide) (fun hc => ?_) (fun hc => ?_)
                · replace h := if_t hc h
                  obtain ⟨x10, ex10⟩ : ∃ z : Int32, z = v8 + 1 := ⟨_, rfl⟩
                  replace h := lt_at ex10 h
                  refine lv_iinc (v := x10) (lv' := [(5, .int x10), (0, .ref q_), (1, .int a1), (2, .int a2), (3, .int a3), (4, .int v7)]) hx hb dX12_isCut_102 hl (k := 5) rfl (by rw [ex10]; rfl) (by decide) rfl (fun ls hl => ?_)
                  refine lv_goto (tgt := 56) hx hb dX12_isCut_105 (by decide) ?_
                  cases h
                  exact K _ _ _ hP hD hS (lv_sub hl [1, 2, 3, 4, 5, 0] rfl)
                · replace h := if_f hc h
                  refine lv_aload_n hx hb dX12_isCut_78 rfl (lv_at hl 0 rfl) ?_
                  refine va_get (D := D) (ci := 12) (v := .ref q_cuts) (C := RX12) (T := TX12) (N := 32) hx hb hts hi_X12 hown hK.1 hP 0 rfl rfl 27 (by decide) hf_92 (fun _ h9 => h9) rfl dX12_isCut_79 ?_
                  refine lv_iload_n hx hb dX12_isCut_82 rfl (lv_at hl 1 rfl) ?_
                  refine lv_iload hx hb dX12_isCut_83 (lv_at hl 4 rfl) ?_
                  refine lv_iconst (v := (-1)) hx hb dX12_isCut_85 (by decide) ?_
                  refine lv_ixor hx hb dX12_isCut_86 ?_
                  refine lv_iand hx hb dX12_isCut_87 ?_
                  refine lv_iload_n hx hb dX12_isCut_88 rfl (lv_at hl 2 rfl) ?_
                  refine lv_iload hx hb dX12_isCut_89 (lv_at hl 5 rfl) ?_
                  refine lv_isub hx hb dX12_isCut_91 ?_
                  refine lv_iload_n hx hb dX12_isCut_92 rfl (lv_at hl 3 rfl) ?_
                  obtain ⟨r11, hc, h⟩ := ob_of h
                  replace h := dm1_of h
                  refine cs_i (As := [.int (a1 &&& (v7 ^^^ (-1 : Int32))), .int (a2 - v8), .int a3]) (rest := [.ref q_cuts]) (wr := [(q_, .inr (12, [.ref q_now, .int s_isWindow, .ref q_kept, .ref q_isKept, .ref q_paneOf, .int s_panes, .ref q_firstStep, .ref q_kinds, .ref q_allowed, .ref q_colour, .ref q_picked, .int s_picks, .ref q_lacking, .int s_hasLack, .ref q_rackKind, .ref q_rackAllowed, .ref q_founds, .ref q_plus, .ref q_minus, .ref q_under, .ref q_work, .ref q_other, .ref q_order, .int s_ordered, .ref q_tried, .ref q_touches, .ref q_out, .ref q_cuts, .ref q_boxWide, .ref q_boxTall, .ref q_boxTurns, .ref q_goal])), (q_boxTall, .inl (ky 0, 6, .inl s_boxTall)), (q_boxTurns, .inl (ky 2, 6, .inl s_boxTurns)), (q_boxWide, .inl (ky 0, 6, .inl s_boxWide)), (q_cuts, .inl (ky 2, 10816, .inl s_cuts))]) (wn := [(q_, .inr (12, [.ref q_now, .int s_isWindow, .ref q_kept, .ref q_isKept, .ref q_paneOf, .int s_panes, .ref q_firstStep, .ref q_kinds, .ref q_allowed, .ref q_colour, .ref q_picked, .int s_picks, .ref q_lacking, .int s_hasLack, .ref q_rackKind, .ref q_rackAllowed, .ref q_founds, .ref q_plus, .ref q_minus, .ref q_under, .ref q_work, .ref q_other, .ref q_order, .int s_ordered, .ref q_tried, .ref q_touches, .ref q_out, .ref q_cuts, .ref q_boxWide, .ref q_boxTall, .ref q_boxTurns, .ref q_goal])), (q_boxTall, .inl (ky 0, 6, .inl s_boxTall)), (q_boxTurns, .inl (ky 2, 6, .inl s_boxTurns)), (q_boxWide, .inl (ky 0, 6, .inl s_boxWide)), (q_cuts, .inl (ky 2, 10816, .inl s_cuts))]) ⟨hx, hb, hml, hown, hts⟩ (c_X12_place l D ky (a1 &&& (v7 ^^^ (-1 : Int32))) (a2 - v8) a3 hc) (va_cwS 3 hts gX12_isCut_X12_place rfl rfl rfl (by decide +kernel) ⟨Nat.le_of_ble_eq_true rfl, Nat.le_of_ble_eq_true rfl⟩) hP hD hK hS hA [] [0, 1, 2, 3, 4] [0, 1, 2, 3, 4] rfl (by decide +kernel) rfl (by decide +kernel) (by decide +kernel) (by decide +kernel) rfl rfl rfl hl.1 (Nat.le_of_ble_eq_true rfl) dX12_isCut_93 ⟨Nat.le_of_ble_eq_true rfl, Nat.le_of_ble_eq_true rfl⟩ (fun H locs hP hD hS => ?_)
                  obtain ⟨hg, h⟩ := gd_of h
                  refine va_zald hx hb hK.1 hP 4 2 rfl rfl hg dX12_isCut_96 ?_
                  refine lv_if_eq (tgt := 102) hx hb dX12_isCut_97 (by decide) (fun hc => ?_) (fun hc => ?_)
                  · replace h := if_t hc h
                    obtain ⟨x12, ex12⟩ : ∃ z : Int32, z = v8 + 1 := ⟨_, rfl⟩
                    replace h := lt_at ex12 h
                    refine lv_iinc (v := x12) (lv' := [(5, .int x12), (0, .ref q_), (1, .int a1), (2, .int a2), (3, .int a3), (4, .int v7)]) hx hb dX12_isCut_102 hl (k := 5) rfl (by rw [ex12]; rfl) (by decide) rfl (fun ls hl => ?_)
                    refine lv_goto (tgt := 56) hx hb dX12_isCut_105 (by decide) ?_
                    cases h
                    exact K _ _ _ hP hD hS (lv_sub hl [1, 2, 3, 4, 5, 0] rfl)
                  · replace h := if_f hc h
                    cases h
                    exact K _ _ _ hP hD hS (lv_sub hl [0, 1, 2, 3, 4, 5] rfl)
            · have h1 := ex2_of h
              clear h hi
              rcases h1 with ⟨rfl, h⟩ | ⟨rfl, h⟩
              · skip
                obtain ⟨v13, rfl⟩ : ∃ z, z = t := ⟨_, rfl⟩
                replace h := dm1_of h
                intro H locs ls hP hD hS hl
                replace hP : va_P D vwCl [(q_, .inr (12, [.ref q_now, .int s_isWindow, .ref q_kept, .ref q_isKept, .ref q_paneOf, .int s_panes, .ref q_firstStep, .ref q_kinds, .ref q_allowed, .ref q_colour, .ref q_picked, .int s_picks, .ref q_lacking, .int s_hasLack, .ref q_rackKind, .ref q_rackAllowed, .ref q_founds, .ref q_plus, .ref q_minus, .ref q_under, .ref q_work, .ref q_other, .ref q_order, .int s_ordered, .ref q_tried, .ref q_touches, .ref q_out, .ref q_cuts, .ref q_boxWide, .ref q_boxTall, .ref q_boxTurns, .ref q_goal])), (q_boxTall, .inl (ky 0, 6, .inl s_boxTall)), (q_boxTurns, .inl (ky 2, 6, .inl s_boxTurns)), (q_boxWide, .inl (ky 0, 6, .inl s_boxWide)), (q_cuts, .inl (ky 2, 10816, .inl s_cuts))] H := hP
                replace hD : va_D A [(q_, .inr (12, [.ref q_now, .int s_isWindow, .ref q_kept, .ref q_isKept, .ref q_paneOf, .int s_panes, .ref q_firstStep, .ref q_kinds, .ref q_allowed, .ref q_colour, .ref q_picked, .int s_picks, .ref q_lacking, .int s_hasLack, .ref q_rackKind, .ref q_rackAllowed, .ref q_founds, .ref q_plus, .ref q_minus, .ref q_under, .ref q_work, .ref q_other, .ref q_order, .int s_ordered, .ref q_tried, .ref q_touches, .ref q_out, .ref q_cuts, .ref q_boxWide, .ref q_boxTall, .ref q_boxTurns, .ref q_goal])), (q_boxTall, .inl (ky 0, 6, .inl s_boxTall)), (q_boxTurns, .inl (ky 2, 6, .inl s_boxTurns)), (q_boxWide, .inl (ky 0, 6, .inl s_boxWide)), (q_cuts, .inl (ky 2, 10816, .inl s_cuts))] := hD
                replace hl : lv_has ls 6 [(0, .ref q_), (1, .int a1), (2, .int a2), (3, .int a3), (4, .int v7), (5, .int v13)] := hl
                refine W.eq (g2 := F0 m 100 ls []) rfl ?_
                cases h
                exact K _ _ _ hP hD hS (lv_sub hl [0, 1, 2, 3, 4] rfl)
              · skip
                obtain ⟨v14, rfl⟩ : ∃ z, z = t := ⟨_, rfl⟩
                replace h := dm1_of h
                intro H locs ls hP hD hS hl
                replace hP : va_P D vwCl [(q_, .inr (12, [.ref q_now, .int s_isWindow, .ref q_kept, .ref q_isKept, .ref q_paneOf, .int s_panes, .ref q_firstStep, .ref q_kinds, .ref q_allowed, .ref q_colour, .ref q_picked, .int s_picks, .ref q_lacking, .int s_hasLack, .ref q_rackKind, .ref q_rackAllowed, .ref q_founds, .ref q_plus, .ref q_minus, .ref q_under, .ref q_work, .ref q_other, .ref q_order, .int s_ordered, .ref q_tried, .ref q_touches, .ref q_out, .ref q_cuts, .ref q_boxWide, .ref q_boxTall, .ref q_boxTurns, .ref q_goal])), (q_boxTall, .inl (ky 0, 6, .inl s_boxTall)), (q_boxTurns, .inl (ky 2, 6, .inl s_boxTurns)), (q_boxWide, .inl (ky 0, 6, .inl s_boxWide)), (q_cuts, .inl (ky 2, 10816, .inl s_cuts))] H := hP
                replace hD : va_D A [(q_, .inr (12, [.ref q_now, .int s_isWindow, .ref q_kept, .ref q_isKept, .ref q_paneOf, .int s_panes, .ref q_firstStep, .ref q_kinds, .ref q_allowed, .ref q_colour, .ref q_picked, .int s_picks, .ref q_lacking, .int s_hasLack, .ref q_rackKind, .ref q_rackAllowed, .ref q_founds, .ref q_plus, .ref q_minus, .ref q_under, .ref q_work, .ref q_other, .ref q_order, .int s_ordered, .ref q_tried, .ref q_touches, .ref q_out, .ref q_cuts, .ref q_boxWide, .ref q_boxTall, .ref q_boxTurns, .ref q_goal])), (q_boxTall, .inl (ky 0, 6, .inl s_boxTall)), (q_boxTurns, .inl (ky 2, 6, .inl s_boxTurns)), (q_boxWide, .inl (ky 0, 6, .inl s_boxWide)), (q_cuts, .inl (ky 2, 10816, .inl s_cuts))] := hD
                replace hl : lv_has ls 6 [(0, .ref q_), (1, .int a1), (2, .int a2), (3, .int a3), (4, .int v7), (5, .int v14)] := hl
                refine W.eq (g2 := F0 m 108 ls []) rfl ?_
                refine lv_iconst (v := 1) hx hb dX12_isCut_108 (by decide) ?_
                refine lv_istore (lv' := [(5, .int (1 : Int32)), (0, .ref q_), (1, .int a1), (2, .int a2), (3, .int a3), (4, .int v7)]) hx hb dX12_isCut_109 hl (by decide) rfl (fun ls hl => ?_)
                obtain ⟨⟨k, t⟩, hi, h⟩ := ob_of h
                refine iter_rule (P := fun (k : Nat) (t : Int32) => ∀ (H : Heap) (locs : List Loc) (ls : Array Slot), va_P D vwCl [(q_, .inr (12, [.ref q_now, .int s_isWindow, .ref q_kept, .ref q_isKept, .ref q_paneOf, .int s_panes, .ref q_firstStep, .ref q_kinds, .ref q_allowed, .ref q_colour, .ref q_picked, .int s_picks, .ref q_lacking, .int s_hasLack, .ref q_rackKind, .ref q_rackAllowed, .ref q_founds, .ref q_plus, .ref q_minus, .ref q_under, .ref q_work, .ref q_other, .ref q_order, .int s_ordered, .ref q_tried, .ref q_touches, .ref q_out, .ref q_cuts, .ref q_boxWide, .ref q_boxTall, .ref q_boxTurns, .ref q_goal])), (q_boxTall, .inl (ky 0, 6, .inl s_boxTall)), (q_boxTurns, .inl (ky 2, 6, .inl s_boxTurns)), (q_boxWide, .inl (ky 0, 6, .inl s_boxWide)), (q_cuts, .inl (ky 2, 10816, .inl s_cuts))] H → va_D A [(q_, .inr (12, [.ref q_now, .int s_isWindow, .ref q_kept, .ref q_isKept, .ref q_paneOf, .int s_panes, .ref q_firstStep, .ref q_kinds, .ref q_allowed, .ref q_colour, .ref q_picked, .int s_picks, .ref q_lacking, .int s_hasLack, .ref q_rackKind, .ref q_rackAllowed, .ref q_founds, .ref q_plus, .ref q_minus, .ref q_under, .ref q_work, .ref q_other, .ref q_order, .int s_ordered, .ref q_tried, .ref q_touches, .ref q_out, .ref q_cuts, .ref q_boxWide, .ref q_boxTall, .ref q_boxTurns, .ref q_goal])), (q_boxTall, .inl (ky 0, 6, .inl s_boxTall)), (q_boxTurns, .inl (ky 2, 6, .inl s_boxTurns)), (q_boxWide, .inl (ky 0, 6, .inl s_boxWide)), (q_cuts, .inl (ky 2, 10816, .inl s_cuts))] → va_S A s.heap H locs → lv_has ls 6 [(0, .ref q_), (1, .int a1), (2, .int a2), (3, .int a3), (4, .int v7), (5, .int t)] → W p l e rmX12_isCut s m args below meth c H locs 0 0 Q (F0 m ([111, 155, 163].getD k 0) ls [])) ?_ _ _ _ _ hi ?_ H locs ls hP hD hS (lv_sub hl [1, 2, 3, 4, 5, 0] rfl)
                · clear h hi hP hD hS hl
                  intro t k t' h K
                  obtain ⟨v15, rfl⟩ : ∃ z, z = t := ⟨_, rfl⟩
                  intro H locs ls hP hD hS hl
                  replace h := dm1_of h
                  replace hP : va_P D vwCl [(q_, .inr (12, [.ref q_now, .int s_isWindow, .ref q_kept, .ref q_isKept, .ref q_paneOf, .int s_panes, .ref q_firstStep, .ref q_kinds, .ref q_allowed, .ref q_colour, .ref q_picked, .int s_picks, .ref q_lacking, .int s_hasLack, .ref q_rackKind, .ref q_rackAllowed, .ref q_founds, .ref q_plus, .ref q_minus, .ref q_under, .ref q_work, .ref q_other, .ref q_order, .int s_ordered, .ref q_tried, .ref q_touches, .ref q_out, .ref q_cuts, .ref q_boxWide, .ref q_boxTall, .ref q_boxTurns, .ref q_goal])), (q_boxTall, .inl (ky 0, 6, .inl s_boxTall)), (q_boxTurns, .inl (ky 2, 6, .inl s_boxTurns)), (q_boxWide, .inl (ky 0, 6, .inl s_boxWide)), (q_cuts, .inl (ky 2, 10816, .inl s_cuts))] H := hP
                  replace hD : va_D A [(q_, .inr (12, [.ref q_now, .int s_isWindow, .ref q_kept, .ref q_isKept, .ref q_paneOf, .int s_panes, .ref q_firstStep, .ref q_kinds, .ref q_allowed, .ref q_colour, .ref q_picked, .int s_picks, .ref q_lacking, .int s_hasLack, .ref q_rackKind, .ref q_rackAllowed, .ref q_founds, .ref q_plus, .ref q_minus, .ref q_under, .ref q_work, .ref q_other, .ref q_order, .int s_ordered, .ref q_tried, .ref q_touches, .ref q_out, .ref q_cuts, .ref q_boxWide, .ref q_boxTall, .ref q_boxTurns, .ref q_goal])), (q_boxTall, .inl (ky 0, 6, .inl s_boxTall)), (q_boxTurns, .inl (ky 2, 6, .inl s_boxTurns)), (q_boxWide, .inl (ky 0, 6, .inl s_boxWide)), (q_cuts, .inl (ky 2, 10816, .inl s_cuts))] := hD
                  replace hl : lv_has ls 6 [(0, .ref q_), (1, .int a1), (2, .int a2), (3, .int a3), (4, .int v7), (5, .int v15)] := hl
                  refine lv_iload hx hb dX12_isCut_111 (lv_at hl 5 rfl) ?_
                  refine lv_iload_n hx hb dX12_isCut_113 rfl (lv_at hl 3 rfl) ?_
                  refine lv_icmp_ge (tgt := 163) hx hb dX12_isCut_114 (by decide) (fun hc => ?_) (fun hc => ?_)
                  · replace h := if_t hc h
                    cases h
                    exact K _ _ _ hP hD hS (lv_sub hl [0, 1, 2, 3, 4, 5] rfl)
                  · replace h := if_f hc h
                    refine lv_aload_n hx hb dX12_isCut_117 rfl (lv_at hl 0 rfl) ?_
                    refine va_get (D := D) (ci := 12) (v := .ref q_cuts) (C := RX12) (T := TX12) (N := 32) hx hb hts hi_X12 hown hK.1 hP 0 rfl rfl 27 (by decide) hf_92 (fun _ h9 => h9) rfl dX12_isCut_118 ?_
                    refine lv_iload hx hb dX12_isCut_121 (lv_at hl 4 rfl) ?_
                    refine lv_iload_n hx hb dX12_isCut_123 rfl (lv_at hl 2 rfl) ?_
                    refine lv_iload hx hb dX12_isCut_124 (lv_at hl 5 rfl) ?_
                    obtain ⟨r16, hc, h⟩ := ob_of h
                    replace h := dm1_of h
                    refine cs_i (As := [.int v7, .int a2, .int v15]) (rest := [.ref q_cuts]) (wr := [(q_, .inr (12, [.ref q_now, .int s_isWindow, .ref q_kept, .ref q_isKept, .ref q_paneOf, .int s_panes, .ref q_firstStep, .ref q_kinds, .ref q_allowed, .ref q_colour, .ref q_picked, .int s_picks, .ref q_lacking, .int s_hasLack, .ref q_rackKind, .ref q_rackAllowed, .ref q_founds, .ref q_plus, .ref q_minus, .ref q_under, .ref q_work, .ref q_other, .ref q_order, .int s_ordered, .ref q_tried, .ref q_touches, .ref q_out, .ref q_cuts, .ref q_boxWide, .ref q_boxTall, .ref q_boxTurns, .ref q_goal])), (q_boxTall, .inl (ky 0, 6, .inl s_boxTall)), (q_boxTurns, .inl (ky 2, 6, .inl s_boxTurns)), (q_boxWide, .inl (ky 0, 6, .inl s_boxWide)), (q_cuts, .inl (ky 2, 10816, .inl s_cuts))]) (wn := [(q_, .inr (12, [.ref q_now, .int s_isWindow, .ref q_kept, .ref q_isKept, .ref q_paneOf, .int s_panes, .ref q_firstStep, .ref q_kinds, .ref q_allowed, .ref q_colour, .ref q_picked, .int s_picks, .ref q_lacking, .int s_hasLack, .ref q_rackKind, .ref q_rackAllowed, .ref q_founds, .ref q_plus, .ref q_minus, .ref q_under, .ref q_work, .ref q_other, .ref q_order, .int s_ordered, .ref q_tried, .ref q_touches, .ref q_out, .ref q_cuts, .ref q_boxWide, .ref q_boxTall, .ref q_boxTurns, .ref q_goal])), (q_boxTall, .inl (ky 0, 6, .inl s_boxTall)), (q_boxTurns, .inl (ky 2, 6, .inl s_boxTurns)), (q_boxWide, .inl (ky 0, 6, .inl s_boxWide)), (q_cuts, .inl (ky 2, 10816, .inl s_cuts))]) ⟨hx, hb, hml, hown, hts⟩ (c_X12_place l D ky v7 a2 v15 hc) (va_cwS 3 hts gX12_isCut_X12_place rfl rfl rfl (by decide +kernel) ⟨Nat.le_of_ble_eq_true rfl, Nat.le_of_ble_eq_true rfl⟩) hP hD hK hS hA [] [0, 1, 2, 3, 4] [0, 1, 2, 3, 4] rfl (by decide +kernel) rfl (by decide +kernel) (by decide +kernel) (by decide +kernel) rfl rfl rfl hl.1 (Nat.le_of_ble_eq_true rfl) dX12_isCut_126 ⟨Nat.le_of_ble_eq_true rfl, Nat.le_of_ble_eq_true rfl⟩ (fun H locs hP hD hS => ?_)
                    obtain ⟨hg, h⟩ := gd_of h
                    refine va_zald hx hb hK.1 hP 4 2 rfl rfl hg dX12_isCut_129 ?_
                    refine lv_if_eq (tgt := 157) hx hb dX12_isCut_130 (by decide) (fun hc => ?_) (fun hc => ?_)
                    · replace h := if_t hc h
                      obtain ⟨x17, ex17⟩ : ∃ z : Int32, z = v15 + 1 := ⟨_, rfl⟩
                      replace h := lt_at ex17 h
                      refine lv_iinc (v := x17) (lv' := [(5, .int x17), (0, .ref q_), (1, .int a1), (2, .int a2), (3, .int a3), (4, .int v7)]) hx hb dX12_isCut_157 hl (k := 5) rfl (by rw [ex17]; rfl) (by decide) rfl (fun ls hl => ?_)
                      refine lv_goto (tgt := 111) hx hb dX12_isCut_160 (by decide) ?_
                      cases h
                      exact K _ _ _ hP hD hS (lv_sub hl [1, 2, 3, 4, 5, 0] rfl)
                    · replace h := if_f hc h
                      refine lv_aload_n hx hb dX12_isCut_133 rfl (lv_at hl 0 rfl) ?_
                      refine va_get (D := D) (ci := 12) (v := .ref q_cuts) (C := RX12) (T := TX12) (N := 32) hx hb hts hi_X12 hown hK.1 hP 0 rfl rfl 27 (by decide) hf_92 (fun _ h9 => h9) rfl dX12_isCut_134 ?_
                      refine lv_iload_n hx hb dX12_isCut_137 rfl (lv_at hl 1 rfl) ?_
                      refine lv_iload hx hb dX12_isCut_138 (lv_at hl 4 rfl) ?_
                      refine lv_iconst (v := (-1)) hx hb dX12_isCut_140 (by decide) ?_
                      refine lv_ixor hx hb dX12_isCut_141 ?_
                      refine lv_iand hx hb dX12_isCut_142 ?_
                      refine lv_iload_n hx hb dX12_isCut_143 rfl (lv_at hl 2 rfl) ?_
                      refine lv_iload_n hx hb dX12_isCut_144 rfl (lv_at hl 3 rfl) ?_
                      refine lv_iload hx hb dX12_isCut_145 (lv_at hl 5 rfl) ?_
                      refine lv_isub hx hb dX12_isCut_147 ?_
                      obtain ⟨r18, hc, h⟩ := ob_of h
                      replace h := dm1_of h
                      refine cs_i (As := [.int (a1 &&& (v7 ^^^ (-1 : Int32))), .int a2, .int (a3 - v15)]) (rest := [.ref q_cuts]) (wr := [(q_, .inr (12, [.ref q_now, .int s_isWindow, .ref q_kept, .ref q_isKept, .ref q_paneOf, .int s_panes, .ref q_firstStep, .ref q_kinds, .ref q_allowed, .ref q_colour, .ref q_picked, .int s_picks, .ref q_lacking, .int s_hasLack, .ref q_rackKind, .ref q_rackAllowed, .ref q_founds, .ref q_plus, .ref q_minus, .ref q_under, .ref q_work, .ref q_other, .ref q_order, .int s_ordered, .ref q_tried, .ref q_touches, .ref q_out, .ref q_cuts, .ref q_boxWide, .ref q_boxTall, .ref q_boxTurns, .ref q_goal])), (q_boxTall, .inl (ky 0, 6, .inl s_boxTall)), (q_boxTurns, .inl (ky 2, 6, .inl s_boxTurns)), (q_boxWide, .inl (ky 0, 6, .inl s_boxWide)), (q_cuts, .inl (ky 2, 10816, .inl s_cuts))]) (wn := [(q_, .inr (12, [.ref q_now, .int s_isWindow, .ref q_kept, .ref q_isKept, .ref q_paneOf, .int s_panes, .ref q_firstStep, .ref q_kinds, .ref q_allowed, .ref q_colour, .ref q_picked, .int s_picks, .ref q_lacking, .int s_hasLack, .ref q_rackKind, .ref q_rackAllowed, .ref q_founds, .ref q_plus, .ref q_minus, .ref q_under, .ref q_work, .ref q_other, .ref q_order, .int s_ordered, .ref q_tried, .ref q_touches, .ref q_out, .ref q_cuts, .ref q_boxWide, .ref q_boxTall, .ref q_boxTurns, .ref q_goal])), (q_boxTall, .inl (ky 0, 6, .inl s_boxTall)), (q_boxTurns, .inl (ky 2, 6, .inl s_boxTurns)), (q_boxWide, .inl (ky 0, 6, .inl s_boxWide)), (q_cuts, .inl (ky 2, 10816, .inl s_cuts))]) ⟨hx, hb, hml, hown, hts⟩ (c_X12_place l D ky (a1 &&& (v7 ^^^ (-1 : Int32))) a2 (a3 - v15) hc) (va_cwS 3 hts gX12_isCut_X12_place rfl rfl rfl (by decide +kernel) ⟨Nat.le_of_ble_eq_true rfl, Nat.le_of_ble_eq_true rfl⟩) hP hD hK hS hA [] [0, 1, 2, 3, 4] [0, 1, 2, 3, 4] rfl (by decide +kernel) rfl (by decide +kernel) (by decide +kernel) (by decide +kernel) rfl rfl rfl hl.1 (Nat.le_of_ble_eq_true rfl) dX12_isCut_148 ⟨Nat.le_of_ble_eq_true rfl, Nat.le_of_ble_eq_true rfl⟩ (fun H locs hP hD hS => ?_)
                      obtain ⟨hg, h⟩ := gd_of h
                      refine va_zald hx hb hK.1 hP 4 2 rfl rfl hg dX12_isCut_151 ?_
                      refine lv_if_eq (tgt := 157) hx hb dX12_isCut_152 (by decide) (fun hc => ?_) (fun hc => ?_)
                      · replace h := if_t hc h
                        obtain ⟨x19, ex19⟩ : ∃ z : Int32, z = v15 + 1 := ⟨_, rfl⟩
                        replace h := lt_at ex19 h
                        refine lv_iinc (v := x19) (lv' := [(5, .int x19), (0, .ref q_), (1, .int a1), (2, .int a2), (3, .int a3), (4, .int v7)]) hx hb dX12_isCut_157 hl (k := 5) rfl (by rw [ex19]; rfl) (by decide) rfl (fun ls hl => ?_)
                        refine lv_goto (tgt := 111) hx hb dX12_isCut_160 (by decide) ?_
                        cases h
                        exact K _ _ _ hP hD hS (lv_sub hl [1, 2, 3, 4, 5, 0] rfl)
                      · replace h := if_f hc h
                        cases h
                        exact K _ _ _ hP hD hS (lv_sub hl [0, 1, 2, 3, 4, 5] rfl)
                · have h1 := ex2_of h
                  clear h hi
                  rcases h1 with ⟨rfl, h⟩ | ⟨rfl, h⟩
                  · skip
                    obtain ⟨v20, rfl⟩ : ∃ z, z = t := ⟨_, rfl⟩
                    replace h := dm1_of h
                    intro H locs ls hP hD hS hl
                    replace hP : va_P D vwCl [(q_, .inr (12, [.ref q_now, .int s_isWindow, .ref q_kept, .ref q_isKept, .ref q_paneOf, .int s_panes, .ref q_firstStep, .ref q_kinds, .ref q_allowed, .ref q_colour, .ref q_picked, .int s_picks, .ref q_lacking, .int s_hasLack, .ref q_rackKind, .ref q_rackAllowed, .ref q_founds, .ref q_plus, .ref q_minus, .ref q_under, .ref q_work, .ref q_other, .ref q_order, .int s_ordered, .ref q_tried, .ref q_touches, .ref q_out, .ref q_cuts, .ref q_boxWide, .ref q_boxTall, .ref q_boxTurns, .ref q_goal])), (q_boxTall, .inl (ky 0, 6, .inl s_boxTall)), (q_boxTurns, .inl (ky 2, 6, .inl s_boxTurns)), (q_boxWide, .inl (ky 0, 6, .inl s_boxWide)), (q_cuts, .inl (ky 2, 10816, .inl s_cuts))] H := hP
                    replace hD : va_D A [(q_, .inr (12, [.ref q_now, .int s_isWindow, .ref q_kept, .ref q_isKept, .ref q_paneOf, .int s_panes, .ref q_firstStep, .ref q_kinds, .ref q_allowed, .ref q_colour, .ref q_picked, .int s_picks, .ref q_lacking, .int s_hasLack, .ref q_rackKind, .ref q_rackAllowed, .ref q_founds, .ref q_plus, .ref q_minus, .ref q_under, .ref q_work, .ref q_other, .ref q_order, .int s_ordered, .ref q_tried, .ref q_touches, .ref q_out, .ref q_cuts, .ref q_boxWide, .ref q_boxTall, .ref q_boxTurns, .ref q_goal])), (q_boxTall, .inl (ky 0, 6, .inl s_boxTall)), (q_boxTurns, .inl (ky 2, 6, .inl s_boxTurns)), (q_boxWide, .inl (ky 0, 6, .inl s_boxWide)), (q_cuts, .inl (ky 2, 10816, .inl s_cuts))] := hD
                    replace hl : lv_has ls 6 [(0, .ref q_), (1, .int a1), (2, .int a2), (3, .int a3), (4, .int v7), (5, .int v20)] := hl
                    refine W.eq (g2 := F0 m 155 ls []) rfl ?_
                    cases h
                    exact K _ _ _ hP hD hS (lv_sub hl [0, 1, 2, 3, 4] rfl)
                  · skip
                    obtain ⟨v21, rfl⟩ : ∃ z, z = t := ⟨_, rfl⟩
                    replace h := dm1_of h
                    intro H locs ls hP hD hS hl
                    replace hP : va_P D vwCl [(q_, .inr (12, [.ref q_now, .int s_isWindow, .ref q_kept, .ref q_isKept, .ref q_paneOf, .int s_panes, .ref q_firstStep, .ref q_kinds, .ref q_allowed, .ref q_colour, .ref q_picked, .int s_picks, .ref q_lacking, .int s_hasLack, .ref q_rackKind, .ref q_rackAllowed, .ref q_founds, .ref q_plus, .ref q_minus, .ref q_under, .ref q_work, .ref q_other, .ref q_order, .int s_ordered, .ref q_tried, .ref q_touches, .ref q_out, .ref q_cuts, .ref q_boxWide, .ref q_boxTall, .ref q_boxTurns, .ref q_goal])), (q_boxTall, .inl (ky 0, 6, .inl s_boxTall)), (q_boxTurns, .inl (ky 2, 6, .inl s_boxTurns)), (q_boxWide, .inl (ky 0, 6, .inl s_boxWide)), (q_cuts, .inl (ky 2, 10816, .inl s_cuts))] H := hP
                    replace hD : va_D A [(q_, .inr (12, [.ref q_now, .int s_isWindow, .ref q_kept, .ref q_isKept, .ref q_paneOf, .int s_panes, .ref q_firstStep, .ref q_kinds, .ref q_allowed, .ref q_colour, .ref q_picked, .int s_picks, .ref q_lacking, .int s_hasLack, .ref q_rackKind, .ref q_rackAllowed, .ref q_founds, .ref q_plus, .ref q_minus, .ref q_under, .ref q_work, .ref q_other, .ref q_order, .int s_ordered, .ref q_tried, .ref q_touches, .ref q_out, .ref q_cuts, .ref q_boxWide, .ref q_boxTall, .ref q_boxTurns, .ref q_goal])), (q_boxTall, .inl (ky 0, 6, .inl s_boxTall)), (q_boxTurns, .inl (ky 2, 6, .inl s_boxTurns)), (q_boxWide, .inl (ky 0, 6, .inl s_boxWide)), (q_cuts, .inl (ky 2, 10816, .inl s_cuts))] := hD
                    replace hl : lv_has ls 6 [(0, .ref q_), (1, .int a1), (2, .int a2), (3, .int a3), (4, .int v7), (5, .int v21)] := hl
                    refine W.eq (g2 := F0 m 163 ls []) rfl ?_
                    refine lv_iload hx hb dX12_isCut_163 (lv_at hl 4 rfl) ?_
                    obtain ⟨t, hd, h⟩ := ob_of h
                    have K : ∀ (H : Heap) (locs : List Loc) (ls : Array Slot), va_P D vwCl [(q_, .inr (12, [.ref q_now, .int s_isWindow, .ref q_kept, .ref q_isKept, .ref q_paneOf, .int s_panes, .ref q_firstStep, .ref q_kinds, .ref q_allowed, .ref q_colour, .ref q_picked, .int s_picks, .ref q_lacking, .int s_hasLack, .ref q_rackKind, .ref q_rackAllowed, .ref q_founds, .ref q_plus, .ref q_minus, .ref q_under, .ref q_work, .ref q_other, .ref q_order, .int s_ordered, .ref q_tried, .ref q_touches, .ref q_out, .ref q_cuts, .ref q_boxWide, .ref q_boxTall, .ref q_boxTurns, .ref q_goal])), (q_boxTall, .inl (ky 0, 6, .inl s_boxTall)), (q_boxTurns, .inl (ky 2, 6, .inl s_boxTurns)), (q_boxWide, .inl (ky 0, 6, .inl s_boxWide)), (q_cuts, .inl (ky 2, 10816, .inl s_cuts))] H → va_D A [(q_, .inr (12, [.ref q_now, .int s_isWindow, .ref q_kept, .ref q_isKept, .ref q_paneOf, .int s_panes, .ref q_firstStep, .ref q_kinds, .ref q_allowed, .ref q_colour, .ref q_picked, .int s_picks, .ref q_lacking, .int s_hasLack, .ref q_rackKind, .ref q_rackAllowed, .ref q_founds, .ref q_plus, .ref q_minus, .ref q_under, .ref q_work, .ref q_other, .ref q_order, .int s_ordered, .ref q_tried, .ref q_touches, .ref q_out, .ref q_cuts, .ref q_boxWide, .ref q_boxTall, .ref q_boxTurns, .ref q_goal])), (q_boxTall, .inl (ky 0, 6, .inl s_boxTall)), (q_boxTurns, .inl (ky 2, 6, .inl s_boxTurns)), (q_boxWide, .inl (ky 0, 6, .inl s_boxWide)), (q_cuts, .inl (ky 2, 10816, .inl s_cuts))] → va_S A s.heap H locs → lv_has ls 6 [(0, .ref q_), (1, .int a1), (2, .int a2), (3, .int a3)] → W p l e rmX12_isCut s m args below meth c H locs 0 0 Q (F0 m 178 ls [.int t]) := by
                      clear hd hP hD hS hl
                      obtain ⟨v22, rfl⟩ : ∃ z, z = t := ⟨_, rfl⟩
                      replace h := dm1_of h
                      intro H locs ls hP hD hS hl
                      replace hP : va_P D vwCl [(q_, .inr (12, [.ref q_now, .int s_isWindow, .ref q_kept, .ref q_isKept, .ref q_paneOf, .int s_panes, .ref q_firstStep, .ref q_kinds, .ref q_allowed, .ref q_colour, .ref q_picked, .int s_picks, .ref q_lacking, .int s_hasLack, .ref q_rackKind, .ref q_rackAllowed, .ref q_founds, .ref q_plus, .ref q_minus, .ref q_under, .ref q_work, .ref q_other, .ref q_order, .int s_ordered, .ref q_tried, .ref q_touches, .ref q_out, .ref q_cuts, .ref q_boxWide, .ref q_boxTall, .ref q_boxTurns, .ref q_goal])), (q_boxTall, .inl (ky 0, 6, .inl s_boxTall)), (q_boxTurns, .inl (ky 2, 6, .inl s_boxTurns)), (q_boxWide, .inl (ky 0, 6, .inl s_boxWide)), (q_cuts, .inl (ky 2, 10816, .inl s_cuts))] H := hP
                      replace hD : va_D A [(q_, .inr (12, [.ref q_now, .int s_isWindow, .ref q_kept, .ref q_isKept, .ref q_paneOf, .int s_panes, .ref q_firstStep, .ref q_kinds, .ref q_allowed, .ref q_colour, .ref q_picked, .int s_picks, .ref q_lacking, .int s_hasLack, .ref q_rackKind, .ref q_rackAllowed, .ref q_founds, .ref q_plus, .ref q_minus, .ref q_under, .ref q_work, .ref q_other, .ref q_order, .int s_ordered, .ref q_tried, .ref q_touches, .ref q_out, .ref q_cuts, .ref q_boxWide, .ref q_boxTall, .ref q_boxTurns, .ref q_goal])), (q_boxTall, .inl (ky 0, 6, .inl s_boxTall)), (q_boxTurns, .inl (ky 2, 6, .inl s_boxTurns)), (q_boxWide, .inl (ky 0, 6, .inl s_boxWide)), (q_cuts, .inl (ky 2, 10816, .inl s_cuts))] := hD
                      replace hl : lv_has ls 6 [(0, .ref q_), (1, .int a1), (2, .int a2), (3, .int a3)] := hl
                      refine W.eq (g2 := F0 m 178 ls [.int v22]) rfl ?_
                      refine lv_istore (lv' := [(4, .int v22), (0, .ref q_), (1, .int a1), (2, .int a2), (3, .int a3)]) hx hb dX12_isCut_178 hl (by decide) rfl (fun ls hl => ?_)
                      refine lv_goto (tgt := 48) hx hb dX12_isCut_180 (by decide) ?_
                      cases h
                      exact K _ _ _ hP hD hS (lv_sub hl [1, 2, 3, 4, 0] rfl)
                    replace h := hd
                    clear hd
                    refine lv_if_ne (tgt := 172) hx hb dX12_isCut_165 (by decide) (fun hc => ?_) (fun hc => ?_)
                    · replace h := if_t hc h
                      refine lv_iload hx hb dX12_isCut_172 (lv_at hl 4 rfl) ?_
                      refine lv_iconst (v := 1) hx hb dX12_isCut_174 (by decide) ?_
                      refine lv_isub hx hb dX12_isCut_175 ?_
                      refine lv_iload_n hx hb dX12_isCut_176 rfl (lv_at hl 1 rfl) ?_
                      refine lv_iand hx hb dX12_isCut_177 ?_
                      cases h
                      exact K _ _ _ hP hD hS (lv_sub hl [0, 1, 2, 3] rfl)
                    · replace h := if_f (fun z => z hc) h
                      refine lv_iconst (v := (-1)) hx hb dX12_isCut_168 (by decide) ?_
                      refine lv_goto (tgt := 178) hx hb dX12_isCut_169 (by decide) ?_
                      cases h
                      exact K _ _ _ hP hD hS (lv_sub hl [0, 1, 2, 3] rfl)
        · have h1 := ex3_of h
          clear h hi
          rcases h1 with ⟨rfl, h⟩ | ⟨rfl, h⟩ | ⟨rfl, h⟩
          · skip
            obtain ⟨v23, rfl⟩ : ∃ z, z = t := ⟨_, rfl⟩
            replace h := dm1_of h
            intro H locs ls hP hD hS hl
            replace hP : va_P D vwCl [(q_, .inr (12, [.ref q_now, .int s_isWindow, .ref q_kept, .ref q_isKept, .ref q_paneOf, .int s_panes, .ref q_firstStep, .ref q_kinds, .ref q_allowed, .ref q_colour, .ref q_picked, .int s_picks, .ref q_lacking, .int s_hasLack, .ref q_rackKind, .ref q_rackAllowed, .ref q_founds, .ref q_plus, .ref q_minus, .ref q_under, .ref q_work, .ref q_other, .ref q_order, .int s_ordered, .ref q_tried, .ref q_touches, .ref q_out, .ref q_cuts, .ref q_boxWide, .ref q_boxTall, .ref q_boxTurns, .ref q_goal])), (q_boxTall, .inl (ky 0, 6, .inl s_boxTall)), (q_boxTurns, .inl (ky 2, 6, .inl s_boxTurns)), (q_boxWide, .inl (ky 0, 6, .inl s_boxWide)), (q_cuts, .inl (ky 2, 10816, .inl s_cuts))] H := hP
            replace hD : va_D A [(q_, .inr (12, [.ref q_now, .int s_isWindow, .ref q_kept, .ref q_isKept, .ref q_paneOf, .int s_panes, .ref q_firstStep, .ref q_kinds, .ref q_allowed, .ref q_colour, .ref q_picked, .int s_picks, .ref q_lacking, .int s_hasLack, .ref q_rackKind, .ref q_rackAllowed, .ref q_founds, .ref q_plus, .ref q_minus, .ref q_under, .ref q_work, .ref q_other, .ref q_order, .int s_ordered, .ref q_tried, .ref q_touches, .ref q_out, .ref q_cuts, .ref q_boxWide, .ref q_boxTall, .ref q_boxTurns, .ref q_goal])), (q_boxTall, .inl (ky 0, 6, .inl s_boxTall)), (q_boxTurns, .inl (ky 2, 6, .inl s_boxTurns)), (q_boxWide, .inl (ky 0, 6, .inl s_boxWide)), (q_cuts, .inl (ky 2, 10816, .inl s_cuts))] := hD
            replace hl : lv_has ls 6 [(0, .ref q_), (1, .int a1), (2, .int a2), (3, .int a3), (4, .int v23)] := hl
            refine W.eq (g2 := F0 m 100 ls []) rfl ?_
            refine lv_iconst (v := 1) hx hb dX12_isCut_100 (by decide) ?_
            cases h
            exact ret _ _ _ _ (Or.inr rfl) dX12_isCut_101 hP hD hS
          · skip
            obtain ⟨v24, rfl⟩ : ∃ z, z = t := ⟨_, rfl⟩
            replace h := dm1_of h
            intro H locs ls hP hD hS hl
            replace hP : va_P D vwCl [(q_, .inr (12, [.ref q_now, .int s_isWindow, .ref q_kept, .ref q_isKept, .ref q_paneOf, .int s_panes, .ref q_firstStep, .ref q_kinds, .ref q_allowed, .ref q_colour, .ref q_picked, .int s_picks, .ref q_lacking, .int s_hasLack, .ref q_rackKind, .ref q_rackAllowed, .ref q_founds, .ref q_plus, .ref q_minus, .ref q_under, .ref q_work, .ref q_other, .ref q_order, .int s_ordered, .ref q_tried, .ref q_touches, .ref q_out, .ref q_cuts, .ref q_boxWide, .ref q_boxTall, .ref q_boxTurns, .ref q_goal])), (q_boxTall, .inl (ky 0, 6, .inl s_boxTall)), (q_boxTurns, .inl (ky 2, 6, .inl s_boxTurns)), (q_boxWide, .inl (ky 0, 6, .inl s_boxWide)), (q_cuts, .inl (ky 2, 10816, .inl s_cuts))] H := hP
            replace hD : va_D A [(q_, .inr (12, [.ref q_now, .int s_isWindow, .ref q_kept, .ref q_isKept, .ref q_paneOf, .int s_panes, .ref q_firstStep, .ref q_kinds, .ref q_allowed, .ref q_colour, .ref q_picked, .int s_picks, .ref q_lacking, .int s_hasLack, .ref q_rackKind, .ref q_rackAllowed, .ref q_founds, .ref q_plus, .ref q_minus, .ref q_under, .ref q_work, .ref q_other, .ref q_order, .int s_ordered, .ref q_tried, .ref q_touches, .ref q_out, .ref q_cuts, .ref q_boxWide, .ref q_boxTall, .ref q_boxTurns, .ref q_goal])), (q_boxTall, .inl (ky 0, 6, .inl s_boxTall)), (q_boxTurns, .inl (ky 2, 6, .inl s_boxTurns)), (q_boxWide, .inl (ky 0, 6, .inl s_boxWide)), (q_cuts, .inl (ky 2, 10816, .inl s_cuts))] := hD
            replace hl : lv_has ls 6 [(0, .ref q_), (1, .int a1), (2, .int a2), (3, .int a3), (4, .int v24)] := hl
            refine W.eq (g2 := F0 m 155 ls []) rfl ?_
            refine lv_iconst (v := 1) hx hb dX12_isCut_155 (by decide) ?_
            cases h
            exact ret _ _ _ _ (Or.inr rfl) dX12_isCut_156 hP hD hS
          · skip
            obtain ⟨v25, rfl⟩ : ∃ z, z = t := ⟨_, rfl⟩
            replace h := dm1_of h
            intro H locs ls hP hD hS hl
            replace hP : va_P D vwCl [(q_, .inr (12, [.ref q_now, .int s_isWindow, .ref q_kept, .ref q_isKept, .ref q_paneOf, .int s_panes, .ref q_firstStep, .ref q_kinds, .ref q_allowed, .ref q_colour, .ref q_picked, .int s_picks, .ref q_lacking, .int s_hasLack, .ref q_rackKind, .ref q_rackAllowed, .ref q_founds, .ref q_plus, .ref q_minus, .ref q_under, .ref q_work, .ref q_other, .ref q_order, .int s_ordered, .ref q_tried, .ref q_touches, .ref q_out, .ref q_cuts, .ref q_boxWide, .ref q_boxTall, .ref q_boxTurns, .ref q_goal])), (q_boxTall, .inl (ky 0, 6, .inl s_boxTall)), (q_boxTurns, .inl (ky 2, 6, .inl s_boxTurns)), (q_boxWide, .inl (ky 0, 6, .inl s_boxWide)), (q_cuts, .inl (ky 2, 10816, .inl s_cuts))] H := hP
            replace hD : va_D A [(q_, .inr (12, [.ref q_now, .int s_isWindow, .ref q_kept, .ref q_isKept, .ref q_paneOf, .int s_panes, .ref q_firstStep, .ref q_kinds, .ref q_allowed, .ref q_colour, .ref q_picked, .int s_picks, .ref q_lacking, .int s_hasLack, .ref q_rackKind, .ref q_rackAllowed, .ref q_founds, .ref q_plus, .ref q_minus, .ref q_under, .ref q_work, .ref q_other, .ref q_order, .int s_ordered, .ref q_tried, .ref q_touches, .ref q_out, .ref q_cuts, .ref q_boxWide, .ref q_boxTall, .ref q_boxTurns, .ref q_goal])), (q_boxTall, .inl (ky 0, 6, .inl s_boxTall)), (q_boxTurns, .inl (ky 2, 6, .inl s_boxTurns)), (q_boxWide, .inl (ky 0, 6, .inl s_boxWide)), (q_cuts, .inl (ky 2, 10816, .inl s_cuts))] := hD
            replace hl : lv_has ls 6 [(0, .ref q_), (1, .int a1), (2, .int a2), (3, .int a3), (4, .int v25)] := hl
            refine W.eq (g2 := F0 m 183 ls []) rfl ?_
            refine lv_iconst (v := 0) hx hb dX12_isCut_183 (by decide) ?_
            cases h
            exact ret _ _ _ _ (Or.inl rfl) dX12_isCut_184 hP hD hS
  · replace h := if_f (fun z => z hc) h
    refine lv_iconst (v := 1) hx hb dX12_isCut_4 (by decide) ?_
    cases h
    exact ret _ _ _ _ (Or.inr rfl) dX12_isCut_5 hP hD hS

