def bX7_stepWithOutside_12 (s_joints_x : Nat → Int32) (s_pieces_first : Nat → Int32) (s_pieces_to : Nat → Int32) (t : Int32 × Int32) : Option (Nat × (Int32 × Int32)) := dm2 t (fun (v2 : Int32) (v3 : Int32) => gd (¬ ((1 : Int32) < 0 ∨ 129 ≤ (1 : Int32).toNatClampNeg)) (if (s_pieces_first (1 : Int32).toNatClampNeg) ≤ v3 then some (1, (v2, v3)) else gd (¬ (v3 < 0 ∨ 768 ≤ v3.toNatClampNeg)) (gd (¬ ((s_pieces_to v3.toNatClampNeg) < 0 ∨ 129 ≤ (s_pieces_to v3.toNatClampNeg).toNatClampNeg)) (ob (if ¬ (s_joints_x (s_pieces_to v3.toNatClampNeg).toNatClampNeg) = 0 then some v2 else some v3) (fun t => dm1 t (fun (v4 : Int32) => lt (v3 + 1) (fun x5 => some (0, (v4, x5)))))))))
def sX7_stepWithOutside  (s_joints_x : Nat → Int32) (s_pieces_first : Nat → Int32) (s_pieces_to : Nat → Int32) : Option (Int32) := gd (¬ ((0 : Int32) < 0 ∨ 129 ≤ (0 : Int32).toNatClampNeg)) (lt (s_pieces_first (0 : Int32).toNatClampNeg) (fun x1 => ob (iter (bX7_stepWithOutside_12 s_joints_x s_pieces_first s_pieces_to) FU ((0 : Int32), x1)) (fun kt => ex1 kt (fun t => dm2 t (fun (v6 : Int32) (v7 : Int32) => some v6)))))
abbrev rmX7_stepWithOutside : Room := { frames := 0, cells := 0, slots := 0, locals := 0 }
set_option maxHeartbeats 4000000 in
set_option maxRecDepth 100000 in
theorem c_X7_stepWithOutside (l : Launch) (D : va_G) (ky : Nat → ClassId) (q_ q_joints q_pieces q_paneOf q_walk q_start q_sum q_joints_x q_joints_y q_joints_under q_pieces_from q_pieces_to q_pieces_twin q_pieces_firm q_pieces_first q_pieces_firmEnds q_pieces_reached q_pieces_nextLow q_pieces_nextHigh : Nat) (s_total : Int32) (s_joints_total : Int32) (s_joints_x : Nat → Int32) (s_pieces_steps : Int32) (s_pieces_first : Nat → Int32) (s_pieces_to : Nat → Int32) {o_r : Int32} (h : sX7_stepWithOutside s_joints_x s_pieces_first s_pieces_to = some o_r) : MtI l D ky yX7_stepWithOutside wsX7_stepWithOutside rmX7_stepWithOutside [.ref q_] [(q_, .inr (7, [.ref q_joints, .ref q_pieces, .int s_total, .ref q_paneOf, .ref q_walk, .ref q_start, .ref q_sum])), (q_joints, .inr (4, [.int s_joints_total, .ref q_joints_x, .ref q_joints_y, .ref q_joints_under])), (q_joints_x, .inl (ky 0, 129, .inl s_joints_x)), (q_pieces, .inr (8, [.ref q_joints, .int s_pieces_steps, .ref q_pieces_from, .ref q_pieces_to, .ref q_pieces_twin, .ref q_pieces_firm, .ref q_pieces_first, .ref q_pieces_firmEnds, .ref q_pieces_reached, .ref q_pieces_nextLow, .ref q_pieces_nextHigh])), (q_pieces_first, .inl (ky 0, 129, .inl s_pieces_first)), (q_pieces_to, .inl (ky 0, 768, .inl s_pieces_to))] [(q_, .inr (7, [.ref q_joints, .ref q_pieces, .int s_total, .ref q_paneOf, .ref q_walk, .ref q_start, .ref q_sum])), (q_joints, .inr (4, [.int s_joints_total, .ref q_joints_x, .ref q_joints_y, .ref q_joints_under])), (q_joints_x, .inl (ky 0, 129, .inl s_joints_x)), (q_pieces, .inr (8, [.ref q_joints, .int s_pieces_steps, .ref q_pieces_from, .ref q_pieces_to, .ref q_pieces_twin, .ref q_pieces_firm, .ref q_pieces_first, .ref q_pieces_firmEnds, .ref q_pieces_reached, .ref q_pieces_nextLow, .ref q_pieces_nextHigh])), (q_pieces_first, .inl (ky 0, 129, .inl s_pieces_first)), (q_pieces_to, .inl (ky 0, 768, .inl s_pieces_to))] o_r 0 0 := by
  refine MtI.of (cc := cX7_stepWithOutside) (maxL := 3) (by decide +kernel) rfl (Nat.le_of_ble_eq_true rfl) ?_
  intro p e R s m args below meth c A Q ls hR hx hb hts hown hnm hml hP hK hD hA ret hl
  subst hR
  obtain ⟨H, hH⟩ : ∃ H, H = s.heap := ⟨_, rfl⟩
  obtain ⟨locs, hlocs⟩ : ∃ locs : List Loc, locs = [] := ⟨_, rfl⟩
  have hS : va_S A s.heap H locs := by rw [hH, hlocs]; exact va_S.rf
  rw [← hH] at hP
  suffices hgo : W p l e rmX7_stepWithOutside s m args below meth c H locs 0 0 Q (F0 m 0 ls []) by rw [hH, hlocs] at hgo; exact hgo
  clear hH hlocs
  replace hl : lv_has ls 3 [(0, .ref q_)] := hl
  replace hown : s.vm.findClass RX7 = some m.cls := hown
  have hi_X7 : ∀ w ∈ u_ws RX7 TX7 7, w ∈ wsX7_stepWithOutside := fun _ h9 => List.mem_cons_of_mem _ (List.mem_append_left _ (List.mem_append_left _ (List.mem_append_right _ h9)))
  have hf_22 := hts (.fieldLink RX7 22 "GlazierBench$Panes" "pieces" "LGlazierBench$Pieces;") (by decide +kernel)
  have hi_X8 : ∀ w ∈ u_ws RX8 TX8 11, w ∈ wsX7_stepWithOutside := fun _ h9 => List.mem_cons_of_mem _ (List.mem_append_left _ (List.mem_append_right _ h9))
  have hf_61 := hts (.fieldLink RX7 61 "GlazierBench$Pieces" "first" "[I") (by decide +kernel)
  have hf_15 := hts (.fieldLink RX7 15 "GlazierBench$Panes" "joints" "LGlazierBench$Joints;") (by decide +kernel)
  have hi_X4 : ∀ w ∈ u_ws RX4 TX4 4, w ∈ wsX7_stepWithOutside := fun _ h9 => List.mem_cons_of_mem _ (List.mem_append_right _ h9)
  have hf_64 := hts (.fieldLink RX7 64 "GlazierBench$Joints" "x" "[I") (by decide +kernel)
  have hf_69 := hts (.fieldLink RX7 69 "GlazierBench$Pieces" "to" "[I") (by decide +kernel)
  unfold sX7_stepWithOutside at h
  refine lv_iconst (v := 0) hx hb dX7_stepWithOutside_0 (by decide) ?_
  refine lv_istore_n (lv' := [(1, .int (0 : Int32)), (0, .ref q_)]) hx hb dX7_stepWithOutside_1 rfl hl (by decide) rfl (fun ls hl => ?_)
  refine lv_aload_n hx hb dX7_stepWithOutside_2 rfl (lv_at hl 1 rfl) ?_
  refine va_get (D := D) (ci := 7) (v := .ref q_pieces) (C := RX7) (T := TX7) (N := 7) hx hb hts hi_X7 hown hK.1 hP 0 rfl rfl 1 (by decide) hf_22 (fun _ h9 => h9) rfl dX7_stepWithOutside_3 ?_
  refine va_get (D := D) (ci := 8) (v := .ref q_pieces_first) (C := RX8) (T := TX8) (N := 11) hx hb hts hi_X8 hown hK.1 hP 3 rfl rfl 6 (by decide) hf_61 (fun _ h9 => h9) rfl dX7_stepWithOutside_6 ?_
  refine lv_iconst (v := 0) hx hb dX7_stepWithOutside_9 (by decide) ?_
  obtain ⟨hg, h⟩ := gd_of h
  refine va_iald hx hb hK.1 hP 4 0 rfl rfl hg dX7_stepWithOutside_10 ?_
  refine lv_topi (fun x1 ex1 => ?_)
  replace h := lt_at ex1 h
  refine lv_istore_n (lv' := [(2, .int x1), (1, .int (0 : Int32)), (0, .ref q_)]) hx hb dX7_stepWithOutside_11 rfl hl (by decide) rfl (fun ls hl => ?_)
  obtain ⟨⟨k, t⟩, hi, h⟩ := ob_of h
  refine iter_rule (P := fun (k : Nat) (t : Int32 × Int32) => ∀ (H : Heap) (locs : List Loc) (ls : Array Slot), va_P D vwCl [(q_, .inr (7, [.ref q_joints, .ref q_pieces, .int s_total, .ref q_paneOf, .ref q_walk, .ref q_start, .ref q_sum])), (q_joints, .inr (4, [.int s_joints_total, .ref q_joints_x, .ref q_joints_y, .ref q_joints_under])), (q_joints_x, .inl (ky 0, 129, .inl s_joints_x)), (q_pieces, .inr (8, [.ref q_joints, .int s_pieces_steps, .ref q_pieces_from, .ref q_pieces_to, .ref q_pieces_twin, .ref q_pieces_firm, .ref q_pieces_first, .ref q_pieces_firmEnds, .ref q_pieces_reached, .ref q_pieces_nextLow, .ref q_pieces_nextHigh])), (q_pieces_first, .inl (ky 0, 129, .inl s_pieces_first)), (q_pieces_to, .inl (ky 0, 768, .inl s_pieces_to))] H → va_D A [(q_, .inr (7, [.ref q_joints, .ref q_pieces, .int s_total, .ref q_paneOf, .ref q_walk, .ref q_start, .ref q_sum])), (q_joints, .inr (4, [.int s_joints_total, .ref q_joints_x, .ref q_joints_y, .ref q_joints_under])), (q_joints_x, .inl (ky 0, 129, .inl s_joints_x)), (q_pieces, .inr (8, [.ref q_joints, .int s_pieces_steps, .ref q_pieces_from, .ref q_pieces_to, .ref q_pieces_twin, .ref q_pieces_firm, .ref q_pieces_first, .ref q_pieces_firmEnds, .ref q_pieces_reached, .ref q_pieces_nextLow, .ref q_pieces_nextHigh])), (q_pieces_first, .inl (ky 0, 129, .inl s_pieces_first)), (q_pieces_to, .inl (ky 0, 768, .inl s_pieces_to))] → va_S A s.heap H locs → lv_has ls 3 [(0, .ref q_), (1, .int t.1), (2, .int t.2)] → W p l e rmX7_stepWithOutside s m args below meth c H locs 0 0 Q (F0 m ([12, 53].getD k 0) ls [])) ?_ _ _ _ _ hi ?_ H locs ls hP hD hS (lv_sub hl [2, 1, 0] rfl)
  · clear h hi hP hD hS hl
    intro t k t' h K
    obtain ⟨v2, v3⟩ := t
    intro H locs ls hP hD hS hl
    replace h := dm2_of h
    replace hP : va_P D vwCl [(q_, .inr (7, [.ref q_joints, .ref q_pieces, .int s_total, .ref q_paneOf, .ref q_walk, .ref q_start, .ref q_sum])), (q_joints, .inr (4, [.int s_joints_total, .ref q_joints_x, .ref q_joints_y, .ref q_joints_under])), (q_joints_x, .inl (ky 0, 129, .inl s_joints_x)), (q_pieces, .inr (8, [.ref q_joints, .int s_pieces_steps, .ref q_pieces_from, .ref q_pieces_to, .ref q_pieces_twin, .ref q_pieces_firm, .ref q_pieces_first, .ref q_pieces_firmEnds, .ref q_pieces_reached, .ref q_pieces_nextLow, .ref q_pieces_nextHigh])), (q_pieces_first, .inl (ky 0, 129, .inl s_pieces_first)), (q_pieces_to, .inl (ky 0, 768, .inl s_pieces_to))] H := hP
    replace hD : va_D A [(q_, .inr (7, [.ref q_joints, .ref q_pieces, .int s_total, .ref q_paneOf, .ref q_walk, .ref q_start, .ref q_sum])), (q_joints, .inr (4, [.int s_joints_total, .ref q_joints_x, .ref q_joints_y, .ref q_joints_under])), (q_joints_x, .inl (ky 0, 129, .inl s_joints_x)), (q_pieces, .inr (8, [.ref q_joints, .int s_pieces_steps, .ref q_pieces_from, .ref q_pieces_to, .ref q_pieces_twin, .ref q_pieces_firm, .ref q_pieces_first, .ref q_pieces_firmEnds, .ref q_pieces_reached, .ref q_pieces_nextLow, .ref q_pieces_nextHigh])), (q_pieces_first, .inl (ky 0, 129, .inl s_pieces_first)), (q_pieces_to, .inl (ky 0, 768, .inl s_pieces_to))] := hD
    replace hl : lv_has ls 3 [(0, .ref q_), (1, .int v2), (2, .int v3)] := hl
    refine lv_iload_n hx hb dX7_stepWithOutside_12 rfl (lv_at hl 2 rfl) ?_
    refine lv_aload_n hx hb dX7_stepWithOutside_13 rfl (lv_at hl 0 rfl) ?_
    refine va_get (D := D) (ci := 7) (v := .ref q_pieces) (C := RX7) (T := TX7) (N := 7) hx hb hts hi_X7 hown hK.1 hP 0 rfl rfl 1 (by decide) hf_22 (fun _ h9 => h9) rfl dX7_stepWithOutside_14 ?_
    refine va_get (D := D) (ci := 8) (v := .ref q_pieces_first) (C := RX8) (T := TX8) (N := 11) hx hb hts hi_X8 hown hK.1 hP 3 rfl rfl 6 (by decide) hf_61 (fun _ h9 => h9) rfl dX7_stepWithOutside_17 ?_
    refine lv_iconst (v := 1) hx hb dX7_stepWithOutside_20 (by decide) ?_
    obtain ⟨hg, h⟩ := gd_of h
    refine va_iald hx hb hK.1 hP 4 0 rfl rfl hg dX7_stepWithOutside_21 ?_
    refine lv_icmp_ge (tgt := 53) hx hb dX7_stepWithOutside_22 (by decide) (fun hc => ?_) (fun hc => ?_)
    · replace h := if_t hc h
      cases h
      exact K _ _ _ hP hD hS (lv_sub hl [0, 1, 2] rfl)
    · replace h := if_f hc h
      refine lv_aload_n hx hb dX7_stepWithOutside_25 rfl (lv_at hl 0 rfl) ?_
      refine va_get (D := D) (ci := 7) (v := .ref q_joints) (C := RX7) (T := TX7) (N := 7) hx hb hts hi_X7 hown hK.1 hP 0 rfl rfl 0 (by decide) hf_15 (fun _ h9 => h9) rfl dX7_stepWithOutside_26 ?_
      refine va_get (D := D) (ci := 4) (v := .ref q_joints_x) (C := RX4) (T := TX4) (N := 4) hx hb hts hi_X4 hown hK.1 hP 1 rfl rfl 1 (by decide) hf_64 (fun _ h9 => h9) rfl dX7_stepWithOutside_29 ?_
      refine lv_aload_n hx hb dX7_stepWithOutside_32 rfl (lv_at hl 0 rfl) ?_
      refine va_get (D := D) (ci := 7) (v := .ref q_pieces) (C := RX7) (T := TX7) (N := 7) hx hb hts hi_X7 hown hK.1 hP 0 rfl rfl 1 (by decide) hf_22 (fun _ h9 => h9) rfl dX7_stepWithOutside_33 ?_
      refine va_get (D := D) (ci := 8) (v := .ref q_pieces_to) (C := RX8) (T := TX8) (N := 11) hx hb hts hi_X8 hown hK.1 hP 3 rfl rfl 3 (by decide) hf_69 (fun _ h9 => h9) rfl dX7_stepWithOutside_36 ?_
      refine lv_iload_n hx hb dX7_stepWithOutside_39 rfl (lv_at hl 2 rfl) ?_
      obtain ⟨hg, h⟩ := gd_of h
      refine va_iald hx hb hK.1 hP 5 0 rfl rfl hg dX7_stepWithOutside_40 ?_
      obtain ⟨hg, h⟩ := gd_of h
      refine va_iald hx hb hK.1 hP 2 0 rfl rfl hg dX7_stepWithOutside_41 ?_
      obtain ⟨t, hd, h⟩ := ob_of h
      have K : ∀ (H : Heap) (locs : List Loc) (ls : Array Slot), va_P D vwCl [(q_, .inr (7, [.ref q_joints, .ref q_pieces, .int s_total, .ref q_paneOf, .ref q_walk, .ref q_start, .ref q_sum])), (q_joints, .inr (4, [.int s_joints_total, .ref q_joints_x, .ref q_joints_y, .ref q_joints_under])), (q_joints_x, .inl (ky 0, 129, .inl s_joints_x)), (q_pieces, .inr (8, [.ref q_joints, .int s_pieces_steps, .ref q_pieces_from, .ref q_pieces_to, .ref q_pieces_twin, .ref q_pieces_firm, .ref q_pieces_first, .ref q_pieces_firmEnds, .ref q_pieces_reached, .ref q_pieces_nextLow, .ref q_pieces_nextHigh])), (q_pieces_first, .inl (ky 0, 129, .inl s_pieces_first)), (q_pieces_to, .inl (ky 0, 768, .inl s_pieces_to))] H → va_D A [(q_, .inr (7, [.ref q_joints, .ref q_pieces, .int s_total, .ref q_paneOf, .ref q_walk, .ref q_start, .ref q_sum])), (q_joints, .inr (4, [.int s_joints_total, .ref q_joints_x, .ref q_joints_y, .ref q_joints_under])), (q_joints_x, .inl (ky 0, 129, .inl s_joints_x)), (q_pieces, .inr (8, [.ref q_joints, .int s_pieces_steps, .ref q_pieces_from, .ref q_pieces_to, .ref q_pieces_twin, .ref q_pieces_firm, .ref q_pieces_first, .ref q_pieces_firmEnds, .ref q_pieces_reached, .ref q_pieces_nextLow, .ref q_pieces_nextHigh])), (q_pieces_first, .inl (ky 0, 129, .inl s_pieces_first)), (q_pieces_to, .inl (ky 0, 768, .inl s_pieces_to))] → va_S A s.heap H locs → lv_has ls 3 [(0, .ref q_), (1, .int t), (2, .int v3)] → W p l e rmX7_stepWithOutside s m args below meth c H locs 0 0 Q (F0 m 47 ls []) := by
        clear hd hP hD hS hl
        obtain ⟨v4, rfl⟩ : ∃ z, z = t := ⟨_, rfl⟩
        replace h := dm1_of h
        intro H locs ls hP hD hS hl
        replace hP : va_P D vwCl [(q_, .inr (7, [.ref q_joints, .ref q_pieces, .int s_total, .ref q_paneOf, .ref q_walk, .ref q_start, .ref q_sum])), (q_joints, .inr (4, [.int s_joints_total, .ref q_joints_x, .ref q_joints_y, .ref q_joints_under])), (q_joints_x, .inl (ky 0, 129, .inl s_joints_x)), (q_pieces, .inr (8, [.ref q_joints, .int s_pieces_steps, .ref q_pieces_from, .ref q_pieces_to, .ref q_pieces_twin, .ref q_pieces_firm, .ref q_pieces_first, .ref q_pieces_firmEnds, .ref q_pieces_reached, .ref q_pieces_nextLow, .ref q_pieces_nextHigh])), (q_pieces_first, .inl (ky 0, 129, .inl s_pieces_first)), (q_pieces_to, .inl (ky 0, 768, .inl s_pieces_to))] H := hP
        replace hD : va_D A [(q_, .inr (7, [.ref q_joints, .ref q_pieces, .int s_total, .ref q_paneOf, .ref q_walk, .ref q_start, .ref q_sum])), (q_joints, .inr (4, [.int s_joints_total, .ref q_joints_x, .ref q_joints_y, .ref q_joints_under])), (q_joints_x, .inl (ky 0, 129, .inl s_joints_x)), (q_pieces, .inr (8, [.ref q_joints, .int s_pieces_steps, .ref q_pieces_from, .ref q_pieces_to, .ref q_pieces_twin, .ref q_pieces_firm, .ref q_pieces_first, .ref q_pieces_firmEnds, .ref q_pieces_reached, .ref q_pieces_nextLow, .ref q_pieces_nextHigh])), (q_pieces_first, .inl (ky 0, 129, .inl s_pieces_first)), (q_pieces_to, .inl (ky 0, 768, .inl s_pieces_to))] := hD
        replace hl : lv_has ls 3 [(0, .ref q_), (1, .int v4), (2, .int v3)] := hl
        refine W.eq (g2 := F0 m 47 ls []) rfl ?_
        obtain ⟨x5, ex5⟩ : ∃ z : Int32, z = v3 + 1 := ⟨_, rfl⟩
        replace h := lt_at ex5 h
        refine lv_iinc (v := x5) (lv' := [(2, .int x5), (0, .ref q_), (1, .int v4)]) hx hb dX7_stepWithOutside_47 hl (k := 2) rfl (by rw [ex5]; rfl) (by decide) rfl (fun ls hl => ?_)
        refine lv_goto (tgt := 12) hx hb dX7_stepWithOutside_50 (by decide) ?_
        cases h
        exact K _ _ _ hP hD hS (lv_sub hl [1, 2, 0] rfl)
      replace h := hd
      clear hd
      refine lv_if_ne (tgt := 47) hx hb dX7_stepWithOutside_42 (by decide) (fun hc => ?_) (fun hc => ?_)
      · replace h := if_t hc h
        cases h
        exact K _ _ _ hP hD hS (lv_sub hl [0, 1, 2] rfl)
      · replace h := if_f (fun z => z hc) h
        refine lv_iload_n hx hb dX7_stepWithOutside_45 rfl (lv_at hl 2 rfl) ?_
        refine lv_istore_n (lv' := [(1, .int v3), (0, .ref q_), (2, .int v3)]) hx hb dX7_stepWithOutside_46 rfl hl (by decide) rfl (fun ls hl => ?_)
        cases h
        exact K _ _ _ hP hD hS (lv_sub hl [1, 0, 2] rfl)
  · have h1 := ex1_of h
    clear h hi
    rcases h1 with ⟨rfl, h⟩
    obtain ⟨v6, v7⟩ := t
    replace h := dm2_of h
    intro H locs ls hP hD hS hl
    replace hP : va_P D vwCl [(q_, .inr (7, [.ref q_joints, .ref q_pieces, .int s_total, .ref q_paneOf, .ref q_walk, .ref q_start, .ref q_sum])), (q_joints, .inr (4, [.int s_joints_total, .ref q_joints_x, .ref q_joints_y, .ref q_joints_under])), (q_joints_x, .inl (ky 0, 129, .inl s_joints_x)), (q_pieces, .inr (8, [.ref q_joints, .int s_pieces_steps, .ref q_pieces_from, .ref q_pieces_to, .ref q_pieces_twin, .ref q_pieces_firm, .ref q_pieces_first, .ref q_pieces_firmEnds, .ref q_pieces_reached, .ref q_pieces_nextLow, .ref q_pieces_nextHigh])), (q_pieces_first, .inl (ky 0, 129, .inl s_pieces_first)), (q_pieces_to, .inl (ky 0, 768, .inl s_pieces_to))] H := hP
    replace hD : va_D A [(q_, .inr (7, [.ref q_joints, .ref q_pieces, .int s_total, .ref q_paneOf, .ref q_walk, .ref q_start, .ref q_sum])), (q_joints, .inr (4, [.int s_joints_total, .ref q_joints_x, .ref q_joints_y, .ref q_joints_under])), (q_joints_x, .inl (ky 0, 129, .inl s_joints_x)), (q_pieces, .inr (8, [.ref q_joints, .int s_pieces_steps, .ref q_pieces_from, .ref q_pieces_to, .ref q_pieces_twin, .ref q_pieces_firm, .ref q_pieces_first, .ref q_pieces_firmEnds, .ref q_pieces_reached, .ref q_pieces_nextLow, .ref q_pieces_nextHigh])), (q_pieces_first, .inl (ky 0, 129, .inl s_pieces_first)), (q_pieces_to, .inl (ky 0, 768, .inl s_pieces_to))] := hD
    replace hl : lv_has ls 3 [(0, .ref q_), (1, .int v6), (2, .int v7)] := hl
    refine W.eq (g2 := F0 m 53 ls []) rfl ?_
    refine lv_iload_n hx hb dX7_stepWithOutside_53 rfl (lv_at hl 1 rfl) ?_
    cases h
    exact ret _ _ _ _ dX7_stepWithOutside_54 hP hD hS

def bX7_follow_9 (a2 : Int32) (s_joints_under : Nat → Int32) (s_joints_x : Nat → Int32) (s_joints_y : Nat → Int32) (s_pieces_steps : Int32) (s_pieces_firm : Nat → Int32) (s_pieces_first : Nat → Int32) (s_pieces_from : Nat → Int32) (s_pieces_to : Nat → Int32) (s_pieces_twin : Nat → Int32) (t : Int32 × Int32 × Int32 × (Nat → Int32) × (Nat → Int32)) : Option (Nat × (Int32 × Int32 × Int32 × (Nat → Int32) × (Nat → Int32))) := dm5 t (fun (v1 : Int32) (v2 : Int32) (v3 : Int32) (v4 : Nat → Int32) (v5 : Nat → Int32) => if s_pieces_steps ≤ v3 then some (1, (v1, v2, v3, v4, v5)) else gd (¬ (v2 < 0 ∨ 768 ≤ v2.toNatClampNeg)) (if ¬ (v4 v2.toNatClampNeg) = (-2 : Int32) then some (1, (v1, v2, v3, v4, v5)) else gd (¬ (v2 < 0 ∨ 768 ≤ v2.toNatClampNeg)) (lt (upd v4 v2.toNatClampNeg a2) (fun f6 => ob (if (768 : Int32) ≤ v1 then some (v1, v5) else gd (¬ (v1 < 0 ∨ 768 ≤ v1.toNatClampNeg)) (lt (upd v5 v1.toNatClampNeg v2) (fun f11 => lt (v1 + 1) (fun x12 => some (x12, f11))))) (fun t => dm2 t (fun (v7 : Int32) (v8 : Nat → Int32) => ob (sX8_after v2 s_pieces_firm s_pieces_first s_pieces_from s_joints_under s_joints_x s_joints_y s_pieces_to s_pieces_twin) (fun o => dm1 o (fun (r9 : Int32) => lt (v3 + 1) (fun x10 => some (0, (v7, r9, x10, f6, v8)))))))))))
def sX7_follow (a1 : Int32) (a2 : Int32) (a3 : Int32) (s_joints_under : Nat → Int32) (s_joints_x : Nat → Int32) (s_joints_y : Nat → Int32) (s_paneOf : Nat → Int32) (s_pieces_steps : Int32) (s_pieces_firm : Nat → Int32) (s_pieces_first : Nat → Int32) (s_pieces_from : Nat → Int32) (s_pieces_to : Nat → Int32) (s_pieces_twin : Nat → Int32) (s_walk : Nat → Int32) : Option (Int32 × (Nat → Int32) × (Nat → Int32)) := ob (iter (bX7_follow_9 a2 s_joints_under s_joints_x s_joints_y s_pieces_steps s_pieces_firm s_pieces_first s_pieces_from s_pieces_to s_pieces_twin) FU (a3, a1, (0 : Int32), s_paneOf, s_walk)) (fun kt => ex1 kt (fun t => dm5 t (fun (v13 : Int32) (v14 : Int32) (v15 : Int32) (v16 : Nat → Int32) (v17 : Nat → Int32) => some (v13, v16, v17))))
abbrev rmX7_follow : Room := { frames := 3, cells := 0, slots := 0, locals := 73 }
set_option maxHeartbeats 4000000 in
set_option maxRecDepth 100000 in
theorem c_X7_follow (l : Launch) (D : va_G) (ky : Nat → ClassId) (q_ q_joints q_pieces q_paneOf q_walk q_start q_sum q_joints_x q_joints_y q_joints_under q_pieces_from q_pieces_to q_pieces_twin q_pieces_firm q_pieces_first q_pieces_firmEnds q_pieces_reached q_pieces_nextLow q_pieces_nextHigh : Nat) (a1 : Int32) (a2 : Int32) (a3 : Int32) (s_total : Int32) (s_joints_total : Int32) (s_joints_under : Nat → Int32) (s_joints_x : Nat → Int32) (s_joints_y : Nat → Int32) (s_paneOf : Nat → Int32) (s_pieces_steps : Int32) (s_pieces_firm : Nat → Int32) (s_pieces_first : Nat → Int32) (s_pieces_from : Nat → Int32) (s_pieces_to : Nat → Int32) (s_pieces_twin : Nat → Int32) (s_walk : Nat → Int32) {o_r : Int32} {o_paneOf : Nat → Int32} {o_walk : Nat → Int32} (h : sX7_follow a1 a2 a3 s_joints_under s_joints_x s_joints_y s_paneOf s_pieces_steps s_pieces_firm s_pieces_first s_pieces_from s_pieces_to s_pieces_twin s_walk = some (o_r, o_paneOf, o_walk)) : MtI l D ky yX7_follow wsX7_follow rmX7_follow [.ref q_, .int a1, .int a2, .int a3] [(q_, .inr (7, [.ref q_joints, .ref q_pieces, .int s_total, .ref q_paneOf, .ref q_walk, .ref q_start, .ref q_sum])), (q_joints, .inr (4, [.int s_joints_total, .ref q_joints_x, .ref q_joints_y, .ref q_joints_under])), (q_joints_under, .inl (ky 0, 129, .inl s_joints_under)), (q_joints_x, .inl (ky 0, 129, .inl s_joints_x)), (q_joints_y, .inl (ky 0, 129, .inl s_joints_y)), (q_paneOf, .inl (ky 0, 768, .inl s_paneOf)), (q_pieces, .inr (8, [.ref q_joints, .int s_pieces_steps, .ref q_pieces_from, .ref q_pieces_to, .ref q_pieces_twin, .ref q_pieces_firm, .ref q_pieces_first, .ref q_pieces_firmEnds, .ref q_pieces_reached, .ref q_pieces_nextLow, .ref q_pieces_nextHigh])), (q_pieces_firm, .inl (ky 2, 768, .inl s_pieces_firm)), (q_pieces_first, .inl (ky 0, 129, .inl s_pieces_first)), (q_pieces_from, .inl (ky 0, 768, .inl s_pieces_from)), (q_pieces_to, .inl (ky 0, 768, .inl s_pieces_to)), (q_pieces_twin, .inl (ky 0, 768, .inl s_pieces_twin)), (q_walk, .inl (ky 0, 768, .inl s_walk))] [(q_, .inr (7, [.ref q_joints, .ref q_pieces, .int s_total, .ref q_paneOf, .ref q_walk, .ref q_start, .ref q_sum])), (q_joints, .inr (4, [.int s_joints_total, .ref q_joints_x, .ref q_joints_y, .ref q_joints_under])), (q_joints_under, .inl (ky 0, 129, .inl s_joints_under)), (q_joints_x, .inl (ky 0, 129, .inl s_joints_x)), (q_joints_y, .inl (ky 0, 129, .inl s_joints_y)), (q_paneOf, .inl (ky 0, 768, .inl o_paneOf)), (q_pieces, .inr (8, [.ref q_joints, .int s_pieces_steps, .ref q_pieces_from, .ref q_pieces_to, .ref q_pieces_twin, .ref q_pieces_firm, .ref q_pieces_first, .ref q_pieces_firmEnds, .ref q_pieces_reached, .ref q_pieces_nextLow, .ref q_pieces_nextHigh])), (q_pieces_firm, .inl (ky 2, 768, .inl s_pieces_firm)), (q_pieces_first, .inl (ky 0, 129, .inl s_pieces_first)), (q_pieces_from, .inl (ky 0, 768, .inl s_pieces_from)), (q_pieces_to, .inl (ky 0, 768, .inl s_pieces_to)), (q_pieces_twin, .inl (ky 0, 768, .inl s_pieces_twin)), (q_walk, .inl (ky 0, 768, .inl o_walk))] o_r 0 0 := by
  refine MtI.of (cc := cX7_follow) (maxL := 7) (by decide +kernel) rfl (Nat.le_of_ble_eq_true rfl) ?_
  intro p e R s m args below meth c A Q ls hR hx hb hts hown hnm hml hP hK hD hA ret hl
  have rt := rtI (dc := fun pc => decode cX7_follow pc = .ok (.ireturn, 1)) (o_r, o_paneOf, o_walk) (fun t => [(q_, .inr (7, [.ref q_joints, .ref q_pieces, .int s_total, .ref q_paneOf, .ref q_walk, .ref q_start, .ref q_sum])), (q_joints, .inr (4, [.int s_joints_total, .ref q_joints_x, .ref q_joints_y, .ref q_joints_under])), (q_joints_under, .inl (ky 0, 129, .inl s_joints_under)), (q_joints_x, .inl (ky 0, 129, .inl s_joints_x)), (q_joints_y, .inl (ky 0, 129, .inl s_joints_y)), (q_paneOf, .inl (ky 0, 768, .inl t.2.1)), (q_pieces, .inr (8, [.ref q_joints, .int s_pieces_steps, .ref q_pieces_from, .ref q_pieces_to, .ref q_pieces_twin, .ref q_pieces_firm, .ref q_pieces_first, .ref q_pieces_firmEnds, .ref q_pieces_reached, .ref q_pieces_nextLow, .ref q_pieces_nextHigh])), (q_pieces_firm, .inl (ky 2, 768, .inl s_pieces_firm)), (q_pieces_first, .inl (ky 0, 129, .inl s_pieces_first)), (q_pieces_from, .inl (ky 0, 768, .inl s_pieces_from)), (q_pieces_to, .inl (ky 0, 768, .inl s_pieces_to)), (q_pieces_twin, .inl (ky 0, 768, .inl s_pieces_twin)), (q_walk, .inl (ky 0, 768, .inl t.2.2))]) (fun t => t.1) ret
  subst hR
  obtain ⟨H, hH⟩ : ∃ H, H = s.heap := ⟨_, rfl⟩
  obtain ⟨locs, hlocs⟩ : ∃ locs : List Loc, locs = [] := ⟨_, rfl⟩
  have hS : va_S A s.heap H locs := by rw [hH, hlocs]; exact va_S.rf
  rw [← hH] at hP
  suffices hgo : W p l e rmX7_follow s m args below meth c H locs 0 0 Q (F0 m 0 ls []) by rw [hH, hlocs] at hgo; exact hgo
  clear hH hlocs
  replace hl : lv_has ls 7 [(0, .ref q_), (1, .int a1), (2, .int a2), (3, .int a3)] := hl
  replace hown : s.vm.findClass RX7 = some m.cls := hown
  have hi_X7 : ∀ w ∈ u_ws RX7 TX7 7, w ∈ wsX7_follow := fun _ h9 => List.mem_cons_of_mem _ (List.mem_append_left _ (List.mem_append_left _ (List.mem_append_right _ h9)))
  have hf_22 := hts (.fieldLink RX7 22 "GlazierBench$Panes" "pieces" "LGlazierBench$Pieces;") (by decide +kernel)
  have hi_X8 : ∀ w ∈ u_ws RX8 TX8 11, w ∈ wsX7_follow := fun _ h9 => List.mem_cons_of_mem _ (List.mem_append_left _ (List.mem_append_right _ h9))
  have hf_40 := hts (.fieldLink RX7 40 "GlazierBench$Pieces" "steps" "I") (by decide +kernel)
  have hf_23 := hts (.fieldLink RX7 23 "GlazierBench$Panes" "paneOf" "[I") (by decide +kernel)
  have hf_27 := hts (.fieldLink RX7 27 "GlazierBench$Panes" "walk" "[I") (by decide +kernel)
  unfold sX7_follow at h
  refine lv_iload_n hx hb dX7_follow_0 rfl (lv_at hl 3 rfl) ?_
  refine lv_istore (lv' := [(4, .int a3), (0, .ref q_), (1, .int a1), (2, .int a2), (3, .int a3)]) hx hb dX7_follow_1 hl (by decide) rfl (fun ls hl => ?_)
  refine lv_iload_n hx hb dX7_follow_3 rfl (lv_at hl 2 rfl) ?_
  refine lv_istore (lv' := [(5, .int a1), (4, .int a3), (0, .ref q_), (1, .int a1), (2, .int a2), (3, .int a3)]) hx hb dX7_follow_4 hl (by decide) rfl (fun ls hl => ?_)
  refine lv_iconst (v := 0) hx hb dX7_follow_6 (by decide) ?_
  refine lv_istore (lv' := [(6, .int (0 : Int32)), (5, .int a1), (4, .int a3), (0, .ref q_), (1, .int a1), (2, .int a2), (3, .int a3)]) hx hb dX7_follow_7 hl (by decide) rfl (fun ls hl => ?_)
  obtain ⟨⟨k, t⟩, hi, h⟩ := ob_of h
  refine iter_rule (P := fun (k : Nat) (t : Int32 × Int32 × Int32 × (Nat → Int32) × (Nat → Int32)) => ∀ (H : Heap) (locs : List Loc) (ls : Array Slot), va_P D vwCl [(q_, .inr (7, [.ref q_joints, .ref q_pieces, .int s_total, .ref q_paneOf, .ref q_walk, .ref q_start, .ref q_sum])), (q_joints, .inr (4, [.int s_joints_total, .ref q_joints_x, .ref q_joints_y, .ref q_joints_under])), (q_joints_under, .inl (ky 0, 129, .inl s_joints_under)), (q_joints_x, .inl (ky 0, 129, .inl s_joints_x)), (q_joints_y, .inl (ky 0, 129, .inl s_joints_y)), (q_paneOf, .inl (ky 0, 768, .inl t.2.2.2.1)), (q_pieces, .inr (8, [.ref q_joints, .int s_pieces_steps, .ref q_pieces_from, .ref q_pieces_to, .ref q_pieces_twin, .ref q_pieces_firm, .ref q_pieces_first, .ref q_pieces_firmEnds, .ref q_pieces_reached, .ref q_pieces_nextLow, .ref q_pieces_nextHigh])), (q_pieces_firm, .inl (ky 2, 768, .inl s_pieces_firm)), (q_pieces_first, .inl (ky 0, 129, .inl s_pieces_first)), (q_pieces_from, .inl (ky 0, 768, .inl s_pieces_from)), (q_pieces_to, .inl (ky 0, 768, .inl s_pieces_to)), (q_pieces_twin, .inl (ky 0, 768, .inl s_pieces_twin)), (q_walk, .inl (ky 0, 768, .inl t.2.2.2.2))] H → va_D A [(q_, .inr (7, [.ref q_joints, .ref q_pieces, .int s_total, .ref q_paneOf, .ref q_walk, .ref q_start, .ref q_sum])), (q_joints, .inr (4, [.int s_joints_total, .ref q_joints_x, .ref q_joints_y, .ref q_joints_under])), (q_joints_under, .inl (ky 0, 129, .inl s_joints_under)), (q_joints_x, .inl (ky 0, 129, .inl s_joints_x)), (q_joints_y, .inl (ky 0, 129, .inl s_joints_y)), (q_paneOf, .inl (ky 0, 768, .inl t.2.2.2.1)), (q_pieces, .inr (8, [.ref q_joints, .int s_pieces_steps, .ref q_pieces_from, .ref q_pieces_to, .ref q_pieces_twin, .ref q_pieces_firm, .ref q_pieces_first, .ref q_pieces_firmEnds, .ref q_pieces_reached, .ref q_pieces_nextLow, .ref q_pieces_nextHigh])), (q_pieces_firm, .inl (ky 2, 768, .inl s_pieces_firm)), (q_pieces_first, .inl (ky 0, 129, .inl s_pieces_first)), (q_pieces_from, .inl (ky 0, 768, .inl s_pieces_from)), (q_pieces_to, .inl (ky 0, 768, .inl s_pieces_to)), (q_pieces_twin, .inl (ky 0, 768, .inl s_pieces_twin)), (q_walk, .inl (ky 0, 768, .inl t.2.2.2.2))] → va_S A s.heap H locs → lv_has ls 7 [(0, .ref q_), (2, .int a2), (4, .int t.1), (5, .int t.2.1), (6, .int t.2.2.1)] → W p l e rmX7_follow s m args below meth c H locs 0 0 Q (F0 m ([9, 78].getD k 0) ls [])) ?_ _ _ _ _ hi ?_ H locs ls hP hD hS (lv_sub hl [3, 5, 2, 1, 0] rfl)
  · clear h hi hP hD hS hl
    intro t k t' h K
    obtain ⟨v1, v2, v3, v4, v5⟩ := t
    intro H locs ls hP hD hS hl
    replace h := dm5_of h
    replace hP : va_P D vwCl [(q_, .inr (7, [.ref q_joints, .ref q_pieces, .int s_total, .ref q_paneOf, .ref q_walk, .ref q_start, .ref q_sum])), (q_joints, .inr (4, [.int s_joints_total, .ref q_joints_x, .ref q_joints_y, .ref q_joints_under])), (q_joints_under, .inl (ky 0, 129, .inl s_joints_under)), (q_joints_x, .inl (ky 0, 129, .inl s_joints_x)), (q_joints_y, .inl (ky 0, 129, .inl s_joints_y)), (q_paneOf, .inl (ky 0, 768, .inl v4)), (q_pieces, .inr (8, [.ref q_joints, .int s_pieces_steps, .ref q_pieces_from, .ref q_pieces_to, .ref q_pieces_twin, .ref q_pieces_firm, .ref q_pieces_first, .ref q_pieces_firmEnds, .ref q_pieces_reached, .ref q_pieces_nextLow, .ref q_pieces_nextHigh])), (q_pieces_firm, .inl (ky 2, 768, .inl s_pieces_firm)), (q_pieces_first, .inl (ky 0, 129, .inl s_pieces_first)), (q_pieces_from, .inl (ky 0, 768, .inl s_pieces_from)), (q_pieces_to, .inl (ky 0, 768, .inl s_pieces_to)), (q_pieces_twin, .inl (ky 0, 768, .inl s_pieces_twin)), (q_walk, .inl (ky 0, 768, .inl v5))] H := hP
    replace hD : va_D A [(q_, .inr (7, [.ref q_joints, .ref q_pieces, .int s_total, .ref q_paneOf, .ref q_walk, .ref q_start, .ref q_sum])), (q_joints, .inr (4, [.int s_joints_total, .ref q_joints_x, .ref q_joints_y, .ref q_joints_under])), (q_joints_under, .inl (ky 0, 129, .inl s_joints_under)), (q_joints_x, .inl (ky 0, 129, .inl s_joints_x)), (q_joints_y, .inl (ky 0, 129, .inl s_joints_y)), (q_paneOf, .inl (ky 0, 768, .inl v4)), (q_pieces, .inr (8, [.ref q_joints, .int s_pieces_steps, .ref q_pieces_from, .ref q_pieces_to, .ref q_pieces_twin, .ref q_pieces_firm, .ref q_pieces_first, .ref q_pieces_firmEnds, .ref q_pieces_reached, .ref q_pieces_nextLow, .ref q_pieces_nextHigh])), (q_pieces_firm, .inl (ky 2, 768, .inl s_pieces_firm)), (q_pieces_first, .inl (ky 0, 129, .inl s_pieces_first)), (q_pieces_from, .inl (ky 0, 768, .inl s_pieces_from)), (q_pieces_to, .inl (ky 0, 768, .inl s_pieces_to)), (q_pieces_twin, .inl (ky 0, 768, .inl s_pieces_twin)), (q_walk, .inl (ky 0, 768, .inl v5))] := hD
    replace hl : lv_has ls 7 [(0, .ref q_), (2, .int a2), (4, .int v1), (5, .int v2), (6, .int v3)] := hl
    refine lv_iload hx hb dX7_follow_9 (lv_at hl 4 rfl) ?_
    refine lv_aload_n hx hb dX7_follow_11 rfl (lv_at hl 0 rfl) ?_
    refine va_get (D := D) (ci := 7) (v := .ref q_pieces) (C := RX7) (T := TX7) (N := 7) hx hb hts hi_X7 hown hK.1 hP 0 rfl rfl 1 (by decide) hf_22 (fun _ h9 => h9) rfl dX7_follow_12 ?_
    refine va_get (D := D) (ci := 8) (v := .int s_pieces_steps) (C := RX8) (T := TX8) (N := 11) hx hb hts hi_X8 hown hK.1 hP 6 rfl rfl 1 (by decide) hf_40 (fun _ h9 => h9) rfl dX7_follow_15 ?_
    refine lv_icmp_ge (tgt := 78) hx hb dX7_follow_18 (by decide) (fun hc => ?_) (fun hc => ?_)
    · replace h := if_t hc h
      cases h
      exact K _ _ _ hP hD hS (lv_sub hl [0, 1, 2, 3, 4] rfl)
    · replace h := if_f hc h
      refine lv_aload_n hx hb dX7_follow_21 rfl (lv_at hl 0 rfl) ?_
      refine va_get (D := D) (ci := 7) (v := .ref q_paneOf) (C := RX7) (T := TX7) (N := 7) hx hb hts hi_X7 hown hK.1 hP 0 rfl rfl 3 (by decide) hf_23 (fun _ h9 => h9) rfl dX7_follow_22 ?_
      refine lv_iload hx hb dX7_follow_25 (lv_at hl 3 rfl) ?_
      obtain ⟨hg, h⟩ := gd_of h
      refine va_iald hx hb hK.1 hP 5 0 rfl rfl hg dX7_follow_27 ?_
      refine lv_bipush (v := (-2)) hx hb dX7_follow_28 (by decide) ?_
      refine lv_icmp_ne (tgt := 78) hx hb dX7_follow_30 (by decide) (fun hc => ?_) (fun hc => ?_)
      · replace h := if_t hc h
        cases h
        exact K _ _ _ hP hD hS (lv_sub hl [0, 1, 2, 3, 4] rfl)
      · replace h := if_f (fun z => z hc) h
        refine lv_aload_n hx hb dX7_follow_33 rfl (lv_at hl 0 rfl) ?_
        refine va_get (D := D) (ci := 7) (v := .ref q_paneOf) (C := RX7) (T := TX7) (N := 7) hx hb hts hi_X7 hown hK.1 hP 0 rfl rfl 3 (by decide) hf_23 (fun _ h9 => h9) rfl dX7_follow_34 ?_
        refine lv_iload hx hb dX7_follow_37 (lv_at hl 3 rfl) ?_
        refine lv_iload_n hx hb dX7_follow_39 rfl (lv_at hl 1 rfl) ?_
        obtain ⟨hg, h⟩ := gd_of h
        refine r_iast hx hb hK.1 hP hD hS 5 0 rfl rfl hg dX7_follow_40 (fun f6 ef6 H locs hP hD hS => ?_)
        replace h := lt_at ef6 h
        replace hP : va_P D vwCl [(q_, .inr (7, [.ref q_joints, .ref q_pieces, .int s_total, .ref q_paneOf, .ref q_walk, .ref q_start, .ref q_sum])), (q_joints, .inr (4, [.int s_joints_total, .ref q_joints_x, .ref q_joints_y, .ref q_joints_under])), (q_joints_under, .inl (ky 0, 129, .inl s_joints_under)), (q_joints_x, .inl (ky 0, 129, .inl s_joints_x)), (q_joints_y, .inl (ky 0, 129, .inl s_joints_y)), (q_paneOf, .inl (ky 0, 768, .inl f6)), (q_pieces, .inr (8, [.ref q_joints, .int s_pieces_steps, .ref q_pieces_from, .ref q_pieces_to, .ref q_pieces_twin, .ref q_pieces_firm, .ref q_pieces_first, .ref q_pieces_firmEnds, .ref q_pieces_reached, .ref q_pieces_nextLow, .ref q_pieces_nextHigh])), (q_pieces_firm, .inl (ky 2, 768, .inl s_pieces_firm)), (q_pieces_first, .inl (ky 0, 129, .inl s_pieces_first)), (q_pieces_from, .inl (ky 0, 768, .inl s_pieces_from)), (q_pieces_to, .inl (ky 0, 768, .inl s_pieces_to)), (q_pieces_twin, .inl (ky 0, 768, .inl s_pieces_twin)), (q_walk, .inl (ky 0, 768, .inl v5))] H := hP
        replace hD : va_D A [(q_, .inr (7, [.ref q_joints, .ref q_pieces, .int s_total, .ref q_paneOf, .ref q_walk, .ref q_start, .ref q_sum])), (q_joints, .inr (4, [.int s_joints_total, .ref q_joints_x, .ref q_joints_y, .ref q_joints_under])), (q_joints_under, .inl (ky 0, 129, .inl s_joints_under)), (q_joints_x, .inl (ky 0, 129, .inl s_joints_x)), (q_joints_y, .inl (ky 0, 129, .inl s_joints_y)), (q_paneOf, .inl (ky 0, 768, .inl f6)), (q_pieces, .inr (8, [.ref q_joints, .int s_pieces_steps, .ref q_pieces_from, .ref q_pieces_to, .ref q_pieces_twin, .ref q_pieces_firm, .ref q_pieces_first, .ref q_pieces_firmEnds, .ref q_pieces_reached, .ref q_pieces_nextLow, .ref q_pieces_nextHigh])), (q_pieces_firm, .inl (ky 2, 768, .inl s_pieces_firm)), (q_pieces_first, .inl (ky 0, 129, .inl s_pieces_first)), (q_pieces_from, .inl (ky 0, 768, .inl s_pieces_from)), (q_pieces_to, .inl (ky 0, 768, .inl s_pieces_to)), (q_pieces_twin, .inl (ky 0, 768, .inl s_pieces_twin)), (q_walk, .inl (ky 0, 768, .inl v5))] := hD
        refine lv_iload hx hb dX7_follow_41 (lv_at hl 2 rfl) ?_
        refine lv_sipush (v := 768) hx hb dX7_follow_43 (by decide) ?_
        obtain ⟨t, hd, h⟩ := ob_of h
        have K : ∀ (H : Heap) (locs : List Loc) (ls : Array Slot), va_P D vwCl [(q_, .inr (7, [.ref q_joints, .ref q_pieces, .int s_total, .ref q_paneOf, .ref q_walk, .ref q_start, .ref q_sum])), (q_joints, .inr (4, [.int s_joints_total, .ref q_joints_x, .ref q_joints_y, .ref q_joints_under])), (q_joints_under, .inl (ky 0, 129, .inl s_joints_under)), (q_joints_x, .inl (ky 0, 129, .inl s_joints_x)), (q_joints_y, .inl (ky 0, 129, .inl s_joints_y)), (q_paneOf, .inl (ky 0, 768, .inl f6)), (q_pieces, .inr (8, [.ref q_joints, .int s_pieces_steps, .ref q_pieces_from, .ref q_pieces_to, .ref q_pieces_twin, .ref q_pieces_firm, .ref q_pieces_first, .ref q_pieces_firmEnds, .ref q_pieces_reached, .ref q_pieces_nextLow, .ref q_pieces_nextHigh])), (q_pieces_firm, .inl (ky 2, 768, .inl s_pieces_firm)), (q_pieces_first, .inl (ky 0, 129, .inl s_pieces_first)), (q_pieces_from, .inl (ky 0, 768, .inl s_pieces_from)), (q_pieces_to, .inl (ky 0, 768, .inl s_pieces_to)), (q_pieces_twin, .inl (ky 0, 768, .inl s_pieces_twin)), (q_walk, .inl (ky 0, 768, .inl t.2))] H → va_D A [(q_, .inr (7, [.ref q_joints, .ref q_pieces, .int s_total, .ref q_paneOf, .ref q_walk, .ref q_start, .ref q_sum])), (q_joints, .inr (4, [.int s_joints_total, .ref q_joints_x, .ref q_joints_y, .ref q_joints_under])), (q_joints_under, .inl (ky 0, 129, .inl s_joints_under)), (q_joints_x, .inl (ky 0, 129, .inl s_joints_x)), (q_joints_y, .inl (ky 0, 129, .inl s_joints_y)), (q_paneOf, .inl (ky 0, 768, .inl f6)), (q_pieces, .inr (8, [.ref q_joints, .int s_pieces_steps, .ref q_pieces_from, .ref q_pieces_to, .ref q_pieces_twin, .ref q_pieces_firm, .ref q_pieces_first, .ref q_pieces_firmEnds, .ref q_pieces_reached, .ref q_pieces_nextLow, .ref q_pieces_nextHigh])), (q_pieces_firm, .inl (ky 2, 768, .inl s_pieces_firm)), (q_pieces_first, .inl (ky 0, 129, .inl s_pieces_first)), (q_pieces_from, .inl (ky 0, 768, .inl s_pieces_from)), (q_pieces_to, .inl (ky 0, 768, .inl s_pieces_to)), (q_pieces_twin, .inl (ky 0, 768, .inl s_pieces_twin)), (q_walk, .inl (ky 0, 768, .inl t.2))] → va_S A s.heap H locs → lv_has ls 7 [(0, .ref q_), (2, .int a2), (4, .int t.1), (5, .int v2), (6, .int v3)] → W p l e rmX7_follow s m args below meth c H locs 0 0 Q (F0 m 61 ls []) := by
          clear hd hP hD hS hl
          obtain ⟨v7, v8⟩ := t
          replace h := dm2_of h
          intro H locs ls hP hD hS hl
          replace hP : va_P D vwCl [(q_, .inr (7, [.ref q_joints, .ref q_pieces, .int s_total, .ref q_paneOf, .ref q_walk, .ref q_start, .ref q_sum])), (q_joints, .inr (4, [.int s_joints_total, .ref q_joints_x, .ref q_joints_y, .ref q_joints_under])), (q_joints_under, .inl (ky 0, 129, .inl s_joints_under)), (q_joints_x, .inl (ky 0, 129, .inl s_joints_x)), (q_joints_y, .inl (ky 0, 129, .inl s_joints_y)), (q_paneOf, .inl (ky 0, 768, .inl f6)), (q_pieces, .inr (8, [.ref q_joints, .int s_pieces_steps, .ref q_pieces_from, .ref q_pieces_to, .ref q_pieces_twin, .ref q_pieces_firm, .ref q_pieces_first, .ref q_pieces_firmEnds, .ref q_pieces_reached, .ref q_pieces_nextLow, .ref q_pieces_nextHigh])), (q_pieces_firm, .inl (ky 2, 768, .inl s_pieces_firm)), (q_pieces_first, .inl (ky 0, 129, .inl s_pieces_first)), (q_pieces_from, .inl (ky 0, 768, .inl s_pieces_from)), (q_pieces_to, .inl (ky 0, 768, .inl s_pieces_to)), (q_pieces_twin, .inl (ky 0, 768, .inl s_pieces_twin)), (q_walk, .inl (ky 0, 768, .inl v8))] H := hP
          replace hD : va_D A [(q_, .inr (7, [.ref q_joints, .ref q_pieces, .int s_total, .ref q_paneOf, .ref q_walk, .ref q_start, .ref q_sum])), (q_joints, .inr (4, [.int s_joints_total, .ref q_joints_x, .ref q_joints_y, .ref q_joints_under])), (q_joints_under, .inl (ky 0, 129, .inl s_joints_under)), (q_joints_x, .inl (ky 0, 129, .inl s_joints_x)), (q_joints_y, .inl (ky 0, 129, .inl s_joints_y)), (q_paneOf, .inl (ky 0, 768, .inl f6)), (q_pieces, .inr (8, [.ref q_joints, .int s_pieces_steps, .ref q_pieces_from, .ref q_pieces_to, .ref q_pieces_twin, .ref q_pieces_firm, .ref q_pieces_first, .ref q_pieces_firmEnds, .ref q_pieces_reached, .ref q_pieces_nextLow, .ref q_pieces_nextHigh])), (q_pieces_firm, .inl (ky 2, 768, .inl s_pieces_firm)), (q_pieces_first, .inl (ky 0, 129, .inl s_pieces_first)), (q_pieces_from, .inl (ky 0, 768, .inl s_pieces_from)), (q_pieces_to, .inl (ky 0, 768, .inl s_pieces_to)), (q_pieces_twin, .inl (ky 0, 768, .inl s_pieces_twin)), (q_walk, .inl (ky 0, 768, .inl v8))] := hD
          replace hl : lv_has ls 7 [(0, .ref q_), (2, .int a2), (4, .int v7), (5, .int v2), (6, .int v3)] := hl
          refine W.eq (g2 := F0 m 61 ls []) rfl ?_
          refine lv_aload_n hx hb dX7_follow_61 rfl (lv_at hl 0 rfl) ?_
          refine va_get (D := D) (ci := 7) (v := .ref q_pieces) (C := RX7) (T := TX7) (N := 7) hx hb hts hi_X7 hown hK.1 hP 0 rfl rfl 1 (by decide) hf_22 (fun _ h9 => h9) rfl dX7_follow_62 ?_
          refine lv_iload hx hb dX7_follow_65 (lv_at hl 3 rfl) ?_
          obtain ⟨r9, hc, h⟩ := ob_of h
          replace h := dm1_of h
          refine cv_i (As := [.int v2]) (rest := []) (wr := [(q_, .inr (7, [.ref q_joints, .ref q_pieces, .int s_total, .ref q_paneOf, .ref q_walk, .ref q_start, .ref q_sum])), (q_paneOf, .inl (ky 0, 768, .inl f6)), (q_walk, .inl (ky 0, 768, .inl v8))]) (wn := [(q_, .inr (7, [.ref q_joints, .ref q_pieces, .int s_total, .ref q_paneOf, .ref q_walk, .ref q_start, .ref q_sum])), (q_joints, .inr (4, [.int s_joints_total, .ref q_joints_x, .ref q_joints_y, .ref q_joints_under])), (q_joints_under, .inl (ky 0, 129, .inl s_joints_under)), (q_joints_x, .inl (ky 0, 129, .inl s_joints_x)), (q_joints_y, .inl (ky 0, 129, .inl s_joints_y)), (q_paneOf, .inl (ky 0, 768, .inl f6)), (q_pieces, .inr (8, [.ref q_joints, .int s_pieces_steps, .ref q_pieces_from, .ref q_pieces_to, .ref q_pieces_twin, .ref q_pieces_firm, .ref q_pieces_first, .ref q_pieces_firmEnds, .ref q_pieces_reached, .ref q_pieces_nextLow, .ref q_pieces_nextHigh])), (q_pieces_firm, .inl (ky 2, 768, .inl s_pieces_firm)), (q_pieces_first, .inl (ky 0, 129, .inl s_pieces_first)), (q_pieces_from, .inl (ky 0, 768, .inl s_pieces_from)), (q_pieces_to, .inl (ky 0, 768, .inl s_pieces_to)), (q_pieces_twin, .inl (ky 0, 768, .inl s_pieces_twin)), (q_walk, .inl (ky 0, 768, .inl v8))]) ⟨hx, hb, hml, hown, hts⟩ (c_X8_after l D ky q_pieces q_joints q_pieces_from q_pieces_to q_pieces_twin q_pieces_firm q_pieces_first q_pieces_firmEnds q_pieces_reached q_pieces_nextLow q_pieces_nextHigh q_joints_x q_joints_y q_joints_under v2 s_pieces_steps s_pieces_firm s_pieces_first s_pieces_from s_joints_total s_joints_under s_joints_x s_joints_y s_pieces_to s_pieces_twin hc) (cwV 1 hts gX7_follow_X8_after rfl rfl rfl (by decide +kernel) ⟨Nat.le_of_ble_eq_true rfl, Nat.le_of_ble_eq_true rfl⟩) (rcv hK.1 hP (q0 := 6) rfl rfl) hP hD hK hS hA [6, 7, 8, 9, 1, 2, 3, 4, 10, 11] [0, 5, 12] [0, 7, 8, 9, 10, 1, 3, 4, 5, 6, 11, 12, 2] rfl (by decide +kernel) rfl (by decide +kernel) (by decide +kernel) (by decide +kernel) rfl rfl rfl hl.1 (Nat.le_of_ble_eq_true rfl) dX7_follow_67 ⟨Nat.le_of_ble_eq_true rfl, Nat.le_of_ble_eq_true rfl⟩ (fun H locs hP hD hS => ?_)
          refine lv_istore (lv' := [(5, .int r9), (0, .ref q_), (2, .int a2), (4, .int v7), (6, .int v3)]) hx hb dX7_follow_70 hl (by decide) rfl (fun ls hl => ?_)
          obtain ⟨x10, ex10⟩ : ∃ z : Int32, z = v3 + 1 := ⟨_, rfl⟩
          replace h := lt_at ex10 h
          refine lv_iinc (v := x10) (lv' := [(6, .int x10), (5, .int r9), (0, .ref q_), (2, .int a2), (4, .int v7)]) hx hb dX7_follow_72 hl (k := 4) rfl (by rw [ex10]; rfl) (by decide) rfl (fun ls hl => ?_)
          refine lv_goto (tgt := 9) hx hb dX7_follow_75 (by decide) ?_
          cases h
          exact K _ _ _ hP hD hS (lv_sub hl [2, 3, 4, 1, 0] rfl)
        replace h := hd
        clear hd
        refine lv_icmp_ge (tgt := 61) hx hb dX7_follow_46 (by decide) (fun hc => ?_) (fun hc => ?_)
        · replace h := if_t hc h
          cases h
          exact K _ _ _ hP hD hS (lv_sub hl [0, 1, 2, 3, 4] rfl)
        · replace h := if_f hc h
          refine lv_aload_n hx hb dX7_follow_49 rfl (lv_at hl 0 rfl) ?_
          refine va_get (D := D) (ci := 7) (v := .ref q_walk) (C := RX7) (T := TX7) (N := 7) hx hb hts hi_X7 hown hK.1 hP 0 rfl rfl 4 (by decide) hf_27 (fun _ h9 => h9) rfl dX7_follow_50 ?_
          refine lv_iload hx hb dX7_follow_53 (lv_at hl 2 rfl) ?_
          refine lv_iload hx hb dX7_follow_55 (lv_at hl 3 rfl) ?_
          obtain ⟨hg, h⟩ := gd_of h
          refine r_iast hx hb hK.1 hP hD hS 12 0 rfl rfl hg dX7_follow_57 (fun f11 ef11 H locs hP hD hS => ?_)
          replace h := lt_at ef11 h
          replace hP : va_P D vwCl [(q_, .inr (7, [.ref q_joints, .ref q_pieces, .int s_total, .ref q_paneOf, .ref q_walk, .ref q_start, .ref q_sum])), (q_joints, .inr (4, [.int s_joints_total, .ref q_joints_x, .ref q_joints_y, .ref q_joints_under])), (q_joints_under, .inl (ky 0, 129, .inl s_joints_under)), (q_joints_x, .inl (ky 0, 129, .inl s_joints_x)), (q_joints_y, .inl (ky 0, 129, .inl s_joints_y)), (q_paneOf, .inl (ky 0, 768, .inl f6)), (q_pieces, .inr (8, [.ref q_joints, .int s_pieces_steps, .ref q_pieces_from, .ref q_pieces_to, .ref q_pieces_twin, .ref q_pieces_firm, .ref q_pieces_first, .ref q_pieces_firmEnds, .ref q_pieces_reached, .ref q_pieces_nextLow, .ref q_pieces_nextHigh])), (q_pieces_firm, .inl (ky 2, 768, .inl s_pieces_firm)), (q_pieces_first, .inl (ky 0, 129, .inl s_pieces_first)), (q_pieces_from, .inl (ky 0, 768, .inl s_pieces_from)), (q_pieces_to, .inl (ky 0, 768, .inl s_pieces_to)), (q_pieces_twin, .inl (ky 0, 768, .inl s_pieces_twin)), (q_walk, .inl (ky 0, 768, .inl f11))] H := hP
          replace hD : va_D A [(q_, .inr (7, [.ref q_joints, .ref q_pieces, .int s_total, .ref q_paneOf, .ref q_walk, .ref q_start, .ref q_sum])), (q_joints, .inr (4, [.int s_joints_total, .ref q_joints_x, .ref q_joints_y, .ref q_joints_under])), (q_joints_under, .inl (ky 0, 129, .inl s_joints_under)), (q_joints_x, .inl (ky 0, 129, .inl s_joints_x)), (q_joints_y, .inl (ky 0, 129, .inl s_joints_y)), (q_paneOf, .inl (ky 0, 768, .inl f6)), (q_pieces, .inr (8, [.ref q_joints, .int s_pieces_steps, .ref q_pieces_from, .ref q_pieces_to, .ref q_pieces_twin, .ref q_pieces_firm, .ref q_pieces_first, .ref q_pieces_firmEnds, .ref q_pieces_reached, .ref q_pieces_nextLow, .ref q_pieces_nextHigh])), (q_pieces_firm, .inl (ky 2, 768, .inl s_pieces_firm)), (q_pieces_first, .inl (ky 0, 129, .inl s_pieces_first)), (q_pieces_from, .inl (ky 0, 768, .inl s_pieces_from)), (q_pieces_to, .inl (ky 0, 768, .inl s_pieces_to)), (q_pieces_twin, .inl (ky 0, 768, .inl s_pieces_twin)), (q_walk, .inl (ky 0, 768, .inl f11))] := hD
          obtain ⟨x12, ex12⟩ : ∃ z : Int32, z = v1 + 1 := ⟨_, rfl⟩
          replace h := lt_at ex12 h
          refine lv_iinc (v := x12) (lv' := [(4, .int x12), (0, .ref q_), (2, .int a2), (5, .int v2), (6, .int v3)]) hx hb dX7_follow_58 hl (k := 2) rfl (by rw [ex12]; rfl) (by decide) rfl (fun ls hl => ?_)
          cases h
          exact K _ _ _ hP hD hS (lv_sub hl [1, 2, 0, 3, 4] rfl)
  · have h1 := ex1_of h
    clear h hi
    rcases h1 with ⟨rfl, h⟩
    obtain ⟨v13, v14, v15, v16, v17⟩ := t
    replace h := dm5_of h
    intro H locs ls hP hD hS hl
    replace hP : va_P D vwCl [(q_, .inr (7, [.ref q_joints, .ref q_pieces, .int s_total, .ref q_paneOf, .ref q_walk, .ref q_start, .ref q_sum])), (q_joints, .inr (4, [.int s_joints_total, .ref q_joints_x, .ref q_joints_y, .ref q_joints_under])), (q_joints_under, .inl (ky 0, 129, .inl s_joints_under)), (q_joints_x, .inl (ky 0, 129, .inl s_joints_x)), (q_joints_y, .inl (ky 0, 129, .inl s_joints_y)), (q_paneOf, .inl (ky 0, 768, .inl v16)), (q_pieces, .inr (8, [.ref q_joints, .int s_pieces_steps, .ref q_pieces_from, .ref q_pieces_to, .ref q_pieces_twin, .ref q_pieces_firm, .ref q_pieces_first, .ref q_pieces_firmEnds, .ref q_pieces_reached, .ref q_pieces_nextLow, .ref q_pieces_nextHigh])), (q_pieces_firm, .inl (ky 2, 768, .inl s_pieces_firm)), (q_pieces_first, .inl (ky 0, 129, .inl s_pieces_first)), (q_pieces_from, .inl (ky 0, 768, .inl s_pieces_from)), (q_pieces_to, .inl (ky 0, 768, .inl s_pieces_to)), (q_pieces_twin, .inl (ky 0, 768, .inl s_pieces_twin)), (q_walk, .inl (ky 0, 768, .inl v17))] H := hP
    replace hD : va_D A [(q_, .inr (7, [.ref q_joints, .ref q_pieces, .int s_total, .ref q_paneOf, .ref q_walk, .ref q_start, .ref q_sum])), (q_joints, .inr (4, [.int s_joints_total, .ref q_joints_x, .ref q_joints_y, .ref q_joints_under])), (q_joints_under, .inl (ky 0, 129, .inl s_joints_under)), (q_joints_x, .inl (ky 0, 129, .inl s_joints_x)), (q_joints_y, .inl (ky 0, 129, .inl s_joints_y)), (q_paneOf, .inl (ky 0, 768, .inl v16)), (q_pieces, .inr (8, [.ref q_joints, .int s_pieces_steps, .ref q_pieces_from, .ref q_pieces_to, .ref q_pieces_twin, .ref q_pieces_firm, .ref q_pieces_first, .ref q_pieces_firmEnds, .ref q_pieces_reached, .ref q_pieces_nextLow, .ref q_pieces_nextHigh])), (q_pieces_firm, .inl (ky 2, 768, .inl s_pieces_firm)), (q_pieces_first, .inl (ky 0, 129, .inl s_pieces_first)), (q_pieces_from, .inl (ky 0, 768, .inl s_pieces_from)), (q_pieces_to, .inl (ky 0, 768, .inl s_pieces_to)), (q_pieces_twin, .inl (ky 0, 768, .inl s_pieces_twin)), (q_walk, .inl (ky 0, 768, .inl v17))] := hD
    replace hl : lv_has ls 7 [(0, .ref q_), (2, .int a2), (4, .int v13), (5, .int v14), (6, .int v15)] := hl
    refine W.eq (g2 := F0 m 78 ls []) rfl ?_
    refine lv_iload hx hb dX7_follow_78 (lv_at hl 2 rfl) ?_
    exact rt _ h _ _ _ _ dX7_follow_80 hP hD hS

def bX7_find_2 (s_pieces_steps : Int32) (s_pieces_firm : Nat → Int32) (t : Int32 × (Nat → Int32)) : Option (Nat × (Int32 × (Nat → Int32))) := dm2 t (fun (v1 : Int32) (v2 : Nat → Int32) => if s_pieces_steps ≤ v1 then some (1, (v1, v2)) else gd (¬ (v1 < 0 ∨ 768 ≤ v1.toNatClampNeg)) (ob (if (s_pieces_firm v1.toNatClampNeg) = 0 then some (-1 : Int32) else some (-2 : Int32)) (fun t => dm1 t (fun (v3 : Int32) => gd (¬ (v1 < 0 ∨ 768 ≤ v1.toNatClampNeg)) (lt (upd v2 v1.toNatClampNeg v3) (fun f4 => lt (v1 + 1) (fun x5 => some (0, (x5, f4)))))))))
def bX7_find_68 (s_joints_under : Nat → Int32) (s_joints_x : Nat → Int32) (s_joints_y : Nat → Int32) (s_pieces_steps : Int32) (s_pieces_firm : Nat → Int32) (s_pieces_first : Nat → Int32) (s_pieces_from : Nat → Int32) (s_pieces_to : Nat → Int32) (s_pieces_twin : Nat → Int32) (t : Int32 × Int32 × (Nat → Int32) × (Nat → Int32) × (Nat → Int32)) : Option (Nat × (Int32 × Int32 × (Nat → Int32) × (Nat → Int32) × (Nat → Int32))) := dm5 t (fun (v13 : Int32) (v14 : Int32) (v15 : Nat → Int32) (v16 : Nat → Int32) (v17 : Nat → Int32) => if s_pieces_steps ≤ v13 then some (1, (v13, v14, v15, v16, v17)) else if (128 : Int32) ≤ v14 then some (1, (v13, v14, v15, v16, v17)) else gd (¬ (v13 < 0 ∨ 768 ≤ v13.toNatClampNeg)) (ob (if ¬ (v15 v13.toNatClampNeg) = (-2 : Int32) then some (v14, v15, v16, v17) else gd (¬ (v14 < 0 ∨ 129 ≤ v14.toNatClampNeg)) (ob (sX7_follow v13 v14 (v16 v14.toNatClampNeg) s_joints_under s_joints_x s_joints_y v15 s_pieces_steps s_pieces_firm s_pieces_first s_pieces_from s_pieces_to s_pieces_twin v17) (fun o => dm3 o (fun (r23 : Int32) (o24 : Nat → Int32) (o25 : Nat → Int32) => gd (¬ ((v14 + (1 : Int32)) < 0 ∨ 129 ≤ (v14 + (1 : Int32)).toNatClampNeg)) (lt (upd v16 (v14 + (1 : Int32)).toNatClampNeg r23) (fun f26 => lt (v14 + (1 : Int32)) (fun x27 => some (x27, o24, f26, o25)))))))) (fun t => dm4 t (fun (v18 : Int32) (v19 : Nat → Int32) (v20 : Nat → Int32) (v21 : Nat → Int32) => lt (v13 + 1) (fun x22 => some (0, (x22, v18, v19, v20, v21)))))))
def sX7_find  (s_total : Int32) (s_joints_under : Nat → Int32) (s_joints_x : Nat → Int32) (s_joints_y : Nat → Int32) (s_paneOf : Nat → Int32) (s_pieces_steps : Int32) (s_pieces_firm : Nat → Int32) (s_pieces_first : Nat → Int32) (s_pieces_from : Nat → Int32) (s_pieces_to : Nat → Int32) (s_pieces_twin : Nat → Int32) (s_start : Nat → Int32) (s_walk : Nat → Int32) : Option (Int32 × (Nat → Int32) × (Nat → Int32) × (Nat → Int32)) := ob (iter (bX7_find_2 s_pieces_steps s_pieces_firm) FU ((0 : Int32), s_paneOf)) (fun kt => ex1 kt (fun t => dm2 t (fun (v6 : Int32) (v7 : Nat → Int32) => ob (sX7_stepWithOutside s_joints_x s_pieces_first s_pieces_to) (fun o => dm1 o (fun (r8 : Int32) => ob (sX7_follow r8 (-1 : Int32) (0 : Int32) s_joints_under s_joints_x s_joints_y v7 s_pieces_steps s_pieces_firm s_pieces_first s_pieces_from s_pieces_to s_pieces_twin s_walk) (fun o => dm3 o (fun (r9 : Int32) (o10 : Nat → Int32) (o11 : Nat → Int32) => gd (¬ ((0 : Int32) < 0 ∨ 129 ≤ (0 : Int32).toNatClampNeg)) (lt (upd s_start (0 : Int32).toNatClampNeg (0 : Int32)) (fun f12 => ob (iter (bX7_find_68 s_joints_under s_joints_x s_joints_y s_pieces_steps s_pieces_firm s_pieces_first s_pieces_from s_pieces_to s_pieces_twin) FU ((0 : Int32), (0 : Int32), o10, f12, o11)) (fun kt => ex1 kt (fun t => dm5 t (fun (v28 : Int32) (v29 : Int32) (v30 : Nat → Int32) (v31 : Nat → Int32) (v32 : Nat → Int32) => some (v29, v30, v31, v32)))))))))))))
abbrev rmX7_find : Room := { frames := 4, cells := 0, slots := 0, locals := 99 }
set_option maxHeartbeats 4000000 in
set_option maxRecDepth 100000 in
theorem c_X7_find (l : Launch) (D : va_G) (ky : Nat → ClassId) (q_ q_joints q_pieces q_paneOf q_walk q_start q_sum q_joints_x q_joints_y q_joints_under q_pieces_from q_pieces_to q_pieces_twin q_pieces_firm q_pieces_first q_pieces_firmEnds q_pieces_reached q_pieces_nextLow q_pieces_nextHigh : Nat) (s_total : Int32) (s_joints_total : Int32) (s_joints_under : Nat → Int32) (s_joints_x : Nat → Int32) (s_joints_y : Nat → Int32) (s_paneOf : Nat → Int32) (s_pieces_steps : Int32) (s_pieces_firm : Nat → Int32) (s_pieces_first : Nat → Int32) (s_pieces_from : Nat → Int32) (s_pieces_to : Nat → Int32) (s_pieces_twin : Nat → Int32) (s_start : Nat → Int32) (s_walk : Nat → Int32) {o_total : Int32} {o_paneOf : Nat → Int32} {o_start : Nat → Int32} {o_walk : Nat → Int32} (h : sX7_find s_total s_joints_under s_joints_x s_joints_y s_paneOf s_pieces_steps s_pieces_firm s_pieces_first s_pieces_from s_pieces_to s_pieces_twin s_start s_walk = some (o_total, o_paneOf, o_start, o_walk)) : MtV l D ky yX7_find wsX7_find rmX7_find [.ref q_] [(q_, .inr (7, [.ref q_joints, .ref q_pieces, .int s_total, .ref q_paneOf, .ref q_walk, .ref q_start, .ref q_sum])), (q_joints, .inr (4, [.int s_joints_total, .ref q_joints_x, .ref q_joints_y, .ref q_joints_under])), (q_joints_under, .inl (ky 0, 129, .inl s_joints_under)), (q_joints_x, .inl (ky 0, 129, .inl s_joints_x)), (q_joints_y, .inl (ky 0, 129, .inl s_joints_y)), (q_paneOf, .inl (ky 0, 768, .inl s_paneOf)), (q_pieces, .inr (8, [.ref q_joints, .int s_pieces_steps, .ref q_pieces_from, .ref q_pieces_to, .ref q_pieces_twin, .ref q_pieces_firm, .ref q_pieces_first, .ref q_pieces_firmEnds, .ref q_pieces_reached, .ref q_pieces_nextLow, .ref q_pieces_nextHigh])), (q_pieces_firm, .inl (ky 2, 768, .inl s_pieces_firm)), (q_pieces_first, .inl (ky 0, 129, .inl s_pieces_first)), (q_pieces_from, .inl (ky 0, 768, .inl s_pieces_from)), (q_pieces_to, .inl (ky 0, 768, .inl s_pieces_to)), (q_pieces_twin, .inl (ky 0, 768, .inl s_pieces_twin)), (q_start, .inl (ky 0, 129, .inl s_start)), (q_walk, .inl (ky 0, 768, .inl s_walk))] [(q_, .inr (7, [.ref q_joints, .ref q_pieces, .int o_total, .ref q_paneOf, .ref q_walk, .ref q_start, .ref q_sum])), (q_joints, .inr (4, [.int s_joints_total, .ref q_joints_x, .ref q_joints_y, .ref q_joints_under])), (q_joints_under, .inl (ky 0, 129, .inl s_joints_under)), (q_joints_x, .inl (ky 0, 129, .inl s_joints_x)), (q_joints_y, .inl (ky 0, 129, .inl s_joints_y)), (q_paneOf, .inl (ky 0, 768, .inl o_paneOf)), (q_pieces, .inr (8, [.ref q_joints, .int s_pieces_steps, .ref q_pieces_from, .ref q_pieces_to, .ref q_pieces_twin, .ref q_pieces_firm, .ref q_pieces_first, .ref q_pieces_firmEnds, .ref q_pieces_reached, .ref q_pieces_nextLow, .ref q_pieces_nextHigh])), (q_pieces_firm, .inl (ky 2, 768, .inl s_pieces_firm)), (q_pieces_first, .inl (ky 0, 129, .inl s_pieces_first)), (q_pieces_from, .inl (ky 0, 768, .inl s_pieces_from)), (q_pieces_to, .inl (ky 0, 768, .inl s_pieces_to)), (q_pieces_twin, .inl (ky 0, 768, .inl s_pieces_twin)), (q_start, .inl (ky 0, 129, .inl o_start)), (q_walk, .inl (ky 0, 768, .inl o_walk))] 0 0 := by
  refine MtV.of (cc := cX7_find) (maxL := 2) (by decide +kernel) rfl (Nat.le_of_ble_eq_true rfl) ?_
  intro p e R s m args below meth c A Q ls hR hx hb hts hown hnm hml hP hK hD hA ret hl
  have rt := rtV (dc := fun pc => decode cX7_find pc = .ok (.return_, 1)) (o_total, o_paneOf, o_start, o_walk) (fun t => [(q_, .inr (7, [.ref q_joints, .ref q_pieces, .int t.1, .ref q_paneOf, .ref q_walk, .ref q_start, .ref q_sum])), (q_joints, .inr (4, [.int s_joints_total, .ref q_joints_x, .ref q_joints_y, .ref q_joints_under])), (q_joints_under, .inl (ky 0, 129, .inl s_joints_under)), (q_joints_x, .inl (ky 0, 129, .inl s_joints_x)), (q_joints_y, .inl (ky 0, 129, .inl s_joints_y)), (q_paneOf, .inl (ky 0, 768, .inl t.2.1)), (q_pieces, .inr (8, [.ref q_joints, .int s_pieces_steps, .ref q_pieces_from, .ref q_pieces_to, .ref q_pieces_twin, .ref q_pieces_firm, .ref q_pieces_first, .ref q_pieces_firmEnds, .ref q_pieces_reached, .ref q_pieces_nextLow, .ref q_pieces_nextHigh])), (q_pieces_firm, .inl (ky 2, 768, .inl s_pieces_firm)), (q_pieces_first, .inl (ky 0, 129, .inl s_pieces_first)), (q_pieces_from, .inl (ky 0, 768, .inl s_pieces_from)), (q_pieces_to, .inl (ky 0, 768, .inl s_pieces_to)), (q_pieces_twin, .inl (ky 0, 768, .inl s_pieces_twin)), (q_start, .inl (ky 0, 129, .inl t.2.2.1)), (q_walk, .inl (ky 0, 768, .inl t.2.2.2))]) ret
  subst hR
  obtain ⟨H, hH⟩ : ∃ H, H = s.heap := ⟨_, rfl⟩
  obtain ⟨locs, hlocs⟩ : ∃ locs : List Loc, locs = [] := ⟨_, rfl⟩
  have hS : va_S A s.heap H locs := by rw [hH, hlocs]; exact va_S.rf
  rw [← hH] at hP
  suffices hgo : W p l e rmX7_find s m args below meth c H locs 0 0 Q (F0 m 0 ls []) by rw [hH, hlocs] at hgo; exact hgo
  clear hH hlocs
  replace hl : lv_has ls 2 [(0, .ref q_)] := hl
  replace hown : s.vm.findClass RX7 = some m.cls := hown
  have hi_X7 : ∀ w ∈ u_ws RX7 TX7 7, w ∈ wsX7_find := fun _ h9 => List.mem_cons_of_mem _ (List.mem_append_left _ (List.mem_append_left _ (List.mem_append_right _ h9)))
  have hf_22 := hts (.fieldLink RX7 22 "GlazierBench$Panes" "pieces" "LGlazierBench$Pieces;") (by decide +kernel)
  have hi_X8 : ∀ w ∈ u_ws RX8 TX8 11, w ∈ wsX7_find := fun _ h9 => List.mem_cons_of_mem _ (List.mem_append_left _ (List.mem_append_right _ h9))
  have hf_40 := hts (.fieldLink RX7 40 "GlazierBench$Pieces" "steps" "I") (by decide +kernel)
  have hf_23 := hts (.fieldLink RX7 23 "GlazierBench$Panes" "paneOf" "[I") (by decide +kernel)
  have hf_46 := hts (.fieldLink RX7 46 "GlazierBench$Pieces" "firm" "[Z") (by decide +kernel)
  have hf_58 := hts (.fieldLink RX7 58 "GlazierBench$Panes" "total" "I") (by decide +kernel)
  have hf_30 := hts (.fieldLink RX7 30 "GlazierBench$Panes" "start" "[I") (by decide +kernel)
  unfold sX7_find at h
  refine lv_iconst (v := 0) hx hb dX7_find_0 (by decide) ?_
  refine lv_istore_n (lv' := [(1, .int (0 : Int32)), (0, .ref q_)]) hx hb dX7_find_1 rfl hl (by decide) rfl (fun ls hl => ?_)
  obtain ⟨⟨k, t⟩, hi, h⟩ := ob_of h
  refine iter_rule (P := fun (k : Nat) (t : Int32 × (Nat → Int32)) => ∀ (H : Heap) (locs : List Loc) (ls : Array Slot), va_P D vwCl [(q_, .inr (7, [.ref q_joints, .ref q_pieces, .int s_total, .ref q_paneOf, .ref q_walk, .ref q_start, .ref q_sum])), (q_joints, .inr (4, [.int s_joints_total, .ref q_joints_x, .ref q_joints_y, .ref q_joints_under])), (q_joints_under, .inl (ky 0, 129, .inl s_joints_under)), (q_joints_x, .inl (ky 0, 129, .inl s_joints_x)), (q_joints_y, .inl (ky 0, 129, .inl s_joints_y)), (q_paneOf, .inl (ky 0, 768, .inl t.2)), (q_pieces, .inr (8, [.ref q_joints, .int s_pieces_steps, .ref q_pieces_from, .ref q_pieces_to, .ref q_pieces_twin, .ref q_pieces_firm, .ref q_pieces_first, .ref q_pieces_firmEnds, .ref q_pieces_reached, .ref q_pieces_nextLow, .ref q_pieces_nextHigh])), (q_pieces_firm, .inl (ky 2, 768, .inl s_pieces_firm)), (q_pieces_first, .inl (ky 0, 129, .inl s_pieces_first)), (q_pieces_from, .inl (ky 0, 768, .inl s_pieces_from)), (q_pieces_to, .inl (ky 0, 768, .inl s_pieces_to)), (q_pieces_twin, .inl (ky 0, 768, .inl s_pieces_twin)), (q_start, .inl (ky 0, 129, .inl s_start)), (q_walk, .inl (ky 0, 768, .inl s_walk))] H → va_D A [(q_, .inr (7, [.ref q_joints, .ref q_pieces, .int s_total, .ref q_paneOf, .ref q_walk, .ref q_start, .ref q_sum])), (q_joints, .inr (4, [.int s_joints_total, .ref q_joints_x, .ref q_joints_y, .ref q_joints_under])), (q_joints_under, .inl (ky 0, 129, .inl s_joints_under)), (q_joints_x, .inl (ky 0, 129, .inl s_joints_x)), (q_joints_y, .inl (ky 0, 129, .inl s_joints_y)), (q_paneOf, .inl (ky 0, 768, .inl t.2)), (q_pieces, .inr (8, [.ref q_joints, .int s_pieces_steps, .ref q_pieces_from, .ref q_pieces_to, .ref q_pieces_twin, .ref q_pieces_firm, .ref q_pieces_first, .ref q_pieces_firmEnds, .ref q_pieces_reached, .ref q_pieces_nextLow, .ref q_pieces_nextHigh])), (q_pieces_firm, .inl (ky 2, 768, .inl s_pieces_firm)), (q_pieces_first, .inl (ky 0, 129, .inl s_pieces_first)), (q_pieces_from, .inl (ky 0, 768, .inl s_pieces_from)), (q_pieces_to, .inl (ky 0, 768, .inl s_pieces_to)), (q_pieces_twin, .inl (ky 0, 768, .inl s_pieces_twin)), (q_start, .inl (ky 0, 129, .inl s_start)), (q_walk, .inl (ky 0, 768, .inl s_walk))] → va_S A s.heap H locs → lv_has ls 2 [(0, .ref q_), (1, .int t.1)] → W p l e rmX7_find s m args below meth c H locs 0 0 Q (F0 m ([2, 43].getD k 0) ls [])) ?_ _ _ _ _ hi ?_ H locs ls hP hD hS (lv_sub hl [1, 0] rfl)
  · clear h hi hP hD hS hl
    intro t k t' h K
    obtain ⟨v1, v2⟩ := t
    intro H locs ls hP hD hS hl
    replace h := dm2_of h
    replace hP : va_P D vwCl [(q_, .inr (7, [.ref q_joints, .ref q_pieces, .int s_total, .ref q_paneOf, .ref q_walk, .ref q_start, .ref q_sum])), (q_joints, .inr (4, [.int s_joints_total, .ref q_joints_x, .ref q_joints_y, .ref q_joints_under])), (q_joints_under, .inl (ky 0, 129, .inl s_joints_under)), (q_joints_x, .inl (ky 0, 129, .inl s_joints_x)), (q_joints_y, .inl (ky 0, 129, .inl s_joints_y)), (q_paneOf, .inl (ky 0, 768, .inl v2)), (q_pieces, .inr (8, [.ref q_joints, .int s_pieces_steps, .ref q_pieces_from, .ref q_pieces_to, .ref q_pieces_twin, .ref q_pieces_firm, .ref q_pieces_first, .ref q_pieces_firmEnds, .ref q_pieces_reached, .ref q_pieces_nextLow, .ref q_pieces_nextHigh])), (q_pieces_firm, .inl (ky 2, 768, .inl s_pieces_firm)), (q_pieces_first, .inl (ky 0, 129, .inl s_pieces_first)), (q_pieces_from, .inl (ky 0, 768, .inl s_pieces_from)), (q_pieces_to, .inl (ky 0, 768, .inl s_pieces_to)), (q_pieces_twin, .inl (ky 0, 768, .inl s_pieces_twin)), (q_start, .inl (ky 0, 129, .inl s_start)), (q_walk, .inl (ky 0, 768, .inl s_walk))] H := hP
    replace hD : va_D A [(q_, .inr (7, [.ref q_joints, .ref q_pieces, .int s_total, .ref q_paneOf, .ref q_walk, .ref q_start, .ref q_sum])), (q_joints, .inr (4, [.int s_joints_total, .ref q_joints_x, .ref q_joints_y, .ref q_joints_under])), (q_joints_under, .inl (ky 0, 129, .inl s_joints_under)), (q_joints_x, .inl (ky 0, 129, .inl s_joints_x)), (q_joints_y, .inl (ky 0, 129, .inl s_joints_y)), (q_paneOf, .inl (ky 0, 768, .inl v2)), (q_pieces, .inr (8, [.ref q_joints, .int s_pieces_steps, .ref q_pieces_from, .ref q_pieces_to, .ref q_pieces_twin, .ref q_pieces_firm, .ref q_pieces_first, .ref q_pieces_firmEnds, .ref q_pieces_reached, .ref q_pieces_nextLow, .ref q_pieces_nextHigh])), (q_pieces_firm, .inl (ky 2, 768, .inl s_pieces_firm)), (q_pieces_first, .inl (ky 0, 129, .inl s_pieces_first)), (q_pieces_from, .inl (ky 0, 768, .inl s_pieces_from)), (q_pieces_to, .inl (ky 0, 768, .inl s_pieces_to)), (q_pieces_twin, .inl (ky 0, 768, .inl s_pieces_twin)), (q_start, .inl (ky 0, 129, .inl s_start)), (q_walk, .inl (ky 0, 768, .inl s_walk))] := hD
    replace hl : lv_has ls 2 [(0, .ref q_), (1, .int v1)] := hl
    refine lv_iload_n hx hb dX7_find_2 rfl (lv_at hl 1 rfl) ?_
    refine lv_aload_n hx hb dX7_find_3 rfl (lv_at hl 0 rfl) ?_
    refine va_get (D := D) (ci := 7) (v := .ref q_pieces) (C := RX7) (T := TX7) (N := 7) hx hb hts hi_X7 hown hK.1 hP 0 rfl rfl 1 (by decide) hf_22 (fun _ h9 => h9) rfl dX7_find_4 ?_
    refine va_get (D := D) (ci := 8) (v := .int s_pieces_steps) (C := RX8) (T := TX8) (N := 11) hx hb hts hi_X8 hown hK.1 hP 6 rfl rfl 1 (by decide) hf_40 (fun _ h9 => h9) rfl dX7_find_7 ?_
    refine lv_icmp_ge (tgt := 43) hx hb dX7_find_10 (by decide) (fun hc => ?_) (fun hc => ?_)
    · replace h := if_t hc h
      cases h
      exact K _ _ _ hP hD hS (lv_sub hl [0, 1] rfl)
    · replace h := if_f hc h
      refine lv_aload_n hx hb dX7_find_13 rfl (lv_at hl 0 rfl) ?_
      refine va_get (D := D) (ci := 7) (v := .ref q_paneOf) (C := RX7) (T := TX7) (N := 7) hx hb hts hi_X7 hown hK.1 hP 0 rfl rfl 3 (by decide) hf_23 (fun _ h9 => h9) rfl dX7_find_14 ?_
      refine lv_iload_n hx hb dX7_find_17 rfl (lv_at hl 1 rfl) ?_
      refine lv_aload_n hx hb dX7_find_18 rfl (lv_at hl 0 rfl) ?_
      refine va_get (D := D) (ci := 7) (v := .ref q_pieces) (C := RX7) (T := TX7) (N := 7) hx hb hts hi_X7 hown hK.1 hP 0 rfl rfl 1 (by decide) hf_22 (fun _ h9 => h9) rfl dX7_find_19 ?_
      refine va_get (D := D) (ci := 8) (v := .ref q_pieces_firm) (C := RX8) (T := TX8) (N := 11) hx hb hts hi_X8 hown hK.1 hP 6 rfl rfl 5 (by decide) hf_46 (fun _ h9 => h9) rfl dX7_find_22 ?_
      refine lv_iload_n hx hb dX7_find_25 rfl (lv_at hl 1 rfl) ?_
      obtain ⟨hg, h⟩ := gd_of h
      refine va_zald hx hb hK.1 hP 7 2 rfl rfl hg dX7_find_26 ?_
      obtain ⟨t, hd, h⟩ := ob_of h
      have K : ∀ (H : Heap) (locs : List Loc) (ls : Array Slot), va_P D vwCl [(q_, .inr (7, [.ref q_joints, .ref q_pieces, .int s_total, .ref q_paneOf, .ref q_walk, .ref q_start, .ref q_sum])), (q_joints, .inr (4, [.int s_joints_total, .ref q_joints_x, .ref q_joints_y, .ref q_joints_under])), (q_joints_under, .inl (ky 0, 129, .inl s_joints_under)), (q_joints_x, .inl (ky 0, 129, .inl s_joints_x)), (q_joints_y, .inl (ky 0, 129, .inl s_joints_y)), (q_paneOf, .inl (ky 0, 768, .inl v2)), (q_pieces, .inr (8, [.ref q_joints, .int s_pieces_steps, .ref q_pieces_from, .ref q_pieces_to, .ref q_pieces_twin, .ref q_pieces_firm, .ref q_pieces_first, .ref q_pieces_firmEnds, .ref q_pieces_reached, .ref q_pieces_nextLow, .ref q_pieces_nextHigh])), (q_pieces_firm, .inl (ky 2, 768, .inl s_pieces_firm)), (q_pieces_first, .inl (ky 0, 129, .inl s_pieces_first)), (q_pieces_from, .inl (ky 0, 768, .inl s_pieces_from)), (q_pieces_to, .inl (ky 0, 768, .inl s_pieces_to)), (q_pieces_twin, .inl (ky 0, 768, .inl s_pieces_twin)), (q_start, .inl (ky 0, 129, .inl s_start)), (q_walk, .inl (ky 0, 768, .inl s_walk))] H → va_D A [(q_, .inr (7, [.ref q_joints, .ref q_pieces, .int s_total, .ref q_paneOf, .ref q_walk, .ref q_start, .ref q_sum])), (q_joints, .inr (4, [.int s_joints_total, .ref q_joints_x, .ref q_joints_y, .ref q_joints_under])), (q_joints_under, .inl (ky 0, 129, .inl s_joints_under)), (q_joints_x, .inl (ky 0, 129, .inl s_joints_x)), (q_joints_y, .inl (ky 0, 129, .inl s_joints_y)), (q_paneOf, .inl (ky 0, 768, .inl v2)), (q_pieces, .inr (8, [.ref q_joints, .int s_pieces_steps, .ref q_pieces_from, .ref q_pieces_to, .ref q_pieces_twin, .ref q_pieces_firm, .ref q_pieces_first, .ref q_pieces_firmEnds, .ref q_pieces_reached, .ref q_pieces_nextLow, .ref q_pieces_nextHigh])), (q_pieces_firm, .inl (ky 2, 768, .inl s_pieces_firm)), (q_pieces_first, .inl (ky 0, 129, .inl s_pieces_first)), (q_pieces_from, .inl (ky 0, 768, .inl s_pieces_from)), (q_pieces_to, .inl (ky 0, 768, .inl s_pieces_to)), (q_pieces_twin, .inl (ky 0, 768, .inl s_pieces_twin)), (q_start, .inl (ky 0, 129, .inl s_start)), (q_walk, .inl (ky 0, 768, .inl s_walk))] → va_S A s.heap H locs → lv_has ls 2 [(0, .ref q_), (1, .int v1)] → W p l e rmX7_find s m args below meth c H locs 0 0 Q (F0 m 36 ls [.int t, .int v1, .ref q_paneOf]) := by
        clear hd hP hD hS hl
        obtain ⟨v3, rfl⟩ : ∃ z, z = t := ⟨_, rfl⟩
        replace h := dm1_of h
        intro H locs ls hP hD hS hl
        replace hP : va_P D vwCl [(q_, .inr (7, [.ref q_joints, .ref q_pieces, .int s_total, .ref q_paneOf, .ref q_walk, .ref q_start, .ref q_sum])), (q_joints, .inr (4, [.int s_joints_total, .ref q_joints_x, .ref q_joints_y, .ref q_joints_under])), (q_joints_under, .inl (ky 0, 129, .inl s_joints_under)), (q_joints_x, .inl (ky 0, 129, .inl s_joints_x)), (q_joints_y, .inl (ky 0, 129, .inl s_joints_y)), (q_paneOf, .inl (ky 0, 768, .inl v2)), (q_pieces, .inr (8, [.ref q_joints, .int s_pieces_steps, .ref q_pieces_from, .ref q_pieces_to, .ref q_pieces_twin, .ref q_pieces_firm, .ref q_pieces_first, .ref q_pieces_firmEnds, .ref q_pieces_reached, .ref q_pieces_nextLow, .ref q_pieces_nextHigh])), (q_pieces_firm, .inl (ky 2, 768, .inl s_pieces_firm)), (q_pieces_first, .inl (ky 0, 129, .inl s_pieces_first)), (q_pieces_from, .inl (ky 0, 768, .inl s_pieces_from)), (q_pieces_to, .inl (ky 0, 768, .inl s_pieces_to)), (q_pieces_twin, .inl (ky 0, 768, .inl s_pieces_twin)), (q_start, .inl (ky 0, 129, .inl s_start)), (q_walk, .inl (ky 0, 768, .inl s_walk))] H := hP
        replace hD : va_D A [(q_, .inr (7, [.ref q_joints, .ref q_pieces, .int s_total, .ref q_paneOf, .ref q_walk, .ref q_start, .ref q_sum])), (q_joints, .inr (4, [.int s_joints_total, .ref q_joints_x, .ref q_joints_y, .ref q_joints_under])), (q_joints_under, .inl (ky 0, 129, .inl s_joints_under)), (q_joints_x, .inl (ky 0, 129, .inl s_joints_x)), (q_joints_y, .inl (ky 0, 129, .inl s_joints_y)), (q_paneOf, .inl (ky 0, 768, .inl v2)), (q_pieces, .inr (8, [.ref q_joints, .int s_pieces_steps, .ref q_pieces_from, .ref q_pieces_to, .ref q_pieces_twin, .ref q_pieces_firm, .ref q_pieces_first, .ref q_pieces_firmEnds, .ref q_pieces_reached, .ref q_pieces_nextLow, .ref q_pieces_nextHigh])), (q_pieces_firm, .inl (ky 2, 768, .inl s_pieces_firm)), (q_pieces_first, .inl (ky 0, 129, .inl s_pieces_first)), (q_pieces_from, .inl (ky 0, 768, .inl s_pieces_from)), (q_pieces_to, .inl (ky 0, 768, .inl s_pieces_to)), (q_pieces_twin, .inl (ky 0, 768, .inl s_pieces_twin)), (q_start, .inl (ky 0, 129, .inl s_start)), (q_walk, .inl (ky 0, 768, .inl s_walk))] := hD
        replace hl : lv_has ls 2 [(0, .ref q_), (1, .int v1)] := hl
        refine W.eq (g2 := F0 m 36 ls [.int v3, .int v1, .ref q_paneOf]) rfl ?_
        obtain ⟨hg, h⟩ := gd_of h
        refine r_iast hx hb hK.1 hP hD hS 5 0 rfl rfl hg dX7_find_36 (fun f4 ef4 H locs hP hD hS => ?_)
        replace h := lt_at ef4 h
        replace hP : va_P D vwCl [(q_, .inr (7, [.ref q_joints, .ref q_pieces, .int s_total, .ref q_paneOf, .ref q_walk, .ref q_start, .ref q_sum])), (q_joints, .inr (4, [.int s_joints_total, .ref q_joints_x, .ref q_joints_y, .ref q_joints_under])), (q_joints_under, .inl (ky 0, 129, .inl s_joints_under)), (q_joints_x, .inl (ky 0, 129, .inl s_joints_x)), (q_joints_y, .inl (ky 0, 129, .inl s_joints_y)), (q_paneOf, .inl (ky 0, 768, .inl f4)), (q_pieces, .inr (8, [.ref q_joints, .int s_pieces_steps, .ref q_pieces_from, .ref q_pieces_to, .ref q_pieces_twin, .ref q_pieces_firm, .ref q_pieces_first, .ref q_pieces_firmEnds, .ref q_pieces_reached, .ref q_pieces_nextLow, .ref q_pieces_nextHigh])), (q_pieces_firm, .inl (ky 2, 768, .inl s_pieces_firm)), (q_pieces_first, .inl (ky 0, 129, .inl s_pieces_first)), (q_pieces_from, .inl (ky 0, 768, .inl s_pieces_from)), (q_pieces_to, .inl (ky 0, 768, .inl s_pieces_to)), (q_pieces_twin, .inl (ky 0, 768, .inl s_pieces_twin)), (q_start, .inl (ky 0, 129, .inl s_start)), (q_walk, .inl (ky 0, 768, .inl s_walk))] H := hP
        replace hD : va_D A [(q_, .inr (7, [.ref q_joints, .ref q_pieces, .int s_total, .ref q_paneOf, .ref q_walk, .ref q_start, .ref q_sum])), (q_joints, .inr (4, [.int s_joints_total, .ref q_joints_x, .ref q_joints_y, .ref q_joints_under])), (q_joints_under, .inl (ky 0, 129, .inl s_joints_under)), (q_joints_x, .inl (ky 0, 129, .inl s_joints_x)), (q_joints_y, .inl (ky 0, 129, .inl s_joints_y)), (q_paneOf, .inl (ky 0, 768, .inl f4)), (q_pieces, .inr (8, [.ref q_joints, .int s_pieces_steps, .ref q_pieces_from, .ref q_pieces_to, .ref q_pieces_twin, .ref q_pieces_firm, .ref q_pieces_first, .ref q_pieces_firmEnds, .ref q_pieces_reached, .ref q_pieces_nextLow, .ref q_pieces_nextHigh])), (q_pieces_firm, .inl (ky 2, 768, .inl s_pieces_firm)), (q_pieces_first, .inl (ky 0, 129, .inl s_pieces_first)), (q_pieces_from, .inl (ky 0, 768, .inl s_pieces_from)), (q_pieces_to, .inl (ky 0, 768, .inl s_pieces_to)), (q_pieces_twin, .inl (ky 0, 768, .inl s_pieces_twin)), (q_start, .inl (ky 0, 129, .inl s_start)), (q_walk, .inl (ky 0, 768, .inl s_walk))] := hD
        obtain ⟨x5, ex5⟩ : ∃ z : Int32, z = v1 + 1 := ⟨_, rfl⟩
        replace h := lt_at ex5 h
        refine lv_iinc (v := x5) (lv' := [(1, .int x5), (0, .ref q_)]) hx hb dX7_find_37 hl (k := 1) rfl (by rw [ex5]; rfl) (by decide) rfl (fun ls hl => ?_)
        refine lv_goto (tgt := 2) hx hb dX7_find_40 (by decide) ?_
        cases h
        exact K _ _ _ hP hD hS (lv_sub hl [1, 0] rfl)
      replace h := hd
      clear hd
      refine lv_if_eq (tgt := 35) hx hb dX7_find_27 (by decide) (fun hc => ?_) (fun hc => ?_)
      · replace h := if_t hc h
        refine lv_iconst (v := (-1)) hx hb dX7_find_35 (by decide) ?_
        cases h
        exact K _ _ _ hP hD hS (lv_sub hl [0, 1] rfl)
      · replace h := if_f hc h
        refine lv_bipush (v := (-2)) hx hb dX7_find_30 (by decide) ?_
        refine lv_goto (tgt := 36) hx hb dX7_find_32 (by decide) ?_
        cases h
        exact K _ _ _ hP hD hS (lv_sub hl [0, 1] rfl)
  · have h1 := ex1_of h
    clear h hi
    rcases h1 with ⟨rfl, h⟩
    obtain ⟨v6, v7⟩ := t
    replace h := dm2_of h
    intro H locs ls hP hD hS hl
    replace hP : va_P D vwCl [(q_, .inr (7, [.ref q_joints, .ref q_pieces, .int s_total, .ref q_paneOf, .ref q_walk, .ref q_start, .ref q_sum])), (q_joints, .inr (4, [.int s_joints_total, .ref q_joints_x, .ref q_joints_y, .ref q_joints_under])), (q_joints_under, .inl (ky 0, 129, .inl s_joints_under)), (q_joints_x, .inl (ky 0, 129, .inl s_joints_x)), (q_joints_y, .inl (ky 0, 129, .inl s_joints_y)), (q_paneOf, .inl (ky 0, 768, .inl v7)), (q_pieces, .inr (8, [.ref q_joints, .int s_pieces_steps, .ref q_pieces_from, .ref q_pieces_to, .ref q_pieces_twin, .ref q_pieces_firm, .ref q_pieces_first, .ref q_pieces_firmEnds, .ref q_pieces_reached, .ref q_pieces_nextLow, .ref q_pieces_nextHigh])), (q_pieces_firm, .inl (ky 2, 768, .inl s_pieces_firm)), (q_pieces_first, .inl (ky 0, 129, .inl s_pieces_first)), (q_pieces_from, .inl (ky 0, 768, .inl s_pieces_from)), (q_pieces_to, .inl (ky 0, 768, .inl s_pieces_to)), (q_pieces_twin, .inl (ky 0, 768, .inl s_pieces_twin)), (q_start, .inl (ky 0, 129, .inl s_start)), (q_walk, .inl (ky 0, 768, .inl s_walk))] H := hP
    replace hD : va_D A [(q_, .inr (7, [.ref q_joints, .ref q_pieces, .int s_total, .ref q_paneOf, .ref q_walk, .ref q_start, .ref q_sum])), (q_joints, .inr (4, [.int s_joints_total, .ref q_joints_x, .ref q_joints_y, .ref q_joints_under])), (q_joints_under, .inl (ky 0, 129, .inl s_joints_under)), (q_joints_x, .inl (ky 0, 129, .inl s_joints_x)), (q_joints_y, .inl (ky 0, 129, .inl s_joints_y)), (q_paneOf, .inl (ky 0, 768, .inl v7)), (q_pieces, .inr (8, [.ref q_joints, .int s_pieces_steps, .ref q_pieces_from, .ref q_pieces_to, .ref q_pieces_twin, .ref q_pieces_firm, .ref q_pieces_first, .ref q_pieces_firmEnds, .ref q_pieces_reached, .ref q_pieces_nextLow, .ref q_pieces_nextHigh])), (q_pieces_firm, .inl (ky 2, 768, .inl s_pieces_firm)), (q_pieces_first, .inl (ky 0, 129, .inl s_pieces_first)), (q_pieces_from, .inl (ky 0, 768, .inl s_pieces_from)), (q_pieces_to, .inl (ky 0, 768, .inl s_pieces_to)), (q_pieces_twin, .inl (ky 0, 768, .inl s_pieces_twin)), (q_start, .inl (ky 0, 129, .inl s_start)), (q_walk, .inl (ky 0, 768, .inl s_walk))] := hD
    replace hl : lv_has ls 2 [(0, .ref q_), (1, .int v6)] := hl
    refine W.eq (g2 := F0 m 43 ls []) rfl ?_
    refine lv_aload_n hx hb dX7_find_43 rfl (lv_at hl 0 rfl) ?_
    refine lv_aload_n hx hb dX7_find_44 rfl (lv_at hl 0 rfl) ?_
    obtain ⟨r8, hc, h⟩ := ob_of h
    replace h := dm1_of h
    refine cv_i (As := []) (rest := [.ref q_]) (wr := [(q_joints_under, .inl (ky 0, 129, .inl s_joints_under)), (q_joints_y, .inl (ky 0, 129, .inl s_joints_y)), (q_paneOf, .inl (ky 0, 768, .inl v7)), (q_pieces_firm, .inl (ky 2, 768, .inl s_pieces_firm)), (q_pieces_from, .inl (ky 0, 768, .inl s_pieces_from)), (q_pieces_twin, .inl (ky 0, 768, .inl s_pieces_twin)), (q_start, .inl (ky 0, 129, .inl s_start)), (q_walk, .inl (ky 0, 768, .inl s_walk))]) (wn := [(q_, .inr (7, [.ref q_joints, .ref q_pieces, .int s_total, .ref q_paneOf, .ref q_walk, .ref q_start, .ref q_sum])), (q_joints, .inr (4, [.int s_joints_total, .ref q_joints_x, .ref q_joints_y, .ref q_joints_under])), (q_joints_under, .inl (ky 0, 129, .inl s_joints_under)), (q_joints_x, .inl (ky 0, 129, .inl s_joints_x)), (q_joints_y, .inl (ky 0, 129, .inl s_joints_y)), (q_paneOf, .inl (ky 0, 768, .inl v7)), (q_pieces, .inr (8, [.ref q_joints, .int s_pieces_steps, .ref q_pieces_from, .ref q_pieces_to, .ref q_pieces_twin, .ref q_pieces_firm, .ref q_pieces_first, .ref q_pieces_firmEnds, .ref q_pieces_reached, .ref q_pieces_nextLow, .ref q_pieces_nextHigh])), (q_pieces_firm, .inl (ky 2, 768, .inl s_pieces_firm)), (q_pieces_first, .inl (ky 0, 129, .inl s_pieces_first)), (q_pieces_from, .inl (ky 0, 768, .inl s_pieces_from)), (q_pieces_to, .inl (ky 0, 768, .inl s_pieces_to)), (q_pieces_twin, .inl (ky 0, 768, .inl s_pieces_twin)), (q_start, .inl (ky 0, 129, .inl s_start)), (q_walk, .inl (ky 0, 768, .inl s_walk))]) ⟨hx, hb, hml, hown, hts⟩ (c_X7_stepWithOutside l D ky q_ q_joints q_pieces q_paneOf q_walk q_start q_sum q_joints_x q_joints_y q_joints_under q_pieces_from q_pieces_to q_pieces_twin q_pieces_firm q_pieces_first q_pieces_firmEnds q_pieces_reached q_pieces_nextLow q_pieces_nextHigh s_total s_joints_total s_joints_x s_pieces_steps s_pieces_first s_pieces_to hc) (cwV 0 hts gX7_find_X7_stepWithOutside rfl rfl rfl (by decide +kernel) ⟨Nat.le_of_ble_eq_true rfl, Nat.le_of_ble_eq_true rfl⟩) (rcv hK.1 hP (q0 := 0) rfl rfl) hP hD hK hS hA [0, 1, 3, 6, 8, 10] [2, 4, 5, 7, 9, 11, 12, 13] [8, 9, 0, 10, 1, 2, 11, 3, 12, 4, 13, 5, 6, 7] rfl (by decide +kernel) rfl (by decide +kernel) (by decide +kernel) (by decide +kernel) rfl rfl rfl hl.1 (Nat.le_of_ble_eq_true rfl) dX7_find_45 ⟨Nat.le_of_ble_eq_true rfl, Nat.le_of_ble_eq_true rfl⟩ (fun H locs hP hD hS => ?_)
    refine lv_iconst (v := (-1)) hx hb dX7_find_48 (by decide) ?_
    refine lv_iconst (v := 0) hx hb dX7_find_49 (by decide) ?_
    obtain ⟨⟨r9, o10, o11⟩, hc, h⟩ := ob_of h
    replace h := dm3_of h
    refine cv_i (As := [.int r8, .int (-1 : Int32), .int (0 : Int32)]) (rest := []) (wr := [(q_start, .inl (ky 0, 129, .inl s_start))]) (wn := [(q_, .inr (7, [.ref q_joints, .ref q_pieces, .int s_total, .ref q_paneOf, .ref q_walk, .ref q_start, .ref q_sum])), (q_joints, .inr (4, [.int s_joints_total, .ref q_joints_x, .ref q_joints_y, .ref q_joints_under])), (q_joints_under, .inl (ky 0, 129, .inl s_joints_under)), (q_joints_x, .inl (ky 0, 129, .inl s_joints_x)), (q_joints_y, .inl (ky 0, 129, .inl s_joints_y)), (q_paneOf, .inl (ky 0, 768, .inl o10)), (q_pieces, .inr (8, [.ref q_joints, .int s_pieces_steps, .ref q_pieces_from, .ref q_pieces_to, .ref q_pieces_twin, .ref q_pieces_firm, .ref q_pieces_first, .ref q_pieces_firmEnds, .ref q_pieces_reached, .ref q_pieces_nextLow, .ref q_pieces_nextHigh])), (q_pieces_firm, .inl (ky 2, 768, .inl s_pieces_firm)), (q_pieces_first, .inl (ky 0, 129, .inl s_pieces_first)), (q_pieces_from, .inl (ky 0, 768, .inl s_pieces_from)), (q_pieces_to, .inl (ky 0, 768, .inl s_pieces_to)), (q_pieces_twin, .inl (ky 0, 768, .inl s_pieces_twin)), (q_start, .inl (ky 0, 129, .inl s_start)), (q_walk, .inl (ky 0, 768, .inl o11))]) ⟨hx, hb, hml, hown, hts⟩ (c_X7_follow l D ky q_ q_joints q_pieces q_paneOf q_walk q_start q_sum q_joints_x q_joints_y q_joints_under q_pieces_from q_pieces_to q_pieces_twin q_pieces_firm q_pieces_first q_pieces_firmEnds q_pieces_reached q_pieces_nextLow q_pieces_nextHigh r8 (-1 : Int32) (0 : Int32) s_total s_joints_total s_joints_under s_joints_x s_joints_y v7 s_pieces_steps s_pieces_firm s_pieces_first s_pieces_from s_pieces_to s_pieces_twin s_walk hc) (cwV 3 hts gX7_find_X7_follow rfl rfl rfl (by decide +kernel) ⟨Nat.le_of_ble_eq_true rfl, Nat.le_of_ble_eq_true rfl⟩) (rcv hK.1 hP (q0 := 0) rfl rfl) hP hD hK hS hA [0, 1, 2, 3, 4, 5, 6, 7, 8, 9, 10, 11, 13] [12] [1, 2, 3, 4, 5, 6, 7, 8, 9, 10, 11, 12, 0, 13] rfl (by decide +kernel) rfl (by decide +kernel) (by decide +kernel) (by decide +kernel) rfl rfl rfl hl.1 (Nat.le_of_ble_eq_true rfl) dX7_find_50 ⟨Nat.le_of_ble_eq_true rfl, Nat.le_of_ble_eq_true rfl⟩ (fun H locs hP hD hS => ?_)
    refine lv_pop hx hb dX7_find_53 rfl ?_
    refine lv_aload_n hx hb dX7_find_54 rfl (lv_at hl 0 rfl) ?_
    refine lv_iconst (v := 0) hx hb dX7_find_55 (by decide) ?_
    refine va_put (D := D) (ci := 7) (v := .int (0 : Int32)) (ty := .int) (C := RX7) (T := TX7) (N := 7) hx hb hts hi_X7 tyX7 tyX7_ok nmX7 hown hK.1 hP hD hS 0 rfl rfl 2 (by decide) hf_58 (fun _ h9 => h9) rfl (by decide +kernel) rfl rfl (Nat.le_of_ble_eq_true rfl) dX7_find_56 (fun H locs hP hD hS => ?_)
    replace hP : va_P D vwCl [(q_, .inr (7, [.ref q_joints, .ref q_pieces, .int (0 : Int32), .ref q_paneOf, .ref q_walk, .ref q_start, .ref q_sum])), (q_joints, .inr (4, [.int s_joints_total, .ref q_joints_x, .ref q_joints_y, .ref q_joints_under])), (q_joints_under, .inl (ky 0, 129, .inl s_joints_under)), (q_joints_x, .inl (ky 0, 129, .inl s_joints_x)), (q_joints_y, .inl (ky 0, 129, .inl s_joints_y)), (q_paneOf, .inl (ky 0, 768, .inl o10)), (q_pieces, .inr (8, [.ref q_joints, .int s_pieces_steps, .ref q_pieces_from, .ref q_pieces_to, .ref q_pieces_twin, .ref q_pieces_firm, .ref q_pieces_first, .ref q_pieces_firmEnds, .ref q_pieces_reached, .ref q_pieces_nextLow, .ref q_pieces_nextHigh])), (q_pieces_firm, .inl (ky 2, 768, .inl s_pieces_firm)), (q_pieces_first, .inl (ky 0, 129, .inl s_pieces_first)), (q_pieces_from, .inl (ky 0, 768, .inl s_pieces_from)), (q_pieces_to, .inl (ky 0, 768, .inl s_pieces_to)), (q_pieces_twin, .inl (ky 0, 768, .inl s_pieces_twin)), (q_start, .inl (ky 0, 129, .inl s_start)), (q_walk, .inl (ky 0, 768, .inl o11))] H := hP
    replace hD : va_D A [(q_, .inr (7, [.ref q_joints, .ref q_pieces, .int (0 : Int32), .ref q_paneOf, .ref q_walk, .ref q_start, .ref q_sum])), (q_joints, .inr (4, [.int s_joints_total, .ref q_joints_x, .ref q_joints_y, .ref q_joints_under])), (q_joints_under, .inl (ky 0, 129, .inl s_joints_under)), (q_joints_x, .inl (ky 0, 129, .inl s_joints_x)), (q_joints_y, .inl (ky 0, 129, .inl s_joints_y)), (q_paneOf, .inl (ky 0, 768, .inl o10)), (q_pieces, .inr (8, [.ref q_joints, .int s_pieces_steps, .ref q_pieces_from, .ref q_pieces_to, .ref q_pieces_twin, .ref q_pieces_firm, .ref q_pieces_first, .ref q_pieces_firmEnds, .ref q_pieces_reached, .ref q_pieces_nextLow, .ref q_pieces_nextHigh])), (q_pieces_firm, .inl (ky 2, 768, .inl s_pieces_firm)), (q_pieces_first, .inl (ky 0, 129, .inl s_pieces_first)), (q_pieces_from, .inl (ky 0, 768, .inl s_pieces_from)), (q_pieces_to, .inl (ky 0, 768, .inl s_pieces_to)), (q_pieces_twin, .inl (ky 0, 768, .inl s_pieces_twin)), (q_start, .inl (ky 0, 129, .inl s_start)), (q_walk, .inl (ky 0, 768, .inl o11))] := hD
    refine lv_aload_n hx hb dX7_find_59 rfl (lv_at hl 0 rfl) ?_
    refine va_get (D := D) (ci := 7) (v := .ref q_start) (C := RX7) (T := TX7) (N := 7) hx hb hts hi_X7 hown hK.1 hP 0 rfl rfl 5 (by decide) hf_30 (fun _ h9 => h9) rfl dX7_find_60 ?_
    refine lv_iconst (v := 0) hx hb dX7_find_63 (by decide) ?_
    refine lv_iconst (v := 0) hx hb dX7_find_64 (by decide) ?_
    obtain ⟨hg, h⟩ := gd_of h
    refine r_iast hx hb hK.1 hP hD hS 12 0 rfl rfl hg dX7_find_65 (fun f12 ef12 H locs hP hD hS => ?_)
    replace h := lt_at ef12 h
    replace hP : va_P D vwCl [(q_, .inr (7, [.ref q_joints, .ref q_pieces, .int (0 : Int32), .ref q_paneOf, .ref q_walk, .ref q_start, .ref q_sum])), (q_joints, .inr (4, [.int s_joints_total, .ref q_joints_x, .ref q_joints_y, .ref q_joints_under])), (q_joints_under, .inl (ky 0, 129, .inl s_joints_under)), (q_joints_x, .inl (ky 0, 129, .inl s_joints_x)), (q_joints_y, .inl (ky 0, 129, .inl s_joints_y)), (q_paneOf, .inl (ky 0, 768, .inl o10)), (q_pieces, .inr (8, [.ref q_joints, .int s_pieces_steps, .ref q_pieces_from, .ref q_pieces_to, .ref q_pieces_twin, .ref q_pieces_firm, .ref q_pieces_first, .ref q_pieces_firmEnds, .ref q_pieces_reached, .ref q_pieces_nextLow, .ref q_pieces_nextHigh])), (q_pieces_firm, .inl (ky 2, 768, .inl s_pieces_firm)), (q_pieces_first, .inl (ky 0, 129, .inl s_pieces_first)), (q_pieces_from, .inl (ky 0, 768, .inl s_pieces_from)), (q_pieces_to, .inl (ky 0, 768, .inl s_pieces_to)), (q_pieces_twin, .inl (ky 0, 768, .inl s_pieces_twin)), (q_start, .inl (ky 0, 129, .inl f12)), (q_walk, .inl (ky 0, 768, .inl o11))] H := hP
    replace hD : va_D A [(q_, .inr (7, [.ref q_joints, .ref q_pieces, .int (0 : Int32), .ref q_paneOf, .ref q_walk, .ref q_start, .ref q_sum])), (q_joints, .inr (4, [.int s_joints_total, .ref q_joints_x, .ref q_joints_y, .ref q_joints_under])), (q_joints_under, .inl (ky 0, 129, .inl s_joints_under)), (q_joints_x, .inl (ky 0, 129, .inl s_joints_x)), (q_joints_y, .inl (ky 0, 129, .inl s_joints_y)), (q_paneOf, .inl (ky 0, 768, .inl o10)), (q_pieces, .inr (8, [.ref q_joints, .int s_pieces_steps, .ref q_pieces_from, .ref q_pieces_to, .ref q_pieces_twin, .ref q_pieces_firm, .ref q_pieces_first, .ref q_pieces_firmEnds, .ref q_pieces_reached, .ref q_pieces_nextLow, .ref q_pieces_nextHigh])), (q_pieces_firm, .inl (ky 2, 768, .inl s_pieces_firm)), (q_pieces_first, .inl (ky 0, 129, .inl s_pieces_first)), (q_pieces_from, .inl (ky 0, 768, .inl s_pieces_from)), (q_pieces_to, .inl (ky 0, 768, .inl s_pieces_to)), (q_pieces_twin, .inl (ky 0, 768, .inl s_pieces_twin)), (q_start, .inl (ky 0, 129, .inl f12)), (q_walk, .inl (ky 0, 768, .inl o11))] := hD
    refine lv_iconst (v := 0) hx hb dX7_find_66 (by decide) ?_
    refine lv_istore_n (lv' := [(1, .int (0 : Int32)), (0, .ref q_)]) hx hb dX7_find_67 rfl hl (by decide) rfl (fun ls hl => ?_)
    obtain ⟨⟨k, t⟩, hi, h⟩ := ob_of h
    refine iter_rule (P := fun (k : Nat) (t : Int32 × Int32 × (Nat → Int32) × (Nat → Int32) × (Nat → Int32)) => ∀ (H : Heap) (locs : List Loc) (ls : Array Slot), va_P D vwCl [(q_, .inr (7, [.ref q_joints, .ref q_pieces, .int t.2.1, .ref q_paneOf, .ref q_walk, .ref q_start, .ref q_sum])), (q_joints, .inr (4, [.int s_joints_total, .ref q_joints_x, .ref q_joints_y, .ref q_joints_under])), (q_joints_under, .inl (ky 0, 129, .inl s_joints_under)), (q_joints_x, .inl (ky 0, 129, .inl s_joints_x)), (q_joints_y, .inl (ky 0, 129, .inl s_joints_y)), (q_paneOf, .inl (ky 0, 768, .inl t.2.2.1)), (q_pieces, .inr (8, [.ref q_joints, .int s_pieces_steps, .ref q_pieces_from, .ref q_pieces_to, .ref q_pieces_twin, .ref q_pieces_firm, .ref q_pieces_first, .ref q_pieces_firmEnds, .ref q_pieces_reached, .ref q_pieces_nextLow, .ref q_pieces_nextHigh])), (q_pieces_firm, .inl (ky 2, 768, .inl s_pieces_firm)), (q_pieces_first, .inl (ky 0, 129, .inl s_pieces_first)), (q_pieces_from, .inl (ky 0, 768, .inl s_pieces_from)), (q_pieces_to, .inl (ky 0, 768, .inl s_pieces_to)), (q_pieces_twin, .inl (ky 0, 768, .inl s_pieces_twin)), (q_start, .inl (ky 0, 129, .inl t.2.2.2.1)), (q_walk, .inl (ky 0, 768, .inl t.2.2.2.2))] H → va_D A [(q_, .inr (7, [.ref q_joints, .ref q_pieces, .int t.2.1, .ref q_paneOf, .ref q_walk, .ref q_start, .ref q_sum])), (q_joints, .inr (4, [.int s_joints_total, .ref q_joints_x, .ref q_joints_y, .ref q_joints_under])), (q_joints_under, .inl (ky 0, 129, .inl s_joints_under)), (q_joints_x, .inl (ky 0, 129, .inl s_joints_x)), (q_joints_y, .inl (ky 0, 129, .inl s_joints_y)), (q_paneOf, .inl (ky 0, 768, .inl t.2.2.1)), (q_pieces, .inr (8, [.ref q_joints, .int s_pieces_steps, .ref q_pieces_from, .ref q_pieces_to, .ref q_pieces_twin, .ref q_pieces_firm, .ref q_pieces_first, .ref q_pieces_firmEnds, .ref q_pieces_reached, .ref q_pieces_nextLow, .ref q_pieces_nextHigh])), (q_pieces_firm, .inl (ky 2, 768, .inl s_pieces_firm)), (q_pieces_first, .inl (ky 0, 129, .inl s_pieces_first)), (q_pieces_from, .inl (ky 0, 768, .inl s_pieces_from)), (q_pieces_to, .inl (ky 0, 768, .inl s_pieces_to)), (q_pieces_twin, .inl (ky 0, 768, .inl s_pieces_twin)), (q_start, .inl (ky 0, 129, .inl t.2.2.2.1)), (q_walk, .inl (ky 0, 768, .inl t.2.2.2.2))] → va_S A s.heap H locs → lv_has ls 2 [(0, .ref q_), (1, .int t.1)] → W p l e rmX7_find s m args below meth c H locs 0 0 Q (F0 m ([68, 145].getD k 0) ls [])) ?_ _ _ _ _ hi ?_ H locs ls hP hD hS (lv_sub hl [1, 0] rfl)
    · clear h hi hP hD hS hl
      intro t k t' h K
      obtain ⟨v13, v14, v15, v16, v17⟩ := t
      intro H locs ls hP hD hS hl
      replace h := dm5_of h
      replace hP : va_P D vwCl [(q_, .inr (7, [.ref q_joints, .ref q_pieces, .int v14, .ref q_paneOf, .ref q_walk, .ref q_start, .ref q_sum])), (q_joints, .inr (4, [.int s_joints_total, .ref q_joints_x, .ref q_joints_y, .ref q_joints_under])), (q_joints_under, .inl (ky 0, 129, .inl s_joints_under)), (q_joints_x, .inl (ky 0, 129, .inl s_joints_x)), (q_joints_y, .inl (ky 0, 129, .inl s_joints_y)), (q_paneOf, .inl (ky 0, 768, .inl v15)), (q_pieces, .inr (8, [.ref q_joints, .int s_pieces_steps, .ref q_pieces_from, .ref q_pieces_to, .ref q_pieces_twin, .ref q_pieces_firm, .ref q_pieces_first, .ref q_pieces_firmEnds, .ref q_pieces_reached, .ref q_pieces_nextLow, .ref q_pieces_nextHigh])), (q_pieces_firm, .inl (ky 2, 768, .inl s_pieces_firm)), (q_pieces_first, .inl (ky 0, 129, .inl s_pieces_first)), (q_pieces_from, .inl (ky 0, 768, .inl s_pieces_from)), (q_pieces_to, .inl (ky 0, 768, .inl s_pieces_to)), (q_pieces_twin, .inl (ky 0, 768, .inl s_pieces_twin)), (q_start, .inl (ky 0, 129, .inl v16)), (q_walk, .inl (ky 0, 768, .inl v17))] H := hP
      replace hD : va_D A [(q_, .inr (7, [.ref q_joints, .ref q_pieces, .int v14, .ref q_paneOf, .ref q_walk, .ref q_start, .ref q_sum])), (q_joints, .inr (4, [.int s_joints_total, .ref q_joints_x, .ref q_joints_y, .ref q_joints_under])), (q_joints_under, .inl (ky 0, 129, .inl s_joints_under)), (q_joints_x, .inl (ky 0, 129, .inl s_joints_x)), (q_joints_y, .inl (ky 0, 129, .inl s_joints_y)), (q_paneOf, .inl (ky 0, 768, .inl v15)), (q_pieces, .inr (8, [.ref q_joints, .int s_pieces_steps, .ref q_pieces_from, .ref q_pieces_to, .ref q_pieces_twin, .ref q_pieces_firm, .ref q_pieces_first, .ref q_pieces_firmEnds, .ref q_pieces_reached, .ref q_pieces_nextLow, .ref q_pieces_nextHigh])), (q_pieces_firm, .inl (ky 2, 768, .inl s_pieces_firm)), (q_pieces_first, .inl (ky 0, 129, .inl s_pieces_first)), (q_pieces_from, .inl (ky 0, 768, .inl s_pieces_from)), (q_pieces_to, .inl (ky 0, 768, .inl s_pieces_to)), (q_pieces_twin, .inl (ky 0, 768, .inl s_pieces_twin)), (q_start, .inl (ky 0, 129, .inl v16)), (q_walk, .inl (ky 0, 768, .inl v17))] := hD
      replace hl : lv_has ls 2 [(0, .ref q_), (1, .int v13)] := hl
      refine lv_iload_n hx hb dX7_find_68 rfl (lv_at hl 1 rfl) ?_
      refine lv_aload_n hx hb dX7_find_69 rfl (lv_at hl 0 rfl) ?_
      refine va_get (D := D) (ci := 7) (v := .ref q_pieces) (C := RX7) (T := TX7) (N := 7) hx hb hts hi_X7 hown hK.1 hP 0 rfl rfl 1 (by decide) hf_22 (fun _ h9 => h9) rfl dX7_find_70 ?_
      refine va_get (D := D) (ci := 8) (v := .int s_pieces_steps) (C := RX8) (T := TX8) (N := 11) hx hb hts hi_X8 hown hK.1 hP 6 rfl rfl 1 (by decide) hf_40 (fun _ h9 => h9) rfl dX7_find_73 ?_
      refine lv_icmp_ge (tgt := 145) hx hb dX7_find_76 (by decide) (fun hc => ?_) (fun hc => ?_)
      · replace h := if_t hc h
        cases h
        exact K _ _ _ hP hD hS (lv_sub hl [0, 1] rfl)
      · replace h := if_f hc h
        refine lv_aload_n hx hb dX7_find_79 rfl (lv_at hl 0 rfl) ?_
        refine va_get (D := D) (ci := 7) (v := .int v14) (C := RX7) (T := TX7) (N := 7) hx hb hts hi_X7 hown hK.1 hP 0 rfl rfl 2 (by decide) hf_58 (fun _ h9 => h9) rfl dX7_find_80 ?_
        refine lv_sipush (v := 128) hx hb dX7_find_83 (by decide) ?_
        refine lv_icmp_ge (tgt := 145) hx hb dX7_find_86 (by decide) (fun hc => ?_) (fun hc => ?_)
        · replace h := if_t hc h
          cases h
          exact K _ _ _ hP hD hS (lv_sub hl [0, 1] rfl)
        · replace h := if_f hc h
          refine lv_aload_n hx hb dX7_find_89 rfl (lv_at hl 0 rfl) ?_
          refine va_get (D := D) (ci := 7) (v := .ref q_paneOf) (C := RX7) (T := TX7) (N := 7) hx hb hts hi_X7 hown hK.1 hP 0 rfl rfl 3 (by decide) hf_23 (fun _ h9 => h9) rfl dX7_find_90 ?_
          refine lv_iload_n hx hb dX7_find_93 rfl (lv_at hl 1 rfl) ?_
          obtain ⟨hg, h⟩ := gd_of h
          refine va_iald hx hb hK.1 hP 5 0 rfl rfl hg dX7_find_94 ?_
          refine lv_bipush (v := (-2)) hx hb dX7_find_95 (by decide) ?_
          obtain ⟨t, hd, h⟩ := ob_of h
          have K : ∀ (H : Heap) (locs : List Loc) (ls : Array Slot), va_P D vwCl [(q_, .inr (7, [.ref q_joints, .ref q_pieces, .int t.1, .ref q_paneOf, .ref q_walk, .ref q_start, .ref q_sum])), (q_joints, .inr (4, [.int s_joints_total, .ref q_joints_x, .ref q_joints_y, .ref q_joints_under])), (q_joints_under, .inl (ky 0, 129, .inl s_joints_under)), (q_joints_x, .inl (ky 0, 129, .inl s_joints_x)), (q_joints_y, .inl (ky 0, 129, .inl s_joints_y)), (q_paneOf, .inl (ky 0, 768, .inl t.2.1)), (q_pieces, .inr (8, [.ref q_joints, .int s_pieces_steps, .ref q_pieces_from, .ref q_pieces_to, .ref q_pieces_twin, .ref q_pieces_firm, .ref q_pieces_first, .ref q_pieces_firmEnds, .ref q_pieces_reached, .ref q_pieces_nextLow, .ref q_pieces_nextHigh])), (q_pieces_firm, .inl (ky 2, 768, .inl s_pieces_firm)), (q_pieces_first, .inl (ky 0, 129, .inl s_pieces_first)), (q_pieces_from, .inl (ky 0, 768, .inl s_pieces_from)), (q_pieces_to, .inl (ky 0, 768, .inl s_pieces_to)), (q_pieces_twin, .inl (ky 0, 768, .inl s_pieces_twin)), (q_start, .inl (ky 0, 129, .inl t.2.2.1)), (q_walk, .inl (ky 0, 768, .inl t.2.2.2))] H → va_D A [(q_, .inr (7, [.ref q_joints, .ref q_pieces, .int t.1, .ref q_paneOf, .ref q_walk, .ref q_start, .ref q_sum])), (q_joints, .inr (4, [.int s_joints_total, .ref q_joints_x, .ref q_joints_y, .ref q_joints_under])), (q_joints_under, .inl (ky 0, 129, .inl s_joints_under)), (q_joints_x, .inl (ky 0, 129, .inl s_joints_x)), (q_joints_y, .inl (ky 0, 129, .inl s_joints_y)), (q_paneOf, .inl (ky 0, 768, .inl t.2.1)), (q_pieces, .inr (8, [.ref q_joints, .int s_pieces_steps, .ref q_pieces_from, .ref q_pieces_to, .ref q_pieces_twin, .ref q_pieces_firm, .ref q_pieces_first, .ref q_pieces_firmEnds, .ref q_pieces_reached, .ref q_pieces_nextLow, .ref q_pieces_nextHigh])), (q_pieces_firm, .inl (ky 2, 768, .inl s_pieces_firm)), (q_pieces_first, .inl (ky 0, 129, .inl s_pieces_first)), (q_pieces_from, .inl (ky 0, 768, .inl s_pieces_from)), (q_pieces_to, .inl (ky 0, 768, .inl s_pieces_to)), (q_pieces_twin, .inl (ky 0, 768, .inl s_pieces_twin)), (q_start, .inl (ky 0, 129, .inl t.2.2.1)), (q_walk, .inl (ky 0, 768, .inl t.2.2.2))] → va_S A s.heap H locs → lv_has ls 2 [(0, .ref q_), (1, .int v13)] → W p l e rmX7_find s m args below meth c H locs 0 0 Q (F0 m 139 ls []) := by
            clear hd hP hD hS hl
            obtain ⟨v18, v19, v20, v21⟩ := t
            replace h := dm4_of h
            intro H locs ls hP hD hS hl
            replace hP : va_P D vwCl [(q_, .inr (7, [.ref q_joints, .ref q_pieces, .int v18, .ref q_paneOf, .ref q_walk, .ref q_start, .ref q_sum])), (q_joints, .inr (4, [.int s_joints_total, .ref q_joints_x, .ref q_joints_y, .ref q_joints_under])), (q_joints_under, .inl (ky 0, 129, .inl s_joints_under)), (q_joints_x, .inl (ky 0, 129, .inl s_joints_x)), (q_joints_y, .inl (ky 0, 129, .inl s_joints_y)), (q_paneOf, .inl (ky 0, 768, .inl v19)), (q_pieces, .inr (8, [.ref q_joints, .int s_pieces_steps, .ref q_pieces_from, .ref q_pieces_to, .ref q_pieces_twin, .ref q_pieces_firm, .ref q_pieces_first, .ref q_pieces_firmEnds, .ref q_pieces_reached, .ref q_pieces_nextLow, .ref q_pieces_nextHigh])), (q_pieces_firm, .inl (ky 2, 768, .inl s_pieces_firm)), (q_pieces_first, .inl (ky 0, 129, .inl s_pieces_first)), (q_pieces_from, .inl (ky 0, 768, .inl s_pieces_from)), (q_pieces_to, .inl (ky 0, 768, .inl s_pieces_to)), (q_pieces_twin, .inl (ky 0, 768, .inl s_pieces_twin)), (q_start, .inl (ky 0, 129, .inl v20)), (q_walk, .inl (ky 0, 768, .inl v21))] H := hP
            replace hD : va_D A [(q_, .inr (7, [.ref q_joints, .ref q_pieces, .int v18, .ref q_paneOf, .ref q_walk, .ref q_start, .ref q_sum])), (q_joints, .inr (4, [.int s_joints_total, .ref q_joints_x, .ref q_joints_y, .ref q_joints_under])), (q_joints_under, .inl (ky 0, 129, .inl s_joints_under)), (q_joints_x, .inl (ky 0, 129, .inl s_joints_x)), (q_joints_y, .inl (ky 0, 129, .inl s_joints_y)), (q_paneOf, .inl (ky 0, 768, .inl v19)), (q_pieces, .inr (8, [.ref q_joints, .int s_pieces_steps, .ref q_pieces_from, .ref q_pieces_to, .ref q_pieces_twin, .ref q_pieces_firm, .ref q_pieces_first, .ref q_pieces_firmEnds, .ref q_pieces_reached, .ref q_pieces_nextLow, .ref q_pieces_nextHigh])), (q_pieces_firm, .inl (ky 2, 768, .inl s_pieces_firm)), (q_pieces_first, .inl (ky 0, 129, .inl s_pieces_first)), (q_pieces_from, .inl (ky 0, 768, .inl s_pieces_from)), (q_pieces_to, .inl (ky 0, 768, .inl s_pieces_to)), (q_pieces_twin, .inl (ky 0, 768, .inl s_pieces_twin)), (q_start, .inl (ky 0, 129, .inl v20)), (q_walk, .inl (ky 0, 768, .inl v21))] := hD
            replace hl : lv_has ls 2 [(0, .ref q_), (1, .int v13)] := hl
            refine W.eq (g2 := F0 m 139 ls []) rfl ?_
            obtain ⟨x22, ex22⟩ : ∃ z : Int32, z = v13 + 1 := ⟨_, rfl⟩
            replace h := lt_at ex22 h
            refine lv_iinc (v := x22) (lv' := [(1, .int x22), (0, .ref q_)]) hx hb dX7_find_139 hl (k := 1) rfl (by rw [ex22]; rfl) (by decide) rfl (fun ls hl => ?_)
            refine lv_goto (tgt := 68) hx hb dX7_find_142 (by decide) ?_
            cases h
            exact K _ _ _ hP hD hS (lv_sub hl [1, 0] rfl)
          replace h := hd
          clear hd
          refine lv_icmp_ne (tgt := 139) hx hb dX7_find_97 (by decide) (fun hc => ?_) (fun hc => ?_)
          · replace h := if_t hc h
            cases h
            exact K _ _ _ hP hD hS (lv_sub hl [0, 1] rfl)
          · replace h := if_f (fun z => z hc) h
            refine lv_aload_n hx hb dX7_find_100 rfl (lv_at hl 0 rfl) ?_
            refine va_get (D := D) (ci := 7) (v := .ref q_start) (C := RX7) (T := TX7) (N := 7) hx hb hts hi_X7 hown hK.1 hP 0 rfl rfl 5 (by decide) hf_30 (fun _ h9 => h9) rfl dX7_find_101 ?_
            refine lv_aload_n hx hb dX7_find_104 rfl (lv_at hl 0 rfl) ?_
            refine va_get (D := D) (ci := 7) (v := .int v14) (C := RX7) (T := TX7) (N := 7) hx hb hts hi_X7 hown hK.1 hP 0 rfl rfl 2 (by decide) hf_58 (fun _ h9 => h9) rfl dX7_find_105 ?_
            refine lv_iconst (v := 1) hx hb dX7_find_108 (by decide) ?_
            refine lv_iadd hx hb dX7_find_109 ?_
            refine lv_aload_n hx hb dX7_find_110 rfl (lv_at hl 0 rfl) ?_
            refine lv_iload_n hx hb dX7_find_111 rfl (lv_at hl 1 rfl) ?_
            refine lv_aload_n hx hb dX7_find_112 rfl (lv_at hl 0 rfl) ?_
            refine va_get (D := D) (ci := 7) (v := .int v14) (C := RX7) (T := TX7) (N := 7) hx hb hts hi_X7 hown hK.1 hP 0 rfl rfl 2 (by decide) hf_58 (fun _ h9 => h9) rfl dX7_find_113 ?_
            refine lv_aload_n hx hb dX7_find_116 rfl (lv_at hl 0 rfl) ?_
            refine va_get (D := D) (ci := 7) (v := .ref q_start) (C := RX7) (T := TX7) (N := 7) hx hb hts hi_X7 hown hK.1 hP 0 rfl rfl 5 (by decide) hf_30 (fun _ h9 => h9) rfl dX7_find_117 ?_
            refine lv_aload_n hx hb dX7_find_120 rfl (lv_at hl 0 rfl) ?_
            refine va_get (D := D) (ci := 7) (v := .int v14) (C := RX7) (T := TX7) (N := 7) hx hb hts hi_X7 hown hK.1 hP 0 rfl rfl 2 (by decide) hf_58 (fun _ h9 => h9) rfl dX7_find_121 ?_
            obtain ⟨hg, h⟩ := gd_of h
            refine va_iald hx hb hK.1 hP 12 0 rfl rfl hg dX7_find_124 ?_
            obtain ⟨⟨r23, o24, o25⟩, hc, h⟩ := ob_of h
            replace h := dm3_of h
            refine cv_i (As := [.int v13, .int v14, .int (v16 v14.toNatClampNeg)]) (rest := [.int (v14 + (1 : Int32)), .ref q_start]) (wr := [(q_start, .inl (ky 0, 129, .inl v16))]) (wn := [(q_, .inr (7, [.ref q_joints, .ref q_pieces, .int v14, .ref q_paneOf, .ref q_walk, .ref q_start, .ref q_sum])), (q_joints, .inr (4, [.int s_joints_total, .ref q_joints_x, .ref q_joints_y, .ref q_joints_under])), (q_joints_under, .inl (ky 0, 129, .inl s_joints_under)), (q_joints_x, .inl (ky 0, 129, .inl s_joints_x)), (q_joints_y, .inl (ky 0, 129, .inl s_joints_y)), (q_paneOf, .inl (ky 0, 768, .inl o24)), (q_pieces, .inr (8, [.ref q_joints, .int s_pieces_steps, .ref q_pieces_from, .ref q_pieces_to, .ref q_pieces_twin, .ref q_pieces_firm, .ref q_pieces_first, .ref q_pieces_firmEnds, .ref q_pieces_reached, .ref q_pieces_nextLow, .ref q_pieces_nextHigh])), (q_pieces_firm, .inl (ky 2, 768, .inl s_pieces_firm)), (q_pieces_first, .inl (ky 0, 129, .inl s_pieces_first)), (q_pieces_from, .inl (ky 0, 768, .inl s_pieces_from)), (q_pieces_to, .inl (ky 0, 768, .inl s_pieces_to)), (q_pieces_twin, .inl (ky 0, 768, .inl s_pieces_twin)), (q_start, .inl (ky 0, 129, .inl v16)), (q_walk, .inl (ky 0, 768, .inl o25))]) ⟨hx, hb, hml, hown, hts⟩ (c_X7_follow l D ky q_ q_joints q_pieces q_paneOf q_walk q_start q_sum q_joints_x q_joints_y q_joints_under q_pieces_from q_pieces_to q_pieces_twin q_pieces_firm q_pieces_first q_pieces_firmEnds q_pieces_reached q_pieces_nextLow q_pieces_nextHigh v13 v14 (v16 v14.toNatClampNeg) v14 s_joints_total s_joints_under s_joints_x s_joints_y v15 s_pieces_steps s_pieces_firm s_pieces_first s_pieces_from s_pieces_to s_pieces_twin v17 hc) (cwV 3 hts gX7_find_X7_follow rfl rfl rfl (by decide +kernel) ⟨Nat.le_of_ble_eq_true rfl, Nat.le_of_ble_eq_true rfl⟩) (rcv hK.1 hP (q0 := 0) rfl rfl) hP hD hK hS hA [0, 1, 2, 3, 4, 5, 6, 7, 8, 9, 10, 11, 13] [12] [1, 2, 3, 4, 5, 6, 7, 8, 9, 10, 11, 12, 0, 13] rfl (by decide +kernel) rfl (by decide +kernel) (by decide +kernel) (by decide +kernel) rfl rfl rfl hl.1 (Nat.le_of_ble_eq_true rfl) dX7_find_125 ⟨Nat.le_of_ble_eq_true rfl, Nat.le_of_ble_eq_true rfl⟩ (fun H locs hP hD hS => ?_)
            obtain ⟨hg, h⟩ := gd_of h
            refine r_iast hx hb hK.1 hP hD hS 12 0 rfl rfl hg dX7_find_128 (fun f26 ef26 H locs hP hD hS => ?_)
            replace h := lt_at ef26 h
            replace hP : va_P D vwCl [(q_, .inr (7, [.ref q_joints, .ref q_pieces, .int v14, .ref q_paneOf, .ref q_walk, .ref q_start, .ref q_sum])), (q_joints, .inr (4, [.int s_joints_total, .ref q_joints_x, .ref q_joints_y, .ref q_joints_under])), (q_joints_under, .inl (ky 0, 129, .inl s_joints_under)), (q_joints_x, .inl (ky 0, 129, .inl s_joints_x)), (q_joints_y, .inl (ky 0, 129, .inl s_joints_y)), (q_paneOf, .inl (ky 0, 768, .inl o24)), (q_pieces, .inr (8, [.ref q_joints, .int s_pieces_steps, .ref q_pieces_from, .ref q_pieces_to, .ref q_pieces_twin, .ref q_pieces_firm, .ref q_pieces_first, .ref q_pieces_firmEnds, .ref q_pieces_reached, .ref q_pieces_nextLow, .ref q_pieces_nextHigh])), (q_pieces_firm, .inl (ky 2, 768, .inl s_pieces_firm)), (q_pieces_first, .inl (ky 0, 129, .inl s_pieces_first)), (q_pieces_from, .inl (ky 0, 768, .inl s_pieces_from)), (q_pieces_to, .inl (ky 0, 768, .inl s_pieces_to)), (q_pieces_twin, .inl (ky 0, 768, .inl s_pieces_twin)), (q_start, .inl (ky 0, 129, .inl f26)), (q_walk, .inl (ky 0, 768, .inl o25))] H := hP
            replace hD : va_D A [(q_, .inr (7, [.ref q_joints, .ref q_pieces, .int v14, .ref q_paneOf, .ref q_walk, .ref q_start, .ref q_sum])), (q_joints, .inr (4, [.int s_joints_total, .ref q_joints_x, .ref q_joints_y, .ref q_joints_under])), (q_joints_under, .inl (ky 0, 129, .inl s_joints_under)), (q_joints_x, .inl (ky 0, 129, .inl s_joints_x)), (q_joints_y, .inl (ky 0, 129, .inl s_joints_y)), (q_paneOf, .inl (ky 0, 768, .inl o24)), (q_pieces, .inr (8, [.ref q_joints, .int s_pieces_steps, .ref q_pieces_from, .ref q_pieces_to, .ref q_pieces_twin, .ref q_pieces_firm, .ref q_pieces_first, .ref q_pieces_firmEnds, .ref q_pieces_reached, .ref q_pieces_nextLow, .ref q_pieces_nextHigh])), (q_pieces_firm, .inl (ky 2, 768, .inl s_pieces_firm)), (q_pieces_first, .inl (ky 0, 129, .inl s_pieces_first)), (q_pieces_from, .inl (ky 0, 768, .inl s_pieces_from)), (q_pieces_to, .inl (ky 0, 768, .inl s_pieces_to)), (q_pieces_twin, .inl (ky 0, 768, .inl s_pieces_twin)), (q_start, .inl (ky 0, 129, .inl f26)), (q_walk, .inl (ky 0, 768, .inl o25))] := hD
            refine lv_aload_n hx hb dX7_find_129 rfl (lv_at hl 0 rfl) ?_
            refine lv_dup hx hb dX7_find_130 rfl ?_
            refine va_get (D := D) (ci := 7) (v := .int v14) (C := RX7) (T := TX7) (N := 7) hx hb hts hi_X7 hown hK.1 hP 0 rfl rfl 2 (by decide) hf_58 (fun _ h9 => h9) rfl dX7_find_131 ?_
            refine lv_iconst (v := 1) hx hb dX7_find_134 (by decide) ?_
            refine lv_iadd hx hb dX7_find_135 ?_
            refine lv_topi (fun x27 ex27 => ?_)
            replace h := lt_at ex27 h
            refine va_put (D := D) (ci := 7) (v := .int x27) (ty := .int) (C := RX7) (T := TX7) (N := 7) hx hb hts hi_X7 tyX7 tyX7_ok nmX7 hown hK.1 hP hD hS 0 rfl rfl 2 (by decide) hf_58 (fun _ h9 => h9) rfl (by decide +kernel) rfl rfl (Nat.le_of_ble_eq_true rfl) dX7_find_136 (fun H locs hP hD hS => ?_)
            replace hP : va_P D vwCl [(q_, .inr (7, [.ref q_joints, .ref q_pieces, .int x27, .ref q_paneOf, .ref q_walk, .ref q_start, .ref q_sum])), (q_joints, .inr (4, [.int s_joints_total, .ref q_joints_x, .ref q_joints_y, .ref q_joints_under])), (q_joints_under, .inl (ky 0, 129, .inl s_joints_under)), (q_joints_x, .inl (ky 0, 129, .inl s_joints_x)), (q_joints_y, .inl (ky 0, 129, .inl s_joints_y)), (q_paneOf, .inl (ky 0, 768, .inl o24)), (q_pieces, .inr (8, [.ref q_joints, .int s_pieces_steps, .ref q_pieces_from, .ref q_pieces_to, .ref q_pieces_twin, .ref q_pieces_firm, .ref q_pieces_first, .ref q_pieces_firmEnds, .ref q_pieces_reached, .ref q_pieces_nextLow, .ref q_pieces_nextHigh])), (q_pieces_firm, .inl (ky 2, 768, .inl s_pieces_firm)), (q_pieces_first, .inl (ky 0, 129, .inl s_pieces_first)), (q_pieces_from, .inl (ky 0, 768, .inl s_pieces_from)), (q_pieces_to, .inl (ky 0, 768, .inl s_pieces_to)), (q_pieces_twin, .inl (ky 0, 768, .inl s_pieces_twin)), (q_start, .inl (ky 0, 129, .inl f26)), (q_walk, .inl (ky 0, 768, .inl o25))] H := hP
            replace hD : va_D A [(q_, .inr (7, [.ref q_joints, .ref q_pieces, .int x27, .ref q_paneOf, .ref q_walk, .ref q_start, .ref q_sum])), (q_joints, .inr (4, [.int s_joints_total, .ref q_joints_x, .ref q_joints_y, .ref q_joints_under])), (q_joints_under, .inl (ky 0, 129, .inl s_joints_under)), (q_joints_x, .inl (ky 0, 129, .inl s_joints_x)), (q_joints_y, .inl (ky 0, 129, .inl s_joints_y)), (q_paneOf, .inl (ky 0, 768, .inl o24)), (q_pieces, .inr (8, [.ref q_joints, .int s_pieces_steps, .ref q_pieces_from, .ref q_pieces_to, .ref q_pieces_twin, .ref q_pieces_firm, .ref q_pieces_first, .ref q_pieces_firmEnds, .ref q_pieces_reached, .ref q_pieces_nextLow, .ref q_pieces_nextHigh])), (q_pieces_firm, .inl (ky 2, 768, .inl s_pieces_firm)), (q_pieces_first, .inl (ky 0, 129, .inl s_pieces_first)), (q_pieces_from, .inl (ky 0, 768, .inl s_pieces_from)), (q_pieces_to, .inl (ky 0, 768, .inl s_pieces_to)), (q_pieces_twin, .inl (ky 0, 768, .inl s_pieces_twin)), (q_start, .inl (ky 0, 129, .inl f26)), (q_walk, .inl (ky 0, 768, .inl o25))] := hD
            cases h
            exact K _ _ _ hP hD hS (lv_sub hl [0, 1] rfl)
    · have h1 := ex1_of h
      clear h hi
      rcases h1 with ⟨rfl, h⟩
      obtain ⟨v28, v29, v30, v31, v32⟩ := t
      replace h := dm5_of h
      intro H locs ls hP hD hS hl
      replace hP : va_P D vwCl [(q_, .inr (7, [.ref q_joints, .ref q_pieces, .int v29, .ref q_paneOf, .ref q_walk, .ref q_start, .ref q_sum])), (q_joints, .inr (4, [.int s_joints_total, .ref q_joints_x, .ref q_joints_y, .ref q_joints_under])), (q_joints_under, .inl (ky 0, 129, .inl s_joints_under)), (q_joints_x, .inl (ky 0, 129, .inl s_joints_x)), (q_joints_y, .inl (ky 0, 129, .inl s_joints_y)), (q_paneOf, .inl (ky 0, 768, .inl v30)), (q_pieces, .inr (8, [.ref q_joints, .int s_pieces_steps, .ref q_pieces_from, .ref q_pieces_to, .ref q_pieces_twin, .ref q_pieces_firm, .ref q_pieces_first, .ref q_pieces_firmEnds, .ref q_pieces_reached, .ref q_pieces_nextLow, .ref q_pieces_nextHigh])), (q_pieces_firm, .inl (ky 2, 768, .inl s_pieces_firm)), (q_pieces_first, .inl (ky 0, 129, .inl s_pieces_first)), (q_pieces_from, .inl (ky 0, 768, .inl s_pieces_from)), (q_pieces_to, .inl (ky 0, 768, .inl s_pieces_to)), (q_pieces_twin, .inl (ky 0, 768, .inl s_pieces_twin)), (q_start, .inl (ky 0, 129, .inl v31)), (q_walk, .inl (ky 0, 768, .inl v32))] H := hP
      replace hD : va_D A [(q_, .inr (7, [.ref q_joints, .ref q_pieces, .int v29, .ref q_paneOf, .ref q_walk, .ref q_start, .ref q_sum])), (q_joints, .inr (4, [.int s_joints_total, .ref q_joints_x, .ref q_joints_y, .ref q_joints_under])), (q_joints_under, .inl (ky 0, 129, .inl s_joints_under)), (q_joints_x, .inl (ky 0, 129, .inl s_joints_x)), (q_joints_y, .inl (ky 0, 129, .inl s_joints_y)), (q_paneOf, .inl (ky 0, 768, .inl v30)), (q_pieces, .inr (8, [.ref q_joints, .int s_pieces_steps, .ref q_pieces_from, .ref q_pieces_to, .ref q_pieces_twin, .ref q_pieces_firm, .ref q_pieces_first, .ref q_pieces_firmEnds, .ref q_pieces_reached, .ref q_pieces_nextLow, .ref q_pieces_nextHigh])), (q_pieces_firm, .inl (ky 2, 768, .inl s_pieces_firm)), (q_pieces_first, .inl (ky 0, 129, .inl s_pieces_first)), (q_pieces_from, .inl (ky 0, 768, .inl s_pieces_from)), (q_pieces_to, .inl (ky 0, 768, .inl s_pieces_to)), (q_pieces_twin, .inl (ky 0, 768, .inl s_pieces_twin)), (q_start, .inl (ky 0, 129, .inl v31)), (q_walk, .inl (ky 0, 768, .inl v32))] := hD
      replace hl : lv_has ls 2 [(0, .ref q_), (1, .int v28)] := hl
      refine W.eq (g2 := F0 m 145 ls []) rfl ?_
      exact rt _ h _ _ _ _ dX7_find_145 hP hD hS

def sX7_corners (a1 : Int32) (s_start : Nat → Int32) : Option (Int32) := gd (¬ ((a1 + (1 : Int32)) < 0 ∨ 129 ≤ (a1 + (1 : Int32)).toNatClampNeg)) (gd (¬ (a1 < 0 ∨ 129 ≤ a1.toNatClampNeg)) (some ((s_start (a1 + (1 : Int32)).toNatClampNeg) - (s_start a1.toNatClampNeg))))
abbrev rmX7_corners : Room := { frames := 0, cells := 0, slots := 0, locals := 0 }
set_option maxHeartbeats 4000000 in
set_option maxRecDepth 100000 in
theorem c_X7_corners (l : Launch) (D : va_G) (ky : Nat → ClassId) (q_ q_joints q_pieces q_paneOf q_walk q_start q_sum : Nat) (a1 : Int32) (s_total : Int32) (s_start : Nat → Int32) {o_r : Int32} (h : sX7_corners a1 s_start = some o_r) : MtI l D ky yX7_corners wsX7_corners rmX7_corners [.ref q_, .int a1] [(q_, .inr (7, [.ref q_joints, .ref q_pieces, .int s_total, .ref q_paneOf, .ref q_walk, .ref q_start, .ref q_sum])), (q_start, .inl (ky 0, 129, .inl s_start))] [(q_, .inr (7, [.ref q_joints, .ref q_pieces, .int s_total, .ref q_paneOf, .ref q_walk, .ref q_start, .ref q_sum])), (q_start, .inl (ky 0, 129, .inl s_start))] o_r 0 0 := by
  refine MtI.of (cc := cX7_corners) (maxL := 2) (by decide +kernel) rfl (Nat.le_of_ble_eq_true rfl) ?_
  intro p e R s m args below meth c A Q ls hR hx hb hts hown hnm hml hP hK hD hA ret hl
  subst hR
  obtain ⟨H, hH⟩ : ∃ H, H = s.heap := ⟨_, rfl⟩
  obtain ⟨locs, hlocs⟩ : ∃ locs : List Loc, locs = [] := ⟨_, rfl⟩
  have hS : va_S A s.heap H locs := by rw [hH, hlocs]; exact va_S.rf
  rw [← hH] at hP
  suffices hgo : W p l e rmX7_corners s m args below meth c H locs 0 0 Q (F0 m 0 ls []) by rw [hH, hlocs] at hgo; exact hgo
  clear hH hlocs
  replace hl : lv_has ls 2 [(0, .ref q_), (1, .int a1)] := hl
  replace hown : s.vm.findClass RX7 = some m.cls := hown
  have hi_X7 : ∀ w ∈ u_ws RX7 TX7 7, w ∈ wsX7_corners := fun _ h9 => List.mem_cons_of_mem _ (List.mem_append_right _ h9)
  have hf_30 := hts (.fieldLink RX7 30 "GlazierBench$Panes" "start" "[I") (by decide +kernel)
  unfold sX7_corners at h
  refine lv_aload_n hx hb dX7_corners_0 rfl (lv_at hl 0 rfl) ?_
  refine va_get (D := D) (ci := 7) (v := .ref q_start) (C := RX7) (T := TX7) (N := 7) hx hb hts hi_X7 hown hK.1 hP 0 rfl rfl 5 (by decide) hf_30 (fun _ h9 => h9) rfl dX7_corners_1 ?_
  refine lv_iload_n hx hb dX7_corners_4 rfl (lv_at hl 1 rfl) ?_
  refine lv_iconst (v := 1) hx hb dX7_corners_5 (by decide) ?_
  refine lv_iadd hx hb dX7_corners_6 ?_
  obtain ⟨hg, h⟩ := gd_of h
  refine va_iald hx hb hK.1 hP 1 0 rfl rfl hg dX7_corners_7 ?_
  refine lv_aload_n hx hb dX7_corners_8 rfl (lv_at hl 0 rfl) ?_
  refine va_get (D := D) (ci := 7) (v := .ref q_start) (C := RX7) (T := TX7) (N := 7) hx hb hts hi_X7 hown hK.1 hP 0 rfl rfl 5 (by decide) hf_30 (fun _ h9 => h9) rfl dX7_corners_9 ?_
  refine lv_iload_n hx hb dX7_corners_12 rfl (lv_at hl 1 rfl) ?_
  obtain ⟨hg, h⟩ := gd_of h
  refine va_iald hx hb hK.1 hP 1 0 rfl rfl hg dX7_corners_13 ?_
  refine lv_isub hx hb dX7_corners_14 ?_
  cases h
  exact ret _ _ _ _ dX7_corners_15 hP hD hS

def sX7_jointAtCorner (a1 : Int32) (a2 : Int32) (s_pieces_from : Nat → Int32) (s_start : Nat → Int32) (s_walk : Nat → Int32) : Option (Int32) := gd (¬ (a1 < 0 ∨ 129 ≤ a1.toNatClampNeg)) (gd (¬ (((s_start a1.toNatClampNeg) + a2) < 0 ∨ 768 ≤ ((s_start a1.toNatClampNeg) + a2).toNatClampNeg)) (gd (¬ ((s_walk ((s_start a1.toNatClampNeg) + a2).toNatClampNeg) < 0 ∨ 768 ≤ (s_walk ((s_start a1.toNatClampNeg) + a2).toNatClampNeg).toNatClampNeg)) (some (s_pieces_from (s_walk ((s_start a1.toNatClampNeg) + a2).toNatClampNeg).toNatClampNeg))))
abbrev rmX7_jointAtCorner : Room := { frames := 0, cells := 0, slots := 0, locals := 0 }
set_option maxHeartbeats 4000000 in
set_option maxRecDepth 100000 in
theorem c_X7_jointAtCorner (l : Launch) (D : va_G) (ky : Nat → ClassId) (q_ q_joints q_pieces q_paneOf q_walk q_start q_sum q_pieces_from q_pieces_to q_pieces_twin q_pieces_firm q_pieces_first q_pieces_firmEnds q_pieces_reached q_pieces_nextLow q_pieces_nextHigh : Nat) (a1 : Int32) (a2 : Int32) (s_total : Int32) (s_pieces_steps : Int32) (s_pieces_from : Nat → Int32) (s_start : Nat → Int32) (s_walk : Nat → Int32) {o_r : Int32} (h : sX7_jointAtCorner a1 a2 s_pieces_from s_start s_walk = some o_r) : MtI l D ky yX7_jointAtCorner wsX7_jointAtCorner rmX7_jointAtCorner [.ref q_, .int a1, .int a2] [(q_, .inr (7, [.ref q_joints, .ref q_pieces, .int s_total, .ref q_paneOf, .ref q_walk, .ref q_start, .ref q_sum])), (q_pieces, .inr (8, [.ref q_joints, .int s_pieces_steps, .ref q_pieces_from, .ref q_pieces_to, .ref q_pieces_twin, .ref q_pieces_firm, .ref q_pieces_first, .ref q_pieces_firmEnds, .ref q_pieces_reached, .ref q_pieces_nextLow, .ref q_pieces_nextHigh])), (q_pieces_from, .inl (ky 0, 768, .inl s_pieces_from)), (q_start, .inl (ky 0, 129, .inl s_start)), (q_walk, .inl (ky 0, 768, .inl s_walk))] [(q_, .inr (7, [.ref q_joints, .ref q_pieces, .int s_total, .ref q_paneOf, .ref q_walk, .ref q_start, .ref q_sum])), (q_pieces, .inr (8, [.ref q_joints, .int s_pieces_steps, .ref q_pieces_from, .ref q_pieces_to, .ref q_pieces_twin, .ref q_pieces_firm, .ref q_pieces_first, .ref q_pieces_firmEnds, .ref q_pieces_reached, .ref q_pieces_nextLow, .ref q_pieces_nextHigh])), (q_pieces_from, .inl (ky 0, 768, .inl s_pieces_from)), (q_start, .inl (ky 0, 129, .inl s_start)), (q_walk, .inl (ky 0, 768, .inl s_walk))] o_r 0 0 := by
  refine MtI.of (cc := cX7_jointAtCorner) (maxL := 3) (by decide +kernel) rfl (Nat.le_of_ble_eq_true rfl) ?_
  intro p e R s m args below meth c A Q ls hR hx hb hts hown hnm hml hP hK hD hA ret hl
  subst hR
  obtain ⟨H, hH⟩ : ∃ H, H = s.heap := ⟨_, rfl⟩
  obtain ⟨locs, hlocs⟩ : ∃ locs : List Loc, locs = [] := ⟨_, rfl⟩
  have hS : va_S A s.heap H locs := by rw [hH, hlocs]; exact va_S.rf
  rw [← hH] at hP
  suffices hgo : W p l e rmX7_jointAtCorner s m args below meth c H locs 0 0 Q (F0 m 0 ls []) by rw [hH, hlocs] at hgo; exact hgo
  clear hH hlocs
  replace hl : lv_has ls 3 [(0, .ref q_), (1, .int a1), (2, .int a2)] := hl
  replace hown : s.vm.findClass RX7 = some m.cls := hown
  have hi_X7 : ∀ w ∈ u_ws RX7 TX7 7, w ∈ wsX7_jointAtCorner := fun _ h9 => List.mem_cons_of_mem _ (List.mem_append_left _ (List.mem_append_right _ h9))
  have hf_22 := hts (.fieldLink RX7 22 "GlazierBench$Panes" "pieces" "LGlazierBench$Pieces;") (by decide +kernel)
  have hi_X8 : ∀ w ∈ u_ws RX8 TX8 11, w ∈ wsX7_jointAtCorner := fun _ h9 => List.mem_cons_of_mem _ (List.mem_append_right _ h9)
  have hf_76 := hts (.fieldLink RX7 76 "GlazierBench$Pieces" "from" "[I") (by decide +kernel)
  have hf_27 := hts (.fieldLink RX7 27 "GlazierBench$Panes" "walk" "[I") (by decide +kernel)
  have hf_30 := hts (.fieldLink RX7 30 "GlazierBench$Panes" "start" "[I") (by decide +kernel)
  unfold sX7_jointAtCorner at h
  refine lv_aload_n hx hb dX7_jointAtCorner_0 rfl (lv_at hl 0 rfl) ?_
  refine va_get (D := D) (ci := 7) (v := .ref q_pieces) (C := RX7) (T := TX7) (N := 7) hx hb hts hi_X7 hown hK.1 hP 0 rfl rfl 1 (by decide) hf_22 (fun _ h9 => h9) rfl dX7_jointAtCorner_1 ?_
  refine va_get (D := D) (ci := 8) (v := .ref q_pieces_from) (C := RX8) (T := TX8) (N := 11) hx hb hts hi_X8 hown hK.1 hP 1 rfl rfl 2 (by decide) hf_76 (fun _ h9 => h9) rfl dX7_jointAtCorner_4 ?_
  refine lv_aload_n hx hb dX7_jointAtCorner_7 rfl (lv_at hl 0 rfl) ?_
  refine va_get (D := D) (ci := 7) (v := .ref q_walk) (C := RX7) (T := TX7) (N := 7) hx hb hts hi_X7 hown hK.1 hP 0 rfl rfl 4 (by decide) hf_27 (fun _ h9 => h9) rfl dX7_jointAtCorner_8 ?_
  refine lv_aload_n hx hb dX7_jointAtCorner_11 rfl (lv_at hl 0 rfl) ?_
  refine va_get (D := D) (ci := 7) (v := .ref q_start) (C := RX7) (T := TX7) (N := 7) hx hb hts hi_X7 hown hK.1 hP 0 rfl rfl 5 (by decide) hf_30 (fun _ h9 => h9) rfl dX7_jointAtCorner_12 ?_
  refine lv_iload_n hx hb dX7_jointAtCorner_15 rfl (lv_at hl 1 rfl) ?_
  obtain ⟨hg, h⟩ := gd_of h
  refine va_iald hx hb hK.1 hP 3 0 rfl rfl hg dX7_jointAtCorner_16 ?_
  refine lv_iload_n hx hb dX7_jointAtCorner_17 rfl (lv_at hl 2 rfl) ?_
  refine lv_iadd hx hb dX7_jointAtCorner_18 ?_
  obtain ⟨hg, h⟩ := gd_of h
  refine va_iald hx hb hK.1 hP 4 0 rfl rfl hg dX7_jointAtCorner_19 ?_
  obtain ⟨hg, h⟩ := gd_of h
  refine va_iald hx hb hK.1 hP 2 0 rfl rfl hg dX7_jointAtCorner_20 ?_
  cases h
  exact ret _ _ _ _ dX7_jointAtCorner_21 hP hD hS

def sX7_beyond (a1 : Int32) (a2 : Int32) (s_paneOf : Nat → Int32) (s_pieces_twin : Nat → Int32) (s_start : Nat → Int32) (s_walk : Nat → Int32) : Option (Int32) := gd (¬ (a1 < 0 ∨ 129 ≤ a1.toNatClampNeg)) (gd (¬ (((s_start a1.toNatClampNeg) + a2) < 0 ∨ 768 ≤ ((s_start a1.toNatClampNeg) + a2).toNatClampNeg)) (gd (¬ ((s_walk ((s_start a1.toNatClampNeg) + a2).toNatClampNeg) < 0 ∨ 768 ≤ (s_walk ((s_start a1.toNatClampNeg) + a2).toNatClampNeg).toNatClampNeg)) (gd (¬ ((s_pieces_twin (s_walk ((s_start a1.toNatClampNeg) + a2).toNatClampNeg).toNatClampNeg) < 0 ∨ 768 ≤ (s_pieces_twin (s_walk ((s_start a1.toNatClampNeg) + a2).toNatClampNeg).toNatClampNeg).toNatClampNeg)) (some (s_paneOf (s_pieces_twin (s_walk ((s_start a1.toNatClampNeg) + a2).toNatClampNeg).toNatClampNeg).toNatClampNeg)))))
abbrev rmX7_beyond : Room := { frames := 0, cells := 0, slots := 0, locals := 0 }
set_option maxHeartbeats 4000000 in
set_option maxRecDepth 100000 in
theorem c_X7_beyond (l : Launch) (D : va_G) (ky : Nat → ClassId) (q_ q_joints q_pieces q_paneOf q_walk q_start q_sum q_pieces_from q_pieces_to q_pieces_twin q_pieces_firm q_pieces_first q_pieces_firmEnds q_pieces_reached q_pieces_nextLow q_pieces_nextHigh : Nat) (a1 : Int32) (a2 : Int32) (s_total : Int32) (s_paneOf : Nat → Int32) (s_pieces_steps : Int32) (s_pieces_twin : Nat → Int32) (s_start : Nat → Int32) (s_walk : Nat → Int32) {o_r : Int32} (h : sX7_beyond a1 a2 s_paneOf s_pieces_twin s_start s_walk = some o_r) : MtI l D ky yX7_beyond wsX7_beyond rmX7_beyond [.ref q_, .int a1, .int a2] [(q_, .inr (7, [.ref q_joints, .ref q_pieces, .int s_total, .ref q_paneOf, .ref q_walk, .ref q_start, .ref q_sum])), (q_paneOf, .inl (ky 0, 768, .inl s_paneOf)), (q_pieces, .inr (8, [.ref q_joints, .int s_pieces_steps, .ref q_pieces_from, .ref q_pieces_to, .ref q_pieces_twin, .ref q_pieces_firm, .ref q_pieces_first, .ref q_pieces_firmEnds, .ref q_pieces_reached, .ref q_pieces_nextLow, .ref q_pieces_nextHigh])), (q_pieces_twin, .inl (ky 0, 768, .inl s_pieces_twin)), (q_start, .inl (ky 0, 129, .inl s_start)), (q_walk, .inl (ky 0, 768, .inl s_walk))] [(q_, .inr (7, [.ref q_joints, .ref q_pieces, .int s_total, .ref q_paneOf, .ref q_walk, .ref q_start, .ref q_sum])), (q_paneOf, .inl (ky 0, 768, .inl s_paneOf)), (q_pieces, .inr (8, [.ref q_joints, .int s_pieces_steps, .ref q_pieces_from, .ref q_pieces_to, .ref q_pieces_twin, .ref q_pieces_firm, .ref q_pieces_first, .ref q_pieces_firmEnds, .ref q_pieces_reached, .ref q_pieces_nextLow, .ref q_pieces_nextHigh])), (q_pieces_twin, .inl (ky 0, 768, .inl s_pieces_twin)), (q_start, .inl (ky 0, 129, .inl s_start)), (q_walk, .inl (ky 0, 768, .inl s_walk))] o_r 0 0 := by
  refine MtI.of (cc := cX7_beyond) (maxL := 3) (by decide +kernel) rfl (Nat.le_of_ble_eq_true rfl) ?_
  intro p e R s m args below meth c A Q ls hR hx hb hts hown hnm hml hP hK hD hA ret hl
  subst hR
  obtain ⟨H, hH⟩ : ∃ H, H = s.heap := ⟨_, rfl⟩
  obtain ⟨locs, hlocs⟩ : ∃ locs : List Loc, locs = [] := ⟨_, rfl⟩
  have hS : va_S A s.heap H locs := by rw [hH, hlocs]; exact va_S.rf
  rw [← hH] at hP
  suffices hgo : W p l e rmX7_beyond s m args below meth c H locs 0 0 Q (F0 m 0 ls []) by rw [hH, hlocs] at hgo; exact hgo
  clear hH hlocs
  replace hl : lv_has ls 3 [(0, .ref q_), (1, .int a1), (2, .int a2)] := hl
  replace hown : s.vm.findClass RX7 = some m.cls := hown
  have hi_X7 : ∀ w ∈ u_ws RX7 TX7 7, w ∈ wsX7_beyond := fun _ h9 => List.mem_cons_of_mem _ (List.mem_append_left _ (List.mem_append_right _ h9))
  have hf_23 := hts (.fieldLink RX7 23 "GlazierBench$Panes" "paneOf" "[I") (by decide +kernel)
  have hf_22 := hts (.fieldLink RX7 22 "GlazierBench$Panes" "pieces" "LGlazierBench$Pieces;") (by decide +kernel)
  have hi_X8 : ∀ w ∈ u_ws RX8 TX8 11, w ∈ wsX7_beyond := fun _ h9 => List.mem_cons_of_mem _ (List.mem_append_right _ h9)
  have hf_79 := hts (.fieldLink RX7 79 "GlazierBench$Pieces" "twin" "[I") (by decide +kernel)
  have hf_27 := hts (.fieldLink RX7 27 "GlazierBench$Panes" "walk" "[I") (by decide +kernel)
  have hf_30 := hts (.fieldLink RX7 30 "GlazierBench$Panes" "start" "[I") (by decide +kernel)
  unfold sX7_beyond at h
  refine lv_aload_n hx hb dX7_beyond_0 rfl (lv_at hl 0 rfl) ?_
  refine va_get (D := D) (ci := 7) (v := .ref q_paneOf) (C := RX7) (T := TX7) (N := 7) hx hb hts hi_X7 hown hK.1 hP 0 rfl rfl 3 (by decide) hf_23 (fun _ h9 => h9) rfl dX7_beyond_1 ?_
  refine lv_aload_n hx hb dX7_beyond_4 rfl (lv_at hl 0 rfl) ?_
  refine va_get (D := D) (ci := 7) (v := .ref q_pieces) (C := RX7) (T := TX7) (N := 7) hx hb hts hi_X7 hown hK.1 hP 0 rfl rfl 1 (by decide) hf_22 (fun _ h9 => h9) rfl dX7_beyond_5 ?_
  refine va_get (D := D) (ci := 8) (v := .ref q_pieces_twin) (C := RX8) (T := TX8) (N := 11) hx hb hts hi_X8 hown hK.1 hP 2 rfl rfl 4 (by decide) hf_79 (fun _ h9 => h9) rfl dX7_beyond_8 ?_
  refine lv_aload_n hx hb dX7_beyond_11 rfl (lv_at hl 0 rfl) ?_
  refine va_get (D := D) (ci := 7) (v := .ref q_walk) (C := RX7) (T := TX7) (N := 7) hx hb hts hi_X7 hown hK.1 hP 0 rfl rfl 4 (by decide) hf_27 (fun _ h9 => h9) rfl dX7_beyond_12 ?_
  refine lv_aload_n hx hb dX7_beyond_15 rfl (lv_at hl 0 rfl) ?_
  refine va_get (D := D) (ci := 7) (v := .ref q_start) (C := RX7) (T := TX7) (N := 7) hx hb hts hi_X7 hown hK.1 hP 0 rfl rfl 5 (by decide) hf_30 (fun _ h9 => h9) rfl dX7_beyond_16 ?_
  refine lv_iload_n hx hb dX7_beyond_19 rfl (lv_at hl 1 rfl) ?_
  obtain ⟨hg, h⟩ := gd_of h
  refine va_iald hx hb hK.1 hP 4 0 rfl rfl hg dX7_beyond_20 ?_
  refine lv_iload_n hx hb dX7_beyond_21 rfl (lv_at hl 2 rfl) ?_
  refine lv_iadd hx hb dX7_beyond_22 ?_
  obtain ⟨hg, h⟩ := gd_of h
  refine va_iald hx hb hK.1 hP 5 0 rfl rfl hg dX7_beyond_23 ?_
  obtain ⟨hg, h⟩ := gd_of h
  refine va_iald hx hb hK.1 hP 3 0 rfl rfl hg dX7_beyond_24 ?_
  obtain ⟨hg, h⟩ := gd_of h
  refine va_iald hx hb hK.1 hP 1 0 rfl rfl hg dX7_beyond_25 ?_
  cases h
  exact ret _ _ _ _ dX7_beyond_26 hP hD hS

def sX7_wholeBelow (a0 : Int32) (a1 : Int32)  : Option (Int32) := if (1 : Int32) ≤ a1 then gd (¬ a1 = 0) (some (a0 / a1)) else some a0
abbrev rmX7_wholeBelow : Room := { frames := 0, cells := 0, slots := 0, locals := 0 }
set_option maxHeartbeats 4000000 in
set_option maxRecDepth 100000 in
theorem c_X7_wholeBelow (l : Launch) (D : va_G) (ky : Nat → ClassId) (a0 : Int32) (a1 : Int32) {o_r : Int32} (h : sX7_wholeBelow a0 a1 = some o_r) : MtI l D ky yX7_wholeBelow wsX7_wholeBelow rmX7_wholeBelow [.int a0, .int a1] [] [] o_r 0 0 := by
  refine MtI.of (cc := cX7_wholeBelow) (maxL := 2) (by decide +kernel) rfl (Nat.le_of_ble_eq_true rfl) ?_
  intro p e R s m args below meth c A Q ls hR hx hb hts hown hnm hml hP hK hD hA ret hl
  subst hR
  obtain ⟨H, hH⟩ : ∃ H, H = s.heap := ⟨_, rfl⟩
  obtain ⟨locs, hlocs⟩ : ∃ locs : List Loc, locs = [] := ⟨_, rfl⟩
  have hS : va_S A s.heap H locs := by rw [hH, hlocs]; exact va_S.rf
  rw [← hH] at hP
  suffices hgo : W p l e rmX7_wholeBelow s m args below meth c H locs 0 0 Q (F0 m 0 ls []) by rw [hH, hlocs] at hgo; exact hgo
  clear hH hlocs
  replace hl : lv_has ls 2 [(0, .int a0), (1, .int a1)] := hl
  replace hown : s.vm.findClass RX7 = some m.cls := hown
  unfold sX7_wholeBelow at h
  refine lv_iload_n hx hb dX7_wholeBelow_0 rfl (lv_at hl 1 rfl) ?_
  refine lv_iconst (v := 1) hx hb dX7_wholeBelow_1 (by decide) ?_
  refine lv_icmp_ge (tgt := 9) hx hb dX7_wholeBelow_2 (by decide) (fun hc => ?_) (fun hc => ?_)
  · replace h := if_t hc h
    refine lv_iload_n hx hb dX7_wholeBelow_9 rfl (lv_at hl 0 rfl) ?_
    refine lv_iload_n hx hb dX7_wholeBelow_10 rfl (lv_at hl 1 rfl) ?_
    obtain ⟨hg, h⟩ := gd_of h
    refine lv_idiv hx hb dX7_wholeBelow_11 hg ?_
    cases h
    exact ret _ _ _ _ dX7_wholeBelow_12 hP hD hS
  · replace h := if_f hc h
    refine lv_iload_n hx hb dX7_wholeBelow_5 rfl (lv_at hl 0 rfl) ?_
    refine lv_goto (tgt := 12) hx hb dX7_wholeBelow_6 (by decide) ?_
    cases h
    exact ret _ _ _ _ dX7_wholeBelow_12 hP hD hS

def bX7_boxLeft_5 (a1 : Int32) (s_joints_under : Nat → Int32) (s_joints_x : Nat → Int32) (s_pieces_from : Nat → Int32) (s_start : Nat → Int32) (s_walk : Nat → Int32) (t : Int32 × Int32) : Option (Nat × (Int32 × Int32)) := dm2 t (fun (v1 : Int32) (v2 : Int32) => ob (sX7_corners a1 s_start) (fun o => dm1 o (fun (r3 : Int32) => if r3 ≤ v2 then some (1, (v1, v2)) else ob (sX7_jointAtCorner a1 v2 s_pieces_from s_start s_walk) (fun o => dm1 o (fun (r4 : Int32) => gd (¬ (r4 < 0 ∨ 129 ≤ r4.toNatClampNeg)) (gd (¬ (r4 < 0 ∨ 129 ≤ r4.toNatClampNeg)) (ob (sX7_wholeBelow (s_joints_x r4.toNatClampNeg) (s_joints_under r4.toNatClampNeg)) (fun o => dm1 o (fun (r5 : Int32) => lt (if r5 < v1 then r5 else v1) (fun x6 => lt (v2 + 1) (fun x7 => some (0, (x6, x7)))))))))))))
def sX7_boxLeft (a1 : Int32) (s_joints_under : Nat → Int32) (s_joints_x : Nat → Int32) (s_pieces_from : Nat → Int32) (s_start : Nat → Int32) (s_walk : Nat → Int32) : Option (Int32) := ob (iter (bX7_boxLeft_5 a1 s_joints_under s_joints_x s_pieces_from s_start s_walk) FU ((12 : Int32), (0 : Int32))) (fun kt => ex1 kt (fun t => dm2 t (fun (v8 : Int32) (v9 : Int32) => some v8)))
abbrev rmX7_boxLeft : Room := { frames := 1, cells := 0, slots := 0, locals := 40 }
set_option maxHeartbeats 4000000 in
set_option maxRecDepth 100000 in
theorem c_X7_boxLeft (l : Launch) (D : va_G) (ky : Nat → ClassId) (q_ q_joints q_pieces q_paneOf q_walk q_start q_sum q_joints_x q_joints_y q_joints_under q_pieces_from q_pieces_to q_pieces_twin q_pieces_firm q_pieces_first q_pieces_firmEnds q_pieces_reached q_pieces_nextLow q_pieces_nextHigh : Nat) (a1 : Int32) (s_total : Int32) (s_joints_total : Int32) (s_joints_under : Nat → Int32) (s_joints_x : Nat → Int32) (s_pieces_steps : Int32) (s_pieces_from : Nat → Int32) (s_start : Nat → Int32) (s_walk : Nat → Int32) {o_r : Int32} (h : sX7_boxLeft a1 s_joints_under s_joints_x s_pieces_from s_start s_walk = some o_r) : MtI l D ky yX7_boxLeft wsX7_boxLeft rmX7_boxLeft [.ref q_, .int a1] [(q_, .inr (7, [.ref q_joints, .ref q_pieces, .int s_total, .ref q_paneOf, .ref q_walk, .ref q_start, .ref q_sum])), (q_joints, .inr (4, [.int s_joints_total, .ref q_joints_x, .ref q_joints_y, .ref q_joints_under])), (q_joints_under, .inl (ky 0, 129, .inl s_joints_under)), (q_joints_x, .inl (ky 0, 129, .inl s_joints_x)), (q_pieces, .inr (8, [.ref q_joints, .int s_pieces_steps, .ref q_pieces_from, .ref q_pieces_to, .ref q_pieces_twin, .ref q_pieces_firm, .ref q_pieces_first, .ref q_pieces_firmEnds, .ref q_pieces_reached, .ref q_pieces_nextLow, .ref q_pieces_nextHigh])), (q_pieces_from, .inl (ky 0, 768, .inl s_pieces_from)), (q_start, .inl (ky 0, 129, .inl s_start)), (q_walk, .inl (ky 0, 768, .inl s_walk))] [(q_, .inr (7, [.ref q_joints, .ref q_pieces, .int s_total, .ref q_paneOf, .ref q_walk, .ref q_start, .ref q_sum])), (q_joints, .inr (4, [.int s_joints_total, .ref q_joints_x, .ref q_joints_y, .ref q_joints_under])), (q_joints_under, .inl (ky 0, 129, .inl s_joints_under)), (q_joints_x, .inl (ky 0, 129, .inl s_joints_x)), (q_pieces, .inr (8, [.ref q_joints, .int s_pieces_steps, .ref q_pieces_from, .ref q_pieces_to, .ref q_pieces_twin, .ref q_pieces_firm, .ref q_pieces_first, .ref q_pieces_firmEnds, .ref q_pieces_reached, .ref q_pieces_nextLow, .ref q_pieces_nextHigh])), (q_pieces_from, .inl (ky 0, 768, .inl s_pieces_from)), (q_start, .inl (ky 0, 129, .inl s_start)), (q_walk, .inl (ky 0, 768, .inl s_walk))] o_r 0 0 := by
  refine MtI.of (cc := cX7_boxLeft) (maxL := 5) (by decide +kernel) rfl (Nat.le_of_ble_eq_true rfl) ?_
  intro p e R s m args below meth c A Q ls hR hx hb hts hown hnm hml hP hK hD hA ret hl
  subst hR
  obtain ⟨H, hH⟩ : ∃ H, H = s.heap := ⟨_, rfl⟩
  obtain ⟨locs, hlocs⟩ : ∃ locs : List Loc, locs = [] := ⟨_, rfl⟩
  have hS : va_S A s.heap H locs := by rw [hH, hlocs]; exact va_S.rf
  rw [← hH] at hP
  suffices hgo : W p l e rmX7_boxLeft s m args below meth c H locs 0 0 Q (F0 m 0 ls []) by rw [hH, hlocs] at hgo; exact hgo
  clear hH hlocs
  replace hl : lv_has ls 5 [(0, .ref q_), (1, .int a1)] := hl
  replace hown : s.vm.findClass RX7 = some m.cls := hown
  have hi_X7 : ∀ w ∈ u_ws RX7 TX7 7, w ∈ wsX7_boxLeft := fun _ h9 => List.mem_cons_of_mem _ (List.mem_append_left _ (List.mem_append_left _ (List.mem_append_right _ h9)))
  have hf_15 := hts (.fieldLink RX7 15 "GlazierBench$Panes" "joints" "LGlazierBench$Joints;") (by decide +kernel)
  have hi_X4 : ∀ w ∈ u_ws RX4 TX4 4, w ∈ wsX7_boxLeft := fun _ h9 => List.mem_cons_of_mem _ (List.mem_append_left _ (List.mem_append_right _ h9))
  have hf_64 := hts (.fieldLink RX7 64 "GlazierBench$Joints" "x" "[I") (by decide +kernel)
  have hf_89 := hts (.fieldLink RX7 89 "GlazierBench$Joints" "under" "[I") (by decide +kernel)
  have hm_95 := hts (.methodLink RX7 95 Lib.Math.min.name) (by decide +kernel)
  have hs_mmin := hts (.static Lib.Math.min.name) (by decide +kernel)
  have hini_Math := hts (.initialized "java/lang/Math") (by decide +kernel)
  have hco_mmin := hts (.code Lib.Math.min.name Lib.Math.min.code 2 (some .int)) (by decide +kernel)
  unfold sX7_boxLeft at h
  refine lv_bipush (v := 12) hx hb dX7_boxLeft_0 (by decide) ?_
  refine lv_istore_n (lv' := [(2, .int (12 : Int32)), (0, .ref q_), (1, .int a1)]) hx hb dX7_boxLeft_2 rfl hl (by decide) rfl (fun ls hl => ?_)
  refine lv_iconst (v := 0) hx hb dX7_boxLeft_3 (by decide) ?_
  refine lv_istore_n (lv' := [(3, .int (0 : Int32)), (2, .int (12 : Int32)), (0, .ref q_), (1, .int a1)]) hx hb dX7_boxLeft_4 rfl hl (by decide) rfl (fun ls hl => ?_)
  obtain ⟨⟨k, t⟩, hi, h⟩ := ob_of h
  refine iter_rule (P := fun (k : Nat) (t : Int32 × Int32) => ∀ (H : Heap) (locs : List Loc) (ls : Array Slot), va_P D vwCl [(q_, .inr (7, [.ref q_joints, .ref q_pieces, .int s_total, .ref q_paneOf, .ref q_walk, .ref q_start, .ref q_sum])), (q_joints, .inr (4, [.int s_joints_total, .ref q_joints_x, .ref q_joints_y, .ref q_joints_under])), (q_joints_under, .inl (ky 0, 129, .inl s_joints_under)), (q_joints_x, .inl (ky 0, 129, .inl s_joints_x)), (q_pieces, .inr (8, [.ref q_joints, .int s_pieces_steps, .ref q_pieces_from, .ref q_pieces_to, .ref q_pieces_twin, .ref q_pieces_firm, .ref q_pieces_first, .ref q_pieces_firmEnds, .ref q_pieces_reached, .ref q_pieces_nextLow, .ref q_pieces_nextHigh])), (q_pieces_from, .inl (ky 0, 768, .inl s_pieces_from)), (q_start, .inl (ky 0, 129, .inl s_start)), (q_walk, .inl (ky 0, 768, .inl s_walk))] H → va_D A [(q_, .inr (7, [.ref q_joints, .ref q_pieces, .int s_total, .ref q_paneOf, .ref q_walk, .ref q_start, .ref q_sum])), (q_joints, .inr (4, [.int s_joints_total, .ref q_joints_x, .ref q_joints_y, .ref q_joints_under])), (q_joints_under, .inl (ky 0, 129, .inl s_joints_under)), (q_joints_x, .inl (ky 0, 129, .inl s_joints_x)), (q_pieces, .inr (8, [.ref q_joints, .int s_pieces_steps, .ref q_pieces_from, .ref q_pieces_to, .ref q_pieces_twin, .ref q_pieces_firm, .ref q_pieces_first, .ref q_pieces_firmEnds, .ref q_pieces_reached, .ref q_pieces_nextLow, .ref q_pieces_nextHigh])), (q_pieces_from, .inl (ky 0, 768, .inl s_pieces_from)), (q_start, .inl (ky 0, 129, .inl s_start)), (q_walk, .inl (ky 0, 768, .inl s_walk))] → va_S A s.heap H locs → lv_has ls 5 [(0, .ref q_), (1, .int a1), (2, .int t.1), (3, .int t.2)] → W p l e rmX7_boxLeft s m args below meth c H locs 0 0 Q (F0 m ([5, 56].getD k 0) ls [])) ?_ _ _ _ _ hi ?_ H locs ls hP hD hS (lv_sub hl [2, 3, 1, 0] rfl)
  · clear h hi hP hD hS hl
    intro t k t' h K
    obtain ⟨v1, v2⟩ := t
    intro H locs ls hP hD hS hl
    replace h := dm2_of h
    replace hP : va_P D vwCl [(q_, .inr (7, [.ref q_joints, .ref q_pieces, .int s_total, .ref q_paneOf, .ref q_walk, .ref q_start, .ref q_sum])), (q_joints, .inr (4, [.int s_joints_total, .ref q_joints_x, .ref q_joints_y, .ref q_joints_under])), (q_joints_under, .inl (ky 0, 129, .inl s_joints_under)), (q_joints_x, .inl (ky 0, 129, .inl s_joints_x)), (q_pieces, .inr (8, [.ref q_joints, .int s_pieces_steps, .ref q_pieces_from, .ref q_pieces_to, .ref q_pieces_twin, .ref q_pieces_firm, .ref q_pieces_first, .ref q_pieces_firmEnds, .ref q_pieces_reached, .ref q_pieces_nextLow, .ref q_pieces_nextHigh])), (q_pieces_from, .inl (ky 0, 768, .inl s_pieces_from)), (q_start, .inl (ky 0, 129, .inl s_start)), (q_walk, .inl (ky 0, 768, .inl s_walk))] H := hP
    replace hD : va_D A [(q_, .inr (7, [.ref q_joints, .ref q_pieces, .int s_total, .ref q_paneOf, .ref q_walk, .ref q_start, .ref q_sum])), (q_joints, .inr (4, [.int s_joints_total, .ref q_joints_x, .ref q_joints_y, .ref q_joints_under])), (q_joints_under, .inl (ky 0, 129, .inl s_joints_under)), (q_joints_x, .inl (ky 0, 129, .inl s_joints_x)), (q_pieces, .inr (8, [.ref q_joints, .int s_pieces_steps, .ref q_pieces_from, .ref q_pieces_to, .ref q_pieces_twin, .ref q_pieces_firm, .ref q_pieces_first, .ref q_pieces_firmEnds, .ref q_pieces_reached, .ref q_pieces_nextLow, .ref q_pieces_nextHigh])), (q_pieces_from, .inl (ky 0, 768, .inl s_pieces_from)), (q_start, .inl (ky 0, 129, .inl s_start)), (q_walk, .inl (ky 0, 768, .inl s_walk))] := hD
    replace hl : lv_has ls 5 [(0, .ref q_), (1, .int a1), (2, .int v1), (3, .int v2)] := hl
    refine lv_iload_n hx hb dX7_boxLeft_5 rfl (lv_at hl 3 rfl) ?_
    refine lv_aload_n hx hb dX7_boxLeft_6 rfl (lv_at hl 0 rfl) ?_
    refine lv_iload_n hx hb dX7_boxLeft_7 rfl (lv_at hl 1 rfl) ?_
    obtain ⟨r3, hc, h⟩ := ob_of h
    replace h := dm1_of h
    refine cv_i (As := [.int a1]) (rest := [.int v2]) (wr := [(q_joints, .inr (4, [.int s_joints_total, .ref q_joints_x, .ref q_joints_y, .ref q_joints_under])), (q_joints_under, .inl (ky 0, 129, .inl s_joints_under)), (q_joints_x, .inl (ky 0, 129, .inl s_joints_x)), (q_pieces, .inr (8, [.ref q_joints, .int s_pieces_steps, .ref q_pieces_from, .ref q_pieces_to, .ref q_pieces_twin, .ref q_pieces_firm, .ref q_pieces_first, .ref q_pieces_firmEnds, .ref q_pieces_reached, .ref q_pieces_nextLow, .ref q_pieces_nextHigh])), (q_pieces_from, .inl (ky 0, 768, .inl s_pieces_from)), (q_walk, .inl (ky 0, 768, .inl s_walk))]) (wn := [(q_, .inr (7, [.ref q_joints, .ref q_pieces, .int s_total, .ref q_paneOf, .ref q_walk, .ref q_start, .ref q_sum])), (q_joints, .inr (4, [.int s_joints_total, .ref q_joints_x, .ref q_joints_y, .ref q_joints_under])), (q_joints_under, .inl (ky 0, 129, .inl s_joints_under)), (q_joints_x, .inl (ky 0, 129, .inl s_joints_x)), (q_pieces, .inr (8, [.ref q_joints, .int s_pieces_steps, .ref q_pieces_from, .ref q_pieces_to, .ref q_pieces_twin, .ref q_pieces_firm, .ref q_pieces_first, .ref q_pieces_firmEnds, .ref q_pieces_reached, .ref q_pieces_nextLow, .ref q_pieces_nextHigh])), (q_pieces_from, .inl (ky 0, 768, .inl s_pieces_from)), (q_start, .inl (ky 0, 129, .inl s_start)), (q_walk, .inl (ky 0, 768, .inl s_walk))]) ⟨hx, hb, hml, hown, hts⟩ (c_X7_corners l D ky q_ q_joints q_pieces q_paneOf q_walk q_start q_sum a1 s_total s_start hc) (cwV 1 hts gX7_boxLeft_X7_corners rfl rfl rfl (by decide +kernel) ⟨Nat.le_of_ble_eq_true rfl, Nat.le_of_ble_eq_true rfl⟩) (rcv hK.1 hP (q0 := 0) rfl rfl) hP hD hK hS hA [0, 6] [1, 2, 3, 4, 5, 7] [6, 0, 1, 2, 3, 4, 7, 5] rfl (by decide +kernel) rfl (by decide +kernel) (by decide +kernel) (by decide +kernel) rfl rfl rfl hl.1 (Nat.le_of_ble_eq_true rfl) dX7_boxLeft_8 ⟨Nat.le_of_ble_eq_true rfl, Nat.le_of_ble_eq_true rfl⟩ (fun H locs hP hD hS => ?_)
    refine lv_icmp_ge (tgt := 56) hx hb dX7_boxLeft_11 (by decide) (fun hc => ?_) (fun hc => ?_)
    · replace h := if_t hc h
      cases h
      exact K _ _ _ hP hD hS (lv_sub hl [0, 1, 2, 3] rfl)
    · replace h := if_f hc h
      refine lv_aload_n hx hb dX7_boxLeft_14 rfl (lv_at hl 0 rfl) ?_
      refine lv_iload_n hx hb dX7_boxLeft_15 rfl (lv_at hl 1 rfl) ?_
      refine lv_iload_n hx hb dX7_boxLeft_16 rfl (lv_at hl 3 rfl) ?_
      obtain ⟨r4, hc, h⟩ := ob_of h
      replace h := dm1_of h
      refine cv_i (As := [.int a1, .int v2]) (rest := []) (wr := [(q_joints, .inr (4, [.int s_joints_total, .ref q_joints_x, .ref q_joints_y, .ref q_joints_under])), (q_joints_under, .inl (ky 0, 129, .inl s_joints_under)), (q_joints_x, .inl (ky 0, 129, .inl s_joints_x))]) (wn := [(q_, .inr (7, [.ref q_joints, .ref q_pieces, .int s_total, .ref q_paneOf, .ref q_walk, .ref q_start, .ref q_sum])), (q_joints, .inr (4, [.int s_joints_total, .ref q_joints_x, .ref q_joints_y, .ref q_joints_under])), (q_joints_under, .inl (ky 0, 129, .inl s_joints_under)), (q_joints_x, .inl (ky 0, 129, .inl s_joints_x)), (q_pieces, .inr (8, [.ref q_joints, .int s_pieces_steps, .ref q_pieces_from, .ref q_pieces_to, .ref q_pieces_twin, .ref q_pieces_firm, .ref q_pieces_first, .ref q_pieces_firmEnds, .ref q_pieces_reached, .ref q_pieces_nextLow, .ref q_pieces_nextHigh])), (q_pieces_from, .inl (ky 0, 768, .inl s_pieces_from)), (q_start, .inl (ky 0, 129, .inl s_start)), (q_walk, .inl (ky 0, 768, .inl s_walk))]) ⟨hx, hb, hml, hown, hts⟩ (c_X7_jointAtCorner l D ky q_ q_joints q_pieces q_paneOf q_walk q_start q_sum q_pieces_from q_pieces_to q_pieces_twin q_pieces_firm q_pieces_first q_pieces_firmEnds q_pieces_reached q_pieces_nextLow q_pieces_nextHigh a1 v2 s_total s_pieces_steps s_pieces_from s_start s_walk hc) (cwV 2 hts gX7_boxLeft_X7_jointAtCorner rfl rfl rfl (by decide +kernel) ⟨Nat.le_of_ble_eq_true rfl, Nat.le_of_ble_eq_true rfl⟩) (rcv hK.1 hP (q0 := 0) rfl rfl) hP hD hK hS hA [0, 4, 5, 6, 7] [1, 2, 3] [3, 0, 1, 2, 4, 5, 6, 7] rfl (by decide +kernel) rfl (by decide +kernel) (by decide +kernel) (by decide +kernel) rfl rfl rfl hl.1 (Nat.le_of_ble_eq_true rfl) dX7_boxLeft_17 ⟨Nat.le_of_ble_eq_true rfl, Nat.le_of_ble_eq_true rfl⟩ (fun H locs hP hD hS => ?_)
      refine lv_istore (lv' := [(4, .int r4), (0, .ref q_), (1, .int a1), (2, .int v1), (3, .int v2)]) hx hb dX7_boxLeft_20 hl (by decide) rfl (fun ls hl => ?_)
      refine lv_iload_n hx hb dX7_boxLeft_22 rfl (lv_at hl 3 rfl) ?_
      refine lv_aload_n hx hb dX7_boxLeft_23 rfl (lv_at hl 1 rfl) ?_
      refine va_get (D := D) (ci := 7) (v := .ref q_joints) (C := RX7) (T := TX7) (N := 7) hx hb hts hi_X7 hown hK.1 hP 0 rfl rfl 0 (by decide) hf_15 (fun _ h9 => h9) rfl dX7_boxLeft_24 ?_
      refine va_get (D := D) (ci := 4) (v := .ref q_joints_x) (C := RX4) (T := TX4) (N := 4) hx hb hts hi_X4 hown hK.1 hP 1 rfl rfl 1 (by decide) hf_64 (fun _ h9 => h9) rfl dX7_boxLeft_27 ?_
      refine lv_iload hx hb dX7_boxLeft_30 (lv_at hl 0 rfl) ?_
      obtain ⟨hg, h⟩ := gd_of h
      refine va_iald hx hb hK.1 hP 3 0 rfl rfl hg dX7_boxLeft_32 ?_
      refine lv_aload_n hx hb dX7_boxLeft_33 rfl (lv_at hl 1 rfl) ?_
      refine va_get (D := D) (ci := 7) (v := .ref q_joints) (C := RX7) (T := TX7) (N := 7) hx hb hts hi_X7 hown hK.1 hP 0 rfl rfl 0 (by decide) hf_15 (fun _ h9 => h9) rfl dX7_boxLeft_34 ?_
      refine va_get (D := D) (ci := 4) (v := .ref q_joints_under) (C := RX4) (T := TX4) (N := 4) hx hb hts hi_X4 hown hK.1 hP 1 rfl rfl 3 (by decide) hf_89 (fun _ h9 => h9) rfl dX7_boxLeft_37 ?_
      refine lv_iload hx hb dX7_boxLeft_40 (lv_at hl 0 rfl) ?_
      obtain ⟨hg, h⟩ := gd_of h
      refine va_iald hx hb hK.1 hP 2 0 rfl rfl hg dX7_boxLeft_42 ?_
      obtain ⟨r5, hc, h⟩ := ob_of h
      replace h := dm1_of h
      refine cs_i (As := [.int (s_joints_x r4.toNatClampNeg), .int (s_joints_under r4.toNatClampNeg)]) (rest := [.int v1]) (wr := [(q_, .inr (7, [.ref q_joints, .ref q_pieces, .int s_total, .ref q_paneOf, .ref q_walk, .ref q_start, .ref q_sum])), (q_joints, .inr (4, [.int s_joints_total, .ref q_joints_x, .ref q_joints_y, .ref q_joints_under])), (q_joints_under, .inl (ky 0, 129, .inl s_joints_under)), (q_joints_x, .inl (ky 0, 129, .inl s_joints_x)), (q_pieces, .inr (8, [.ref q_joints, .int s_pieces_steps, .ref q_pieces_from, .ref q_pieces_to, .ref q_pieces_twin, .ref q_pieces_firm, .ref q_pieces_first, .ref q_pieces_firmEnds, .ref q_pieces_reached, .ref q_pieces_nextLow, .ref q_pieces_nextHigh])), (q_pieces_from, .inl (ky 0, 768, .inl s_pieces_from)), (q_start, .inl (ky 0, 129, .inl s_start)), (q_walk, .inl (ky 0, 768, .inl s_walk))]) (wn := [(q_, .inr (7, [.ref q_joints, .ref q_pieces, .int s_total, .ref q_paneOf, .ref q_walk, .ref q_start, .ref q_sum])), (q_joints, .inr (4, [.int s_joints_total, .ref q_joints_x, .ref q_joints_y, .ref q_joints_under])), (q_joints_under, .inl (ky 0, 129, .inl s_joints_under)), (q_joints_x, .inl (ky 0, 129, .inl s_joints_x)), (q_pieces, .inr (8, [.ref q_joints, .int s_pieces_steps, .ref q_pieces_from, .ref q_pieces_to, .ref q_pieces_twin, .ref q_pieces_firm, .ref q_pieces_first, .ref q_pieces_firmEnds, .ref q_pieces_reached, .ref q_pieces_nextLow, .ref q_pieces_nextHigh])), (q_pieces_from, .inl (ky 0, 768, .inl s_pieces_from)), (q_start, .inl (ky 0, 129, .inl s_start)), (q_walk, .inl (ky 0, 768, .inl s_walk))]) ⟨hx, hb, hml, hown, hts⟩ (c_X7_wholeBelow l D ky (s_joints_x r4.toNatClampNeg) (s_joints_under r4.toNatClampNeg) hc) (va_cwS 2 hts gX7_boxLeft_X7_wholeBelow rfl rfl rfl (by decide +kernel) ⟨Nat.le_of_ble_eq_true rfl, Nat.le_of_ble_eq_true rfl⟩) hP hD hK hS hA [] [0, 1, 2, 3, 4, 5, 6, 7] [0, 1, 2, 3, 4, 5, 6, 7] rfl (by decide +kernel) rfl (by decide +kernel) (by decide +kernel) (by decide +kernel) rfl rfl rfl hl.1 (Nat.le_of_ble_eq_true rfl) dX7_boxLeft_43 ⟨Nat.le_of_ble_eq_true rfl, Nat.le_of_ble_eq_true rfl⟩ (fun H locs hP hD hS => ?_)
      refine va_mmin hx hb (hml.trans hl.1.symm) hown hm_95 hs_mmin hini_Math hco_mmin (Nat.le_of_ble_eq_true rfl) (Nat.le_of_ble_eq_true rfl) (Nat.le_of_ble_eq_true rfl) (Nat.le_of_ble_eq_true rfl) dX7_boxLeft_46 ?_
      refine lv_topi (fun x6 ex6 => ?_)
      replace h := lt_at ex6 h
      refine lv_istore_n (lv' := [(2, .int x6), (4, .int r4), (0, .ref q_), (1, .int a1), (3, .int v2)]) hx hb dX7_boxLeft_49 rfl hl (by decide) rfl (fun ls hl => ?_)
      obtain ⟨x7, ex7⟩ : ∃ z : Int32, z = v2 + 1 := ⟨_, rfl⟩
      replace h := lt_at ex7 h
      refine lv_iinc (v := x7) (lv' := [(3, .int x7), (2, .int x6), (4, .int r4), (0, .ref q_), (1, .int a1)]) hx hb dX7_boxLeft_50 hl (k := 4) rfl (by rw [ex7]; rfl) (by decide) rfl (fun ls hl => ?_)
      refine lv_goto (tgt := 5) hx hb dX7_boxLeft_53 (by decide) ?_
      cases h
      exact K _ _ _ hP hD hS (lv_sub hl [3, 4, 1, 0] rfl)
  · have h1 := ex1_of h
    clear h hi
    rcases h1 with ⟨rfl, h⟩
    obtain ⟨v8, v9⟩ := t
    replace h := dm2_of h
    intro H locs ls hP hD hS hl
    replace hP : va_P D vwCl [(q_, .inr (7, [.ref q_joints, .ref q_pieces, .int s_total, .ref q_paneOf, .ref q_walk, .ref q_start, .ref q_sum])), (q_joints, .inr (4, [.int s_joints_total, .ref q_joints_x, .ref q_joints_y, .ref q_joints_under])), (q_joints_under, .inl (ky 0, 129, .inl s_joints_under)), (q_joints_x, .inl (ky 0, 129, .inl s_joints_x)), (q_pieces, .inr (8, [.ref q_joints, .int s_pieces_steps, .ref q_pieces_from, .ref q_pieces_to, .ref q_pieces_twin, .ref q_pieces_firm, .ref q_pieces_first, .ref q_pieces_firmEnds, .ref q_pieces_reached, .ref q_pieces_nextLow, .ref q_pieces_nextHigh])), (q_pieces_from, .inl (ky 0, 768, .inl s_pieces_from)), (q_start, .inl (ky 0, 129, .inl s_start)), (q_walk, .inl (ky 0, 768, .inl s_walk))] H := hP
    replace hD : va_D A [(q_, .inr (7, [.ref q_joints, .ref q_pieces, .int s_total, .ref q_paneOf, .ref q_walk, .ref q_start, .ref q_sum])), (q_joints, .inr (4, [.int s_joints_total, .ref q_joints_x, .ref q_joints_y, .ref q_joints_under])), (q_joints_under, .inl (ky 0, 129, .inl s_joints_under)), (q_joints_x, .inl (ky 0, 129, .inl s_joints_x)), (q_pieces, .inr (8, [.ref q_joints, .int s_pieces_steps, .ref q_pieces_from, .ref q_pieces_to, .ref q_pieces_twin, .ref q_pieces_firm, .ref q_pieces_first, .ref q_pieces_firmEnds, .ref q_pieces_reached, .ref q_pieces_nextLow, .ref q_pieces_nextHigh])), (q_pieces_from, .inl (ky 0, 768, .inl s_pieces_from)), (q_start, .inl (ky 0, 129, .inl s_start)), (q_walk, .inl (ky 0, 768, .inl s_walk))] := hD
    replace hl : lv_has ls 5 [(0, .ref q_), (1, .int a1), (2, .int v8), (3, .int v9)] := hl
    refine W.eq (g2 := F0 m 56 ls []) rfl ?_
    refine lv_iload_n hx hb dX7_boxLeft_56 rfl (lv_at hl 2 rfl) ?_
    cases h
    exact ret _ _ _ _ dX7_boxLeft_57 hP hD hS

def bX7_boxBottom_5 (a1 : Int32) (s_joints_under : Nat → Int32) (s_joints_y : Nat → Int32) (s_pieces_from : Nat → Int32) (s_start : Nat → Int32) (s_walk : Nat → Int32) (t : Int32 × Int32) : Option (Nat × (Int32 × Int32)) := dm2 t (fun (v1 : Int32) (v2 : Int32) => ob (sX7_corners a1 s_start) (fun o => dm1 o (fun (r3 : Int32) => if r3 ≤ v2 then some (1, (v1, v2)) else ob (sX7_jointAtCorner a1 v2 s_pieces_from s_start s_walk) (fun o => dm1 o (fun (r4 : Int32) => gd (¬ (r4 < 0 ∨ 129 ≤ r4.toNatClampNeg)) (gd (¬ (r4 < 0 ∨ 129 ≤ r4.toNatClampNeg)) (ob (sX7_wholeBelow (s_joints_y r4.toNatClampNeg) (s_joints_under r4.toNatClampNeg)) (fun o => dm1 o (fun (r5 : Int32) => lt (if r5 < v1 then r5 else v1) (fun x6 => lt (v2 + 1) (fun x7 => some (0, (x6, x7)))))))))))))
def sX7_boxBottom (a1 : Int32) (s_joints_under : Nat → Int32) (s_joints_y : Nat → Int32) (s_pieces_from : Nat → Int32) (s_start : Nat → Int32) (s_walk : Nat → Int32) : Option (Int32) := ob (iter (bX7_boxBottom_5 a1 s_joints_under s_joints_y s_pieces_from s_start s_walk) FU ((12 : Int32), (0 : Int32))) (fun kt => ex1 kt (fun t => dm2 t (fun (v8 : Int32) (v9 : Int32) => some v8)))
abbrev rmX7_boxBottom : Room := { frames := 1, cells := 0, slots := 0, locals := 40 }
set_option maxHeartbeats 4000000 in
set_option maxRecDepth 100000 in
theorem c_X7_boxBottom (l : Launch) (D : va_G) (ky : Nat → ClassId) (q_ q_joints q_pieces q_paneOf q_walk q_start q_sum q_joints_x q_joints_y q_joints_under q_pieces_from q_pieces_to q_pieces_twin q_pieces_firm q_pieces_first q_pieces_firmEnds q_pieces_reached q_pieces_nextLow q_pieces_nextHigh : Nat) (a1 : Int32) (s_total : Int32) (s_joints_total : Int32) (s_joints_under : Nat → Int32) (s_joints_y : Nat → Int32) (s_pieces_steps : Int32) (s_pieces_from : Nat → Int32) (s_start : Nat → Int32) (s_walk : Nat → Int32) {o_r : Int32} (h : sX7_boxBottom a1 s_joints_under s_joints_y s_pieces_from s_start s_walk = some o_r) : MtI l D ky yX7_boxBottom wsX7_boxBottom rmX7_boxBottom [.ref q_, .int a1] [(q_, .inr (7, [.ref q_joints, .ref q_pieces, .int s_total, .ref q_paneOf, .ref q_walk, .ref q_start, .ref q_sum])), (q_joints, .inr (4, [.int s_joints_total, .ref q_joints_x, .ref q_joints_y, .ref q_joints_under])), (q_joints_under, .inl (ky 0, 129, .inl s_joints_under)), (q_joints_y, .inl (ky 0, 129, .inl s_joints_y)), (q_pieces, .inr (8, [.ref q_joints, .int s_pieces_steps, .ref q_pieces_from, .ref q_pieces_to, .ref q_pieces_twin, .ref q_pieces_firm, .ref q_pieces_first, .ref q_pieces_firmEnds, .ref q_pieces_reached, .ref q_pieces_nextLow, .ref q_pieces_nextHigh])), (q_pieces_from, .inl (ky 0, 768, .inl s_pieces_from)), (q_start, .inl (ky 0, 129, .inl s_start)), (q_walk, .inl (ky 0, 768, .inl s_walk))] [(q_, .inr (7, [.ref q_joints, .ref q_pieces, .int s_total, .ref q_paneOf, .ref q_walk, .ref q_start, .ref q_sum])), (q_joints, .inr (4, [.int s_joints_total, .ref q_joints_x, .ref q_joints_y, .ref q_joints_under])), (q_joints_under, .inl (ky 0, 129, .inl s_joints_under)), (q_joints_y, .inl (ky 0, 129, .inl s_joints_y)), (q_pieces, .inr (8, [.ref q_joints, .int s_pieces_steps, .ref q_pieces_from, .ref q_pieces_to, .ref q_pieces_twin, .ref q_pieces_firm, .ref q_pieces_first, .ref q_pieces_firmEnds, .ref q_pieces_reached, .ref q_pieces_nextLow, .ref q_pieces_nextHigh])), (q_pieces_from, .inl (ky 0, 768, .inl s_pieces_from)), (q_start, .inl (ky 0, 129, .inl s_start)), (q_walk, .inl (ky 0, 768, .inl s_walk))] o_r 0 0 := by
  refine MtI.of (cc := cX7_boxBottom) (maxL := 5) (by decide +kernel) rfl (Nat.le_of_ble_eq_true rfl) ?_
  intro p e R s m args below meth c A Q ls hR hx hb hts hown hnm hml hP hK hD hA ret hl
  subst hR
  obtain ⟨H, hH⟩ : ∃ H, H = s.heap := ⟨_, rfl⟩
  obtain ⟨locs, hlocs⟩ : ∃ locs : List Loc, locs = [] := ⟨_, rfl⟩
  have hS : va_S A s.heap H locs := by rw [hH, hlocs]; exact va_S.rf
  rw [← hH] at hP
  suffices hgo : W p l e rmX7_boxBottom s m args below meth c H locs 0 0 Q (F0 m 0 ls []) by rw [hH, hlocs] at hgo; exact hgo
  clear hH hlocs
  replace hl : lv_has ls 5 [(0, .ref q_), (1, .int a1)] := hl
  replace hown : s.vm.findClass RX7 = some m.cls := hown
  have hi_X7 : ∀ w ∈ u_ws RX7 TX7 7, w ∈ wsX7_boxBottom := fun _ h9 => List.mem_cons_of_mem _ (List.mem_append_left _ (List.mem_append_left _ (List.mem_append_right _ h9)))
  have hf_15 := hts (.fieldLink RX7 15 "GlazierBench$Panes" "joints" "LGlazierBench$Joints;") (by decide +kernel)
  have hi_X4 : ∀ w ∈ u_ws RX4 TX4 4, w ∈ wsX7_boxBottom := fun _ h9 => List.mem_cons_of_mem _ (List.mem_append_left _ (List.mem_append_right _ h9))
  have hf_100 := hts (.fieldLink RX7 100 "GlazierBench$Joints" "y" "[I") (by decide +kernel)
  have hf_89 := hts (.fieldLink RX7 89 "GlazierBench$Joints" "under" "[I") (by decide +kernel)
  have hm_95 := hts (.methodLink RX7 95 Lib.Math.min.name) (by decide +kernel)
  have hs_mmin := hts (.static Lib.Math.min.name) (by decide +kernel)
  have hini_Math := hts (.initialized "java/lang/Math") (by decide +kernel)
  have hco_mmin := hts (.code Lib.Math.min.name Lib.Math.min.code 2 (some .int)) (by decide +kernel)
  unfold sX7_boxBottom at h
  refine lv_bipush (v := 12) hx hb dX7_boxBottom_0 (by decide) ?_
  refine lv_istore_n (lv' := [(2, .int (12 : Int32)), (0, .ref q_), (1, .int a1)]) hx hb dX7_boxBottom_2 rfl hl (by decide) rfl (fun ls hl => ?_)
  refine lv_iconst (v := 0) hx hb dX7_boxBottom_3 (by decide) ?_
  refine lv_istore_n (lv' := [(3, .int (0 : Int32)), (2, .int (12 : Int32)), (0, .ref q_), (1, .int a1)]) hx hb dX7_boxBottom_4 rfl hl (by decide) rfl (fun ls hl => ?_)
  obtain ⟨⟨k, t⟩, hi, h⟩ := ob_of h
  refine iter_rule (P := fun (k : Nat) (t : Int32 × Int32) => ∀ (H : Heap) (locs : List Loc) (ls : Array Slot), va_P D vwCl [(q_, .inr (7, [.ref q_joints, .ref q_pieces, .int s_total, .ref q_paneOf, .ref q_walk, .ref q_start, .ref q_sum])), (q_joints, .inr (4, [.int s_joints_total, .ref q_joints_x, .ref q_joints_y, .ref q_joints_under])), (q_joints_under, .inl (ky 0, 129, .inl s_joints_under)), (q_joints_y, .inl (ky 0, 129, .inl s_joints_y)), (q_pieces, .inr (8, [.ref q_joints, .int s_pieces_steps, .ref q_pieces_from, .ref q_pieces_to, .ref q_pieces_twin, .ref q_pieces_firm, .ref q_pieces_first, .ref q_pieces_firmEnds, .ref q_pieces_reached, .ref q_pieces_nextLow, .ref q_pieces_nextHigh])), (q_pieces_from, .inl (ky 0, 768, .inl s_pieces_from)), (q_start, .inl (ky 0, 129, .inl s_start)), (q_walk, .inl (ky 0, 768, .inl s_walk))] H → va_D A [(q_, .inr (7, [.ref q_joints, .ref q_pieces, .int s_total, .ref q_paneOf, .ref q_walk, .ref q_start, .ref q_sum])), (q_joints, .inr (4, [.int s_joints_total, .ref q_joints_x, .ref q_joints_y, .ref q_joints_under])), (q_joints_under, .inl (ky 0, 129, .inl s_joints_under)), (q_joints_y, .inl (ky 0, 129, .inl s_joints_y)), (q_pieces, .inr (8, [.ref q_joints, .int s_pieces_steps, .ref q_pieces_from, .ref q_pieces_to, .ref q_pieces_twin, .ref q_pieces_firm, .ref q_pieces_first, .ref q_pieces_firmEnds, .ref q_pieces_reached, .ref q_pieces_nextLow, .ref q_pieces_nextHigh])), (q_pieces_from, .inl (ky 0, 768, .inl s_pieces_from)), (q_start, .inl (ky 0, 129, .inl s_start)), (q_walk, .inl (ky 0, 768, .inl s_walk))] → va_S A s.heap H locs → lv_has ls 5 [(0, .ref q_), (1, .int a1), (2, .int t.1), (3, .int t.2)] → W p l e rmX7_boxBottom s m args below meth c H locs 0 0 Q (F0 m ([5, 56].getD k 0) ls [])) ?_ _ _ _ _ hi ?_ H locs ls hP hD hS (lv_sub hl [2, 3, 1, 0] rfl)
  · clear h hi hP hD hS hl
    intro t k t' h K
    obtain ⟨v1, v2⟩ := t
    intro H locs ls hP hD hS hl
    replace h := dm2_of h
    replace hP : va_P D vwCl [(q_, .inr (7, [.ref q_joints, .ref q_pieces, .int s_total, .ref q_paneOf, .ref q_walk, .ref q_start, .ref q_sum])), (q_joints, .inr (4, [.int s_joints_total, .ref q_joints_x, .ref q_joints_y, .ref q_joints_under])), (q_joints_under, .inl (ky 0, 129, .inl s_joints_under)), (q_joints_y, .inl (ky 0, 129, .inl s_joints_y)), (q_pieces, .inr (8, [.ref q_joints, .int s_pieces_steps, .ref q_pieces_from, .ref q_pieces_to, .ref q_pieces_twin, .ref q_pieces_firm, .ref q_pieces_first, .ref q_pieces_firmEnds, .ref q_pieces_reached, .ref q_pieces_nextLow, .ref q_pieces_nextHigh])), (q_pieces_from, .inl (ky 0, 768, .inl s_pieces_from)), (q_start, .inl (ky 0, 129, .inl s_start)), (q_walk, .inl (ky 0, 768, .inl s_walk))] H := hP
    replace hD : va_D A [(q_, .inr (7, [.ref q_joints, .ref q_pieces, .int s_total, .ref q_paneOf, .ref q_walk, .ref q_start, .ref q_sum])), (q_joints, .inr (4, [.int s_joints_total, .ref q_joints_x, .ref q_joints_y, .ref q_joints_under])), (q_joints_under, .inl (ky 0, 129, .inl s_joints_under)), (q_joints_y, .inl (ky 0, 129, .inl s_joints_y)), (q_pieces, .inr (8, [.ref q_joints, .int s_pieces_steps, .ref q_pieces_from, .ref q_pieces_to, .ref q_pieces_twin, .ref q_pieces_firm, .ref q_pieces_first, .ref q_pieces_firmEnds, .ref q_pieces_reached, .ref q_pieces_nextLow, .ref q_pieces_nextHigh])), (q_pieces_from, .inl (ky 0, 768, .inl s_pieces_from)), (q_start, .inl (ky 0, 129, .inl s_start)), (q_walk, .inl (ky 0, 768, .inl s_walk))] := hD
    replace hl : lv_has ls 5 [(0, .ref q_), (1, .int a1), (2, .int v1), (3, .int v2)] := hl
    refine lv_iload_n hx hb dX7_boxBottom_5 rfl (lv_at hl 3 rfl) ?_
    refine lv_aload_n hx hb dX7_boxBottom_6 rfl (lv_at hl 0 rfl) ?_
    refine lv_iload_n hx hb dX7_boxBottom_7 rfl (lv_at hl 1 rfl) ?_
    obtain ⟨r3, hc, h⟩ := ob_of h
    replace h := dm1_of h
    refine cv_i (As := [.int a1]) (rest := [.int v2]) (wr := [(q_joints, .inr (4, [.int s_joints_total, .ref q_joints_x, .ref q_joints_y, .ref q_joints_under])), (q_joints_under, .inl (ky 0, 129, .inl s_joints_under)), (q_joints_y, .inl (ky 0, 129, .inl s_joints_y)), (q_pieces, .inr (8, [.ref q_joints, .int s_pieces_steps, .ref q_pieces_from, .ref q_pieces_to, .ref q_pieces_twin, .ref q_pieces_firm, .ref q_pieces_first, .ref q_pieces_firmEnds, .ref q_pieces_reached, .ref q_pieces_nextLow, .ref q_pieces_nextHigh])), (q_pieces_from, .inl (ky 0, 768, .inl s_pieces_from)), (q_walk, .inl (ky 0, 768, .inl s_walk))]) (wn := [(q_, .inr (7, [.ref q_joints, .ref q_pieces, .int s_total, .ref q_paneOf, .ref q_walk, .ref q_start, .ref q_sum])), (q_joints, .inr (4, [.int s_joints_total, .ref q_joints_x, .ref q_joints_y, .ref q_joints_under])), (q_joints_under, .inl (ky 0, 129, .inl s_joints_under)), (q_joints_y, .inl (ky 0, 129, .inl s_joints_y)), (q_pieces, .inr (8, [.ref q_joints, .int s_pieces_steps, .ref q_pieces_from, .ref q_pieces_to, .ref q_pieces_twin, .ref q_pieces_firm, .ref q_pieces_first, .ref q_pieces_firmEnds, .ref q_pieces_reached, .ref q_pieces_nextLow, .ref q_pieces_nextHigh])), (q_pieces_from, .inl (ky 0, 768, .inl s_pieces_from)), (q_start, .inl (ky 0, 129, .inl s_start)), (q_walk, .inl (ky 0, 768, .inl s_walk))]) ⟨hx, hb, hml, hown, hts⟩ (c_X7_corners l D ky q_ q_joints q_pieces q_paneOf q_walk q_start q_sum a1 s_total s_start hc) (cwV 1 hts gX7_boxBottom_X7_corners rfl rfl rfl (by decide +kernel) ⟨Nat.le_of_ble_eq_true rfl, Nat.le_of_ble_eq_true rfl⟩) (rcv hK.1 hP (q0 := 0) rfl rfl) hP hD hK hS hA [0, 6] [1, 2, 3, 4, 5, 7] [6, 0, 1, 2, 3, 4, 7, 5] rfl (by decide +kernel) rfl (by decide +kernel) (by decide +kernel) (by decide +kernel) rfl rfl rfl hl.1 (Nat.le_of_ble_eq_true rfl) dX7_boxBottom_8 ⟨Nat.le_of_ble_eq_true rfl, Nat.le_of_ble_eq_true rfl⟩ (fun H locs hP hD hS => ?_)
    refine lv_icmp_ge (tgt := 56) hx hb dX7_boxBottom_11 (by decide) (fun hc => ?_) (fun hc => ?_)
    · replace h := if_t hc h
      cases h
      exact K _ _ _ hP hD hS (lv_sub hl [0, 1, 2, 3] rfl)
    · replace h := if_f hc h
      refine lv_aload_n hx hb dX7_boxBottom_14 rfl (lv_at hl 0 rfl) ?_
      refine lv_iload_n hx hb dX7_boxBottom_15 rfl (lv_at hl 1 rfl) ?_
      refine lv_iload_n hx hb dX7_boxBottom_16 rfl (lv_at hl 3 rfl) ?_
      obtain ⟨r4, hc, h⟩ := ob_of h
      replace h := dm1_of h
      refine cv_i (As := [.int a1, .int v2]) (rest := []) (wr := [(q_joints, .inr (4, [.int s_joints_total, .ref q_joints_x, .ref q_joints_y, .ref q_joints_under])), (q_joints_under, .inl (ky 0, 129, .inl s_joints_under)), (q_joints_y, .inl (ky 0, 129, .inl s_joints_y))]) (wn := [(q_, .inr (7, [.ref q_joints, .ref q_pieces, .int s_total, .ref q_paneOf, .ref q_walk, .ref q_start, .ref q_sum])), (q_joints, .inr (4, [.int s_joints_total, .ref q_joints_x, .ref q_joints_y, .ref q_joints_under])), (q_joints_under, .inl (ky 0, 129, .inl s_joints_under)), (q_joints_y, .inl (ky 0, 129, .inl s_joints_y)), (q_pieces, .inr (8, [.ref q_joints, .int s_pieces_steps, .ref q_pieces_from, .ref q_pieces_to, .ref q_pieces_twin, .ref q_pieces_firm, .ref q_pieces_first, .ref q_pieces_firmEnds, .ref q_pieces_reached, .ref q_pieces_nextLow, .ref q_pieces_nextHigh])), (q_pieces_from, .inl (ky 0, 768, .inl s_pieces_from)), (q_start, .inl (ky 0, 129, .inl s_start)), (q_walk, .inl (ky 0, 768, .inl s_walk))]) ⟨hx, hb, hml, hown, hts⟩ (c_X7_jointAtCorner l D ky q_ q_joints q_pieces q_paneOf q_walk q_start q_sum q_pieces_from q_pieces_to q_pieces_twin q_pieces_firm q_pieces_first q_pieces_firmEnds q_pieces_reached q_pieces_nextLow q_pieces_nextHigh a1 v2 s_total s_pieces_steps s_pieces_from s_start s_walk hc) (cwV 2 hts gX7_boxBottom_X7_jointAtCorner rfl rfl rfl (by decide +kernel) ⟨Nat.le_of_ble_eq_true rfl, Nat.le_of_ble_eq_true rfl⟩) (rcv hK.1 hP (q0 := 0) rfl rfl) hP hD hK hS hA [0, 4, 5, 6, 7] [1, 2, 3] [3, 0, 1, 2, 4, 5, 6, 7] rfl (by decide +kernel) rfl (by decide +kernel) (by decide +kernel) (by decide +kernel) rfl rfl rfl hl.1 (Nat.le_of_ble_eq_true rfl) dX7_boxBottom_17 ⟨Nat.le_of_ble_eq_true rfl, Nat.le_of_ble_eq_true rfl⟩ (fun H locs hP hD hS => ?_)
      refine lv_istore (lv' := [(4, .int r4), (0, .ref q_), (1, .int a1), (2, .int v1), (3, .int v2)]) hx hb dX7_boxBottom_20 hl (by decide) rfl (fun ls hl => ?_)
      refine lv_iload_n hx hb dX7_boxBottom_22 rfl (lv_at hl 3 rfl) ?_
      refine lv_aload_n hx hb dX7_boxBottom_23 rfl (lv_at hl 1 rfl) ?_
      refine va_get (D := D) (ci := 7) (v := .ref q_joints) (C := RX7) (T := TX7) (N := 7) hx hb hts hi_X7 hown hK.1 hP 0 rfl rfl 0 (by decide) hf_15 (fun _ h9 => h9) rfl dX7_boxBottom_24 ?_
      refine va_get (D := D) (ci := 4) (v := .ref q_joints_y) (C := RX4) (T := TX4) (N := 4) hx hb hts hi_X4 hown hK.1 hP 1 rfl rfl 2 (by decide) hf_100 (fun _ h9 => h9) rfl dX7_boxBottom_27 ?_
      refine lv_iload hx hb dX7_boxBottom_30 (lv_at hl 0 rfl) ?_
      obtain ⟨hg, h⟩ := gd_of h
      refine va_iald hx hb hK.1 hP 3 0 rfl rfl hg dX7_boxBottom_32 ?_
      refine lv_aload_n hx hb dX7_boxBottom_33 rfl (lv_at hl 1 rfl) ?_
      refine va_get (D := D) (ci := 7) (v := .ref q_joints) (C := RX7) (T := TX7) (N := 7) hx hb hts hi_X7 hown hK.1 hP 0 rfl rfl 0 (by decide) hf_15 (fun _ h9 => h9) rfl dX7_boxBottom_34 ?_
      refine va_get (D := D) (ci := 4) (v := .ref q_joints_under) (C := RX4) (T := TX4) (N := 4) hx hb hts hi_X4 hown hK.1 hP 1 rfl rfl 3 (by decide) hf_89 (fun _ h9 => h9) rfl dX7_boxBottom_37 ?_
      refine lv_iload hx hb dX7_boxBottom_40 (lv_at hl 0 rfl) ?_
      obtain ⟨hg, h⟩ := gd_of h
      refine va_iald hx hb hK.1 hP 2 0 rfl rfl hg dX7_boxBottom_42 ?_
      obtain ⟨r5, hc, h⟩ := ob_of h
      replace h := dm1_of h
      refine cs_i (As := [.int (s_joints_y r4.toNatClampNeg), .int (s_joints_under r4.toNatClampNeg)]) (rest := [.int v1]) (wr := [(q_, .inr (7, [.ref q_joints, .ref q_pieces, .int s_total, .ref q_paneOf, .ref q_walk, .ref q_start, .ref q_sum])), (q_joints, .inr (4, [.int s_joints_total, .ref q_joints_x, .ref q_joints_y, .ref q_joints_under])), (q_joints_under, .inl (ky 0, 129, .inl s_joints_under)), (q_joints_y, .inl (ky 0, 129, .inl s_joints_y)), (q_pieces, .inr (8, [.ref q_joints, .int s_pieces_steps, .ref q_pieces_from, .ref q_pieces_to, .ref q_pieces_twin, .ref q_pieces_firm, .ref q_pieces_first, .ref q_pieces_firmEnds, .ref q_pieces_reached, .ref q_pieces_nextLow, .ref q_pieces_nextHigh])), (q_pieces_from, .inl (ky 0, 768, .inl s_pieces_from)), (q_start, .inl (ky 0, 129, .inl s_start)), (q_walk, .inl (ky 0, 768, .inl s_walk))]) (wn := [(q_, .inr (7, [.ref q_joints, .ref q_pieces, .int s_total, .ref q_paneOf, .ref q_walk, .ref q_start, .ref q_sum])), (q_joints, .inr (4, [.int s_joints_total, .ref q_joints_x, .ref q_joints_y, .ref q_joints_under])), (q_joints_under, .inl (ky 0, 129, .inl s_joints_under)), (q_joints_y, .inl (ky 0, 129, .inl s_joints_y)), (q_pieces, .inr (8, [.ref q_joints, .int s_pieces_steps, .ref q_pieces_from, .ref q_pieces_to, .ref q_pieces_twin, .ref q_pieces_firm, .ref q_pieces_first, .ref q_pieces_firmEnds, .ref q_pieces_reached, .ref q_pieces_nextLow, .ref q_pieces_nextHigh])), (q_pieces_from, .inl (ky 0, 768, .inl s_pieces_from)), (q_start, .inl (ky 0, 129, .inl s_start)), (q_walk, .inl (ky 0, 768, .inl s_walk))]) ⟨hx, hb, hml, hown, hts⟩ (c_X7_wholeBelow l D ky (s_joints_y r4.toNatClampNeg) (s_joints_under r4.toNatClampNeg) hc) (va_cwS 2 hts gX7_boxBottom_X7_wholeBelow rfl rfl rfl (by decide +kernel) ⟨Nat.le_of_ble_eq_true rfl, Nat.le_of_ble_eq_true rfl⟩) hP hD hK hS hA [] [0, 1, 2, 3, 4, 5, 6, 7] [0, 1, 2, 3, 4, 5, 6, 7] rfl (by decide +kernel) rfl (by decide +kernel) (by decide +kernel) (by decide +kernel) rfl rfl rfl hl.1 (Nat.le_of_ble_eq_true rfl) dX7_boxBottom_43 ⟨Nat.le_of_ble_eq_true rfl, Nat.le_of_ble_eq_true rfl⟩ (fun H locs hP hD hS => ?_)
      refine va_mmin hx hb (hml.trans hl.1.symm) hown hm_95 hs_mmin hini_Math hco_mmin (Nat.le_of_ble_eq_true rfl) (Nat.le_of_ble_eq_true rfl) (Nat.le_of_ble_eq_true rfl) (Nat.le_of_ble_eq_true rfl) dX7_boxBottom_46 ?_
      refine lv_topi (fun x6 ex6 => ?_)
      replace h := lt_at ex6 h
      refine lv_istore_n (lv' := [(2, .int x6), (4, .int r4), (0, .ref q_), (1, .int a1), (3, .int v2)]) hx hb dX7_boxBottom_49 rfl hl (by decide) rfl (fun ls hl => ?_)
      obtain ⟨x7, ex7⟩ : ∃ z : Int32, z = v2 + 1 := ⟨_, rfl⟩
      replace h := lt_at ex7 h
      refine lv_iinc (v := x7) (lv' := [(3, .int x7), (2, .int x6), (4, .int r4), (0, .ref q_), (1, .int a1)]) hx hb dX7_boxBottom_50 hl (k := 4) rfl (by rw [ex7]; rfl) (by decide) rfl (fun ls hl => ?_)
      refine lv_goto (tgt := 5) hx hb dX7_boxBottom_53 (by decide) ?_
      cases h
      exact K _ _ _ hP hD hS (lv_sub hl [3, 4, 1, 0] rfl)
  · have h1 := ex1_of h
    clear h hi
    rcases h1 with ⟨rfl, h⟩
    obtain ⟨v8, v9⟩ := t
    replace h := dm2_of h
    intro H locs ls hP hD hS hl
    replace hP : va_P D vwCl [(q_, .inr (7, [.ref q_joints, .ref q_pieces, .int s_total, .ref q_paneOf, .ref q_walk, .ref q_start, .ref q_sum])), (q_joints, .inr (4, [.int s_joints_total, .ref q_joints_x, .ref q_joints_y, .ref q_joints_under])), (q_joints_under, .inl (ky 0, 129, .inl s_joints_under)), (q_joints_y, .inl (ky 0, 129, .inl s_joints_y)), (q_pieces, .inr (8, [.ref q_joints, .int s_pieces_steps, .ref q_pieces_from, .ref q_pieces_to, .ref q_pieces_twin, .ref q_pieces_firm, .ref q_pieces_first, .ref q_pieces_firmEnds, .ref q_pieces_reached, .ref q_pieces_nextLow, .ref q_pieces_nextHigh])), (q_pieces_from, .inl (ky 0, 768, .inl s_pieces_from)), (q_start, .inl (ky 0, 129, .inl s_start)), (q_walk, .inl (ky 0, 768, .inl s_walk))] H := hP
    replace hD : va_D A [(q_, .inr (7, [.ref q_joints, .ref q_pieces, .int s_total, .ref q_paneOf, .ref q_walk, .ref q_start, .ref q_sum])), (q_joints, .inr (4, [.int s_joints_total, .ref q_joints_x, .ref q_joints_y, .ref q_joints_under])), (q_joints_under, .inl (ky 0, 129, .inl s_joints_under)), (q_joints_y, .inl (ky 0, 129, .inl s_joints_y)), (q_pieces, .inr (8, [.ref q_joints, .int s_pieces_steps, .ref q_pieces_from, .ref q_pieces_to, .ref q_pieces_twin, .ref q_pieces_firm, .ref q_pieces_first, .ref q_pieces_firmEnds, .ref q_pieces_reached, .ref q_pieces_nextLow, .ref q_pieces_nextHigh])), (q_pieces_from, .inl (ky 0, 768, .inl s_pieces_from)), (q_start, .inl (ky 0, 129, .inl s_start)), (q_walk, .inl (ky 0, 768, .inl s_walk))] := hD
    replace hl : lv_has ls 5 [(0, .ref q_), (1, .int a1), (2, .int v8), (3, .int v9)] := hl
    refine W.eq (g2 := F0 m 56 ls []) rfl ?_
    refine lv_iload_n hx hb dX7_boxBottom_56 rfl (lv_at hl 2 rfl) ?_
    cases h
    exact ret _ _ _ _ dX7_boxBottom_57 hP hD hS

def sX7_wholeAbove (a0 : Int32) (a1 : Int32)  : Option (Int32) := if (1 : Int32) ≤ a1 then gd (¬ a1 = 0) (some (((a0 + a1) - (1 : Int32)) / a1)) else some a0
abbrev rmX7_wholeAbove : Room := { frames := 0, cells := 0, slots := 0, locals := 0 }
set_option maxHeartbeats 4000000 in
set_option maxRecDepth 100000 in
theorem c_X7_wholeAbove (l : Launch) (D : va_G) (ky : Nat → ClassId) (a0 : Int32) (a1 : Int32) {o_r : Int32} (h : sX7_wholeAbove a0 a1 = some o_r) : MtI l D ky yX7_wholeAbove wsX7_wholeAbove rmX7_wholeAbove [.int a0, .int a1] [] [] o_r 0 0 := by
  refine MtI.of (cc := cX7_wholeAbove) (maxL := 2) (by decide +kernel) rfl (Nat.le_of_ble_eq_true rfl) ?_
  intro p e R s m args below meth c A Q ls hR hx hb hts hown hnm hml hP hK hD hA ret hl
  subst hR
  obtain ⟨H, hH⟩ : ∃ H, H = s.heap := ⟨_, rfl⟩
  obtain ⟨locs, hlocs⟩ : ∃ locs : List Loc, locs = [] := ⟨_, rfl⟩
  have hS : va_S A s.heap H locs := by rw [hH, hlocs]; exact va_S.rf
  rw [← hH] at hP
  suffices hgo : W p l e rmX7_wholeAbove s m args below meth c H locs 0 0 Q (F0 m 0 ls []) by rw [hH, hlocs] at hgo; exact hgo
  clear hH hlocs
  replace hl : lv_has ls 2 [(0, .int a0), (1, .int a1)] := hl
  replace hown : s.vm.findClass RX7 = some m.cls := hown
  unfold sX7_wholeAbove at h
  refine lv_iload_n hx hb dX7_wholeAbove_0 rfl (lv_at hl 1 rfl) ?_
  refine lv_iconst (v := 1) hx hb dX7_wholeAbove_1 (by decide) ?_
  refine lv_icmp_ge (tgt := 9) hx hb dX7_wholeAbove_2 (by decide) (fun hc => ?_) (fun hc => ?_)
  · replace h := if_t hc h
    refine lv_iload_n hx hb dX7_wholeAbove_9 rfl (lv_at hl 0 rfl) ?_
    refine lv_iload_n hx hb dX7_wholeAbove_10 rfl (lv_at hl 1 rfl) ?_
    refine lv_iadd hx hb dX7_wholeAbove_11 ?_
    refine lv_iconst (v := 1) hx hb dX7_wholeAbove_12 (by decide) ?_
    refine lv_isub hx hb dX7_wholeAbove_13 ?_
    refine lv_iload_n hx hb dX7_wholeAbove_14 rfl (lv_at hl 1 rfl) ?_
    obtain ⟨hg, h⟩ := gd_of h
    refine lv_idiv hx hb dX7_wholeAbove_15 hg ?_
    cases h
    exact ret _ _ _ _ dX7_wholeAbove_16 hP hD hS
  · replace h := if_f hc h
    refine lv_iload_n hx hb dX7_wholeAbove_5 rfl (lv_at hl 0 rfl) ?_
    refine lv_goto (tgt := 16) hx hb dX7_wholeAbove_6 (by decide) ?_
    cases h
    exact ret _ _ _ _ dX7_wholeAbove_16 hP hD hS

def bX7_boxWidth_4 (a1 : Int32) (s_joints_under : Nat → Int32) (s_joints_x : Nat → Int32) (s_pieces_from : Nat → Int32) (s_start : Nat → Int32) (s_walk : Nat → Int32) (t : Int32 × Int32) : Option (Nat × (Int32 × Int32)) := dm2 t (fun (v1 : Int32) (v2 : Int32) => ob (sX7_corners a1 s_start) (fun o => dm1 o (fun (r3 : Int32) => if r3 ≤ v2 then some (1, (v1, v2)) else ob (sX7_jointAtCorner a1 v2 s_pieces_from s_start s_walk) (fun o => dm1 o (fun (r4 : Int32) => gd (¬ (r4 < 0 ∨ 129 ≤ r4.toNatClampNeg)) (gd (¬ (r4 < 0 ∨ 129 ≤ r4.toNatClampNeg)) (ob (sX7_wholeAbove (s_joints_x r4.toNatClampNeg) (s_joints_under r4.toNatClampNeg)) (fun o => dm1 o (fun (r5 : Int32) => lt (if v1 < r5 then r5 else v1) (fun x6 => lt (v2 + 1) (fun x7 => some (0, (x6, x7)))))))))))))
def sX7_boxWidth (a1 : Int32) (s_joints_under : Nat → Int32) (s_joints_x : Nat → Int32) (s_pieces_from : Nat → Int32) (s_start : Nat → Int32) (s_walk : Nat → Int32) : Option (Int32) := ob (iter (bX7_boxWidth_4 a1 s_joints_under s_joints_x s_pieces_from s_start s_walk) FU ((0 : Int32), (0 : Int32))) (fun kt => ex1 kt (fun t => dm2 t (fun (v8 : Int32) (v9 : Int32) => ob (sX7_boxLeft a1 s_joints_under s_joints_x s_pieces_from s_start s_walk) (fun o => dm1 o (fun (r10 : Int32) => some (v8 - r10))))))
abbrev rmX7_boxWidth : Room := { frames := 2, cells := 0, slots := 0, locals := 64 }
set_option maxHeartbeats 4000000 in
set_option maxRecDepth 100000 in
theorem c_X7_boxWidth (l : Launch) (D : va_G) (ky : Nat → ClassId) (q_ q_joints q_pieces q_paneOf q_walk q_start q_sum q_joints_x q_joints_y q_joints_under q_pieces_from q_pieces_to q_pieces_twin q_pieces_firm q_pieces_first q_pieces_firmEnds q_pieces_reached q_pieces_nextLow q_pieces_nextHigh : Nat) (a1 : Int32) (s_total : Int32) (s_joints_total : Int32) (s_joints_under : Nat → Int32) (s_joints_x : Nat → Int32) (s_pieces_steps : Int32) (s_pieces_from : Nat → Int32) (s_start : Nat → Int32) (s_walk : Nat → Int32) {o_r : Int32} (h : sX7_boxWidth a1 s_joints_under s_joints_x s_pieces_from s_start s_walk = some o_r) : MtI l D ky yX7_boxWidth wsX7_boxWidth rmX7_boxWidth [.ref q_, .int a1] [(q_, .inr (7, [.ref q_joints, .ref q_pieces, .int s_total, .ref q_paneOf, .ref q_walk, .ref q_start, .ref q_sum])), (q_joints, .inr (4, [.int s_joints_total, .ref q_joints_x, .ref q_joints_y, .ref q_joints_under])), (q_joints_under, .inl (ky 0, 129, .inl s_joints_under)), (q_joints_x, .inl (ky 0, 129, .inl s_joints_x)), (q_pieces, .inr (8, [.ref q_joints, .int s_pieces_steps, .ref q_pieces_from, .ref q_pieces_to, .ref q_pieces_twin, .ref q_pieces_firm, .ref q_pieces_first, .ref q_pieces_firmEnds, .ref q_pieces_reached, .ref q_pieces_nextLow, .ref q_pieces_nextHigh])), (q_pieces_from, .inl (ky 0, 768, .inl s_pieces_from)), (q_start, .inl (ky 0, 129, .inl s_start)), (q_walk, .inl (ky 0, 768, .inl s_walk))] [(q_, .inr (7, [.ref q_joints, .ref q_pieces, .int s_total, .ref q_paneOf, .ref q_walk, .ref q_start, .ref q_sum])), (q_joints, .inr (4, [.int s_joints_total, .ref q_joints_x, .ref q_joints_y, .ref q_joints_under])), (q_joints_under, .inl (ky 0, 129, .inl s_joints_under)), (q_joints_x, .inl (ky 0, 129, .inl s_joints_x)), (q_pieces, .inr (8, [.ref q_joints, .int s_pieces_steps, .ref q_pieces_from, .ref q_pieces_to, .ref q_pieces_twin, .ref q_pieces_firm, .ref q_pieces_first, .ref q_pieces_firmEnds, .ref q_pieces_reached, .ref q_pieces_nextLow, .ref q_pieces_nextHigh])), (q_pieces_from, .inl (ky 0, 768, .inl s_pieces_from)), (q_start, .inl (ky 0, 129, .inl s_start)), (q_walk, .inl (ky 0, 768, .inl s_walk))] o_r 0 0 := by
  refine MtI.of (cc := cX7_boxWidth) (maxL := 5) (by decide +kernel) rfl (Nat.le_of_ble_eq_true rfl) ?_
  intro p e R s m args below meth c A Q ls hR hx hb hts hown hnm hml hP hK hD hA ret hl
  subst hR
  obtain ⟨H, hH⟩ : ∃ H, H = s.heap := ⟨_, rfl⟩
  obtain ⟨locs, hlocs⟩ : ∃ locs : List Loc, locs = [] := ⟨_, rfl⟩
  have hS : va_S A s.heap H locs := by rw [hH, hlocs]; exact va_S.rf
  rw [← hH] at hP
  suffices hgo : W p l e rmX7_boxWidth s m args below meth c H locs 0 0 Q (F0 m 0 ls []) by rw [hH, hlocs] at hgo; exact hgo
  clear hH hlocs
  replace hl : lv_has ls 5 [(0, .ref q_), (1, .int a1)] := hl
  replace hown : s.vm.findClass RX7 = some m.cls := hown
  have hi_X7 : ∀ w ∈ u_ws RX7 TX7 7, w ∈ wsX7_boxWidth := fun _ h9 => List.mem_cons_of_mem _ (List.mem_append_left _ (List.mem_append_left _ (List.mem_append_right _ h9)))
  have hf_15 := hts (.fieldLink RX7 15 "GlazierBench$Panes" "joints" "LGlazierBench$Joints;") (by decide +kernel)
  have hi_X4 : ∀ w ∈ u_ws RX4 TX4 4, w ∈ wsX7_boxWidth := fun _ h9 => List.mem_cons_of_mem _ (List.mem_append_left _ (List.mem_append_right _ h9))
  have hf_64 := hts (.fieldLink RX7 64 "GlazierBench$Joints" "x" "[I") (by decide +kernel)
  have hf_89 := hts (.fieldLink RX7 89 "GlazierBench$Joints" "under" "[I") (by decide +kernel)
  have hm_106 := hts (.methodLink RX7 106 Lib.Math.max.name) (by decide +kernel)
  have hs_mmax := hts (.static Lib.Math.max.name) (by decide +kernel)
  have hini_Math := hts (.initialized "java/lang/Math") (by decide +kernel)
  have hco_mmax := hts (.code Lib.Math.max.name Lib.Math.max.code 2 (some .int)) (by decide +kernel)
  unfold sX7_boxWidth at h
  refine lv_iconst (v := 0) hx hb dX7_boxWidth_0 (by decide) ?_
  refine lv_istore_n (lv' := [(2, .int (0 : Int32)), (0, .ref q_), (1, .int a1)]) hx hb dX7_boxWidth_1 rfl hl (by decide) rfl (fun ls hl => ?_)
  refine lv_iconst (v := 0) hx hb dX7_boxWidth_2 (by decide) ?_
  refine lv_istore_n (lv' := [(3, .int (0 : Int32)), (2, .int (0 : Int32)), (0, .ref q_), (1, .int a1)]) hx hb dX7_boxWidth_3 rfl hl (by decide) rfl (fun ls hl => ?_)
  obtain ⟨⟨k, t⟩, hi, h⟩ := ob_of h
  refine iter_rule (P := fun (k : Nat) (t : Int32 × Int32) => ∀ (H : Heap) (locs : List Loc) (ls : Array Slot), va_P D vwCl [(q_, .inr (7, [.ref q_joints, .ref q_pieces, .int s_total, .ref q_paneOf, .ref q_walk, .ref q_start, .ref q_sum])), (q_joints, .inr (4, [.int s_joints_total, .ref q_joints_x, .ref q_joints_y, .ref q_joints_under])), (q_joints_under, .inl (ky 0, 129, .inl s_joints_under)), (q_joints_x, .inl (ky 0, 129, .inl s_joints_x)), (q_pieces, .inr (8, [.ref q_joints, .int s_pieces_steps, .ref q_pieces_from, .ref q_pieces_to, .ref q_pieces_twin, .ref q_pieces_firm, .ref q_pieces_first, .ref q_pieces_firmEnds, .ref q_pieces_reached, .ref q_pieces_nextLow, .ref q_pieces_nextHigh])), (q_pieces_from, .inl (ky 0, 768, .inl s_pieces_from)), (q_start, .inl (ky 0, 129, .inl s_start)), (q_walk, .inl (ky 0, 768, .inl s_walk))] H → va_D A [(q_, .inr (7, [.ref q_joints, .ref q_pieces, .int s_total, .ref q_paneOf, .ref q_walk, .ref q_start, .ref q_sum])), (q_joints, .inr (4, [.int s_joints_total, .ref q_joints_x, .ref q_joints_y, .ref q_joints_under])), (q_joints_under, .inl (ky 0, 129, .inl s_joints_under)), (q_joints_x, .inl (ky 0, 129, .inl s_joints_x)), (q_pieces, .inr (8, [.ref q_joints, .int s_pieces_steps, .ref q_pieces_from, .ref q_pieces_to, .ref q_pieces_twin, .ref q_pieces_firm, .ref q_pieces_first, .ref q_pieces_firmEnds, .ref q_pieces_reached, .ref q_pieces_nextLow, .ref q_pieces_nextHigh])), (q_pieces_from, .inl (ky 0, 768, .inl s_pieces_from)), (q_start, .inl (ky 0, 129, .inl s_start)), (q_walk, .inl (ky 0, 768, .inl s_walk))] → va_S A s.heap H locs → lv_has ls 5 [(0, .ref q_), (1, .int a1), (2, .int t.1), (3, .int t.2)] → W p l e rmX7_boxWidth s m args below meth c H locs 0 0 Q (F0 m ([4, 55].getD k 0) ls [])) ?_ _ _ _ _ hi ?_ H locs ls hP hD hS (lv_sub hl [2, 3, 1, 0] rfl)
  · clear h hi hP hD hS hl
    intro t k t' h K
    obtain ⟨v1, v2⟩ := t
    intro H locs ls hP hD hS hl
    replace h := dm2_of h
    replace hP : va_P D vwCl [(q_, .inr (7, [.ref q_joints, .ref q_pieces, .int s_total, .ref q_paneOf, .ref q_walk, .ref q_start, .ref q_sum])), (q_joints, .inr (4, [.int s_joints_total, .ref q_joints_x, .ref q_joints_y, .ref q_joints_under])), (q_joints_under, .inl (ky 0, 129, .inl s_joints_under)), (q_joints_x, .inl (ky 0, 129, .inl s_joints_x)), (q_pieces, .inr (8, [.ref q_joints, .int s_pieces_steps, .ref q_pieces_from, .ref q_pieces_to, .ref q_pieces_twin, .ref q_pieces_firm, .ref q_pieces_first, .ref q_pieces_firmEnds, .ref q_pieces_reached, .ref q_pieces_nextLow, .ref q_pieces_nextHigh])), (q_pieces_from, .inl (ky 0, 768, .inl s_pieces_from)), (q_start, .inl (ky 0, 129, .inl s_start)), (q_walk, .inl (ky 0, 768, .inl s_walk))] H := hP
    replace hD : va_D A [(q_, .inr (7, [.ref q_joints, .ref q_pieces, .int s_total, .ref q_paneOf, .ref q_walk, .ref q_start, .ref q_sum])), (q_joints, .inr (4, [.int s_joints_total, .ref q_joints_x, .ref q_joints_y, .ref q_joints_under])), (q_joints_under, .inl (ky 0, 129, .inl s_joints_under)), (q_joints_x, .inl (ky 0, 129, .inl s_joints_x)), (q_pieces, .inr (8, [.ref q_joints, .int s_pieces_steps, .ref q_pieces_from, .ref q_pieces_to, .ref q_pieces_twin, .ref q_pieces_firm, .ref q_pieces_first, .ref q_pieces_firmEnds, .ref q_pieces_reached, .ref q_pieces_nextLow, .ref q_pieces_nextHigh])), (q_pieces_from, .inl (ky 0, 768, .inl s_pieces_from)), (q_start, .inl (ky 0, 129, .inl s_start)), (q_walk, .inl (ky 0, 768, .inl s_walk))] := hD
    replace hl : lv_has ls 5 [(0, .ref q_), (1, .int a1), (2, .int v1), (3, .int v2)] := hl
    refine lv_iload_n hx hb dX7_boxWidth_4 rfl (lv_at hl 3 rfl) ?_
    refine lv_aload_n hx hb dX7_boxWidth_5 rfl (lv_at hl 0 rfl) ?_
    refine lv_iload_n hx hb dX7_boxWidth_6 rfl (lv_at hl 1 rfl) ?_
    obtain ⟨r3, hc, h⟩ := ob_of h
    replace h := dm1_of h
    refine cv_i (As := [.int a1]) (rest := [.int v2]) (wr := [(q_joints, .inr (4, [.int s_joints_total, .ref q_joints_x, .ref q_joints_y, .ref q_joints_under])), (q_joints_under, .inl (ky 0, 129, .inl s_joints_under)), (q_joints_x, .inl (ky 0, 129, .inl s_joints_x)), (q_pieces, .inr (8, [.ref q_joints, .int s_pieces_steps, .ref q_pieces_from, .ref q_pieces_to, .ref q_pieces_twin, .ref q_pieces_firm, .ref q_pieces_first, .ref q_pieces_firmEnds, .ref q_pieces_reached, .ref q_pieces_nextLow, .ref q_pieces_nextHigh])), (q_pieces_from, .inl (ky 0, 768, .inl s_pieces_from)), (q_walk, .inl (ky 0, 768, .inl s_walk))]) (wn := [(q_, .inr (7, [.ref q_joints, .ref q_pieces, .int s_total, .ref q_paneOf, .ref q_walk, .ref q_start, .ref q_sum])), (q_joints, .inr (4, [.int s_joints_total, .ref q_joints_x, .ref q_joints_y, .ref q_joints_under])), (q_joints_under, .inl (ky 0, 129, .inl s_joints_under)), (q_joints_x, .inl (ky 0, 129, .inl s_joints_x)), (q_pieces, .inr (8, [.ref q_joints, .int s_pieces_steps, .ref q_pieces_from, .ref q_pieces_to, .ref q_pieces_twin, .ref q_pieces_firm, .ref q_pieces_first, .ref q_pieces_firmEnds, .ref q_pieces_reached, .ref q_pieces_nextLow, .ref q_pieces_nextHigh])), (q_pieces_from, .inl (ky 0, 768, .inl s_pieces_from)), (q_start, .inl (ky 0, 129, .inl s_start)), (q_walk, .inl (ky 0, 768, .inl s_walk))]) ⟨hx, hb, hml, hown, hts⟩ (c_X7_corners l D ky q_ q_joints q_pieces q_paneOf q_walk q_start q_sum a1 s_total s_start hc) (cwV 1 hts gX7_boxWidth_X7_corners rfl rfl rfl (by decide +kernel) ⟨Nat.le_of_ble_eq_true rfl, Nat.le_of_ble_eq_true rfl⟩) (rcv hK.1 hP (q0 := 0) rfl rfl) hP hD hK hS hA [0, 6] [1, 2, 3, 4, 5, 7] [6, 0, 1, 2, 3, 4, 7, 5] rfl (by decide +kernel) rfl (by decide +kernel) (by decide +kernel) (by decide +kernel) rfl rfl rfl hl.1 (Nat.le_of_ble_eq_true rfl) dX7_boxWidth_7 ⟨Nat.le_of_ble_eq_true rfl, Nat.le_of_ble_eq_true rfl⟩ (fun H locs hP hD hS => ?_)
    refine lv_icmp_ge (tgt := 55) hx hb dX7_boxWidth_10 (by decide) (fun hc => ?_) (fun hc => ?_)
    · replace h := if_t hc h
      cases h
      exact K _ _ _ hP hD hS (lv_sub hl [0, 1, 2, 3] rfl)
    · replace h := if_f hc h
      refine lv_aload_n hx hb dX7_boxWidth_13 rfl (lv_at hl 0 rfl) ?_
      refine lv_iload_n hx hb dX7_boxWidth_14 rfl (lv_at hl 1 rfl) ?_
      refine lv_iload_n hx hb dX7_boxWidth_15 rfl (lv_at hl 3 rfl) ?_
      obtain ⟨r4, hc, h⟩ := ob_of h
      replace h := dm1_of h
      refine cv_i (As := [.int a1, .int v2]) (rest := []) (wr := [(q_joints, .inr (4, [.int s_joints_total, .ref q_joints_x, .ref q_joints_y, .ref q_joints_under])), (q_joints_under, .inl (ky 0, 129, .inl s_joints_under)), (q_joints_x, .inl (ky 0, 129, .inl s_joints_x))]) (wn := [(q_, .inr (7, [.ref q_joints, .ref q_pieces, .int s_total, .ref q_paneOf, .ref q_walk, .ref q_start, .ref q_sum])), (q_joints, .inr (4, [.int s_joints_total, .ref q_joints_x, .ref q_joints_y, .ref q_joints_under])), (q_joints_under, .inl (ky 0, 129, .inl s_joints_under)), (q_joints_x, .inl (ky 0, 129, .inl s_joints_x)), (q_pieces, .inr (8, [.ref q_joints, .int s_pieces_steps, .ref q_pieces_from, .ref q_pieces_to, .ref q_pieces_twin, .ref q_pieces_firm, .ref q_pieces_first, .ref q_pieces_firmEnds, .ref q_pieces_reached, .ref q_pieces_nextLow, .ref q_pieces_nextHigh])), (q_pieces_from, .inl (ky 0, 768, .inl s_pieces_from)), (q_start, .inl (ky 0, 129, .inl s_start)), (q_walk, .inl (ky 0, 768, .inl s_walk))]) ⟨hx, hb, hml, hown, hts⟩ (c_X7_jointAtCorner l D ky q_ q_joints q_pieces q_paneOf q_walk q_start q_sum q_pieces_from q_pieces_to q_pieces_twin q_pieces_firm q_pieces_first q_pieces_firmEnds q_pieces_reached q_pieces_nextLow q_pieces_nextHigh a1 v2 s_total s_pieces_steps s_pieces_from s_start s_walk hc) (cwV 2 hts gX7_boxWidth_X7_jointAtCorner rfl rfl rfl (by decide +kernel) ⟨Nat.le_of_ble_eq_true rfl, Nat.le_of_ble_eq_true rfl⟩) (rcv hK.1 hP (q0 := 0) rfl rfl) hP hD hK hS hA [0, 4, 5, 6, 7] [1, 2, 3] [3, 0, 1, 2, 4, 5, 6, 7] rfl (by decide +kernel) rfl (by decide +kernel) (by decide +kernel) (by decide +kernel) rfl rfl rfl hl.1 (Nat.le_of_ble_eq_true rfl) dX7_boxWidth_16 ⟨Nat.le_of_ble_eq_true rfl, Nat.le_of_ble_eq_true rfl⟩ (fun H locs hP hD hS => ?_)
      refine lv_istore (lv' := [(4, .int r4), (0, .ref q_), (1, .int a1), (2, .int v1), (3, .int v2)]) hx hb dX7_boxWidth_19 hl (by decide) rfl (fun ls hl => ?_)
      refine lv_iload_n hx hb dX7_boxWidth_21 rfl (lv_at hl 3 rfl) ?_
      refine lv_aload_n hx hb dX7_boxWidth_22 rfl (lv_at hl 1 rfl) ?_
      refine va_get (D := D) (ci := 7) (v := .ref q_joints) (C := RX7) (T := TX7) (N := 7) hx hb hts hi_X7 hown hK.1 hP 0 rfl rfl 0 (by decide) hf_15 (fun _ h9 => h9) rfl dX7_boxWidth_23 ?_
      refine va_get (D := D) (ci := 4) (v := .ref q_joints_x) (C := RX4) (T := TX4) (N := 4) hx hb hts hi_X4 hown hK.1 hP 1 rfl rfl 1 (by decide) hf_64 (fun _ h9 => h9) rfl dX7_boxWidth_26 ?_
      refine lv_iload hx hb dX7_boxWidth_29 (lv_at hl 0 rfl) ?_
      obtain ⟨hg, h⟩ := gd_of h
      refine va_iald hx hb hK.1 hP 3 0 rfl rfl hg dX7_boxWidth_31 ?_
      refine lv_aload_n hx hb dX7_boxWidth_32 rfl (lv_at hl 1 rfl) ?_
      refine va_get (D := D) (ci := 7) (v := .ref q_joints) (C := RX7) (T := TX7) (N := 7) hx hb hts hi_X7 hown hK.1 hP 0 rfl rfl 0 (by decide) hf_15 (fun _ h9 => h9) rfl dX7_boxWidth_33 ?_
      refine va_get (D := D) (ci := 4) (v := .ref q_joints_under) (C := RX4) (T := TX4) (N := 4) hx hb hts hi_X4 hown hK.1 hP 1 rfl rfl 3 (by decide) hf_89 (fun _ h9 => h9) rfl dX7_boxWidth_36 ?_
      refine lv_iload hx hb dX7_boxWidth_39 (lv_at hl 0 rfl) ?_
      obtain ⟨hg, h⟩ := gd_of h
      refine va_iald hx hb hK.1 hP 2 0 rfl rfl hg dX7_boxWidth_41 ?_
      obtain ⟨r5, hc, h⟩ := ob_of h
      replace h := dm1_of h
      refine cs_i (As := [.int (s_joints_x r4.toNatClampNeg), .int (s_joints_under r4.toNatClampNeg)]) (rest := [.int v1]) (wr := [(q_, .inr (7, [.ref q_joints, .ref q_pieces, .int s_total, .ref q_paneOf, .ref q_walk, .ref q_start, .ref q_sum])), (q_joints, .inr (4, [.int s_joints_total, .ref q_joints_x, .ref q_joints_y, .ref q_joints_under])), (q_joints_under, .inl (ky 0, 129, .inl s_joints_under)), (q_joints_x, .inl (ky 0, 129, .inl s_joints_x)), (q_pieces, .inr (8, [.ref q_joints, .int s_pieces_steps, .ref q_pieces_from, .ref q_pieces_to, .ref q_pieces_twin, .ref q_pieces_firm, .ref q_pieces_first, .ref q_pieces_firmEnds, .ref q_pieces_reached, .ref q_pieces_nextLow, .ref q_pieces_nextHigh])), (q_pieces_from, .inl (ky 0, 768, .inl s_pieces_from)), (q_start, .inl (ky 0, 129, .inl s_start)), (q_walk, .inl (ky 0, 768, .inl s_walk))]) (wn := [(q_, .inr (7, [.ref q_joints, .ref q_pieces, .int s_total, .ref q_paneOf, .ref q_walk, .ref q_start, .ref q_sum])), (q_joints, .inr (4, [.int s_joints_total, .ref q_joints_x, .ref q_joints_y, .ref q_joints_under])), (q_joints_under, .inl (ky 0, 129, .inl s_joints_under)), (q_joints_x, .inl (ky 0, 129, .inl s_joints_x)), (q_pieces, .inr (8, [.ref q_joints, .int s_pieces_steps, .ref q_pieces_from, .ref q_pieces_to, .ref q_pieces_twin, .ref q_pieces_firm, .ref q_pieces_first, .ref q_pieces_firmEnds, .ref q_pieces_reached, .ref q_pieces_nextLow, .ref q_pieces_nextHigh])), (q_pieces_from, .inl (ky 0, 768, .inl s_pieces_from)), (q_start, .inl (ky 0, 129, .inl s_start)), (q_walk, .inl (ky 0, 768, .inl s_walk))]) ⟨hx, hb, hml, hown, hts⟩ (c_X7_wholeAbove l D ky (s_joints_x r4.toNatClampNeg) (s_joints_under r4.toNatClampNeg) hc) (va_cwS 2 hts gX7_boxWidth_X7_wholeAbove rfl rfl rfl (by decide +kernel) ⟨Nat.le_of_ble_eq_true rfl, Nat.le_of_ble_eq_true rfl⟩) hP hD hK hS hA [] [0, 1, 2, 3, 4, 5, 6, 7] [0, 1, 2, 3, 4, 5, 6, 7] rfl (by decide +kernel) rfl (by decide +kernel) (by decide +kernel) (by decide +kernel) rfl rfl rfl hl.1 (Nat.le_of_ble_eq_true rfl) dX7_boxWidth_42 ⟨Nat.le_of_ble_eq_true rfl, Nat.le_of_ble_eq_true rfl⟩ (fun H locs hP hD hS => ?_)
      refine va_mmax hx hb (hml.trans hl.1.symm) hown hm_106 hs_mmax hini_Math hco_mmax (Nat.le_of_ble_eq_true rfl) (Nat.le_of_ble_eq_true rfl) (Nat.le_of_ble_eq_true rfl) (Nat.le_of_ble_eq_true rfl) dX7_boxWidth_45 ?_
      refine lv_topi (fun x6 ex6 => ?_)
      replace h := lt_at ex6 h
      refine lv_istore_n (lv' := [(2, .int x6), (4, .int r4), (0, .ref q_), (1, .int a1), (3, .int v2)]) hx hb dX7_boxWidth_48 rfl hl (by decide) rfl (fun ls hl => ?_)
      obtain ⟨x7, ex7⟩ : ∃ z : Int32, z = v2 + 1 := ⟨_, rfl⟩
      replace h := lt_at ex7 h
      refine lv_iinc (v := x7) (lv' := [(3, .int x7), (2, .int x6), (4, .int r4), (0, .ref q_), (1, .int a1)]) hx hb dX7_boxWidth_49 hl (k := 4) rfl (by rw [ex7]; rfl) (by decide) rfl (fun ls hl => ?_)
      refine lv_goto (tgt := 4) hx hb dX7_boxWidth_52 (by decide) ?_
      cases h
      exact K _ _ _ hP hD hS (lv_sub hl [3, 4, 1, 0] rfl)
  · have h1 := ex1_of h
    clear h hi
    rcases h1 with ⟨rfl, h⟩
    obtain ⟨v8, v9⟩ := t
    replace h := dm2_of h
    intro H locs ls hP hD hS hl
    replace hP : va_P D vwCl [(q_, .inr (7, [.ref q_joints, .ref q_pieces, .int s_total, .ref q_paneOf, .ref q_walk, .ref q_start, .ref q_sum])), (q_joints, .inr (4, [.int s_joints_total, .ref q_joints_x, .ref q_joints_y, .ref q_joints_under])), (q_joints_under, .inl (ky 0, 129, .inl s_joints_under)), (q_joints_x, .inl (ky 0, 129, .inl s_joints_x)), (q_pieces, .inr (8, [.ref q_joints, .int s_pieces_steps, .ref q_pieces_from, .ref q_pieces_to, .ref q_pieces_twin, .ref q_pieces_firm, .ref q_pieces_first, .ref q_pieces_firmEnds, .ref q_pieces_reached, .ref q_pieces_nextLow, .ref q_pieces_nextHigh])), (q_pieces_from, .inl (ky 0, 768, .inl s_pieces_from)), (q_start, .inl (ky 0, 129, .inl s_start)), (q_walk, .inl (ky 0, 768, .inl s_walk))] H := hP
    replace hD : va_D A [(q_, .inr (7, [.ref q_joints, .ref q_pieces, .int s_total, .ref q_paneOf, .ref q_walk, .ref q_start, .ref q_sum])), (q_joints, .inr (4, [.int s_joints_total, .ref q_joints_x, .ref q_joints_y, .ref q_joints_under])), (q_joints_under, .inl (ky 0, 129, .inl s_joints_under)), (q_joints_x, .inl (ky 0, 129, .inl s_joints_x)), (q_pieces, .inr (8, [.ref q_joints, .int s_pieces_steps, .ref q_pieces_from, .ref q_pieces_to, .ref q_pieces_twin, .ref q_pieces_firm, .ref q_pieces_first, .ref q_pieces_firmEnds, .ref q_pieces_reached, .ref q_pieces_nextLow, .ref q_pieces_nextHigh])), (q_pieces_from, .inl (ky 0, 768, .inl s_pieces_from)), (q_start, .inl (ky 0, 129, .inl s_start)), (q_walk, .inl (ky 0, 768, .inl s_walk))] := hD
    replace hl : lv_has ls 5 [(0, .ref q_), (1, .int a1), (2, .int v8), (3, .int v9)] := hl
    refine W.eq (g2 := F0 m 55 ls []) rfl ?_
    refine lv_iload_n hx hb dX7_boxWidth_55 rfl (lv_at hl 2 rfl) ?_
    refine lv_aload_n hx hb dX7_boxWidth_56 rfl (lv_at hl 0 rfl) ?_
    refine lv_iload_n hx hb dX7_boxWidth_57 rfl (lv_at hl 1 rfl) ?_
    obtain ⟨r10, hc, h⟩ := ob_of h
    replace h := dm1_of h
    refine cv_i (As := [.int a1]) (rest := [.int v8]) (wr := []) (wn := [(q_, .inr (7, [.ref q_joints, .ref q_pieces, .int s_total, .ref q_paneOf, .ref q_walk, .ref q_start, .ref q_sum])), (q_joints, .inr (4, [.int s_joints_total, .ref q_joints_x, .ref q_joints_y, .ref q_joints_under])), (q_joints_under, .inl (ky 0, 129, .inl s_joints_under)), (q_joints_x, .inl (ky 0, 129, .inl s_joints_x)), (q_pieces, .inr (8, [.ref q_joints, .int s_pieces_steps, .ref q_pieces_from, .ref q_pieces_to, .ref q_pieces_twin, .ref q_pieces_firm, .ref q_pieces_first, .ref q_pieces_firmEnds, .ref q_pieces_reached, .ref q_pieces_nextLow, .ref q_pieces_nextHigh])), (q_pieces_from, .inl (ky 0, 768, .inl s_pieces_from)), (q_start, .inl (ky 0, 129, .inl s_start)), (q_walk, .inl (ky 0, 768, .inl s_walk))]) ⟨hx, hb, hml, hown, hts⟩ (c_X7_boxLeft l D ky q_ q_joints q_pieces q_paneOf q_walk q_start q_sum q_joints_x q_joints_y q_joints_under q_pieces_from q_pieces_to q_pieces_twin q_pieces_firm q_pieces_first q_pieces_firmEnds q_pieces_reached q_pieces_nextLow q_pieces_nextHigh a1 s_total s_joints_total s_joints_under s_joints_x s_pieces_steps s_pieces_from s_start s_walk hc) (cwV 1 hts gX7_boxWidth_X7_boxLeft rfl rfl rfl (by decide +kernel) ⟨Nat.le_of_ble_eq_true rfl, Nat.le_of_ble_eq_true rfl⟩) (rcv hK.1 hP (q0 := 0) rfl rfl) hP hD hK hS hA [0, 1, 2, 3, 4, 5, 6, 7] [] [0, 1, 2, 3, 4, 5, 6, 7] rfl (by decide +kernel) rfl (by decide +kernel) (by decide +kernel) (by decide +kernel) rfl rfl rfl hl.1 (Nat.le_of_ble_eq_true rfl) dX7_boxWidth_58 ⟨Nat.le_of_ble_eq_true rfl, Nat.le_of_ble_eq_true rfl⟩ (fun H locs hP hD hS => ?_)
    refine lv_isub hx hb dX7_boxWidth_61 ?_
    cases h
    exact ret _ _ _ _ dX7_boxWidth_62 hP hD hS

def bX7_boxHeight_4 (a1 : Int32) (s_joints_under : Nat → Int32) (s_joints_y : Nat → Int32) (s_pieces_from : Nat → Int32) (s_start : Nat → Int32) (s_walk : Nat → Int32) (t : Int32 × Int32) : Option (Nat × (Int32 × Int32)) := dm2 t (fun (v1 : Int32) (v2 : Int32) => ob (sX7_corners a1 s_start) (fun o => dm1 o (fun (r3 : Int32) => if r3 ≤ v2 then some (1, (v1, v2)) else ob (sX7_jointAtCorner a1 v2 s_pieces_from s_start s_walk) (fun o => dm1 o (fun (r4 : Int32) => gd (¬ (r4 < 0 ∨ 129 ≤ r4.toNatClampNeg)) (gd (¬ (r4 < 0 ∨ 129 ≤ r4.toNatClampNeg)) (ob (sX7_wholeAbove (s_joints_y r4.toNatClampNeg) (s_joints_under r4.toNatClampNeg)) (fun o => dm1 o (fun (r5 : Int32) => lt (if v1 < r5 then r5 else v1) (fun x6 => lt (v2 + 1) (fun x7 => some (0, (x6, x7)))))))))))))
def sX7_boxHeight (a1 : Int32) (s_joints_under : Nat → Int32) (s_joints_y : Nat → Int32) (s_pieces_from : Nat → Int32) (s_start : Nat → Int32) (s_walk : Nat → Int32) : Option (Int32) := ob (iter (bX7_boxHeight_4 a1 s_joints_under s_joints_y s_pieces_from s_start s_walk) FU ((0 : Int32), (0 : Int32))) (fun kt => ex1 kt (fun t => dm2 t (fun (v8 : Int32) (v9 : Int32) => ob (sX7_boxBottom a1 s_joints_under s_joints_y s_pieces_from s_start s_walk) (fun o => dm1 o (fun (r10 : Int32) => some (v8 - r10))))))
abbrev rmX7_boxHeight : Room := { frames := 2, cells := 0, slots := 0, locals := 64 }
set_option maxHeartbeats 4000000 in
set_option maxRecDepth 100000 in
theorem c_X7_boxHeight (l : Launch) (D : va_G) (ky : Nat → ClassId) (q_ q_joints q_pieces q_paneOf q_walk q_start q_sum q_joints_x q_joints_y q_joints_under q_pieces_from q_pieces_to q_pieces_twin q_pieces_firm q_pieces_first q_pieces_firmEnds q_pieces_reached q_pieces_nextLow q_pieces_nextHigh : Nat) (a1 : Int32) (s_total : Int32) (s_joints_total : Int32) (s_joints_under : Nat → Int32) (s_joints_y : Nat → Int32) (s_pieces_steps : Int32) (s_pieces_from : Nat → Int32) (s_start : Nat → Int32) (s_walk : Nat → Int32) {o_r : Int32} (h : sX7_boxHeight a1 s_joints_under s_joints_y s_pieces_from s_start s_walk = some o_r) : MtI l D ky yX7_boxHeight wsX7_boxHeight rmX7_boxHeight [.ref q_, .int a1] [(q_, .inr (7, [.ref q_joints, .ref q_pieces, .int s_total, .ref q_paneOf, .ref q_walk, .ref q_start, .ref q_sum])), (q_joints, .inr (4, [.int s_joints_total, .ref q_joints_x, .ref q_joints_y, .ref q_joints_under])), (q_joints_under, .inl (ky 0, 129, .inl s_joints_under)), (q_joints_y, .inl (ky 0, 129, .inl s_joints_y)), (q_pieces, .inr (8, [.ref q_joints, .int s_pieces_steps, .ref q_pieces_from, .ref q_pieces_to, .ref q_pieces_twin, .ref q_pieces_firm, .ref q_pieces_first, .ref q_pieces_firmEnds, .ref q_pieces_reached, .ref q_pieces_nextLow, .ref q_pieces_nextHigh])), (q_pieces_from, .inl (ky 0, 768, .inl s_pieces_from)), (q_start, .inl (ky 0, 129, .inl s_start)), (q_walk, .inl (ky 0, 768, .inl s_walk))] [(q_, .inr (7, [.ref q_joints, .ref q_pieces, .int s_total, .ref q_paneOf, .ref q_walk, .ref q_start, .ref q_sum])), (q_joints, .inr (4, [.int s_joints_total, .ref q_joints_x, .ref q_joints_y, .ref q_joints_under])), (q_joints_under, .inl (ky 0, 129, .inl s_joints_under)), (q_joints_y, .inl (ky 0, 129, .inl s_joints_y)), (q_pieces, .inr (8, [.ref q_joints, .int s_pieces_steps, .ref q_pieces_from, .ref q_pieces_to, .ref q_pieces_twin, .ref q_pieces_firm, .ref q_pieces_first, .ref q_pieces_firmEnds, .ref q_pieces_reached, .ref q_pieces_nextLow, .ref q_pieces_nextHigh])), (q_pieces_from, .inl (ky 0, 768, .inl s_pieces_from)), (q_start, .inl (ky 0, 129, .inl s_start)), (q_walk, .inl (ky 0, 768, .inl s_walk))] o_r 0 0 := by
  refine MtI.of (cc := cX7_boxHeight) (maxL := 5) (by decide +kernel) rfl (Nat.le_of_ble_eq_true rfl) ?_
  intro p e R s m args below meth c A Q ls hR hx hb hts hown hnm hml hP hK hD hA ret hl
  subst hR
  obtain ⟨H, hH⟩ : ∃ H, H = s.heap := ⟨_, rfl⟩
  obtain ⟨locs, hlocs⟩ : ∃ locs : List Loc, locs = [] := ⟨_, rfl⟩
  have hS : va_S A s.heap H locs := by rw [hH, hlocs]; exact va_S.rf
  rw [← hH] at hP
  suffices hgo : W p l e rmX7_boxHeight s m args below meth c H locs 0 0 Q (F0 m 0 ls []) by rw [hH, hlocs] at hgo; exact hgo
  clear hH hlocs
  replace hl : lv_has ls 5 [(0, .ref q_), (1, .int a1)] := hl
  replace hown : s.vm.findClass RX7 = some m.cls := hown
  have hi_X7 : ∀ w ∈ u_ws RX7 TX7 7, w ∈ wsX7_boxHeight := fun _ h9 => List.mem_cons_of_mem _ (List.mem_append_left _ (List.mem_append_left _ (List.mem_append_right _ h9)))
  have hf_15 := hts (.fieldLink RX7 15 "GlazierBench$Panes" "joints" "LGlazierBench$Joints;") (by decide +kernel)
  have hi_X4 : ∀ w ∈ u_ws RX4 TX4 4, w ∈ wsX7_boxHeight := fun _ h9 => List.mem_cons_of_mem _ (List.mem_append_left _ (List.mem_append_right _ h9))
  have hf_100 := hts (.fieldLink RX7 100 "GlazierBench$Joints" "y" "[I") (by decide +kernel)
  have hf_89 := hts (.fieldLink RX7 89 "GlazierBench$Joints" "under" "[I") (by decide +kernel)
  have hm_106 := hts (.methodLink RX7 106 Lib.Math.max.name) (by decide +kernel)
  have hs_mmax := hts (.static Lib.Math.max.name) (by decide +kernel)
  have hini_Math := hts (.initialized "java/lang/Math") (by decide +kernel)
  have hco_mmax := hts (.code Lib.Math.max.name Lib.Math.max.code 2 (some .int)) (by decide +kernel)
  unfold sX7_boxHeight at h
  refine lv_iconst (v := 0) hx hb dX7_boxHeight_0 (by decide) ?_
  refine lv_istore_n (lv' := [(2, .int (0 : Int32)), (0, .ref q_), (1, .int a1)]) hx hb dX7_boxHeight_1 rfl hl (by decide) rfl (fun ls hl => ?_)
  refine lv_iconst (v := 0) hx hb dX7_boxHeight_2 (by decide) ?_
  refine lv_istore_n (lv' := [(3, .int (0 : Int32)), (2, .int (0 : Int32)), (0, .ref q_), (1, .int a1)]) hx hb dX7_boxHeight_3 rfl hl (by decide) rfl (fun ls hl => ?_)
  obtain ⟨⟨k, t⟩, hi, h⟩ := ob_of h
  refine iter_rule (P := fun (k : Nat) (t : Int32 × Int32) => ∀ (H : Heap) (locs : List Loc) (ls : Array Slot), va_P D vwCl [(q_, .inr (7, [.ref q_joints, .ref q_pieces, .int s_total, .ref q_paneOf, .ref q_walk, .ref q_start, .ref q_sum])), (q_joints, .inr (4, [.int s_joints_total, .ref q_joints_x, .ref q_joints_y, .ref q_joints_under])), (q_joints_under, .inl (ky 0, 129, .inl s_joints_under)), (q_joints_y, .inl (ky 0, 129, .inl s_joints_y)), (q_pieces, .inr (8, [.ref q_joints, .int s_pieces_steps, .ref q_pieces_from, .ref q_pieces_to, .ref q_pieces_twin, .ref q_pieces_firm, .ref q_pieces_first, .ref q_pieces_firmEnds, .ref q_pieces_reached, .ref q_pieces_nextLow, .ref q_pieces_nextHigh])), (q_pieces_from, .inl (ky 0, 768, .inl s_pieces_from)), (q_start, .inl (ky 0, 129, .inl s_start)), (q_walk, .inl (ky 0, 768, .inl s_walk))] H → va_D A [(q_, .inr (7, [.ref q_joints, .ref q_pieces, .int s_total, .ref q_paneOf, .ref q_walk, .ref q_start, .ref q_sum])), (q_joints, .inr (4, [.int s_joints_total, .ref q_joints_x, .ref q_joints_y, .ref q_joints_under])), (q_joints_under, .inl (ky 0, 129, .inl s_joints_under)), (q_joints_y, .inl (ky 0, 129, .inl s_joints_y)), (q_pieces, .inr (8, [.ref q_joints, .int s_pieces_steps, .ref q_pieces_from, .ref q_pieces_to, .ref q_pieces_twin, .ref q_pieces_firm, .ref q_pieces_first, .ref q_pieces_firmEnds, .ref q_pieces_reached, .ref q_pieces_nextLow, .ref q_pieces_nextHigh])), (q_pieces_from, .inl (ky 0, 768, .inl s_pieces_from)), (q_start, .inl (ky 0, 129, .inl s_start)), (q_walk, .inl (ky 0, 768, .inl s_walk))] → va_S A s.heap H locs → lv_has ls 5 [(0, .ref q_), (1, .int a1), (2, .int t.1), (3, .int t.2)] → W p l e rmX7_boxHeight s m args below meth c H locs 0 0 Q (F0 m ([4, 55].getD k 0) ls [])) ?_ _ _ _ _ hi ?_ H locs ls hP hD hS (lv_sub hl [2, 3, 1, 0] rfl)
  · clear h hi hP hD hS hl
    intro t k t' h K
    obtain ⟨v1, v2⟩ := t
    intro H locs ls hP hD hS hl
    replace h := dm2_of h
    replace hP : va_P D vwCl [(q_, .inr (7, [.ref q_joints, .ref q_pieces, .int s_total, .ref q_paneOf, .ref q_walk, .ref q_start, .ref q_sum])), (q_joints, .inr (4, [.int s_joints_total, .ref q_joints_x, .ref q_joints_y, .ref q_joints_under])), (q_joints_under, .inl (ky 0, 129, .inl s_joints_under)), (q_joints_y, .inl (ky 0, 129, .inl s_joints_y)), (q_pieces, .inr (8, [.ref q_joints, .int s_pieces_steps, .ref q_pieces_from, .ref q_pieces_to, .ref q_pieces_twin, .ref q_pieces_firm, .ref q_pieces_first, .ref q_pieces_firmEnds, .ref q_pieces_reached, .ref q_pieces_nextLow, .ref q_pieces_nextHigh])), (q_pieces_from, .inl (ky 0, 768, .inl s_pieces_from)), (q_start, .inl (ky 0, 129, .inl s_start)), (q_walk, .inl (ky 0, 768, .inl s_walk))] H := hP
    replace hD : va_D A [(q_, .inr (7, [.ref q_joints, .ref q_pieces, .int s_total, .ref q_paneOf, .ref q_walk, .ref q_start, .ref q_sum])), (q_joints, .inr (4, [.int s_joints_total, .ref q_joints_x, .ref q_joints_y, .ref q_joints_under])), (q_joints_under, .inl (ky 0, 129, .inl s_joints_under)), (q_joints_y, .inl (ky 0, 129, .inl s_joints_y)), (q_pieces, .inr (8, [.ref q_joints, .int s_pieces_steps, .ref q_pieces_from, .ref q_pieces_to, .ref q_pieces_twin, .ref q_pieces_firm, .ref q_pieces_first, .ref q_pieces_firmEnds, .ref q_pieces_reached, .ref q_pieces_nextLow, .ref q_pieces_nextHigh])), (q_pieces_from, .inl (ky 0, 768, .inl s_pieces_from)), (q_start, .inl (ky 0, 129, .inl s_start)), (q_walk, .inl (ky 0, 768, .inl s_walk))] := hD
    replace hl : lv_has ls 5 [(0, .ref q_), (1, .int a1), (2, .int v1), (3, .int v2)] := hl
    refine lv_iload_n hx hb dX7_boxHeight_4 rfl (lv_at hl 3 rfl) ?_
    refine lv_aload_n hx hb dX7_boxHeight_5 rfl (lv_at hl 0 rfl) ?_
    refine lv_iload_n hx hb dX7_boxHeight_6 rfl (lv_at hl 1 rfl) ?_
    obtain ⟨r3, hc, h⟩ := ob_of h
    replace h := dm1_of h
    refine cv_i (As := [.int a1]) (rest := [.int v2]) (wr := [(q_joints, .inr (4, [.int s_joints_total, .ref q_joints_x, .ref q_joints_y, .ref q_joints_under])), (q_joints_under, .inl (ky 0, 129, .inl s_joints_under)), (q_joints_y, .inl (ky 0, 129, .inl s_joints_y)), (q_pieces, .inr (8, [.ref q_joints, .int s_pieces_steps, .ref q_pieces_from, .ref q_pieces_to, .ref q_pieces_twin, .ref q_pieces_firm, .ref q_pieces_first, .ref q_pieces_firmEnds, .ref q_pieces_reached, .ref q_pieces_nextLow, .ref q_pieces_nextHigh])), (q_pieces_from, .inl (ky 0, 768, .inl s_pieces_from)), (q_walk, .inl (ky 0, 768, .inl s_walk))]) (wn := [(q_, .inr (7, [.ref q_joints, .ref q_pieces, .int s_total, .ref q_paneOf, .ref q_walk, .ref q_start, .ref q_sum])), (q_joints, .inr (4, [.int s_joints_total, .ref q_joints_x, .ref q_joints_y, .ref q_joints_under])), (q_joints_under, .inl (ky 0, 129, .inl s_joints_under)), (q_joints_y, .inl (ky 0, 129, .inl s_joints_y)), (q_pieces, .inr (8, [.ref q_joints, .int s_pieces_steps, .ref q_pieces_from, .ref q_pieces_to, .ref q_pieces_twin, .ref q_pieces_firm, .ref q_pieces_first, .ref q_pieces_firmEnds, .ref q_pieces_reached, .ref q_pieces_nextLow, .ref q_pieces_nextHigh])), (q_pieces_from, .inl (ky 0, 768, .inl s_pieces_from)), (q_start, .inl (ky 0, 129, .inl s_start)), (q_walk, .inl (ky 0, 768, .inl s_walk))]) ⟨hx, hb, hml, hown, hts⟩ (c_X7_corners l D ky q_ q_joints q_pieces q_paneOf q_walk q_start q_sum a1 s_total s_start hc) (cwV 1 hts gX7_boxHeight_X7_corners rfl rfl rfl (by decide +kernel) ⟨Nat.le_of_ble_eq_true rfl, Nat.le_of_ble_eq_true rfl⟩) (rcv hK.1 hP (q0 := 0) rfl rfl) hP hD hK hS hA [0, 6] [1, 2, 3, 4, 5, 7] [6, 0, 1, 2, 3, 4, 7, 5] rfl (by decide +kernel) rfl (by decide +kernel) (by decide +kernel) (by decide +kernel) rfl rfl rfl hl.1 (Nat.le_of_ble_eq_true rfl) dX7_boxHeight_7 ⟨Nat.le_of_ble_eq_true rfl, Nat.le_of_ble_eq_true rfl⟩ (fun H locs hP hD hS => ?_)
    refine lv_icmp_ge (tgt := 55) hx hb dX7_boxHeight_10 (by decide) (fun hc => ?_) (fun hc => ?_)
    · replace h := if_t hc h
      cases h
      exact K _ _ _ hP hD hS (lv_sub hl [0, 1, 2, 3] rfl)
    · replace h := if_f hc h
      refine lv_aload_n hx hb dX7_boxHeight_13 rfl (lv_at hl 0 rfl) ?_
      refine lv_iload_n hx hb dX7_boxHeight_14 rfl (lv_at hl 1 rfl) ?_
      refine lv_iload_n hx hb dX7_boxHeight_15 rfl (lv_at hl 3 rfl) ?_
      obtain ⟨r4, hc, h⟩ := ob_of h
      replace h := dm1_of h
      refine cv_i (As := [.int a1, .int v2]) (rest := []) (wr := [(q_joints, .inr (4, [.int s_joints_total, .ref q_joints_x, .ref q_joints_y, .ref q_joints_under])), (q_joints_under, .inl (ky 0, 129, .inl s_joints_under)), (q_joints_y, .inl (ky 0, 129, .inl s_joints_y))]) (wn := [(q_, .inr (7, [.ref q_joints, .ref q_pieces, .int s_total, .ref q_paneOf, .ref q_walk, .ref q_start, .ref q_sum])), (q_joints, .inr (4, [.int s_joints_total, .ref q_joints_x, .ref q_joints_y, .ref q_joints_under])), (q_joints_under, .inl (ky 0, 129, .inl s_joints_under)), (q_joints_y, .inl (ky 0, 129, .inl s_joints_y)), (q_pieces, .inr (8, [.ref q_joints, .int s_pieces_steps, .ref q_pieces_from, .ref q_pieces_to, .ref q_pieces_twin, .ref q_pieces_firm, .ref q_pieces_first, .ref q_pieces_firmEnds, .ref q_pieces_reached, .ref q_pieces_nextLow, .ref q_pieces_nextHigh])), (q_pieces_from, .inl (ky 0, 768, .inl s_pieces_from)), (q_start, .inl (ky 0, 129, .inl s_start)), (q_walk, .inl (ky 0, 768, .inl s_walk))]) ⟨hx, hb, hml, hown, hts⟩ (c_X7_jointAtCorner l D ky q_ q_joints q_pieces q_paneOf q_walk q_start q_sum q_pieces_from q_pieces_to q_pieces_twin q_pieces_firm q_pieces_first q_pieces_firmEnds q_pieces_reached q_pieces_nextLow q_pieces_nextHigh a1 v2 s_total s_pieces_steps s_pieces_from s_start s_walk hc) (cwV 2 hts gX7_boxHeight_X7_jointAtCorner rfl rfl rfl (by decide +kernel) ⟨Nat.le_of_ble_eq_true rfl, Nat.le_of_ble_eq_true rfl⟩) (rcv hK.1 hP (q0 := 0) rfl rfl) hP hD hK hS hA [0, 4, 5, 6, 7] [1, 2, 3] [3, 0, 1, 2, 4, 5, 6, 7] rfl (by decide +kernel) rfl (by decide +kernel) (by decide +kernel) (by decide +kernel) rfl rfl rfl hl.1 (Nat.le_of_ble_eq_true rfl) dX7_boxHeight_16 ⟨Nat.le_of_ble_eq_true rfl, Nat.le_of_ble_eq_true rfl⟩ (fun H locs hP hD hS => ?_)
      refine lv_istore (lv' := [(4, .int r4), (0, .ref q_), (1, .int a1), (2, .int v1), (3, .int v2)]) hx hb dX7_boxHeight_19 hl (by decide) rfl (fun ls hl => ?_)
      refine lv_iload_n hx hb dX7_boxHeight_21 rfl (lv_at hl 3 rfl) ?_
      refine lv_aload_n hx hb dX7_boxHeight_22 rfl (lv_at hl 1 rfl) ?_
      refine va_get (D := D) (ci := 7) (v := .ref q_joints) (C := RX7) (T := TX7) (N := 7) hx hb hts hi_X7 hown hK.1 hP 0 rfl rfl 0 (by decide) hf_15 (fun _ h9 => h9) rfl dX7_boxHeight_23 ?_
      refine va_get (D := D) (ci := 4) (v := .ref q_joints_y) (C := RX4) (T := TX4) (N := 4) hx hb hts hi_X4 hown hK.1 hP 1 rfl rfl 2 (by decide) hf_100 (fun _ h9 => h9) rfl dX7_boxHeight_26 ?_
      refine lv_iload hx hb dX7_boxHeight_29 (lv_at hl 0 rfl) ?_
      obtain ⟨hg, h⟩ := gd_of h
      refine va_iald hx hb hK.1 hP 3 0 rfl rfl hg dX7_boxHeight_31 ?_
      refine lv_aload_n hx hb dX7_boxHeight_32 rfl (lv_at hl 1 rfl) ?_
      refine va_get (D := D) (ci := 7) (v := .ref q_joints) (C := RX7) (T := TX7) (N := 7) hx hb hts hi_X7 hown hK.1 hP 0 rfl rfl 0 (by decide) hf_15 (fun _ h9 => h9) rfl dX7_boxHeight_33 ?_
      refine va_get (D := D) (ci := 4) (v := .ref q_joints_under) (C := RX4) (T := TX4) (N := 4) hx hb hts hi_X4 hown hK.1 hP 1 rfl rfl 3 (by decide) hf_89 (fun _ h9 => h9) rfl dX7_boxHeight_36 ?_
      refine lv_iload hx hb dX7_boxHeight_39 (lv_at hl 0 rfl) ?_
      obtain ⟨hg, h⟩ := gd_of h
      refine va_iald hx hb hK.1 hP 2 0 rfl rfl hg dX7_boxHeight_41 ?_
      obtain ⟨r5, hc, h⟩ := ob_of h
      replace h := dm1_of h
      refine cs_i (As := [.int (s_joints_y r4.toNatClampNeg), .int (s_joints_under r4.toNatClampNeg)]) (rest := [.int v1]) (wr := [(q_, .inr (7, [.ref q_joints, .ref q_pieces, .int s_total, .ref q_paneOf, .ref q_walk, .ref q_start, .ref q_sum])), (q_joints, .inr (4, [.int s_joints_total, .ref q_joints_x, .ref q_joints_y, .ref q_joints_under])), (q_joints_under, .inl (ky 0, 129, .inl s_joints_under)), (q_joints_y, .inl (ky 0, 129, .inl s_joints_y)), (q_pieces, .inr (8, [.ref q_joints, .int s_pieces_steps, .ref q_pieces_from, .ref q_pieces_to, .ref q_pieces_twin, .ref q_pieces_firm, .ref q_pieces_first, .ref q_pieces_firmEnds, .ref q_pieces_reached, .ref q_pieces_nextLow, .ref q_pieces_nextHigh])), (q_pieces_from, .inl (ky 0, 768, .inl s_pieces_from)), (q_start, .inl (ky 0, 129, .inl s_start)), (q_walk, .inl (ky 0, 768, .inl s_walk))]) (wn := [(q_, .inr (7, [.ref q_joints, .ref q_pieces, .int s_total, .ref q_paneOf, .ref q_walk, .ref q_start, .ref q_sum])), (q_joints, .inr (4, [.int s_joints_total, .ref q_joints_x, .ref q_joints_y, .ref q_joints_under])), (q_joints_under, .inl (ky 0, 129, .inl s_joints_under)), (q_joints_y, .inl (ky 0, 129, .inl s_joints_y)), (q_pieces, .inr (8, [.ref q_joints, .int s_pieces_steps, .ref q_pieces_from, .ref q_pieces_to, .ref q_pieces_twin, .ref q_pieces_firm, .ref q_pieces_first, .ref q_pieces_firmEnds, .ref q_pieces_reached, .ref q_pieces_nextLow, .ref q_pieces_nextHigh])), (q_pieces_from, .inl (ky 0, 768, .inl s_pieces_from)), (q_start, .inl (ky 0, 129, .inl s_start)), (q_walk, .inl (ky 0, 768, .inl s_walk))]) ⟨hx, hb, hml, hown, hts⟩ (c_X7_wholeAbove l D ky (s_joints_y r4.toNatClampNeg) (s_joints_under r4.toNatClampNeg) hc) (va_cwS 2 hts gX7_boxHeight_X7_wholeAbove rfl rfl rfl (by decide +kernel) ⟨Nat.le_of_ble_eq_true rfl, Nat.le_of_ble_eq_true rfl⟩) hP hD hK hS hA [] [0, 1, 2, 3, 4, 5, 6, 7] [0, 1, 2, 3, 4, 5, 6, 7] rfl (by decide +kernel) rfl (by decide +kernel) (by decide +kernel) (by decide +kernel) rfl rfl rfl hl.1 (Nat.le_of_ble_eq_true rfl) dX7_boxHeight_42 ⟨Nat.le_of_ble_eq_true rfl, Nat.le_of_ble_eq_true rfl⟩ (fun H locs hP hD hS => ?_)
      refine va_mmax hx hb (hml.trans hl.1.symm) hown hm_106 hs_mmax hini_Math hco_mmax (Nat.le_of_ble_eq_true rfl) (Nat.le_of_ble_eq_true rfl) (Nat.le_of_ble_eq_true rfl) (Nat.le_of_ble_eq_true rfl) dX7_boxHeight_45 ?_
      refine lv_topi (fun x6 ex6 => ?_)
      replace h := lt_at ex6 h
      refine lv_istore_n (lv' := [(2, .int x6), (4, .int r4), (0, .ref q_), (1, .int a1), (3, .int v2)]) hx hb dX7_boxHeight_48 rfl hl (by decide) rfl (fun ls hl => ?_)
      obtain ⟨x7, ex7⟩ : ∃ z : Int32, z = v2 + 1 := ⟨_, rfl⟩
      replace h := lt_at ex7 h
      refine lv_iinc (v := x7) (lv' := [(3, .int x7), (2, .int x6), (4, .int r4), (0, .ref q_), (1, .int a1)]) hx hb dX7_boxHeight_49 hl (k := 4) rfl (by rw [ex7]; rfl) (by decide) rfl (fun ls hl => ?_)
      refine lv_goto (tgt := 4) hx hb dX7_boxHeight_52 (by decide) ?_
      cases h
      exact K _ _ _ hP hD hS (lv_sub hl [3, 4, 1, 0] rfl)
  · have h1 := ex1_of h
    clear h hi
    rcases h1 with ⟨rfl, h⟩
    obtain ⟨v8, v9⟩ := t
    replace h := dm2_of h
    intro H locs ls hP hD hS hl
    replace hP : va_P D vwCl [(q_, .inr (7, [.ref q_joints, .ref q_pieces, .int s_total, .ref q_paneOf, .ref q_walk, .ref q_start, .ref q_sum])), (q_joints, .inr (4, [.int s_joints_total, .ref q_joints_x, .ref q_joints_y, .ref q_joints_under])), (q_joints_under, .inl (ky 0, 129, .inl s_joints_under)), (q_joints_y, .inl (ky 0, 129, .inl s_joints_y)), (q_pieces, .inr (8, [.ref q_joints, .int s_pieces_steps, .ref q_pieces_from, .ref q_pieces_to, .ref q_pieces_twin, .ref q_pieces_firm, .ref q_pieces_first, .ref q_pieces_firmEnds, .ref q_pieces_reached, .ref q_pieces_nextLow, .ref q_pieces_nextHigh])), (q_pieces_from, .inl (ky 0, 768, .inl s_pieces_from)), (q_start, .inl (ky 0, 129, .inl s_start)), (q_walk, .inl (ky 0, 768, .inl s_walk))] H := hP
    replace hD : va_D A [(q_, .inr (7, [.ref q_joints, .ref q_pieces, .int s_total, .ref q_paneOf, .ref q_walk, .ref q_start, .ref q_sum])), (q_joints, .inr (4, [.int s_joints_total, .ref q_joints_x, .ref q_joints_y, .ref q_joints_under])), (q_joints_under, .inl (ky 0, 129, .inl s_joints_under)), (q_joints_y, .inl (ky 0, 129, .inl s_joints_y)), (q_pieces, .inr (8, [.ref q_joints, .int s_pieces_steps, .ref q_pieces_from, .ref q_pieces_to, .ref q_pieces_twin, .ref q_pieces_firm, .ref q_pieces_first, .ref q_pieces_firmEnds, .ref q_pieces_reached, .ref q_pieces_nextLow, .ref q_pieces_nextHigh])), (q_pieces_from, .inl (ky 0, 768, .inl s_pieces_from)), (q_start, .inl (ky 0, 129, .inl s_start)), (q_walk, .inl (ky 0, 768, .inl s_walk))] := hD
    replace hl : lv_has ls 5 [(0, .ref q_), (1, .int a1), (2, .int v8), (3, .int v9)] := hl
    refine W.eq (g2 := F0 m 55 ls []) rfl ?_
    refine lv_iload_n hx hb dX7_boxHeight_55 rfl (lv_at hl 2 rfl) ?_
    refine lv_aload_n hx hb dX7_boxHeight_56 rfl (lv_at hl 0 rfl) ?_
    refine lv_iload_n hx hb dX7_boxHeight_57 rfl (lv_at hl 1 rfl) ?_
    obtain ⟨r10, hc, h⟩ := ob_of h
    replace h := dm1_of h
    refine cv_i (As := [.int a1]) (rest := [.int v8]) (wr := []) (wn := [(q_, .inr (7, [.ref q_joints, .ref q_pieces, .int s_total, .ref q_paneOf, .ref q_walk, .ref q_start, .ref q_sum])), (q_joints, .inr (4, [.int s_joints_total, .ref q_joints_x, .ref q_joints_y, .ref q_joints_under])), (q_joints_under, .inl (ky 0, 129, .inl s_joints_under)), (q_joints_y, .inl (ky 0, 129, .inl s_joints_y)), (q_pieces, .inr (8, [.ref q_joints, .int s_pieces_steps, .ref q_pieces_from, .ref q_pieces_to, .ref q_pieces_twin, .ref q_pieces_firm, .ref q_pieces_first, .ref q_pieces_firmEnds, .ref q_pieces_reached, .ref q_pieces_nextLow, .ref q_pieces_nextHigh])), (q_pieces_from, .inl (ky 0, 768, .inl s_pieces_from)), (q_start, .inl (ky 0, 129, .inl s_start)), (q_walk, .inl (ky 0, 768, .inl s_walk))]) ⟨hx, hb, hml, hown, hts⟩ (c_X7_boxBottom l D ky q_ q_joints q_pieces q_paneOf q_walk q_start q_sum q_joints_x q_joints_y q_joints_under q_pieces_from q_pieces_to q_pieces_twin q_pieces_firm q_pieces_first q_pieces_firmEnds q_pieces_reached q_pieces_nextLow q_pieces_nextHigh a1 s_total s_joints_total s_joints_under s_joints_y s_pieces_steps s_pieces_from s_start s_walk hc) (cwV 1 hts gX7_boxHeight_X7_boxBottom rfl rfl rfl (by decide +kernel) ⟨Nat.le_of_ble_eq_true rfl, Nat.le_of_ble_eq_true rfl⟩) (rcv hK.1 hP (q0 := 0) rfl rfl) hP hD hK hS hA [0, 1, 2, 3, 4, 5, 6, 7] [] [0, 1, 2, 3, 4, 5, 6, 7] rfl (by decide +kernel) rfl (by decide +kernel) (by decide +kernel) (by decide +kernel) rfl rfl rfl hl.1 (Nat.le_of_ble_eq_true rfl) dX7_boxHeight_58 ⟨Nat.le_of_ble_eq_true rfl, Nat.le_of_ble_eq_true rfl⟩ (fun H locs hP hD hS => ?_)
    refine lv_isub hx hb dX7_boxHeight_61 ?_
    cases h
    exact ret _ _ _ _ dX7_boxHeight_62 hP hD hS

