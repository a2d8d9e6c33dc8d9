def sX8_join (a1 : Int32) (a2 : Int32) (s_nextHigh : Nat → Int64) (s_nextLow : Nat → Int64) : Option ((Nat → Int64) × (Nat → Int64)) := if (64 : Int32) ≤ a2 then gd (¬ (a1 < 0 ∨ 128 ≤ a1.toNatClampNeg)) (gd (¬ (a1 < 0 ∨ 128 ≤ a1.toNatClampNeg)) (lt (vp_updL s_nextHigh a1.toNatClampNeg ((s_nextHigh a1.toNatClampNeg) ||| ((1 : Int64) <<< ((a2 - (64 : Int32)).toInt64 &&& 63)))) (fun f1 => some (f1, s_nextLow)))) else gd (¬ (a1 < 0 ∨ 128 ≤ a1.toNatClampNeg)) (gd (¬ (a1 < 0 ∨ 128 ≤ a1.toNatClampNeg)) (lt (vp_updL s_nextLow a1.toNatClampNeg ((s_nextLow a1.toNatClampNeg) ||| ((1 : Int64) <<< (a2.toInt64 &&& 63)))) (fun f2 => some (s_nextHigh, f2))))
abbrev rmX8_join : Room := { frames := 0, cells := 0, slots := 0, locals := 0 }
set_option maxHeartbeats 4000000 in
set_option maxRecDepth 100000 in
theorem c_X8_join (l : Launch) (D : va_G) (ky : Nat → ClassId) (q_ q_joints q_from q_to q_twin q_firm q_first q_firmEnds q_reached q_nextLow q_nextHigh : Nat) (a1 : Int32) (a2 : Int32) (s_steps : Int32) (s_nextHigh : Nat → Int64) (s_nextLow : Nat → Int64) {o_nextHigh : Nat → Int64} {o_nextLow : Nat → Int64} (h : sX8_join a1 a2 s_nextHigh s_nextLow = some (o_nextHigh, o_nextLow)) : MtV l D ky yX8_join wsX8_join rmX8_join [.ref q_, .int a1, .int a2] [(q_, .inr (8, [.ref q_joints, .int s_steps, .ref q_from, .ref q_to, .ref q_twin, .ref q_firm, .ref q_first, .ref q_firmEnds, .ref q_reached, .ref q_nextLow, .ref q_nextHigh])), (q_nextHigh, .inl (ky 1, 128, .inr (.inl s_nextHigh))), (q_nextLow, .inl (ky 1, 128, .inr (.inl s_nextLow)))] [(q_, .inr (8, [.ref q_joints, .int s_steps, .ref q_from, .ref q_to, .ref q_twin, .ref q_firm, .ref q_first, .ref q_firmEnds, .ref q_reached, .ref q_nextLow, .ref q_nextHigh])), (q_nextHigh, .inl (ky 1, 128, .inr (.inl o_nextHigh))), (q_nextLow, .inl (ky 1, 128, .inr (.inl o_nextLow)))] 0 0 := by
  refine MtV.of (cc := cX8_join) (maxL := 3) (by decide +kernel) rfl (Nat.le_of_ble_eq_true rfl) ?_
  intro p e R s m args below meth c A Q ls hR hx hb hts hown hnm hml hP hK hD hA ret hl
  have rt := rtV (dc := fun pc => decode cX8_join pc = .ok (.return_, 1)) (o_nextHigh, o_nextLow) (fun t => [(q_, .inr (8, [.ref q_joints, .int s_steps, .ref q_from, .ref q_to, .ref q_twin, .ref q_firm, .ref q_first, .ref q_firmEnds, .ref q_reached, .ref q_nextLow, .ref q_nextHigh])), (q_nextHigh, .inl (ky 1, 128, .inr (.inl t.1))), (q_nextLow, .inl (ky 1, 128, .inr (.inl t.2)))]) ret
  subst hR
  obtain ⟨H, hH⟩ : ∃ H, H = s.heap := ⟨_, rfl⟩
  obtain ⟨locs, hlocs⟩ : ∃ locs : List Loc, locs = [] := ⟨_, rfl⟩
  have hS : va_S A s.heap H locs := by rw [hH, hlocs]; exact va_S.rf
  rw [← hH] at hP
  suffices hgo : W p l e rmX8_join s m args below meth c H locs 0 0 Q (F0 m 0 ls []) by rw [hH, hlocs] at hgo; exact hgo
  clear hH hlocs
  replace hl : lv_has ls 3 [(0, .ref q_), (1, .int a1), (2, .int a2)] := hl
  replace hown : s.vm.findClass RX8 = some m.cls := hown
  have hi_X8 : ∀ w ∈ u_ws RX8 TX8 11, w ∈ wsX8_join := fun _ h9 => List.mem_cons_of_mem _ (List.mem_append_right _ h9)
  have hf_42 := hts (.fieldLink RX8 42 "GlazierBench$Pieces" "nextHigh" "[J") (by decide +kernel)
  have hf_38 := hts (.fieldLink RX8 38 "GlazierBench$Pieces" "nextLow" "[J") (by decide +kernel)
  unfold sX8_join at h
  refine lv_iload_n hx hb dX8_join_0 rfl (lv_at hl 2 rfl) ?_
  refine lv_bipush (v := 64) hx hb dX8_join_1 (by decide) ?_
  refine lv_icmp_ge (tgt := 21) hx hb dX8_join_3 (by decide) (fun hc => ?_) (fun hc => ?_)
  · replace h := if_t hc h
    refine lv_aload_n hx hb dX8_join_21 rfl (lv_at hl 0 rfl) ?_
    refine va_get (D := D) (ci := 8) (v := .ref q_nextHigh) (C := RX8) (T := TX8) (N := 11) hx hb hts hi_X8 hown hK.1 hP 0 rfl rfl 10 (by decide) hf_42 (fun _ h9 => h9) rfl dX8_join_22 ?_
    refine lv_iload_n hx hb dX8_join_25 rfl (lv_at hl 1 rfl) ?_
    refine lv_dup2_11 hx hb dX8_join_26 rfl rfl ?_
    obtain ⟨hg, h⟩ := gd_of h
    refine va_lald hx hb hK.1 hP 1 1 rfl rfl hg dX8_join_27 ?_
    refine lv_lconst (v := 1) hx hb dX8_join_28 (by decide) ?_
    refine lv_iload_n hx hb dX8_join_29 rfl (lv_at hl 2 rfl) ?_
    refine lv_bipush (v := 64) hx hb dX8_join_30 (by decide) ?_
    refine lv_isub hx hb dX8_join_32 ?_
    refine lv_lshl (v := ((1 : Int64) <<< ((a2 - (64 : Int32)).toInt64 &&& 63))) hx hb dX8_join_33 rfl ?_
    refine lv_lor hx hb dX8_join_34 ?_
    obtain ⟨hg, h⟩ := gd_of h
    refine r_last hx hb hK.1 hP hD hS 1 1 rfl rfl hg dX8_join_35 (fun f1 ef1 H locs hP hD hS => ?_)
    replace h := lt_at ef1 h
    replace hP : va_P D vwCl [(q_, .inr (8, [.ref q_joints, .int s_steps, .ref q_from, .ref q_to, .ref q_twin, .ref q_firm, .ref q_first, .ref q_firmEnds, .ref q_reached, .ref q_nextLow, .ref q_nextHigh])), (q_nextHigh, .inl (ky 1, 128, .inr (.inl f1))), (q_nextLow, .inl (ky 1, 128, .inr (.inl s_nextLow)))] H := hP
    replace hD : va_D A [(q_, .inr (8, [.ref q_joints, .int s_steps, .ref q_from, .ref q_to, .ref q_twin, .ref q_firm, .ref q_first, .ref q_firmEnds, .ref q_reached, .ref q_nextLow, .ref q_nextHigh])), (q_nextHigh, .inl (ky 1, 128, .inr (.inl f1))), (q_nextLow, .inl (ky 1, 128, .inr (.inl s_nextLow)))] := hD
    exact rt _ h _ _ _ _ dX8_join_36 hP hD hS
  · replace h := if_f hc h
    refine lv_aload_n hx hb dX8_join_6 rfl (lv_at hl 0 rfl) ?_
    refine va_get (D := D) (ci := 8) (v := .ref q_nextLow) (C := RX8) (T := TX8) (N := 11) hx hb hts hi_X8 hown hK.1 hP 0 rfl rfl 9 (by decide) hf_38 (fun _ h9 => h9) rfl dX8_join_7 ?_
    refine lv_iload_n hx hb dX8_join_10 rfl (lv_at hl 1 rfl) ?_
    refine lv_dup2_11 hx hb dX8_join_11 rfl rfl ?_
    obtain ⟨hg, h⟩ := gd_of h
    refine va_lald hx hb hK.1 hP 2 1 rfl rfl hg dX8_join_12 ?_
    refine lv_lconst (v := 1) hx hb dX8_join_13 (by decide) ?_
    refine lv_iload_n hx hb dX8_join_14 rfl (lv_at hl 2 rfl) ?_
    refine lv_lshl (v := ((1 : Int64) <<< (a2.toInt64 &&& 63))) hx hb dX8_join_15 rfl ?_
    refine lv_lor hx hb dX8_join_16 ?_
    obtain ⟨hg, h⟩ := gd_of h
    refine r_last hx hb hK.1 hP hD hS 2 1 rfl rfl hg dX8_join_17 (fun f2 ef2 H locs hP hD hS => ?_)
    replace h := lt_at ef2 h
    replace hP : va_P D vwCl [(q_, .inr (8, [.ref q_joints, .int s_steps, .ref q_from, .ref q_to, .ref q_twin, .ref q_firm, .ref q_first, .ref q_firmEnds, .ref q_reached, .ref q_nextLow, .ref q_nextHigh])), (q_nextHigh, .inl (ky 1, 128, .inr (.inl s_nextHigh))), (q_nextLow, .inl (ky 1, 128, .inr (.inl f2)))] H := hP
    replace hD : va_D A [(q_, .inr (8, [.ref q_joints, .int s_steps, .ref q_from, .ref q_to, .ref q_twin, .ref q_firm, .ref q_first, .ref q_firmEnds, .ref q_reached, .ref q_nextLow, .ref q_nextHigh])), (q_nextHigh, .inl (ky 1, 128, .inr (.inl s_nextHigh))), (q_nextLow, .inl (ky 1, 128, .inr (.inl f2)))] := hD
    refine lv_goto (tgt := 36) hx hb dX8_join_18 (by decide) ?_
    exact rt _ h _ _ _ _ dX8_join_36 hP hD hS

def bX8_joinAlong_5 (a2 : Int32) (s_joints_total : Int32) (s_joints_under : Nat → Int32) (s_joints_x : Nat → Int32) (s_joints_y : Nat → Int32) (s_a1_u : Nat → Int32) (s_a1_v : Nat → Int32) (s_a1_x : Nat → Int32) (s_a1_y : Nat → Int32) (t : Int32 × Int32 × (Nat → Int64) × (Nat → Int64)) : Option (Nat × (Int32 × Int32 × (Nat → Int64) × (Nat → Int64))) := dm4 t (fun (v1 : Int32) (v2 : Int32) (v3 : Nat → Int64) (v4 : Nat → Int64) => if s_joints_total ≤ v2 then some (1, (v1, v2, v3, v4)) else ob (sX4_liesOn v2 a2 s_joints_under s_joints_x s_joints_y s_a1_u s_a1_v s_a1_x s_a1_y) (fun o => dm1 o (fun (r5 : Int32) => ob (if r5 = 0 then some (v1, v3, v4) else if v1 < 0 then some (v2, v3, v4) else ob (sX8_join v1 v2 v3 v4) (fun o => dm2 o (fun (o10 : Nat → Int64) (o11 : Nat → Int64) => ob (sX8_join v2 v1 o10 o11) (fun o => dm2 o (fun (o12 : Nat → Int64) (o13 : Nat → Int64) => some (v2, o12, o13)))))) (fun t => dm3 t (fun (v6 : Int32) (v7 : Nat → Int64) (v8 : Nat → Int64) => lt (v2 + 1) (fun x9 => some (0, (v6, x9, v7, v8))))))))
def sX8_joinAlong (a2 : Int32) (s_joints_total : Int32) (s_joints_under : Nat → Int32) (s_joints_x : Nat → Int32) (s_joints_y : Nat → Int32) (s_nextHigh : Nat → Int64) (s_nextLow : Nat → Int64) (s_a1_u : Nat → Int32) (s_a1_v : Nat → Int32) (s_a1_x : Nat → Int32) (s_a1_y : Nat → Int32) : Option ((Nat → Int64) × (Nat → Int64)) := ob (iter (bX8_joinAlong_5 a2 s_joints_total s_joints_under s_joints_x s_joints_y s_a1_u s_a1_v s_a1_x s_a1_y) FU ((-1 : Int32), (0 : Int32), s_nextHigh, s_nextLow)) (fun kt => ex1 kt (fun t => dm4 t (fun (v14 : Int32) (v15 : Int32) (v16 : Nat → Int64) (v17 : Nat → Int64) => some (v16, v17))))
abbrev rmX8_joinAlong : Room := { frames := 3, cells := 0, slots := 0, locals := 91 }
set_option maxHeartbeats 4000000 in
set_option maxRecDepth 100000 in
theorem c_X8_joinAlong (l : Launch) (D : va_G) (ky : Nat → ClassId) (q_ q_joints q_from q_to q_twin q_firm q_first q_firmEnds q_reached q_nextLow q_nextHigh q_joints_x q_joints_y q_joints_under q_a1 q_a1_x q_a1_y q_a1_u q_a1_v : Nat) (a2 : Int32) (s_steps : Int32) (s_joints_total : Int32) (s_joints_under : Nat → Int32) (s_joints_x : Nat → Int32) (s_joints_y : Nat → Int32) (s_nextHigh : Nat → Int64) (s_nextLow : Nat → Int64) (s_a1_width : Int32) (s_a1_height : Int32) (s_a1_lines : Int32) (s_a1_u : Nat → Int32) (s_a1_v : Nat → Int32) (s_a1_x : Nat → Int32) (s_a1_y : Nat → Int32) {o_nextHigh : Nat → Int64} {o_nextLow : Nat → Int64} (h : sX8_joinAlong a2 s_joints_total s_joints_under s_joints_x s_joints_y s_nextHigh s_nextLow s_a1_u s_a1_v s_a1_x s_a1_y = some (o_nextHigh, o_nextLow)) : MtV l D ky yX8_joinAlong wsX8_joinAlong rmX8_joinAlong [.ref q_, .ref q_a1, .int a2] [(q_, .inr (8, [.ref q_joints, .int s_steps, .ref q_from, .ref q_to, .ref q_twin, .ref q_firm, .ref q_first, .ref q_firmEnds, .ref q_reached, .ref q_nextLow, .ref q_nextHigh])), (q_joints, .inr (4, [.int s_joints_total, .ref q_joints_x, .ref q_joints_y, .ref q_joints_under])), (q_joints_under, .inl (ky 0, 129, .inl s_joints_under)), (q_joints_x, .inl (ky 0, 129, .inl s_joints_x)), (q_joints_y, .inl (ky 0, 129, .inl s_joints_y)), (q_nextHigh, .inl (ky 1, 128, .inr (.inl s_nextHigh))), (q_nextLow, .inl (ky 1, 128, .inr (.inl s_nextLow))), (q_a1, .inr (1, [.int s_a1_width, .int s_a1_height, .int s_a1_lines, .ref q_a1_x, .ref q_a1_y, .ref q_a1_u, .ref q_a1_v])), (q_a1_u, .inl (ky 0, 18, .inl s_a1_u)), (q_a1_v, .inl (ky 0, 18, .inl s_a1_v)), (q_a1_x, .inl (ky 0, 18, .inl s_a1_x)), (q_a1_y, .inl (ky 0, 18, .inl s_a1_y))] [(q_, .inr (8, [.ref q_joints, .int s_steps, .ref q_from, .ref q_to, .ref q_twin, .ref q_firm, .ref q_first, .ref q_firmEnds, .ref q_reached, .ref q_nextLow, .ref q_nextHigh])), (q_joints, .inr (4, [.int s_joints_total, .ref q_joints_x, .ref q_joints_y, .ref q_joints_under])), (q_joints_under, .inl (ky 0, 129, .inl s_joints_under)), (q_joints_x, .inl (ky 0, 129, .inl s_joints_x)), (q_joints_y, .inl (ky 0, 129, .inl s_joints_y)), (q_nextHigh, .inl (ky 1, 128, .inr (.inl o_nextHigh))), (q_nextLow, .inl (ky 1, 128, .inr (.inl o_nextLow))), (q_a1, .inr (1, [.int s_a1_width, .int s_a1_height, .int s_a1_lines, .ref q_a1_x, .ref q_a1_y, .ref q_a1_u, .ref q_a1_v])), (q_a1_u, .inl (ky 0, 18, .inl s_a1_u)), (q_a1_v, .inl (ky 0, 18, .inl s_a1_v)), (q_a1_x, .inl (ky 0, 18, .inl s_a1_x)), (q_a1_y, .inl (ky 0, 18, .inl s_a1_y))] 0 0 := by
  refine MtV.of (cc := cX8_joinAlong) (maxL := 5) (by decide +kernel) rfl (Nat.le_of_ble_eq_true rfl) ?_
  intro p e R s m args below meth c A Q ls hR hx hb hts hown hnm hml hP hK hD hA ret hl
  have rt := rtV (dc := fun pc => decode cX8_joinAlong pc = .ok (.return_, 1)) (o_nextHigh, o_nextLow) (fun t => [(q_, .inr (8, [.ref q_joints, .int s_steps, .ref q_from, .ref q_to, .ref q_twin, .ref q_firm, .ref q_first, .ref q_firmEnds, .ref q_reached, .ref q_nextLow, .ref q_nextHigh])), (q_joints, .inr (4, [.int s_joints_total, .ref q_joints_x, .ref q_joints_y, .ref q_joints_under])), (q_joints_under, .inl (ky 0, 129, .inl s_joints_under)), (q_joints_x, .inl (ky 0, 129, .inl s_joints_x)), (q_joints_y, .inl (ky 0, 129, .inl s_joints_y)), (q_nextHigh, .inl (ky 1, 128, .inr (.inl t.1))), (q_nextLow, .inl (ky 1, 128, .inr (.inl t.2))), (q_a1, .inr (1, [.int s_a1_width, .int s_a1_height, .int s_a1_lines, .ref q_a1_x, .ref q_a1_y, .ref q_a1_u, .ref q_a1_v])), (q_a1_u, .inl (ky 0, 18, .inl s_a1_u)), (q_a1_v, .inl (ky 0, 18, .inl s_a1_v)), (q_a1_x, .inl (ky 0, 18, .inl s_a1_x)), (q_a1_y, .inl (ky 0, 18, .inl s_a1_y))]) ret
  subst hR
  obtain ⟨H, hH⟩ : ∃ H, H = s.heap := ⟨_, rfl⟩
  obtain ⟨locs, hlocs⟩ : ∃ locs : List Loc, locs = [] := ⟨_, rfl⟩
  have hS : va_S A s.heap H locs := by rw [hH, hlocs]; exact va_S.rf
  rw [← hH] at hP
  suffices hgo : W p l e rmX8_joinAlong s m args below meth c H locs 0 0 Q (F0 m 0 ls []) by rw [hH, hlocs] at hgo; exact hgo
  clear hH hlocs
  replace hl : lv_has ls 5 [(0, .ref q_), (1, .ref q_a1), (2, .int a2)] := hl
  replace hown : s.vm.findClass RX8 = some m.cls := hown
  have hi_X8 : ∀ w ∈ u_ws RX8 TX8 11, w ∈ wsX8_joinAlong := fun _ h9 => List.mem_cons_of_mem _ (List.mem_append_left _ (List.mem_append_left _ (List.mem_append_right _ h9)))
  have hf_9 := hts (.fieldLink RX8 9 "GlazierBench$Pieces" "joints" "LGlazierBench$Joints;") (by decide +kernel)
  have hi_X4 : ∀ w ∈ u_ws RX4 TX4 4, w ∈ wsX8_joinAlong := fun _ h9 => List.mem_cons_of_mem _ (List.mem_append_left _ (List.mem_append_right _ h9))
  have hf_45 := hts (.fieldLink RX8 45 "GlazierBench$Joints" "total" "I") (by decide +kernel)
  unfold sX8_joinAlong at h
  refine lv_iconst (v := (-1)) hx hb dX8_joinAlong_0 (by decide) ?_
  refine lv_istore_n (lv' := [(3, .int (-1 : Int32)), (0, .ref q_), (1, .ref q_a1), (2, .int a2)]) hx hb dX8_joinAlong_1 rfl hl (by decide) rfl (fun ls hl => ?_)
  refine lv_iconst (v := 0) hx hb dX8_joinAlong_2 (by decide) ?_
  refine lv_istore (lv' := [(4, .int (0 : Int32)), (3, .int (-1 : Int32)), (0, .ref q_), (1, .ref q_a1), (2, .int a2)]) hx hb dX8_joinAlong_3 hl (by decide) rfl (fun ls hl => ?_)
  obtain ⟨⟨k, t⟩, hi, h⟩ := ob_of h
  refine iter_rule (P := fun (k : Nat) (t : Int32 × Int32 × (Nat → Int64) × (Nat → Int64)) => ∀ (H : Heap) (locs : List Loc) (ls : Array Slot), va_P D vwCl [(q_, .inr (8, [.ref q_joints, .int s_steps, .ref q_from, .ref q_to, .ref q_twin, .ref q_firm, .ref q_first, .ref q_firmEnds, .ref q_reached, .ref q_nextLow, .ref q_nextHigh])), (q_joints, .inr (4, [.int s_joints_total, .ref q_joints_x, .ref q_joints_y, .ref q_joints_under])), (q_joints_under, .inl (ky 0, 129, .inl s_joints_under)), (q_joints_x, .inl (ky 0, 129, .inl s_joints_x)), (q_joints_y, .inl (ky 0, 129, .inl s_joints_y)), (q_nextHigh, .inl (ky 1, 128, .inr (.inl t.2.2.1))), (q_nextLow, .inl (ky 1, 128, .inr (.inl t.2.2.2))), (q_a1, .inr (1, [.int s_a1_width, .int s_a1_height, .int s_a1_lines, .ref q_a1_x, .ref q_a1_y, .ref q_a1_u, .ref q_a1_v])), (q_a1_u, .inl (ky 0, 18, .inl s_a1_u)), (q_a1_v, .inl (ky 0, 18, .inl s_a1_v)), (q_a1_x, .inl (ky 0, 18, .inl s_a1_x)), (q_a1_y, .inl (ky 0, 18, .inl s_a1_y))] H → va_D A [(q_, .inr (8, [.ref q_joints, .int s_steps, .ref q_from, .ref q_to, .ref q_twin, .ref q_firm, .ref q_first, .ref q_firmEnds, .ref q_reached, .ref q_nextLow, .ref q_nextHigh])), (q_joints, .inr (4, [.int s_joints_total, .ref q_joints_x, .ref q_joints_y, .ref q_joints_under])), (q_joints_under, .inl (ky 0, 129, .inl s_joints_under)), (q_joints_x, .inl (ky 0, 129, .inl s_joints_x)), (q_joints_y, .inl (ky 0, 129, .inl s_joints_y)), (q_nextHigh, .inl (ky 1, 128, .inr (.inl t.2.2.1))), (q_nextLow, .inl (ky 1, 128, .inr (.inl t.2.2.2))), (q_a1, .inr (1, [.int s_a1_width, .int s_a1_height, .int s_a1_lines, .ref q_a1_x, .ref q_a1_y, .ref q_a1_u, .ref q_a1_v])), (q_a1_u, .inl (ky 0, 18, .inl s_a1_u)), (q_a1_v, .inl (ky 0, 18, .inl s_a1_v)), (q_a1_x, .inl (ky 0, 18, .inl s_a1_x)), (q_a1_y, .inl (ky 0, 18, .inl s_a1_y))] → va_S A s.heap H locs → lv_has ls 5 [(0, .ref q_), (1, .ref q_a1), (2, .int a2), (3, .int t.1), (4, .int t.2.1)] → W p l e rmX8_joinAlong s m args below meth c H locs 0 0 Q (F0 m ([5, 58].getD k 0) ls [])) ?_ _ _ _ _ hi ?_ H locs ls hP hD hS (lv_sub hl [2, 3, 4, 1, 0] rfl)
  · clear h hi hP hD hS hl
    intro t k t' h K
    obtain ⟨v1, v2, v3, v4⟩ := t
    intro H locs ls hP hD hS hl
    replace h := dm4_of h
    replace hP : va_P D vwCl [(q_, .inr (8, [.ref q_joints, .int s_steps, .ref q_from, .ref q_to, .ref q_twin, .ref q_firm, .ref q_first, .ref q_firmEnds, .ref q_reached, .ref q_nextLow, .ref q_nextHigh])), (q_joints, .inr (4, [.int s_joints_total, .ref q_joints_x, .ref q_joints_y, .ref q_joints_under])), (q_joints_under, .inl (ky 0, 129, .inl s_joints_under)), (q_joints_x, .inl (ky 0, 129, .inl s_joints_x)), (q_joints_y, .inl (ky 0, 129, .inl s_joints_y)), (q_nextHigh, .inl (ky 1, 128, .inr (.inl v3))), (q_nextLow, .inl (ky 1, 128, .inr (.inl v4))), (q_a1, .inr (1, [.int s_a1_width, .int s_a1_height, .int s_a1_lines, .ref q_a1_x, .ref q_a1_y, .ref q_a1_u, .ref q_a1_v])), (q_a1_u, .inl (ky 0, 18, .inl s_a1_u)), (q_a1_v, .inl (ky 0, 18, .inl s_a1_v)), (q_a1_x, .inl (ky 0, 18, .inl s_a1_x)), (q_a1_y, .inl (ky 0, 18, .inl s_a1_y))] H := hP
    replace hD : va_D A [(q_, .inr (8, [.ref q_joints, .int s_steps, .ref q_from, .ref q_to, .ref q_twin, .ref q_firm, .ref q_first, .ref q_firmEnds, .ref q_reached, .ref q_nextLow, .ref q_nextHigh])), (q_joints, .inr (4, [.int s_joints_total, .ref q_joints_x, .ref q_joints_y, .ref q_joints_under])), (q_joints_under, .inl (ky 0, 129, .inl s_joints_under)), (q_joints_x, .inl (ky 0, 129, .inl s_joints_x)), (q_joints_y, .inl (ky 0, 129, .inl s_joints_y)), (q_nextHigh, .inl (ky 1, 128, .inr (.inl v3))), (q_nextLow, .inl (ky 1, 128, .inr (.inl v4))), (q_a1, .inr (1, [.int s_a1_width, .int s_a1_height, .int s_a1_lines, .ref q_a1_x, .ref q_a1_y, .ref q_a1_u, .ref q_a1_v])), (q_a1_u, .inl (ky 0, 18, .inl s_a1_u)), (q_a1_v, .inl (ky 0, 18, .inl s_a1_v)), (q_a1_x, .inl (ky 0, 18, .inl s_a1_x)), (q_a1_y, .inl (ky 0, 18, .inl s_a1_y))] := hD
    replace hl : lv_has ls 5 [(0, .ref q_), (1, .ref q_a1), (2, .int a2), (3, .int v1), (4, .int v2)] := hl
    refine lv_iload hx hb dX8_joinAlong_5 (lv_at hl 4 rfl) ?_
    refine lv_aload_n hx hb dX8_joinAlong_7 rfl (lv_at hl 0 rfl) ?_
    refine va_get (D := D) (ci := 8) (v := .ref q_joints) (C := RX8) (T := TX8) (N := 11) hx hb hts hi_X8 hown hK.1 hP 0 rfl rfl 0 (by decide) hf_9 (fun _ h9 => h9) rfl dX8_joinAlong_8 ?_
    refine va_get (D := D) (ci := 4) (v := .int s_joints_total) (C := RX4) (T := TX4) (N := 4) hx hb hts hi_X4 hown hK.1 hP 1 rfl rfl 0 (by decide) hf_45 (fun _ h9 => h9) rfl dX8_joinAlong_11 ?_
    refine lv_icmp_ge (tgt := 58) hx hb dX8_joinAlong_14 (by decide) (fun hc => ?_) (fun hc => ?_)
    · replace h := if_t hc h
      cases h
      exact K _ _ _ hP hD hS (lv_sub hl [0, 1, 2, 3, 4] rfl)
    · replace h := if_f hc h
      refine lv_aload_n hx hb dX8_joinAlong_17 rfl (lv_at hl 0 rfl) ?_
      refine va_get (D := D) (ci := 8) (v := .ref q_joints) (C := RX8) (T := TX8) (N := 11) hx hb hts hi_X8 hown hK.1 hP 0 rfl rfl 0 (by decide) hf_9 (fun _ h9 => h9) rfl dX8_joinAlong_18 ?_
      refine lv_iload hx hb dX8_joinAlong_21 (lv_at hl 4 rfl) ?_
      refine lv_aload_n hx hb dX8_joinAlong_23 rfl (lv_at hl 1 rfl) ?_
      refine lv_iload_n hx hb dX8_joinAlong_24 rfl (lv_at hl 2 rfl) ?_
      obtain ⟨r5, hc, h⟩ := ob_of h
      replace h := dm1_of h
      refine cv_i (As := [.int v2, .ref q_a1, .int a2]) (rest := []) (wr := [(q_, .inr (8, [.ref q_joints, .int s_steps, .ref q_from, .ref q_to, .ref q_twin, .ref q_firm, .ref q_first, .ref q_firmEnds, .ref q_reached, .ref q_nextLow, .ref q_nextHigh])), (q_nextHigh, .inl (ky 1, 128, .inr (.inl v3))), (q_nextLow, .inl (ky 1, 128, .inr (.inl v4)))]) (wn := [(q_, .inr (8, [.ref q_joints, .int s_steps, .ref q_from, .ref q_to, .ref q_twin, .ref q_firm, .ref q_first, .ref q_firmEnds, .ref q_reached, .ref q_nextLow, .ref q_nextHigh])), (q_joints, .inr (4, [.int s_joints_total, .ref q_joints_x, .ref q_joints_y, .ref q_joints_under])), (q_joints_under, .inl (ky 0, 129, .inl s_joints_under)), (q_joints_x, .inl (ky 0, 129, .inl s_joints_x)), (q_joints_y, .inl (ky 0, 129, .inl s_joints_y)), (q_nextHigh, .inl (ky 1, 128, .inr (.inl v3))), (q_nextLow, .inl (ky 1, 128, .inr (.inl v4))), (q_a1, .inr (1, [.int s_a1_width, .int s_a1_height, .int s_a1_lines, .ref q_a1_x, .ref q_a1_y, .ref q_a1_u, .ref q_a1_v])), (q_a1_u, .inl (ky 0, 18, .inl s_a1_u)), (q_a1_v, .inl (ky 0, 18, .inl s_a1_v)), (q_a1_x, .inl (ky 0, 18, .inl s_a1_x)), (q_a1_y, .inl (ky 0, 18, .inl s_a1_y))]) ⟨hx, hb, hml, hown, hts⟩ (c_X4_liesOn l D ky q_joints q_joints_x q_joints_y q_joints_under q_a1 q_a1_x q_a1_y q_a1_u q_a1_v v2 a2 s_joints_total s_joints_under s_joints_x s_joints_y s_a1_width s_a1_height s_a1_lines s_a1_u s_a1_v s_a1_x s_a1_y hc) (cwV 3 hts gX8_joinAlong_X4_liesOn rfl rfl rfl (by decide +kernel) ⟨Nat.le_of_ble_eq_true rfl, Nat.le_of_ble_eq_true rfl⟩) (rcv hK.1 hP (q0 := 1) rfl rfl) hP hD hK hS hA [1, 2, 3, 4, 7, 8, 9, 10, 11] [0, 5, 6] [0, 3, 4, 5, 6, 1, 2, 7, 8, 9, 10, 11] rfl (by decide +kernel) rfl (by decide +kernel) (by decide +kernel) (by decide +kernel) rfl rfl rfl hl.1 (Nat.le_of_ble_eq_true rfl) dX8_joinAlong_25 ⟨Nat.le_of_ble_eq_true rfl, Nat.le_of_ble_eq_true rfl⟩ (fun H locs hP hD hS => ?_)
      obtain ⟨t, hd, h⟩ := ob_of h
      have K : ∀ (H : Heap) (locs : List Loc) (ls : Array Slot), va_P D vwCl [(q_, .inr (8, [.ref q_joints, .int s_steps, .ref q_from, .ref q_to, .ref q_twin, .ref q_firm, .ref q_first, .ref q_firmEnds, .ref q_reached, .ref q_nextLow, .ref q_nextHigh])), (q_joints, .inr (4, [.int s_joints_total, .ref q_joints_x, .ref q_joints_y, .ref q_joints_under])), (q_joints_under, .inl (ky 0, 129, .inl s_joints_under)), (q_joints_x, .inl (ky 0, 129, .inl s_joints_x)), (q_joints_y, .inl (ky 0, 129, .inl s_joints_y)), (q_nextHigh, .inl (ky 1, 128, .inr (.inl t.2.1))), (q_nextLow, .inl (ky 1, 128, .inr (.inl t.2.2))), (q_a1, .inr (1, [.int s_a1_width, .int s_a1_height, .int s_a1_lines, .ref q_a1_x, .ref q_a1_y, .ref q_a1_u, .ref q_a1_v])), (q_a1_u, .inl (ky 0, 18, .inl s_a1_u)), (q_a1_v, .inl (ky 0, 18, .inl s_a1_v)), (q_a1_x, .inl (ky 0, 18, .inl s_a1_x)), (q_a1_y, .inl (ky 0, 18, .inl s_a1_y))] H → va_D A [(q_, .inr (8, [.ref q_joints, .int s_steps, .ref q_from, .ref q_to, .ref q_twin, .ref q_firm, .ref q_first, .ref q_firmEnds, .ref q_reached, .ref q_nextLow, .ref q_nextHigh])), (q_joints, .inr (4, [.int s_joints_total, .ref q_joints_x, .ref q_joints_y, .ref q_joints_under])), (q_joints_under, .inl (ky 0, 129, .inl s_joints_under)), (q_joints_x, .inl (ky 0, 129, .inl s_joints_x)), (q_joints_y, .inl (ky 0, 129, .inl s_joints_y)), (q_nextHigh, .inl (ky 1, 128, .inr (.inl t.2.1))), (q_nextLow, .inl (ky 1, 128, .inr (.inl t.2.2))), (q_a1, .inr (1, [.int s_a1_width, .int s_a1_height, .int s_a1_lines, .ref q_a1_x, .ref q_a1_y, .ref q_a1_u, .ref q_a1_v])), (q_a1_u, .inl (ky 0, 18, .inl s_a1_u)), (q_a1_v, .inl (ky 0, 18, .inl s_a1_v)), (q_a1_x, .inl (ky 0, 18, .inl s_a1_x)), (q_a1_y, .inl (ky 0, 18, .inl s_a1_y))] → va_S A s.heap H locs → lv_has ls 5 [(0, .ref q_), (1, .ref q_a1), (2, .int a2), (3, .int t.1), (4, .int v2)] → W p l e rmX8_joinAlong s m args below meth c H locs 0 0 Q (F0 m 52 ls []) := by
        clear hd hP hD hS hl
        obtain ⟨v6, v7, v8⟩ := t
        replace h := dm3_of h
        intro H locs ls hP hD hS hl
        replace hP : va_P D vwCl [(q_, .inr (8, [.ref q_joints, .int s_steps, .ref q_from, .ref q_to, .ref q_twin, .ref q_firm, .ref q_first, .ref q_firmEnds, .ref q_reached, .ref q_nextLow, .ref q_nextHigh])), (q_joints, .inr (4, [.int s_joints_total, .ref q_joints_x, .ref q_joints_y, .ref q_joints_under])), (q_joints_under, .inl (ky 0, 129, .inl s_joints_under)), (q_joints_x, .inl (ky 0, 129, .inl s_joints_x)), (q_joints_y, .inl (ky 0, 129, .inl s_joints_y)), (q_nextHigh, .inl (ky 1, 128, .inr (.inl v7))), (q_nextLow, .inl (ky 1, 128, .inr (.inl v8))), (q_a1, .inr (1, [.int s_a1_width, .int s_a1_height, .int s_a1_lines, .ref q_a1_x, .ref q_a1_y, .ref q_a1_u, .ref q_a1_v])), (q_a1_u, .inl (ky 0, 18, .inl s_a1_u)), (q_a1_v, .inl (ky 0, 18, .inl s_a1_v)), (q_a1_x, .inl (ky 0, 18, .inl s_a1_x)), (q_a1_y, .inl (ky 0, 18, .inl s_a1_y))] H := hP
        replace hD : va_D A [(q_, .inr (8, [.ref q_joints, .int s_steps, .ref q_from, .ref q_to, .ref q_twin, .ref q_firm, .ref q_first, .ref q_firmEnds, .ref q_reached, .ref q_nextLow, .ref q_nextHigh])), (q_joints, .inr (4, [.int s_joints_total, .ref q_joints_x, .ref q_joints_y, .ref q_joints_under])), (q_joints_under, .inl (ky 0, 129, .inl s_joints_under)), (q_joints_x, .inl (ky 0, 129, .inl s_joints_x)), (q_joints_y, .inl (ky 0, 129, .inl s_joints_y)), (q_nextHigh, .inl (ky 1, 128, .inr (.inl v7))), (q_nextLow, .inl (ky 1, 128, .inr (.inl v8))), (q_a1, .inr (1, [.int s_a1_width, .int s_a1_height, .int s_a1_lines, .ref q_a1_x, .ref q_a1_y, .ref q_a1_u, .ref q_a1_v])), (q_a1_u, .inl (ky 0, 18, .inl s_a1_u)), (q_a1_v, .inl (ky 0, 18, .inl s_a1_v)), (q_a1_x, .inl (ky 0, 18, .inl s_a1_x)), (q_a1_y, .inl (ky 0, 18, .inl s_a1_y))] := hD
        replace hl : lv_has ls 5 [(0, .ref q_), (1, .ref q_a1), (2, .int a2), (3, .int v6), (4, .int v2)] := hl
        refine W.eq (g2 := F0 m 52 ls []) rfl ?_
        obtain ⟨x9, ex9⟩ : ∃ z : Int32, z = v2 + 1 := ⟨_, rfl⟩
        replace h := lt_at ex9 h
        refine lv_iinc (v := x9) (lv' := [(4, .int x9), (0, .ref q_), (1, .ref q_a1), (2, .int a2), (3, .int v6)]) hx hb dX8_joinAlong_52 hl (k := 4) rfl (by rw [ex9]; rfl) (by decide) rfl (fun ls hl => ?_)
        refine lv_goto (tgt := 5) hx hb dX8_joinAlong_55 (by decide) ?_
        cases h
        exact K _ _ _ hP hD hS (lv_sub hl [1, 2, 3, 4, 0] rfl)
      replace h := hd
      clear hd
      refine lv_if_eq (tgt := 52) hx hb dX8_joinAlong_28 (by decide) (fun hc => ?_) (fun hc => ?_)
      · replace h := if_t hc h
        cases h
        exact K _ _ _ hP hD hS (lv_sub hl [0, 1, 2, 3, 4] rfl)
      · replace h := if_f hc h
        refine lv_iload_n hx hb dX8_joinAlong_31 rfl (lv_at hl 3 rfl) ?_
        refine lv_if_lt (tgt := 49) hx hb dX8_joinAlong_32 (by decide) (fun hc => ?_) (fun hc => ?_)
        · replace h := if_t hc h
          refine lv_iload hx hb dX8_joinAlong_49 (lv_at hl 4 rfl) ?_
          refine lv_istore_n (lv' := [(3, .int v2), (0, .ref q_), (1, .ref q_a1), (2, .int a2), (4, .int v2)]) hx hb dX8_joinAlong_51 rfl hl (by decide) rfl (fun ls hl => ?_)
          cases h
          exact K _ _ _ hP hD hS (lv_sub hl [1, 2, 3, 0, 4] rfl)
        · replace h := if_f hc h
          refine lv_aload_n hx hb dX8_joinAlong_35 rfl (lv_at hl 0 rfl) ?_
          refine lv_iload_n hx hb dX8_joinAlong_36 rfl (lv_at hl 3 rfl) ?_
          refine lv_iload hx hb dX8_joinAlong_37 (lv_at hl 4 rfl) ?_
          obtain ⟨⟨o10, o11⟩, hc, h⟩ := ob_of h
          replace h := dm2_of h
          refine cv_v (As := [.int v1, .int v2]) (rest := []) (wr := [(q_joints, .inr (4, [.int s_joints_total, .ref q_joints_x, .ref q_joints_y, .ref q_joints_under])), (q_joints_under, .inl (ky 0, 129, .inl s_joints_under)), (q_joints_x, .inl (ky 0, 129, .inl s_joints_x)), (q_joints_y, .inl (ky 0, 129, .inl s_joints_y)), (q_a1, .inr (1, [.int s_a1_width, .int s_a1_height, .int s_a1_lines, .ref q_a1_x, .ref q_a1_y, .ref q_a1_u, .ref q_a1_v])), (q_a1_u, .inl (ky 0, 18, .inl s_a1_u)), (q_a1_v, .inl (ky 0, 18, .inl s_a1_v)), (q_a1_x, .inl (ky 0, 18, .inl s_a1_x)), (q_a1_y, .inl (ky 0, 18, .inl s_a1_y))]) (wn := [(q_, .inr (8, [.ref q_joints, .int s_steps, .ref q_from, .ref q_to, .ref q_twin, .ref q_firm, .ref q_first, .ref q_firmEnds, .ref q_reached, .ref q_nextLow, .ref q_nextHigh])), (q_joints, .inr (4, [.int s_joints_total, .ref q_joints_x, .ref q_joints_y, .ref q_joints_under])), (q_joints_under, .inl (ky 0, 129, .inl s_joints_under)), (q_joints_x, .inl (ky 0, 129, .inl s_joints_x)), (q_joints_y, .inl (ky 0, 129, .inl s_joints_y)), (q_nextHigh, .inl (ky 1, 128, .inr (.inl o10))), (q_nextLow, .inl (ky 1, 128, .inr (.inl o11))), (q_a1, .inr (1, [.int s_a1_width, .int s_a1_height, .int s_a1_lines, .ref q_a1_x, .ref q_a1_y, .ref q_a1_u, .ref q_a1_v])), (q_a1_u, .inl (ky 0, 18, .inl s_a1_u)), (q_a1_v, .inl (ky 0, 18, .inl s_a1_v)), (q_a1_x, .inl (ky 0, 18, .inl s_a1_x)), (q_a1_y, .inl (ky 0, 18, .inl s_a1_y))]) ⟨hx, hb, hml, hown, hts⟩ (c_X8_join l D ky q_ q_joints q_from q_to q_twin q_firm q_first q_firmEnds q_reached q_nextLow q_nextHigh v1 v2 s_steps v3 v4 hc) (cwV 2 hts gX8_joinAlong_X8_join rfl rfl rfl (by decide +kernel) ⟨Nat.le_of_ble_eq_true rfl, Nat.le_of_ble_eq_true rfl⟩) (rcv hK.1 hP (q0 := 0) rfl rfl) hP hD hK hS hA [0, 5, 6] [1, 2, 3, 4, 7, 8, 9, 10, 11] [9, 0, 1, 2, 3, 10, 11, 4, 5, 6, 7, 8] rfl (by decide +kernel) rfl (by decide +kernel) (by decide +kernel) (by decide +kernel) rfl rfl rfl hl.1 (Nat.le_of_ble_eq_true rfl) dX8_joinAlong_39 ⟨Nat.le_of_ble_eq_true rfl, Nat.le_of_ble_eq_true rfl⟩ (fun H locs hP hD hS => ?_)
          refine lv_aload_n hx hb dX8_joinAlong_42 rfl (lv_at hl 0 rfl) ?_
          refine lv_iload hx hb dX8_joinAlong_43 (lv_at hl 4 rfl) ?_
          refine lv_iload_n hx hb dX8_joinAlong_45 rfl (lv_at hl 3 rfl) ?_
          obtain ⟨⟨o12, o13⟩, hc, h⟩ := ob_of h
          replace h := dm2_of h
          refine cv_v (As := [.int v2, .int v1]) (rest := []) (wr := [(q_joints, .inr (4, [.int s_joints_total, .ref q_joints_x, .ref q_joints_y, .ref q_joints_under])), (q_joints_under, .inl (ky 0, 129, .inl s_joints_under)), (q_joints_x, .inl (ky 0, 129, .inl s_joints_x)), (q_joints_y, .inl (ky 0, 129, .inl s_joints_y)), (q_a1, .inr (1, [.int s_a1_width, .int s_a1_height, .int s_a1_lines, .ref q_a1_x, .ref q_a1_y, .ref q_a1_u, .ref q_a1_v])), (q_a1_u, .inl (ky 0, 18, .inl s_a1_u)), (q_a1_v, .inl (ky 0, 18, .inl s_a1_v)), (q_a1_x, .inl (ky 0, 18, .inl s_a1_x)), (q_a1_y, .inl (ky 0, 18, .inl s_a1_y))]) (wn := [(q_, .inr (8, [.ref q_joints, .int s_steps, .ref q_from, .ref q_to, .ref q_twin, .ref q_firm, .ref q_first, .ref q_firmEnds, .ref q_reached, .ref q_nextLow, .ref q_nextHigh])), (q_joints, .inr (4, [.int s_joints_total, .ref q_joints_x, .ref q_joints_y, .ref q_joints_under])), (q_joints_under, .inl (ky 0, 129, .inl s_joints_under)), (q_joints_x, .inl (ky 0, 129, .inl s_joints_x)), (q_joints_y, .inl (ky 0, 129, .inl s_joints_y)), (q_nextHigh, .inl (ky 1, 128, .inr (.inl o12))), (q_nextLow, .inl (ky 1, 128, .inr (.inl o13))), (q_a1, .inr (1, [.int s_a1_width, .int s_a1_height, .int s_a1_lines, .ref q_a1_x, .ref q_a1_y, .ref q_a1_u, .ref q_a1_v])), (q_a1_u, .inl (ky 0, 18, .inl s_a1_u)), (q_a1_v, .inl (ky 0, 18, .inl s_a1_v)), (q_a1_x, .inl (ky 0, 18, .inl s_a1_x)), (q_a1_y, .inl (ky 0, 18, .inl s_a1_y))]) ⟨hx, hb, hml, hown, hts⟩ (c_X8_join l D ky q_ q_joints q_from q_to q_twin q_firm q_first q_firmEnds q_reached q_nextLow q_nextHigh v2 v1 s_steps o10 o11 hc) (cwV 2 hts gX8_joinAlong_X8_join rfl rfl rfl (by decide +kernel) ⟨Nat.le_of_ble_eq_true rfl, Nat.le_of_ble_eq_true rfl⟩) (rcv hK.1 hP (q0 := 0) rfl rfl) hP hD hK hS hA [0, 5, 6] [1, 2, 3, 4, 7, 8, 9, 10, 11] [9, 0, 1, 2, 3, 10, 11, 4, 5, 6, 7, 8] rfl (by decide +kernel) rfl (by decide +kernel) (by decide +kernel) (by decide +kernel) rfl rfl rfl hl.1 (Nat.le_of_ble_eq_true rfl) dX8_joinAlong_46 ⟨Nat.le_of_ble_eq_true rfl, Nat.le_of_ble_eq_true rfl⟩ (fun H locs hP hD hS => ?_)
          refine lv_iload hx hb dX8_joinAlong_49 (lv_at hl 4 rfl) ?_
          refine lv_istore_n (lv' := [(3, .int v2), (0, .ref q_), (1, .ref q_a1), (2, .int a2), (4, .int v2)]) hx hb dX8_joinAlong_51 rfl hl (by decide) rfl (fun ls hl => ?_)
          cases h
          exact K _ _ _ hP hD hS (lv_sub hl [1, 2, 3, 0, 4] rfl)
  · have h1 := ex1_of h
    clear h hi
    rcases h1 with ⟨rfl, h⟩
    obtain ⟨v14, v15, v16, v17⟩ := t
    replace h := dm4_of h
    intro H locs ls hP hD hS hl
    replace hP : va_P D vwCl [(q_, .inr (8, [.ref q_joints, .int s_steps, .ref q_from, .ref q_to, .ref q_twin, .ref q_firm, .ref q_first, .ref q_firmEnds, .ref q_reached, .ref q_nextLow, .ref q_nextHigh])), (q_joints, .inr (4, [.int s_joints_total, .ref q_joints_x, .ref q_joints_y, .ref q_joints_under])), (q_joints_under, .inl (ky 0, 129, .inl s_joints_under)), (q_joints_x, .inl (ky 0, 129, .inl s_joints_x)), (q_joints_y, .inl (ky 0, 129, .inl s_joints_y)), (q_nextHigh, .inl (ky 1, 128, .inr (.inl v16))), (q_nextLow, .inl (ky 1, 128, .inr (.inl v17))), (q_a1, .inr (1, [.int s_a1_width, .int s_a1_height, .int s_a1_lines, .ref q_a1_x, .ref q_a1_y, .ref q_a1_u, .ref q_a1_v])), (q_a1_u, .inl (ky 0, 18, .inl s_a1_u)), (q_a1_v, .inl (ky 0, 18, .inl s_a1_v)), (q_a1_x, .inl (ky 0, 18, .inl s_a1_x)), (q_a1_y, .inl (ky 0, 18, .inl s_a1_y))] H := hP
    replace hD : va_D A [(q_, .inr (8, [.ref q_joints, .int s_steps, .ref q_from, .ref q_to, .ref q_twin, .ref q_firm, .ref q_first, .ref q_firmEnds, .ref q_reached, .ref q_nextLow, .ref q_nextHigh])), (q_joints, .inr (4, [.int s_joints_total, .ref q_joints_x, .ref q_joints_y, .ref q_joints_under])), (q_joints_under, .inl (ky 0, 129, .inl s_joints_under)), (q_joints_x, .inl (ky 0, 129, .inl s_joints_x)), (q_joints_y, .inl (ky 0, 129, .inl s_joints_y)), (q_nextHigh, .inl (ky 1, 128, .inr (.inl v16))), (q_nextLow, .inl (ky 1, 128, .inr (.inl v17))), (q_a1, .inr (1, [.int s_a1_width, .int s_a1_height, .int s_a1_lines, .ref q_a1_x, .ref q_a1_y, .ref q_a1_u, .ref q_a1_v])), (q_a1_u, .inl (ky 0, 18, .inl s_a1_u)), (q_a1_v, .inl (ky 0, 18, .inl s_a1_v)), (q_a1_x, .inl (ky 0, 18, .inl s_a1_x)), (q_a1_y, .inl (ky 0, 18, .inl s_a1_y))] := hD
    replace hl : lv_has ls 5 [(0, .ref q_), (1, .ref q_a1), (2, .int a2), (3, .int v14), (4, .int v15)] := hl
    refine W.eq (g2 := F0 m 58 ls []) rfl ?_
    exact rt _ h _ _ _ _ dX8_joinAlong_58 hP hD hS

def sX8_areJoined (a1 : Int32) (a2 : Int32) (s_nextHigh : Nat → Int64) (s_nextLow : Nat → Int64) : Option (Int32) := ob (if (64 : Int32) ≤ a2 then gd (¬ (a1 < 0 ∨ 128 ≤ a1.toNatClampNeg)) (some (s_nextHigh a1.toNatClampNeg)) else gd (¬ (a1 < 0 ∨ 128 ≤ a1.toNatClampNeg)) (some (s_nextLow a1.toNatClampNeg))) (fun t => dm1 t (fun (v1 : Int64) => gd (¬ (64 : Int32) = 0) (if (lg_cmp (((v1.toUInt64 >>> ((a2 - a2 / (64 : Int32) * (64 : Int32)).toInt64.toUInt64 &&& Int64.toUInt64 63)).toInt64) &&& (1 : Int64)) (0 : Int64)) = 0 then some (0 : Int32) else some (1 : Int32))))
abbrev rmX8_areJoined : Room := { frames := 0, cells := 0, slots := 0, locals := 0 }
set_option maxHeartbeats 4000000 in
set_option maxRecDepth 100000 in
theorem c_X8_areJoined (l : Launch) (D : va_G) (ky : Nat → ClassId) (q_ q_joints q_from q_to q_twin q_firm q_first q_firmEnds q_reached q_nextLow q_nextHigh : Nat) (a1 : Int32) (a2 : Int32) (s_steps : Int32) (s_nextHigh : Nat → Int64) (s_nextLow : Nat → Int64) {o_r : Int32} (h : sX8_areJoined a1 a2 s_nextHigh s_nextLow = some o_r) : MtI l D ky yX8_areJoined wsX8_areJoined rmX8_areJoined [.ref q_, .int a1, .int a2] [(q_, .inr (8, [.ref q_joints, .int s_steps, .ref q_from, .ref q_to, .ref q_twin, .ref q_firm, .ref q_first, .ref q_firmEnds, .ref q_reached, .ref q_nextLow, .ref q_nextHigh])), (q_nextHigh, .inl (ky 1, 128, .inr (.inl s_nextHigh))), (q_nextLow, .inl (ky 1, 128, .inr (.inl s_nextLow)))] [(q_, .inr (8, [.ref q_joints, .int s_steps, .ref q_from, .ref q_to, .ref q_twin, .ref q_firm, .ref q_first, .ref q_firmEnds, .ref q_reached, .ref q_nextLow, .ref q_nextHigh])), (q_nextHigh, .inl (ky 1, 128, .inr (.inl s_nextHigh))), (q_nextLow, .inl (ky 1, 128, .inr (.inl s_nextLow)))] o_r 0 0 := by
  refine MtI.ofB (cc := cX8_areJoined) (maxL := 5) (by decide +kernel) rfl (Nat.le_of_ble_eq_true rfl) ?_
  intro p e R s m args below meth c A Q ls hR hx hb hts hown hnm hml hP hK hD hA ret hl
  subst hR
  obtain ⟨H, hH⟩ : ∃ H, H = s.heap := ⟨_, rfl⟩
  obtain ⟨locs, hlocs⟩ : ∃ locs : List Loc, locs = [] := ⟨_, rfl⟩
  have hS : va_S A s.heap H locs := by rw [hH, hlocs]; exact va_S.rf
  rw [← hH] at hP
  suffices hgo : W p l e rmX8_areJoined s m args below meth c H locs 0 0 Q (F0 m 0 ls []) by rw [hH, hlocs] at hgo; exact hgo
  clear hH hlocs
  replace hl : lv_has ls 5 [(0, .ref q_), (1, .int a1), (2, .int a2)] := hl
  replace hown : s.vm.findClass RX8 = some m.cls := hown
  have hi_X8 : ∀ w ∈ u_ws RX8 TX8 11, w ∈ wsX8_areJoined := fun _ h9 => List.mem_cons_of_mem _ (List.mem_append_right _ h9)
  have hf_42 := hts (.fieldLink RX8 42 "GlazierBench$Pieces" "nextHigh" "[J") (by decide +kernel)
  have hf_38 := hts (.fieldLink RX8 38 "GlazierBench$Pieces" "nextLow" "[J") (by decide +kernel)
  unfold sX8_areJoined at h
  refine lv_iload_n hx hb dX8_areJoined_0 rfl (lv_at hl 2 rfl) ?_
  refine lv_bipush (v := 64) hx hb dX8_areJoined_1 (by decide) ?_
  obtain ⟨t, hd, h⟩ := ob_of h
  have K : ∀ (H : Heap) (locs : List Loc) (ls : Array Slot), va_P D vwCl [(q_, .inr (8, [.ref q_joints, .int s_steps, .ref q_from, .ref q_to, .ref q_twin, .ref q_firm, .ref q_first, .ref q_firmEnds, .ref q_reached, .ref q_nextLow, .ref q_nextHigh])), (q_nextHigh, .inl (ky 1, 128, .inr (.inl s_nextHigh))), (q_nextLow, .inl (ky 1, 128, .inr (.inl s_nextLow)))] H → va_D A [(q_, .inr (8, [.ref q_joints, .int s_steps, .ref q_from, .ref q_to, .ref q_twin, .ref q_firm, .ref q_first, .ref q_firmEnds, .ref q_reached, .ref q_nextLow, .ref q_nextHigh])), (q_nextHigh, .inl (ky 1, 128, .inr (.inl s_nextHigh))), (q_nextLow, .inl (ky 1, 128, .inr (.inl s_nextLow)))] → va_S A s.heap H locs → lv_has ls 5 [(2, .int a2)] → W p l e rmX8_areJoined s m args below meth c H locs 0 0 Q (F0 m 21 ls [.long t]) := by
    clear hd hP hD hS hl
    obtain ⟨v1, rfl⟩ : ∃ z, z = t := ⟨_, rfl⟩
    replace h := dm1_of h
    intro H locs ls hP hD hS hl
    replace hP : va_P D vwCl [(q_, .inr (8, [.ref q_joints, .int s_steps, .ref q_from, .ref q_to, .ref q_twin, .ref q_firm, .ref q_first, .ref q_firmEnds, .ref q_reached, .ref q_nextLow, .ref q_nextHigh])), (q_nextHigh, .inl (ky 1, 128, .inr (.inl s_nextHigh))), (q_nextLow, .inl (ky 1, 128, .inr (.inl s_nextLow)))] H := hP
    replace hD : va_D A [(q_, .inr (8, [.ref q_joints, .int s_steps, .ref q_from, .ref q_to, .ref q_twin, .ref q_firm, .ref q_first, .ref q_firmEnds, .ref q_reached, .ref q_nextLow, .ref q_nextHigh])), (q_nextHigh, .inl (ky 1, 128, .inr (.inl s_nextHigh))), (q_nextLow, .inl (ky 1, 128, .inr (.inl s_nextLow)))] := hD
    replace hl : lv_has ls 5 [(2, .int a2)] := hl
    refine W.eq (g2 := F0 m 21 ls [.long v1]) rfl ?_
    refine lv_lstore_n (lv' := [(3, .long v1), (2, .int a2)]) hx hb dX8_areJoined_21 rfl hl (by decide) rfl (fun ls hl => ?_)
    refine lv_lload_n hx hb dX8_areJoined_22 rfl (lv_at hl 0 rfl) ?_
    refine lv_iload_n hx hb dX8_areJoined_23 rfl (lv_at hl 1 rfl) ?_
    refine lv_bipush (v := 64) hx hb dX8_areJoined_24 (by decide) ?_
    obtain ⟨hg, h⟩ := gd_of h
    refine lv_irem hx hb dX8_areJoined_26 hg ?_
    refine lv_lushr (v := (v1.toUInt64 >>> ((a2 - a2 / (64 : Int32) * (64 : Int32)).toInt64.toUInt64 &&& Int64.toUInt64 63)).toInt64) hx hb dX8_areJoined_27 rfl ?_
    refine lv_lconst (v := 1) hx hb dX8_areJoined_28 (by decide) ?_
    refine lv_land hx hb dX8_areJoined_29 ?_
    refine lv_lconst (v := 0) hx hb dX8_areJoined_30 (by decide) ?_
    refine W.lcmp hx hb dX8_areJoined_31 ?_
    refine lv_if_eq (tgt := 39) hx hb dX8_areJoined_32 (by decide) (fun hc => ?_) (fun hc => ?_)
    · replace h := if_t hc h
      refine lv_iconst (v := 0) hx hb dX8_areJoined_39 (by decide) ?_
      cases h
      exact ret _ _ _ _ (Or.inl rfl) dX8_areJoined_40 hP hD hS
    · replace h := if_f hc h
      refine lv_iconst (v := 1) hx hb dX8_areJoined_35 (by decide) ?_
      refine lv_goto (tgt := 40) hx hb dX8_areJoined_36 (by decide) ?_
      cases h
      exact ret _ _ _ _ (Or.inr rfl) dX8_areJoined_40 hP hD hS
  replace h := hd
  clear hd
  refine lv_icmp_ge (tgt := 15) hx hb dX8_areJoined_3 (by decide) (fun hc => ?_) (fun hc => ?_)
  · replace h := if_t hc h
    refine lv_aload_n hx hb dX8_areJoined_15 rfl (lv_at hl 0 rfl) ?_
    refine va_get (D := D) (ci := 8) (v := .ref q_nextHigh) (C := RX8) (T := TX8) (N := 11) hx hb hts hi_X8 hown hK.1 hP 0 rfl rfl 10 (by decide) hf_42 (fun _ h9 => h9) rfl dX8_areJoined_16 ?_
    refine lv_iload_n hx hb dX8_areJoined_19 rfl (lv_at hl 1 rfl) ?_
    obtain ⟨hg, h⟩ := gd_of h
    refine va_lald hx hb hK.1 hP 1 1 rfl rfl hg dX8_areJoined_20 ?_
    cases h
    exact K _ _ _ hP hD hS (lv_sub hl [2] rfl)
  · replace h := if_f hc h
    refine lv_aload_n hx hb dX8_areJoined_6 rfl (lv_at hl 0 rfl) ?_
    refine va_get (D := D) (ci := 8) (v := .ref q_nextLow) (C := RX8) (T := TX8) (N := 11) hx hb hts hi_X8 hown hK.1 hP 0 rfl rfl 9 (by decide) hf_38 (fun _ h9 => h9) rfl dX8_areJoined_7 ?_
    refine lv_iload_n hx hb dX8_areJoined_10 rfl (lv_at hl 1 rfl) ?_
    obtain ⟨hg, h⟩ := gd_of h
    refine va_lald hx hb hK.1 hP 2 1 rfl rfl hg dX8_areJoined_11 ?_
    refine lv_goto (tgt := 21) hx hb dX8_areJoined_12 (by decide) ?_
    cases h
    exact K _ _ _ hP hD hS (lv_sub hl [2] rfl)

def bX8_listSteps_30 (s_joints_total : Int32) (s_nextHigh : Nat → Int64) (s_nextLow : Nat → Int64) (v1 : Int32) (t : Int32 × Int32 × (Nat → Int32) × (Nat → Int32)) : Option (Nat × (Int32 × Int32 × (Nat → Int32) × (Nat → Int32))) := dm4 t (fun (v7 : Int32) (v8 : Int32) (v9 : Nat → Int32) (v10 : Nat → Int32) => if s_joints_total ≤ v7 then some (1, (v7, v8, v9, v10)) else ob (sX8_areJoined v1 v7 s_nextHigh s_nextLow) (fun o => dm1 o (fun (r11 : Int32) => ob (if r11 = 0 then some (v8, v9, v10) else if (768 : Int32) ≤ v8 then some (v8, v9, v10) else gd (¬ (v8 < 0 ∨ 768 ≤ v8.toNatClampNeg)) (lt (upd v9 v8.toNatClampNeg v1) (fun f16 => gd (¬ (v8 < 0 ∨ 768 ≤ v8.toNatClampNeg)) (lt (upd v10 v8.toNatClampNeg v7) (fun f17 => lt (v8 + (1 : Int32)) (fun x18 => some (x18, f16, f17))))))) (fun t => dm3 t (fun (v12 : Int32) (v13 : Nat → Int32) (v14 : Nat → Int32) => lt (v7 + 1) (fun x15 => some (0, (x15, v12, v13, v14))))))))
def bX8_listSteps_7 (s_joints_total : Int32) (s_nextHigh : Nat → Int64) (s_nextLow : Nat → Int64) (t : Int32 × Int32 × (Nat → Int32) × (Nat → Int32) × (Nat → Int32)) : Option (Nat × (Int32 × Int32 × (Nat → Int32) × (Nat → Int32) × (Nat → Int32))) := dm5 t (fun (v1 : Int32) (v2 : Int32) (v3 : Nat → Int32) (v4 : Nat → Int32) (v5 : Nat → Int32) => if s_joints_total ≤ v1 then some (1, (v1, v2, v3, v4, v5)) else gd (¬ (v1 < 0 ∨ 129 ≤ v1.toNatClampNeg)) (lt (upd v3 v1.toNatClampNeg v2) (fun f6 => ob (iter (bX8_listSteps_30 s_joints_total s_nextHigh s_nextLow v1) FU ((0 : Int32), v2, v4, v5)) (fun kt => ex1 kt (fun t => dm4 t (fun (v19 : Int32) (v20 : Int32) (v21 : Nat → Int32) (v22 : Nat → Int32) => lt (v1 + 1) (fun x23 => some (0, (x23, v20, f6, v21, v22)))))))))
def sX8_listSteps  (s_steps : Int32) (s_first : Nat → Int32) (s_from : Nat → Int32) (s_joints_total : Int32) (s_nextHigh : Nat → Int64) (s_nextLow : Nat → Int64) (s_to : Nat → Int32) : Option (Int32 × (Nat → Int32) × (Nat → Int32) × (Nat → Int32)) := ob (iter (bX8_listSteps_7 s_joints_total s_nextHigh s_nextLow) FU ((0 : Int32), (0 : Int32), s_first, s_from, s_to)) (fun kt => ex1 kt (fun t => dm5 t (fun (v24 : Int32) (v25 : Int32) (v26 : Nat → Int32) (v27 : Nat → Int32) (v28 : Nat → Int32) => gd (¬ (s_joints_total < 0 ∨ 129 ≤ s_joints_total.toNatClampNeg)) (lt (upd v26 s_joints_total.toNatClampNeg v25) (fun f29 => some (v25, f29, v27, v28))))))
abbrev rmX8_listSteps : Room := { frames := 1, cells := 0, slots := 0, locals := 24 }
set_option maxHeartbeats 4000000 in
set_option maxRecDepth 100000 in
theorem c_X8_listSteps (l : Launch) (D : va_G) (ky : Nat → ClassId) (q_ q_joints q_from q_to q_twin q_firm q_first q_firmEnds q_reached q_nextLow q_nextHigh q_joints_x q_joints_y q_joints_under : Nat) (s_steps : Int32) (s_first : Nat → Int32) (s_from : Nat → Int32) (s_joints_total : Int32) (s_nextHigh : Nat → Int64) (s_nextLow : Nat → Int64) (s_to : Nat → Int32) {o_steps : Int32} {o_first : Nat → Int32} {o_from : Nat → Int32} {o_to : Nat → Int32} (h : sX8_listSteps s_steps s_first s_from s_joints_total s_nextHigh s_nextLow s_to = some (o_steps, o_first, o_from, o_to)) : MtV l D ky yX8_listSteps wsX8_listSteps rmX8_listSteps [.ref q_] [(q_, .inr (8, [.ref q_joints, .int s_steps, .ref q_from, .ref q_to, .ref q_twin, .ref q_firm, .ref q_first, .ref q_firmEnds, .ref q_reached, .ref q_nextLow, .ref q_nextHigh])), (q_first, .inl (ky 0, 129, .inl s_first)), (q_from, .inl (ky 0, 768, .inl s_from)), (q_joints, .inr (4, [.int s_joints_total, .ref q_joints_x, .ref q_joints_y, .ref q_joints_under])), (q_nextHigh, .inl (ky 1, 128, .inr (.inl s_nextHigh))), (q_nextLow, .inl (ky 1, 128, .inr (.inl s_nextLow))), (q_to, .inl (ky 0, 768, .inl s_to))] [(q_, .inr (8, [.ref q_joints, .int o_steps, .ref q_from, .ref q_to, .ref q_twin, .ref q_firm, .ref q_first, .ref q_firmEnds, .ref q_reached, .ref q_nextLow, .ref q_nextHigh])), (q_first, .inl (ky 0, 129, .inl o_first)), (q_from, .inl (ky 0, 768, .inl o_from)), (q_joints, .inr (4, [.int s_joints_total, .ref q_joints_x, .ref q_joints_y, .ref q_joints_under])), (q_nextHigh, .inl (ky 1, 128, .inr (.inl s_nextHigh))), (q_nextLow, .inl (ky 1, 128, .inr (.inl s_nextLow))), (q_to, .inl (ky 0, 768, .inl o_to))] 0 0 := by
  refine MtV.of (cc := cX8_listSteps) (maxL := 3) (by decide +kernel) rfl (Nat.le_of_ble_eq_true rfl) ?_
  intro p e R s m args below meth c A Q ls hR hx hb hts hown hnm hml hP hK hD hA ret hl
  have rt := rtV (dc := fun pc => decode cX8_listSteps pc = .ok (.return_, 1)) (o_steps, o_first, o_from, o_to) (fun t => [(q_, .inr (8, [.ref q_joints, .int t.1, .ref q_from, .ref q_to, .ref q_twin, .ref q_firm, .ref q_first, .ref q_firmEnds, .ref q_reached, .ref q_nextLow, .ref q_nextHigh])), (q_first, .inl (ky 0, 129, .inl t.2.1)), (q_from, .inl (ky 0, 768, .inl t.2.2.1)), (q_joints, .inr (4, [.int s_joints_total, .ref q_joints_x, .ref q_joints_y, .ref q_joints_under])), (q_nextHigh, .inl (ky 1, 128, .inr (.inl s_nextHigh))), (q_nextLow, .inl (ky 1, 128, .inr (.inl s_nextLow))), (q_to, .inl (ky 0, 768, .inl t.2.2.2))]) ret
  subst hR
  obtain ⟨H, hH⟩ : ∃ H, H = s.heap := ⟨_, rfl⟩
  obtain ⟨locs, hlocs⟩ : ∃ locs : List Loc, locs = [] := ⟨_, rfl⟩
  have hS : va_S A s.heap H locs := by rw [hH, hlocs]; exact va_S.rf
  rw [← hH] at hP
  suffices hgo : W p l e rmX8_listSteps s m args below meth c H locs 0 0 Q (F0 m 0 ls []) by rw [hH, hlocs] at hgo; exact hgo
  clear hH hlocs
  replace hl : lv_has ls 3 [(0, .ref q_)] := hl
  replace hown : s.vm.findClass RX8 = some m.cls := hown
  have hi_X8 : ∀ w ∈ u_ws RX8 TX8 11, w ∈ wsX8_listSteps := fun _ h9 => List.mem_cons_of_mem _ (List.mem_append_left _ (List.mem_append_right _ h9))
  have hf_83 := hts (.fieldLink RX8 83 "GlazierBench$Pieces" "steps" "I") (by decide +kernel)
  have hf_9 := hts (.fieldLink RX8 9 "GlazierBench$Pieces" "joints" "LGlazierBench$Joints;") (by decide +kernel)
  have hi_X4 : ∀ w ∈ u_ws RX4 TX4 4, w ∈ wsX8_listSteps := fun _ h9 => List.mem_cons_of_mem _ (List.mem_append_right _ h9)
  have hf_45 := hts (.fieldLink RX8 45 "GlazierBench$Joints" "total" "I") (by decide +kernel)
  have hf_29 := hts (.fieldLink RX8 29 "GlazierBench$Pieces" "first" "[I") (by decide +kernel)
  have hf_15 := hts (.fieldLink RX8 15 "GlazierBench$Pieces" "from" "[I") (by decide +kernel)
  have hf_19 := hts (.fieldLink RX8 19 "GlazierBench$Pieces" "to" "[I") (by decide +kernel)
  unfold sX8_listSteps at h
  refine lv_aload_n hx hb dX8_listSteps_0 rfl (lv_at hl 0 rfl) ?_
  refine lv_iconst (v := 0) hx hb dX8_listSteps_1 (by decide) ?_
  refine va_put (D := D) (ci := 8) (v := .int (0 : Int32)) (ty := .int) (C := RX8) (T := TX8) (N := 11) hx hb hts hi_X8 tyX8 tyX8_ok nmX8 hown hK.1 hP hD hS 0 rfl rfl 1 (by decide) hf_83 (fun _ h9 => h9) rfl (by decide +kernel) rfl rfl (Nat.le_of_ble_eq_true rfl) dX8_listSteps_2 (fun H locs hP hD hS => ?_)
  replace hP : va_P D vwCl [(q_, .inr (8, [.ref q_joints, .int (0 : Int32), .ref q_from, .ref q_to, .ref q_twin, .ref q_firm, .ref q_first, .ref q_firmEnds, .ref q_reached, .ref q_nextLow, .ref q_nextHigh])), (q_first, .inl (ky 0, 129, .inl s_first)), (q_from, .inl (ky 0, 768, .inl s_from)), (q_joints, .inr (4, [.int s_joints_total, .ref q_joints_x, .ref q_joints_y, .ref q_joints_under])), (q_nextHigh, .inl (ky 1, 128, .inr (.inl s_nextHigh))), (q_nextLow, .inl (ky 1, 128, .inr (.inl s_nextLow))), (q_to, .inl (ky 0, 768, .inl s_to))] H := hP
  replace hD : va_D A [(q_, .inr (8, [.ref q_joints, .int (0 : Int32), .ref q_from, .ref q_to, .ref q_twin, .ref q_firm, .ref q_first, .ref q_firmEnds, .ref q_reached, .ref q_nextLow, .ref q_nextHigh])), (q_first, .inl (ky 0, 129, .inl s_first)), (q_from, .inl (ky 0, 768, .inl s_from)), (q_joints, .inr (4, [.int s_joints_total, .ref q_joints_x, .ref q_joints_y, .ref q_joints_under])), (q_nextHigh, .inl (ky 1, 128, .inr (.inl s_nextHigh))), (q_nextLow, .inl (ky 1, 128, .inr (.inl s_nextLow))), (q_to, .inl (ky 0, 768, .inl s_to))] := hD
  refine lv_iconst (v := 0) hx hb dX8_listSteps_5 (by decide) ?_
  refine lv_istore_n (lv' := [(1, .int (0 : Int32)), (0, .ref q_)]) hx hb dX8_listSteps_6 rfl hl (by decide) rfl (fun ls hl => ?_)
  obtain ⟨⟨k, t⟩, hi, h⟩ := ob_of h
  refine iter_rule (P := fun (k : Nat) (t : Int32 × Int32 × (Nat → Int32) × (Nat → Int32) × (Nat → Int32)) => ∀ (H : Heap) (locs : List Loc) (ls : Array Slot), va_P D vwCl [(q_, .inr (8, [.ref q_joints, .int t.2.1, .ref q_from, .ref q_to, .ref q_twin, .ref q_firm, .ref q_first, .ref q_firmEnds, .ref q_reached, .ref q_nextLow, .ref q_nextHigh])), (q_first, .inl (ky 0, 129, .inl t.2.2.1)), (q_from, .inl (ky 0, 768, .inl t.2.2.2.1)), (q_joints, .inr (4, [.int s_joints_total, .ref q_joints_x, .ref q_joints_y, .ref q_joints_under])), (q_nextHigh, .inl (ky 1, 128, .inr (.inl s_nextHigh))), (q_nextLow, .inl (ky 1, 128, .inr (.inl s_nextLow))), (q_to, .inl (ky 0, 768, .inl t.2.2.2.2))] H → va_D A [(q_, .inr (8, [.ref q_joints, .int t.2.1, .ref q_from, .ref q_to, .ref q_twin, .ref q_firm, .ref q_first, .ref q_firmEnds, .ref q_reached, .ref q_nextLow, .ref q_nextHigh])), (q_first, .inl (ky 0, 129, .inl t.2.2.1)), (q_from, .inl (ky 0, 768, .inl t.2.2.2.1)), (q_joints, .inr (4, [.int s_joints_total, .ref q_joints_x, .ref q_joints_y, .ref q_joints_under])), (q_nextHigh, .inl (ky 1, 128, .inr (.inl s_nextHigh))), (q_nextLow, .inl (ky 1, 128, .inr (.inl s_nextLow))), (q_to, .inl (ky 0, 768, .inl t.2.2.2.2))] → va_S A s.heap H locs → lv_has ls 3 [(0, .ref q_), (1, .int t.1)] → W p l e rmX8_listSteps s m args below meth c H locs 0 0 Q (F0 m ([7, 102].getD k 0) ls [])) ?_ _ _ _ _ hi ?_ H locs ls hP hD hS (lv_sub hl [1, 0] rfl)
  · clear h hi hP hD hS hl
    intro t k t' h K
    obtain ⟨v1, v2, v3, v4, v5⟩ := t
    intro H locs ls hP hD hS hl
    replace h := dm5_of h
    replace hP : va_P D vwCl [(q_, .inr (8, [.ref q_joints, .int v2, .ref q_from, .ref q_to, .ref q_twin, .ref q_firm, .ref q_first, .ref q_firmEnds, .ref q_reached, .ref q_nextLow, .ref q_nextHigh])), (q_first, .inl (ky 0, 129, .inl v3)), (q_from, .inl (ky 0, 768, .inl v4)), (q_joints, .inr (4, [.int s_joints_total, .ref q_joints_x, .ref q_joints_y, .ref q_joints_under])), (q_nextHigh, .inl (ky 1, 128, .inr (.inl s_nextHigh))), (q_nextLow, .inl (ky 1, 128, .inr (.inl s_nextLow))), (q_to, .inl (ky 0, 768, .inl v5))] H := hP
    replace hD : va_D A [(q_, .inr (8, [.ref q_joints, .int v2, .ref q_from, .ref q_to, .ref q_twin, .ref q_firm, .ref q_first, .ref q_firmEnds, .ref q_reached, .ref q_nextLow, .ref q_nextHigh])), (q_first, .inl (ky 0, 129, .inl v3)), (q_from, .inl (ky 0, 768, .inl v4)), (q_joints, .inr (4, [.int s_joints_total, .ref q_joints_x, .ref q_joints_y, .ref q_joints_under])), (q_nextHigh, .inl (ky 1, 128, .inr (.inl s_nextHigh))), (q_nextLow, .inl (ky 1, 128, .inr (.inl s_nextLow))), (q_to, .inl (ky 0, 768, .inl v5))] := hD
    replace hl : lv_has ls 3 [(0, .ref q_), (1, .int v1)] := hl
    refine lv_iload_n hx hb dX8_listSteps_7 rfl (lv_at hl 1 rfl) ?_
    refine lv_aload_n hx hb dX8_listSteps_8 rfl (lv_at hl 0 rfl) ?_
    refine va_get (D := D) (ci := 8) (v := .ref q_joints) (C := RX8) (T := TX8) (N := 11) hx hb hts hi_X8 hown hK.1 hP 0 rfl rfl 0 (by decide) hf_9 (fun _ h9 => h9) rfl dX8_listSteps_9 ?_
    refine va_get (D := D) (ci := 4) (v := .int s_joints_total) (C := RX4) (T := TX4) (N := 4) hx hb hts hi_X4 hown hK.1 hP 3 rfl rfl 0 (by decide) hf_45 (fun _ h9 => h9) rfl dX8_listSteps_12 ?_
    refine lv_icmp_ge (tgt := 102) hx hb dX8_listSteps_15 (by decide) (fun hc => ?_) (fun hc => ?_)
    · replace h := if_t hc h
      cases h
      exact K _ _ _ hP hD hS (lv_sub hl [0, 1] rfl)
    · replace h := if_f hc h
      refine lv_aload_n hx hb dX8_listSteps_18 rfl (lv_at hl 0 rfl) ?_
      refine va_get (D := D) (ci := 8) (v := .ref q_first) (C := RX8) (T := TX8) (N := 11) hx hb hts hi_X8 hown hK.1 hP 0 rfl rfl 6 (by decide) hf_29 (fun _ h9 => h9) rfl dX8_listSteps_19 ?_
      refine lv_iload_n hx hb dX8_listSteps_22 rfl (lv_at hl 1 rfl) ?_
      refine lv_aload_n hx hb dX8_listSteps_23 rfl (lv_at hl 0 rfl) ?_
      refine va_get (D := D) (ci := 8) (v := .int v2) (C := RX8) (T := TX8) (N := 11) hx hb hts hi_X8 hown hK.1 hP 0 rfl rfl 1 (by decide) hf_83 (fun _ h9 => h9) rfl dX8_listSteps_24 ?_
      obtain ⟨hg, h⟩ := gd_of h
      refine r_iast hx hb hK.1 hP hD hS 1 0 rfl rfl hg dX8_listSteps_27 (fun f6 ef6 H locs hP hD hS => ?_)
      replace h := lt_at ef6 h
      replace hP : va_P D vwCl [(q_, .inr (8, [.ref q_joints, .int v2, .ref q_from, .ref q_to, .ref q_twin, .ref q_firm, .ref q_first, .ref q_firmEnds, .ref q_reached, .ref q_nextLow, .ref q_nextHigh])), (q_first, .inl (ky 0, 129, .inl f6)), (q_from, .inl (ky 0, 768, .inl v4)), (q_joints, .inr (4, [.int s_joints_total, .ref q_joints_x, .ref q_joints_y, .ref q_joints_under])), (q_nextHigh, .inl (ky 1, 128, .inr (.inl s_nextHigh))), (q_nextLow, .inl (ky 1, 128, .inr (.inl s_nextLow))), (q_to, .inl (ky 0, 768, .inl v5))] H := hP
      replace hD : va_D A [(q_, .inr (8, [.ref q_joints, .int v2, .ref q_from, .ref q_to, .ref q_twin, .ref q_firm, .ref q_first, .ref q_firmEnds, .ref q_reached, .ref q_nextLow, .ref q_nextHigh])), (q_first, .inl (ky 0, 129, .inl f6)), (q_from, .inl (ky 0, 768, .inl v4)), (q_joints, .inr (4, [.int s_joints_total, .ref q_joints_x, .ref q_joints_y, .ref q_joints_under])), (q_nextHigh, .inl (ky 1, 128, .inr (.inl s_nextHigh))), (q_nextLow, .inl (ky 1, 128, .inr (.inl s_nextLow))), (q_to, .inl (ky 0, 768, .inl v5))] := hD
      refine lv_iconst (v := 0) hx hb dX8_listSteps_28 (by decide) ?_
      refine lv_istore_n (lv' := [(2, .int (0 : Int32)), (0, .ref q_), (1, .int v1)]) hx hb dX8_listSteps_29 rfl hl (by decide) rfl (fun ls hl => ?_)
      obtain ⟨⟨k, t⟩, hi, h⟩ := ob_of h
      refine iter_rule (P := fun (k : Nat) (t : Int32 × Int32 × (Nat → Int32) × (Nat → Int32)) => ∀ (H : Heap) (locs : List Loc) (ls : Array Slot), va_P D vwCl [(q_, .inr (8, [.ref q_joints, .int t.2.1, .ref q_from, .ref q_to, .ref q_twin, .ref q_firm, .ref q_first, .ref q_firmEnds, .ref q_reached, .ref q_nextLow, .ref q_nextHigh])), (q_first, .inl (ky 0, 129, .inl f6)), (q_from, .inl (ky 0, 768, .inl t.2.2.1)), (q_joints, .inr (4, [.int s_joints_total, .ref q_joints_x, .ref q_joints_y, .ref q_joints_under])), (q_nextHigh, .inl (ky 1, 128, .inr (.inl s_nextHigh))), (q_nextLow, .inl (ky 1, 128, .inr (.inl s_nextLow))), (q_to, .inl (ky 0, 768, .inl t.2.2.2))] H → va_D A [(q_, .inr (8, [.ref q_joints, .int t.2.1, .ref q_from, .ref q_to, .ref q_twin, .ref q_firm, .ref q_first, .ref q_firmEnds, .ref q_reached, .ref q_nextLow, .ref q_nextHigh])), (q_first, .inl (ky 0, 129, .inl f6)), (q_from, .inl (ky 0, 768, .inl t.2.2.1)), (q_joints, .inr (4, [.int s_joints_total, .ref q_joints_x, .ref q_joints_y, .ref q_joints_under])), (q_nextHigh, .inl (ky 1, 128, .inr (.inl s_nextHigh))), (q_nextLow, .inl (ky 1, 128, .inr (.inl s_nextLow))), (q_to, .inl (ky 0, 768, .inl t.2.2.2))] → va_S A s.heap H locs → lv_has ls 3 [(0, .ref q_), (1, .int v1), (2, .int t.1)] → W p l e rmX8_listSteps s m args below meth c H locs 0 0 Q (F0 m ([30, 96].getD k 0) ls [])) ?_ _ _ _ _ hi ?_ H locs ls hP hD hS (lv_sub hl [1, 2, 0] rfl)
      · clear h hi hP hD hS hl
        intro t k t' h K
        obtain ⟨v7, v8, v9, v10⟩ := t
        intro H locs ls hP hD hS hl
        replace h := dm4_of h
        replace hP : va_P D vwCl [(q_, .inr (8, [.ref q_joints, .int v8, .ref q_from, .ref q_to, .ref q_twin, .ref q_firm, .ref q_first, .ref q_firmEnds, .ref q_reached, .ref q_nextLow, .ref q_nextHigh])), (q_first, .inl (ky 0, 129, .inl f6)), (q_from, .inl (ky 0, 768, .inl v9)), (q_joints, .inr (4, [.int s_joints_total, .ref q_joints_x, .ref q_joints_y, .ref q_joints_under])), (q_nextHigh, .inl (ky 1, 128, .inr (.inl s_nextHigh))), (q_nextLow, .inl (ky 1, 128, .inr (.inl s_nextLow))), (q_to, .inl (ky 0, 768, .inl v10))] H := hP
        replace hD : va_D A [(q_, .inr (8, [.ref q_joints, .int v8, .ref q_from, .ref q_to, .ref q_twin, .ref q_firm, .ref q_first, .ref q_firmEnds, .ref q_reached, .ref q_nextLow, .ref q_nextHigh])), (q_first, .inl (ky 0, 129, .inl f6)), (q_from, .inl (ky 0, 768, .inl v9)), (q_joints, .inr (4, [.int s_joints_total, .ref q_joints_x, .ref q_joints_y, .ref q_joints_under])), (q_nextHigh, .inl (ky 1, 128, .inr (.inl s_nextHigh))), (q_nextLow, .inl (ky 1, 128, .inr (.inl s_nextLow))), (q_to, .inl (ky 0, 768, .inl v10))] := hD
        replace hl : lv_has ls 3 [(0, .ref q_), (1, .int v1), (2, .int v7)] := hl
        refine lv_iload_n hx hb dX8_listSteps_30 rfl (lv_at hl 2 rfl) ?_
        refine lv_aload_n hx hb dX8_listSteps_31 rfl (lv_at hl 0 rfl) ?_
        refine va_get (D := D) (ci := 8) (v := .ref q_joints) (C := RX8) (T := TX8) (N := 11) hx hb hts hi_X8 hown hK.1 hP 0 rfl rfl 0 (by decide) hf_9 (fun _ h9 => h9) rfl dX8_listSteps_32 ?_
        refine va_get (D := D) (ci := 4) (v := .int s_joints_total) (C := RX4) (T := TX4) (N := 4) hx hb hts hi_X4 hown hK.1 hP 3 rfl rfl 0 (by decide) hf_45 (fun _ h9 => h9) rfl dX8_listSteps_35 ?_
        refine lv_icmp_ge (tgt := 96) hx hb dX8_listSteps_38 (by decide) (fun hc => ?_) (fun hc => ?_)
        · replace h := if_t hc h
          cases h
          exact K _ _ _ hP hD hS (lv_sub hl [0, 1, 2] rfl)
        · replace h := if_f hc h
          refine lv_aload_n hx hb dX8_listSteps_41 rfl (lv_at hl 0 rfl) ?_
          refine lv_iload_n hx hb dX8_listSteps_42 rfl (lv_at hl 1 rfl) ?_
          refine lv_iload_n hx hb dX8_listSteps_43 rfl (lv_at hl 2 rfl) ?_
          obtain ⟨r11, hc, h⟩ := ob_of h
          replace h := dm1_of h
          refine cv_i (As := [.int v1, .int v7]) (rest := []) (wr := [(q_first, .inl (ky 0, 129, .inl f6)), (q_from, .inl (ky 0, 768, .inl v9)), (q_joints, .inr (4, [.int s_joints_total, .ref q_joints_x, .ref q_joints_y, .ref q_joints_under])), (q_to, .inl (ky 0, 768, .inl v10))]) (wn := [(q_, .inr (8, [.ref q_joints, .int v8, .ref q_from, .ref q_to, .ref q_twin, .ref q_firm, .ref q_first, .ref q_firmEnds, .ref q_reached, .ref q_nextLow, .ref q_nextHigh])), (q_first, .inl (ky 0, 129, .inl f6)), (q_from, .inl (ky 0, 768, .inl v9)), (q_joints, .inr (4, [.int s_joints_total, .ref q_joints_x, .ref q_joints_y, .ref q_joints_under])), (q_nextHigh, .inl (ky 1, 128, .inr (.inl s_nextHigh))), (q_nextLow, .inl (ky 1, 128, .inr (.inl s_nextLow))), (q_to, .inl (ky 0, 768, .inl v10))]) ⟨hx, hb, hml, hown, hts⟩ (c_X8_areJoined l D ky q_ q_joints q_from q_to q_twin q_firm q_first q_firmEnds q_reached q_nextLow q_nextHigh v1 v7 v8 s_nextHigh s_nextLow hc) (cwV 2 hts gX8_listSteps_X8_areJoined rfl rfl rfl (by decide +kernel) ⟨Nat.le_of_ble_eq_true rfl, Nat.le_of_ble_eq_true rfl⟩) (rcv hK.1 hP (q0 := 0) rfl rfl) hP hD hK hS hA [0, 4, 5] [1, 2, 3, 6] [4, 0, 1, 2, 5, 6, 3] rfl (by decide +kernel) rfl (by decide +kernel) (by decide +kernel) (by decide +kernel) rfl rfl rfl hl.1 (Nat.le_of_ble_eq_true rfl) dX8_listSteps_44 ⟨Nat.le_of_ble_eq_true rfl, Nat.le_of_ble_eq_true rfl⟩ (fun H locs hP hD hS => ?_)
          obtain ⟨t, hd, h⟩ := ob_of h
          have K : ∀ (H : Heap) (locs : List Loc) (ls : Array Slot), va_P D vwCl [(q_, .inr (8, [.ref q_joints, .int t.1, .ref q_from, .ref q_to, .ref q_twin, .ref q_firm, .ref q_first, .ref q_firmEnds, .ref q_reached, .ref q_nextLow, .ref q_nextHigh])), (q_first, .inl (ky 0, 129, .inl f6)), (q_from, .inl (ky 0, 768, .inl t.2.1)), (q_joints, .inr (4, [.int s_joints_total, .ref q_joints_x, .ref q_joints_y, .ref q_joints_under])), (q_nextHigh, .inl (ky 1, 128, .inr (.inl s_nextHigh))), (q_nextLow, .inl (ky 1, 128, .inr (.inl s_nextLow))), (q_to, .inl (ky 0, 768, .inl t.2.2))] H → va_D A [(q_, .inr (8, [.ref q_joints, .int t.1, .ref q_from, .ref q_to, .ref q_twin, .ref q_firm, .ref q_first, .ref q_firmEnds, .ref q_reached, .ref q_nextLow, .ref q_nextHigh])), (q_first, .inl (ky 0, 129, .inl f6)), (q_from, .inl (ky 0, 768, .inl t.2.1)), (q_joints, .inr (4, [.int s_joints_total, .ref q_joints_x, .ref q_joints_y, .ref q_joints_under])), (q_nextHigh, .inl (ky 1, 128, .inr (.inl s_nextHigh))), (q_nextLow, .inl (ky 1, 128, .inr (.inl s_nextLow))), (q_to, .inl (ky 0, 768, .inl t.2.2))] → va_S A s.heap H locs → lv_has ls 3 [(0, .ref q_), (1, .int v1), (2, .int v7)] → W p l e rmX8_listSteps s m args below meth c H locs 0 0 Q (F0 m 90 ls []) := by
            clear hd hP hD hS hl
            obtain ⟨v12, v13, v14⟩ := t
            replace h := dm3_of h
            intro H locs ls hP hD hS hl
            replace hP : va_P D vwCl [(q_, .inr (8, [.ref q_joints, .int v12, .ref q_from, .ref q_to, .ref q_twin, .ref q_firm, .ref q_first, .ref q_firmEnds, .ref q_reached, .ref q_nextLow, .ref q_nextHigh])), (q_first, .inl (ky 0, 129, .inl f6)), (q_from, .inl (ky 0, 768, .inl v13)), (q_joints, .inr (4, [.int s_joints_total, .ref q_joints_x, .ref q_joints_y, .ref q_joints_under])), (q_nextHigh, .inl (ky 1, 128, .inr (.inl s_nextHigh))), (q_nextLow, .inl (ky 1, 128, .inr (.inl s_nextLow))), (q_to, .inl (ky 0, 768, .inl v14))] H := hP
            replace hD : va_D A [(q_, .inr (8, [.ref q_joints, .int v12, .ref q_from, .ref q_to, .ref q_twin, .ref q_firm, .ref q_first, .ref q_firmEnds, .ref q_reached, .ref q_nextLow, .ref q_nextHigh])), (q_first, .inl (ky 0, 129, .inl f6)), (q_from, .inl (ky 0, 768, .inl v13)), (q_joints, .inr (4, [.int s_joints_total, .ref q_joints_x, .ref q_joints_y, .ref q_joints_under])), (q_nextHigh, .inl (ky 1, 128, .inr (.inl s_nextHigh))), (q_nextLow, .inl (ky 1, 128, .inr (.inl s_nextLow))), (q_to, .inl (ky 0, 768, .inl v14))] := hD
            replace hl : lv_has ls 3 [(0, .ref q_), (1, .int v1), (2, .int v7)] := hl
            refine W.eq (g2 := F0 m 90 ls []) rfl ?_
            obtain ⟨x15, ex15⟩ : ∃ z : Int32, z = v7 + 1 := ⟨_, rfl⟩
            replace h := lt_at ex15 h
            refine lv_iinc (v := x15) (lv' := [(2, .int x15), (0, .ref q_), (1, .int v1)]) hx hb dX8_listSteps_90 hl (k := 2) rfl (by rw [ex15]; rfl) (by decide) rfl (fun ls hl => ?_)
            refine lv_goto (tgt := 30) hx hb dX8_listSteps_93 (by decide) ?_
            cases h
            exact K _ _ _ hP hD hS (lv_sub hl [1, 2, 0] rfl)
          replace h := hd
          clear hd
          refine lv_if_eq (tgt := 90) hx hb dX8_listSteps_47 (by decide) (fun hc => ?_) (fun hc => ?_)
          · replace h := if_t hc h
            cases h
            exact K _ _ _ hP hD hS (lv_sub hl [0, 1, 2] rfl)
          · replace h := if_f hc h
            refine lv_aload_n hx hb dX8_listSteps_50 rfl (lv_at hl 0 rfl) ?_
            refine va_get (D := D) (ci := 8) (v := .int v8) (C := RX8) (T := TX8) (N := 11) hx hb hts hi_X8 hown hK.1 hP 0 rfl rfl 1 (by decide) hf_83 (fun _ h9 => h9) rfl dX8_listSteps_51 ?_
            refine lv_sipush (v := 768) hx hb dX8_listSteps_54 (by decide) ?_
            refine lv_icmp_ge (tgt := 90) hx hb dX8_listSteps_57 (by decide) (fun hc => ?_) (fun hc => ?_)
            · replace h := if_t hc h
              cases h
              exact K _ _ _ hP hD hS (lv_sub hl [0, 1, 2] rfl)
            · replace h := if_f hc h
              refine lv_aload_n hx hb dX8_listSteps_60 rfl (lv_at hl 0 rfl) ?_
              refine va_get (D := D) (ci := 8) (v := .ref q_from) (C := RX8) (T := TX8) (N := 11) hx hb hts hi_X8 hown hK.1 hP 0 rfl rfl 2 (by decide) hf_15 (fun _ h9 => h9) rfl dX8_listSteps_61 ?_
              refine lv_aload_n hx hb dX8_listSteps_64 rfl (lv_at hl 0 rfl) ?_
              refine va_get (D := D) (ci := 8) (v := .int v8) (C := RX8) (T := TX8) (N := 11) hx hb hts hi_X8 hown hK.1 hP 0 rfl rfl 1 (by decide) hf_83 (fun _ h9 => h9) rfl dX8_listSteps_65 ?_
              refine lv_iload_n hx hb dX8_listSteps_68 rfl (lv_at hl 1 rfl) ?_
              obtain ⟨hg, h⟩ := gd_of h
              refine r_iast hx hb hK.1 hP hD hS 2 0 rfl rfl hg dX8_listSteps_69 (fun f16 ef16 H locs hP hD hS => ?_)
              replace h := lt_at ef16 h
              replace hP : va_P D vwCl [(q_, .inr (8, [.ref q_joints, .int v8, .ref q_from, .ref q_to, .ref q_twin, .ref q_firm, .ref q_first, .ref q_firmEnds, .ref q_reached, .ref q_nextLow, .ref q_nextHigh])), (q_first, .inl (ky 0, 129, .inl f6)), (q_from, .inl (ky 0, 768, .inl f16)), (q_joints, .inr (4, [.int s_joints_total, .ref q_joints_x, .ref q_joints_y, .ref q_joints_under])), (q_nextHigh, .inl (ky 1, 128, .inr (.inl s_nextHigh))), (q_nextLow, .inl (ky 1, 128, .inr (.inl s_nextLow))), (q_to, .inl (ky 0, 768, .inl v10))] H := hP
              replace hD : va_D A [(q_, .inr (8, [.ref q_joints, .int v8, .ref q_from, .ref q_to, .ref q_twin, .ref q_firm, .ref q_first, .ref q_firmEnds, .ref q_reached, .ref q_nextLow, .ref q_nextHigh])), (q_first, .inl (ky 0, 129, .inl f6)), (q_from, .inl (ky 0, 768, .inl f16)), (q_joints, .inr (4, [.int s_joints_total, .ref q_joints_x, .ref q_joints_y, .ref q_joints_under])), (q_nextHigh, .inl (ky 1, 128, .inr (.inl s_nextHigh))), (q_nextLow, .inl (ky 1, 128, .inr (.inl s_nextLow))), (q_to, .inl (ky 0, 768, .inl v10))] := hD
              refine lv_aload_n hx hb dX8_listSteps_70 rfl (lv_at hl 0 rfl) ?_
              refine va_get (D := D) (ci := 8) (v := .ref q_to) (C := RX8) (T := TX8) (N := 11) hx hb hts hi_X8 hown hK.1 hP 0 rfl rfl 3 (by decide) hf_19 (fun _ h9 => h9) rfl dX8_listSteps_71 ?_
              refine lv_aload_n hx hb dX8_listSteps_74 rfl (lv_at hl 0 rfl) ?_
              refine va_get (D := D) (ci := 8) (v := .int v8) (C := RX8) (T := TX8) (N := 11) hx hb hts hi_X8 hown hK.1 hP 0 rfl rfl 1 (by decide) hf_83 (fun _ h9 => h9) rfl dX8_listSteps_75 ?_
              refine lv_iload_n hx hb dX8_listSteps_78 rfl (lv_at hl 2 rfl) ?_
              obtain ⟨hg, h⟩ := gd_of h
              refine r_iast hx hb hK.1 hP hD hS 6 0 rfl rfl hg dX8_listSteps_79 (fun f17 ef17 H locs hP hD hS => ?_)
              replace h := lt_at ef17 h
              replace hP : va_P D vwCl [(q_, .inr (8, [.ref q_joints, .int v8, .ref q_from, .ref q_to, .ref q_twin, .ref q_firm, .ref q_first, .ref q_firmEnds, .ref q_reached, .ref q_nextLow, .ref q_nextHigh])), (q_first, .inl (ky 0, 129, .inl f6)), (q_from, .inl (ky 0, 768, .inl f16)), (q_joints, .inr (4, [.int s_joints_total, .ref q_joints_x, .ref q_joints_y, .ref q_joints_under])), (q_nextHigh, .inl (ky 1, 128, .inr (.inl s_nextHigh))), (q_nextLow, .inl (ky 1, 128, .inr (.inl s_nextLow))), (q_to, .inl (ky 0, 768, .inl f17))] H := hP
              replace hD : va_D A [(q_, .inr (8, [.ref q_joints, .int v8, .ref q_from, .ref q_to, .ref q_twin, .ref q_firm, .ref q_first, .ref q_firmEnds, .ref q_reached, .ref q_nextLow, .ref q_nextHigh])), (q_first, .inl (ky 0, 129, .inl f6)), (q_from, .inl (ky 0, 768, .inl f16)), (q_joints, .inr (4, [.int s_joints_total, .ref q_joints_x, .ref q_joints_y, .ref q_joints_under])), (q_nextHigh, .inl (ky 1, 128, .inr (.inl s_nextHigh))), (q_nextLow, .inl (ky 1, 128, .inr (.inl s_nextLow))), (q_to, .inl (ky 0, 768, .inl f17))] := hD
              refine lv_aload_n hx hb dX8_listSteps_80 rfl (lv_at hl 0 rfl) ?_
              refine lv_dup hx hb dX8_listSteps_81 rfl ?_
              refine va_get (D := D) (ci := 8) (v := .int v8) (C := RX8) (T := TX8) (N := 11) hx hb hts hi_X8 hown hK.1 hP 0 rfl rfl 1 (by decide) hf_83 (fun _ h9 => h9) rfl dX8_listSteps_82 ?_
              refine lv_iconst (v := 1) hx hb dX8_listSteps_85 (by decide) ?_
              refine lv_iadd hx hb dX8_listSteps_86 ?_
              refine lv_topi (fun x18 ex18 => ?_)
              replace h := lt_at ex18 h
              refine va_put (D := D) (ci := 8) (v := .int x18) (ty := .int) (C := RX8) (T := TX8) (N := 11) hx hb hts hi_X8 tyX8 tyX8_ok nmX8 hown hK.1 hP hD hS 0 rfl rfl 1 (by decide) hf_83 (fun _ h9 => h9) rfl (by decide +kernel) rfl rfl (Nat.le_of_ble_eq_true rfl) dX8_listSteps_87 (fun H locs hP hD hS => ?_)
              replace hP : va_P D vwCl [(q_, .inr (8, [.ref q_joints, .int x18, .ref q_from, .ref q_to, .ref q_twin, .ref q_firm, .ref q_first, .ref q_firmEnds, .ref q_reached, .ref q_nextLow, .ref q_nextHigh])), (q_first, .inl (ky 0, 129, .inl f6)), (q_from, .inl (ky 0, 768, .inl f16)), (q_joints, .inr (4, [.int s_joints_total, .ref q_joints_x, .ref q_joints_y, .ref q_joints_under])), (q_nextHigh, .inl (ky 1, 128, .inr (.inl s_nextHigh))), (q_nextLow, .inl (ky 1, 128, .inr (.inl s_nextLow))), (q_to, .inl (ky 0, 768, .inl f17))] H := hP
              replace hD : va_D A [(q_, .inr (8, [.ref q_joints, .int x18, .ref q_from, .ref q_to, .ref q_twin, .ref q_firm, .ref q_first, .ref q_firmEnds, .ref q_reached, .ref q_nextLow, .ref q_nextHigh])), (q_first, .inl (ky 0, 129, .inl f6)), (q_from, .inl (ky 0, 768, .inl f16)), (q_joints, .inr (4, [.int s_joints_total, .ref q_joints_x, .ref q_joints_y, .ref q_joints_under])), (q_nextHigh, .inl (ky 1, 128, .inr (.inl s_nextHigh))), (q_nextLow, .inl (ky 1, 128, .inr (.inl s_nextLow))), (q_to, .inl (ky 0, 768, .inl f17))] := hD
              cases h
              exact K _ _ _ hP hD hS (lv_sub hl [0, 1, 2] rfl)
      · have h1 := ex1_of h
        clear h hi
        rcases h1 with ⟨rfl, h⟩
        obtain ⟨v19, v20, v21, v22⟩ := t
        replace h := dm4_of h
        intro H locs ls hP hD hS hl
        replace hP : va_P D vwCl [(q_, .inr (8, [.ref q_joints, .int v20, .ref q_from, .ref q_to, .ref q_twin, .ref q_firm, .ref q_first, .ref q_firmEnds, .ref q_reached, .ref q_nextLow, .ref q_nextHigh])), (q_first, .inl (ky 0, 129, .inl f6)), (q_from, .inl (ky 0, 768, .inl v21)), (q_joints, .inr (4, [.int s_joints_total, .ref q_joints_x, .ref q_joints_y, .ref q_joints_under])), (q_nextHigh, .inl (ky 1, 128, .inr (.inl s_nextHigh))), (q_nextLow, .inl (ky 1, 128, .inr (.inl s_nextLow))), (q_to, .inl (ky 0, 768, .inl v22))] H := hP
        replace hD : va_D A [(q_, .inr (8, [.ref q_joints, .int v20, .ref q_from, .ref q_to, .ref q_twin, .ref q_firm, .ref q_first, .ref q_firmEnds, .ref q_reached, .ref q_nextLow, .ref q_nextHigh])), (q_first, .inl (ky 0, 129, .inl f6)), (q_from, .inl (ky 0, 768, .inl v21)), (q_joints, .inr (4, [.int s_joints_total, .ref q_joints_x, .ref q_joints_y, .ref q_joints_under])), (q_nextHigh, .inl (ky 1, 128, .inr (.inl s_nextHigh))), (q_nextLow, .inl (ky 1, 128, .inr (.inl s_nextLow))), (q_to, .inl (ky 0, 768, .inl v22))] := hD
        replace hl : lv_has ls 3 [(0, .ref q_), (1, .int v1), (2, .int v19)] := hl
        refine W.eq (g2 := F0 m 96 ls []) rfl ?_
        obtain ⟨x23, ex23⟩ : ∃ z : Int32, z = v1 + 1 := ⟨_, rfl⟩
        replace h := lt_at ex23 h
        refine lv_iinc (v := x23) (lv' := [(1, .int x23), (0, .ref q_), (2, .int v19)]) hx hb dX8_listSteps_96 hl (k := 1) rfl (by rw [ex23]; rfl) (by decide) rfl (fun ls hl => ?_)
        refine lv_goto (tgt := 7) hx hb dX8_listSteps_99 (by decide) ?_
        cases h
        exact K _ _ _ hP hD hS (lv_sub hl [1, 0] rfl)
  · have h1 := ex1_of h
    clear h hi
    rcases h1 with ⟨rfl, h⟩
    obtain ⟨v24, v25, v26, v27, v28⟩ := t
    replace h := dm5_of h
    intro H locs ls hP hD hS hl
    replace hP : va_P D vwCl [(q_, .inr (8, [.ref q_joints, .int v25, .ref q_from, .ref q_to, .ref q_twin, .ref q_firm, .ref q_first, .ref q_firmEnds, .ref q_reached, .ref q_nextLow, .ref q_nextHigh])), (q_first, .inl (ky 0, 129, .inl v26)), (q_from, .inl (ky 0, 768, .inl v27)), (q_joints, .inr (4, [.int s_joints_total, .ref q_joints_x, .ref q_joints_y, .ref q_joints_under])), (q_nextHigh, .inl (ky 1, 128, .inr (.inl s_nextHigh))), (q_nextLow, .inl (ky 1, 128, .inr (.inl s_nextLow))), (q_to, .inl (ky 0, 768, .inl v28))] H := hP
    replace hD : va_D A [(q_, .inr (8, [.ref q_joints, .int v25, .ref q_from, .ref q_to, .ref q_twin, .ref q_firm, .ref q_first, .ref q_firmEnds, .ref q_reached, .ref q_nextLow, .ref q_nextHigh])), (q_first, .inl (ky 0, 129, .inl v26)), (q_from, .inl (ky 0, 768, .inl v27)), (q_joints, .inr (4, [.int s_joints_total, .ref q_joints_x, .ref q_joints_y, .ref q_joints_under])), (q_nextHigh, .inl (ky 1, 128, .inr (.inl s_nextHigh))), (q_nextLow, .inl (ky 1, 128, .inr (.inl s_nextLow))), (q_to, .inl (ky 0, 768, .inl v28))] := hD
    replace hl : lv_has ls 3 [(0, .ref q_), (1, .int v24)] := hl
    refine W.eq (g2 := F0 m 102 ls []) rfl ?_
    refine lv_aload_n hx hb dX8_listSteps_102 rfl (lv_at hl 0 rfl) ?_
    refine va_get (D := D) (ci := 8) (v := .ref q_first) (C := RX8) (T := TX8) (N := 11) hx hb hts hi_X8 hown hK.1 hP 0 rfl rfl 6 (by decide) hf_29 (fun _ h9 => h9) rfl dX8_listSteps_103 ?_
    refine lv_aload_n hx hb dX8_listSteps_106 rfl (lv_at hl 0 rfl) ?_
    refine va_get (D := D) (ci := 8) (v := .ref q_joints) (C := RX8) (T := TX8) (N := 11) hx hb hts hi_X8 hown hK.1 hP 0 rfl rfl 0 (by decide) hf_9 (fun _ h9 => h9) rfl dX8_listSteps_107 ?_
    refine va_get (D := D) (ci := 4) (v := .int s_joints_total) (C := RX4) (T := TX4) (N := 4) hx hb hts hi_X4 hown hK.1 hP 3 rfl rfl 0 (by decide) hf_45 (fun _ h9 => h9) rfl dX8_listSteps_110 ?_
    refine lv_aload_n hx hb dX8_listSteps_113 rfl (lv_at hl 0 rfl) ?_
    refine va_get (D := D) (ci := 8) (v := .int v25) (C := RX8) (T := TX8) (N := 11) hx hb hts hi_X8 hown hK.1 hP 0 rfl rfl 1 (by decide) hf_83 (fun _ h9 => h9) rfl dX8_listSteps_114 ?_
    obtain ⟨hg, h⟩ := gd_of h
    refine r_iast hx hb hK.1 hP hD hS 1 0 rfl rfl hg dX8_listSteps_117 (fun f29 ef29 H locs hP hD hS => ?_)
    replace h := lt_at ef29 h
    replace hP : va_P D vwCl [(q_, .inr (8, [.ref q_joints, .int v25, .ref q_from, .ref q_to, .ref q_twin, .ref q_firm, .ref q_first, .ref q_firmEnds, .ref q_reached, .ref q_nextLow, .ref q_nextHigh])), (q_first, .inl (ky 0, 129, .inl f29)), (q_from, .inl (ky 0, 768, .inl v27)), (q_joints, .inr (4, [.int s_joints_total, .ref q_joints_x, .ref q_joints_y, .ref q_joints_under])), (q_nextHigh, .inl (ky 1, 128, .inr (.inl s_nextHigh))), (q_nextLow, .inl (ky 1, 128, .inr (.inl s_nextLow))), (q_to, .inl (ky 0, 768, .inl v28))] H := hP
    replace hD : va_D A [(q_, .inr (8, [.ref q_joints, .int v25, .ref q_from, .ref q_to, .ref q_twin, .ref q_firm, .ref q_first, .ref q_firmEnds, .ref q_reached, .ref q_nextLow, .ref q_nextHigh])), (q_first, .inl (ky 0, 129, .inl f29)), (q_from, .inl (ky 0, 768, .inl v27)), (q_joints, .inr (4, [.int s_joints_total, .ref q_joints_x, .ref q_joints_y, .ref q_joints_under])), (q_nextHigh, .inl (ky 1, 128, .inr (.inl s_nextHigh))), (q_nextLow, .inl (ky 1, 128, .inr (.inl s_nextLow))), (q_to, .inl (ky 0, 768, .inl v28))] := hD
    exact rt _ h _ _ _ _ dX8_listSteps_118 hP hD hS

def bX8_stepBetween_7 (a1 : Int32) (a2 : Int32) (s_first : Nat → Int32) (s_to : Nat → Int32) (t : Int32) : Option (Nat × (Int32)) := dm1 t (fun (v2 : Int32) => gd (¬ ((a1 + (1 : Int32)) < 0 ∨ 129 ≤ (a1 + (1 : Int32)).toNatClampNeg)) (if (s_first (a1 + (1 : Int32)).toNatClampNeg) ≤ v2 then some (2, v2) else gd (¬ (v2 < 0 ∨ 768 ≤ v2.toNatClampNeg)) (if ¬ (s_to v2.toNatClampNeg) = a2 then lt (v2 + 1) (fun x3 => some (0, x3)) else some (1, v2))))
def sX8_stepBetween (a1 : Int32) (a2 : Int32) (s_first : Nat → Int32) (s_to : Nat → Int32) : Option (Int32) := gd (¬ (a1 < 0 ∨ 129 ≤ a1.toNatClampNeg)) (lt (s_first a1.toNatClampNeg) (fun x1 => ob (iter (bX8_stepBetween_7 a1 a2 s_first s_to) FU x1) (fun kt => ex2 kt (fun t => dm1 t (fun (v4 : Int32) => some v4)) (fun t => dm1 t (fun (v5 : Int32) => some (-1 : Int32))))))
abbrev rmX8_stepBetween : Room := { frames := 0, cells := 0, slots := 0, locals := 0 }
set_option maxHeartbeats 4000000 in
set_option maxRecDepth 100000 in
theorem c_X8_stepBetween (l : Launch) (D : va_G) (ky : Nat → ClassId) (q_ q_joints q_from q_to q_twin q_firm q_first q_firmEnds q_reached q_nextLow q_nextHigh : Nat) (a1 : Int32) (a2 : Int32) (s_steps : Int32) (s_first : Nat → Int32) (s_to : Nat → Int32) {o_r : Int32} (h : sX8_stepBetween a1 a2 s_first s_to = some o_r) : MtI l D ky yX8_stepBetween wsX8_stepBetween rmX8_stepBetween [.ref q_, .int a1, .int a2] [(q_, .inr (8, [.ref q_joints, .int s_steps, .ref q_from, .ref q_to, .ref q_twin, .ref q_firm, .ref q_first, .ref q_firmEnds, .ref q_reached, .ref q_nextLow, .ref q_nextHigh])), (q_first, .inl (ky 0, 129, .inl s_first)), (q_to, .inl (ky 0, 768, .inl s_to))] [(q_, .inr (8, [.ref q_joints, .int s_steps, .ref q_from, .ref q_to, .ref q_twin, .ref q_firm, .ref q_first, .ref q_firmEnds, .ref q_reached, .ref q_nextLow, .ref q_nextHigh])), (q_first, .inl (ky 0, 129, .inl s_first)), (q_to, .inl (ky 0, 768, .inl s_to))] o_r 0 0 := by
  refine MtI.of (cc := cX8_stepBetween) (maxL := 4) (by decide +kernel) rfl (Nat.le_of_ble_eq_true rfl) ?_
  intro p e R s m args below meth c A Q ls hR hx hb hts hown hnm hml hP hK hD hA ret hl
  subst hR
  obtain ⟨H, hH⟩ : ∃ H, H = s.heap := ⟨_, rfl⟩
  obtain ⟨locs, hlocs⟩ : ∃ locs : List Loc, locs = [] := ⟨_, rfl⟩
  have hS : va_S A s.heap H locs := by rw [hH, hlocs]; exact va_S.rf
  rw [← hH] at hP
  suffices hgo : W p l e rmX8_stepBetween s m args below meth c H locs 0 0 Q (F0 m 0 ls []) by rw [hH, hlocs] at hgo; exact hgo
  clear hH hlocs
  replace hl : lv_has ls 4 [(0, .ref q_), (1, .int a1), (2, .int a2)] := hl
  replace hown : s.vm.findClass RX8 = some m.cls := hown
  have hi_X8 : ∀ w ∈ u_ws RX8 TX8 11, w ∈ wsX8_stepBetween := fun _ h9 => List.mem_cons_of_mem _ (List.mem_append_right _ h9)
  have hf_29 := hts (.fieldLink RX8 29 "GlazierBench$Pieces" "first" "[I") (by decide +kernel)
  have hf_19 := hts (.fieldLink RX8 19 "GlazierBench$Pieces" "to" "[I") (by decide +kernel)
  unfold sX8_stepBetween at h
  refine lv_aload_n hx hb dX8_stepBetween_0 rfl (lv_at hl 0 rfl) ?_
  refine va_get (D := D) (ci := 8) (v := .ref q_first) (C := RX8) (T := TX8) (N := 11) hx hb hts hi_X8 hown hK.1 hP 0 rfl rfl 6 (by decide) hf_29 (fun _ h9 => h9) rfl dX8_stepBetween_1 ?_
  refine lv_iload_n hx hb dX8_stepBetween_4 rfl (lv_at hl 1 rfl) ?_
  obtain ⟨hg, h⟩ := gd_of h
  refine va_iald hx hb hK.1 hP 1 0 rfl rfl hg dX8_stepBetween_5 ?_
  refine lv_topi (fun x1 ex1 => ?_)
  replace h := lt_at ex1 h
  refine lv_istore_n (lv' := [(3, .int x1), (0, .ref q_), (1, .int a1), (2, .int a2)]) hx hb dX8_stepBetween_6 rfl hl (by decide) rfl (fun ls hl => ?_)
  obtain ⟨⟨k, t⟩, hi, h⟩ := ob_of h
  refine iter_rule (P := fun (k : Nat) (t : Int32) => ∀ (H : Heap) (locs : List Loc) (ls : Array Slot), va_P D vwCl [(q_, .inr (8, [.ref q_joints, .int s_steps, .ref q_from, .ref q_to, .ref q_twin, .ref q_firm, .ref q_first, .ref q_firmEnds, .ref q_reached, .ref q_nextLow, .ref q_nextHigh])), (q_first, .inl (ky 0, 129, .inl s_first)), (q_to, .inl (ky 0, 768, .inl s_to))] H → va_D A [(q_, .inr (8, [.ref q_joints, .int s_steps, .ref q_from, .ref q_to, .ref q_twin, .ref q_firm, .ref q_first, .ref q_firmEnds, .ref q_reached, .ref q_nextLow, .ref q_nextHigh])), (q_first, .inl (ky 0, 129, .inl s_first)), (q_to, .inl (ky 0, 768, .inl s_to))] → va_S A s.heap H locs → lv_has ls 4 [(0, .ref q_), (1, .int a1), (2, .int a2), (3, .int t)] → W p l e rmX8_stepBetween s m args below meth c H locs 0 0 Q (F0 m ([7, 29, 37].getD k 0) ls [])) ?_ _ _ _ _ hi ?_ H locs ls hP hD hS (lv_sub hl [1, 2, 3, 0] rfl)
  · clear h hi hP hD hS hl
    intro t k t' h K
    obtain ⟨v2, rfl⟩ : ∃ z, z = t := ⟨_, rfl⟩
    intro H locs ls hP hD hS hl
    replace h := dm1_of h
    replace hP : va_P D vwCl [(q_, .inr (8, [.ref q_joints, .int s_steps, .ref q_from, .ref q_to, .ref q_twin, .ref q_firm, .ref q_first, .ref q_firmEnds, .ref q_reached, .ref q_nextLow, .ref q_nextHigh])), (q_first, .inl (ky 0, 129, .inl s_first)), (q_to, .inl (ky 0, 768, .inl s_to))] H := hP
    replace hD : va_D A [(q_, .inr (8, [.ref q_joints, .int s_steps, .ref q_from, .ref q_to, .ref q_twin, .ref q_firm, .ref q_first, .ref q_firmEnds, .ref q_reached, .ref q_nextLow, .ref q_nextHigh])), (q_first, .inl (ky 0, 129, .inl s_first)), (q_to, .inl (ky 0, 768, .inl s_to))] := hD
    replace hl : lv_has ls 4 [(0, .ref q_), (1, .int a1), (2, .int a2), (3, .int v2)] := hl
    refine lv_iload_n hx hb dX8_stepBetween_7 rfl (lv_at hl 3 rfl) ?_
    refine lv_aload_n hx hb dX8_stepBetween_8 rfl (lv_at hl 0 rfl) ?_
    refine va_get (D := D) (ci := 8) (v := .ref q_first) (C := RX8) (T := TX8) (N := 11) hx hb hts hi_X8 hown hK.1 hP 0 rfl rfl 6 (by decide) hf_29 (fun _ h9 => h9) rfl dX8_stepBetween_9 ?_
    refine lv_iload_n hx hb dX8_stepBetween_12 rfl (lv_at hl 1 rfl) ?_
    refine lv_iconst (v := 1) hx hb dX8_stepBetween_13 (by decide) ?_
    refine lv_iadd hx hb dX8_stepBetween_14 ?_
    obtain ⟨hg, h⟩ := gd_of h
    refine va_iald hx hb hK.1 hP 1 0 rfl rfl hg dX8_stepBetween_15 ?_
    refine lv_icmp_ge (tgt := 37) hx hb dX8_stepBetween_16 (by decide) (fun hc => ?_) (fun hc => ?_)
    · replace h := if_t hc h
      cases h
      exact K _ _ _ hP hD hS (lv_sub hl [0, 1, 2, 3] rfl)
    · replace h := if_f hc h
      refine lv_aload_n hx hb dX8_stepBetween_19 rfl (lv_at hl 0 rfl) ?_
      refine va_get (D := D) (ci := 8) (v := .ref q_to) (C := RX8) (T := TX8) (N := 11) hx hb hts hi_X8 hown hK.1 hP 0 rfl rfl 3 (by decide) hf_19 (fun _ h9 => h9) rfl dX8_stepBetween_20 ?_
      refine lv_iload_n hx hb dX8_stepBetween_23 rfl (lv_at hl 3 rfl) ?_
      obtain ⟨hg, h⟩ := gd_of h
      refine va_iald hx hb hK.1 hP 2 0 rfl rfl hg dX8_stepBetween_24 ?_
      refine lv_iload_n hx hb dX8_stepBetween_25 rfl (lv_at hl 2 rfl) ?_
      refine lv_icmp_ne (tgt := 31) hx hb dX8_stepBetween_26 (by decide) (fun hc => ?_) (fun hc => ?_)
      · replace h := if_t hc h
        obtain ⟨x3, ex3⟩ : ∃ z : Int32, z = v2 + 1 := ⟨_, rfl⟩
        replace h := lt_at ex3 h
        refine lv_iinc (v := x3) (lv' := [(3, .int x3), (0, .ref q_), (1, .int a1), (2, .int a2)]) hx hb dX8_stepBetween_31 hl (k := 3) rfl (by rw [ex3]; rfl) (by decide) rfl (fun ls hl => ?_)
        refine lv_goto (tgt := 7) hx hb dX8_stepBetween_34 (by decide) ?_
        cases h
        exact K _ _ _ hP hD hS (lv_sub hl [1, 2, 3, 0] rfl)
      · replace h := if_f (fun z => z hc) h
        cases h
        exact K _ _ _ hP hD hS (lv_sub hl [0, 1, 2, 3] rfl)
  · have h1 := ex2_of h
    clear h hi
    rcases h1 with ⟨rfl, h⟩ | ⟨rfl, h⟩
    · skip
      obtain ⟨v4, rfl⟩ : ∃ z, z = t := ⟨_, rfl⟩
      replace h := dm1_of h
      intro H locs ls hP hD hS hl
      replace hP : va_P D vwCl [(q_, .inr (8, [.ref q_joints, .int s_steps, .ref q_from, .ref q_to, .ref q_twin, .ref q_firm, .ref q_first, .ref q_firmEnds, .ref q_reached, .ref q_nextLow, .ref q_nextHigh])), (q_first, .inl (ky 0, 129, .inl s_first)), (q_to, .inl (ky 0, 768, .inl s_to))] H := hP
      replace hD : va_D A [(q_, .inr (8, [.ref q_joints, .int s_steps, .ref q_from, .ref q_to, .ref q_twin, .ref q_firm, .ref q_first, .ref q_firmEnds, .ref q_reached, .ref q_nextLow, .ref q_nextHigh])), (q_first, .inl (ky 0, 129, .inl s_first)), (q_to, .inl (ky 0, 768, .inl s_to))] := hD
      replace hl : lv_has ls 4 [(0, .ref q_), (1, .int a1), (2, .int a2), (3, .int v4)] := hl
      refine W.eq (g2 := F0 m 29 ls []) rfl ?_
      refine lv_iload_n hx hb dX8_stepBetween_29 rfl (lv_at hl 3 rfl) ?_
      cases h
      exact ret _ _ _ _ dX8_stepBetween_30 hP hD hS
    · skip
      obtain ⟨v5, rfl⟩ : ∃ z, z = t := ⟨_, rfl⟩
      replace h := dm1_of h
      intro H locs ls hP hD hS hl
      replace hP : va_P D vwCl [(q_, .inr (8, [.ref q_joints, .int s_steps, .ref q_from, .ref q_to, .ref q_twin, .ref q_firm, .ref q_first, .ref q_firmEnds, .ref q_reached, .ref q_nextLow, .ref q_nextHigh])), (q_first, .inl (ky 0, 129, .inl s_first)), (q_to, .inl (ky 0, 768, .inl s_to))] H := hP
      replace hD : va_D A [(q_, .inr (8, [.ref q_joints, .int s_steps, .ref q_from, .ref q_to, .ref q_twin, .ref q_firm, .ref q_first, .ref q_firmEnds, .ref q_reached, .ref q_nextLow, .ref q_nextHigh])), (q_first, .inl (ky 0, 129, .inl s_first)), (q_to, .inl (ky 0, 768, .inl s_to))] := hD
      replace hl : lv_has ls 4 [(0, .ref q_), (1, .int a1), (2, .int a2), (3, .int v5)] := hl
      refine W.eq (g2 := F0 m 37 ls []) rfl ?_
      refine lv_iconst (v := (-1)) hx hb dX8_stepBetween_37 (by decide) ?_
      cases h
      exact ret _ _ _ _ dX8_stepBetween_38 hP hD hS

def bX8_pairSteps_2 (s_steps : Int32) (s_first : Nat → Int32) (s_from : Nat → Int32) (s_to : Nat → Int32) (t : Int32 × (Nat → Int32)) : Option (Nat × (Int32 × (Nat → Int32))) := dm2 t (fun (v1 : Int32) (v2 : Nat → Int32) => if s_steps ≤ v1 then some (1, (v1, v2)) else gd (¬ (v1 < 0 ∨ 768 ≤ v1.toNatClampNeg)) (gd (¬ (v1 < 0 ∨ 768 ≤ v1.toNatClampNeg)) (ob (sX8_stepBetween (s_to v1.toNatClampNeg) (s_from v1.toNatClampNeg) s_first s_to) (fun o => dm1 o (fun (r3 : Int32) => gd (¬ (v1 < 0 ∨ 768 ≤ v1.toNatClampNeg)) (lt (upd v2 v1.toNatClampNeg (if (0 : Int32) < r3 then r3 else (0 : Int32))) (fun f4 => lt (v1 + 1) (fun x5 => some (0, (x5, f4))))))))))
def sX8_pairSteps  (s_steps : Int32) (s_first : Nat → Int32) (s_from : Nat → Int32) (s_to : Nat → Int32) (s_twin : Nat → Int32) : Option ((Nat → Int32)) := ob (iter (bX8_pairSteps_2 s_steps s_first s_from s_to) FU ((0 : Int32), s_twin)) (fun kt => ex1 kt (fun t => dm2 t (fun (v6 : Int32) (v7 : Nat → Int32) => some v7)))
abbrev rmX8_pairSteps : Room := { frames := 1, cells := 0, slots := 0, locals := 40 }
set_option maxHeartbeats 4000000 in
set_option maxRecDepth 100000 in
theorem c_X8_pairSteps (l : Launch) (D : va_G) (ky : Nat → ClassId) (q_ q_joints q_from q_to q_twin q_firm q_first q_firmEnds q_reached q_nextLow q_nextHigh : Nat) (s_steps : Int32) (s_first : Nat → Int32) (s_from : Nat → Int32) (s_to : Nat → Int32) (s_twin : Nat → Int32) {o_twin : Nat → Int32} (h : sX8_pairSteps s_steps s_first s_from s_to s_twin = some o_twin) : MtV l D ky yX8_pairSteps wsX8_pairSteps rmX8_pairSteps [.ref q_] [(q_, .inr (8, [.ref q_joints, .int s_steps, .ref q_from, .ref q_to, .ref q_twin, .ref q_firm, .ref q_first, .ref q_firmEnds, .ref q_reached, .ref q_nextLow, .ref q_nextHigh])), (q_first, .inl (ky 0, 129, .inl s_first)), (q_from, .inl (ky 0, 768, .inl s_from)), (q_to, .inl (ky 0, 768, .inl s_to)), (q_twin, .inl (ky 0, 768, .inl s_twin))] [(q_, .inr (8, [.ref q_joints, .int s_steps, .ref q_from, .ref q_to, .ref q_twin, .ref q_firm, .ref q_first, .ref q_firmEnds, .ref q_reached, .ref q_nextLow, .ref q_nextHigh])), (q_first, .inl (ky 0, 129, .inl s_first)), (q_from, .inl (ky 0, 768, .inl s_from)), (q_to, .inl (ky 0, 768, .inl s_to)), (q_twin, .inl (ky 0, 768, .inl o_twin))] 0 0 := by
  refine MtV.of (cc := cX8_pairSteps) (maxL := 2) (by decide +kernel) rfl (Nat.le_of_ble_eq_true rfl) ?_
  intro p e R s m args below meth c A Q ls hR hx hb hts hown hnm hml hP hK hD hA ret hl
  subst hR
  obtain ⟨H, hH⟩ : ∃ H, H = s.heap := ⟨_, rfl⟩
  obtain ⟨locs, hlocs⟩ : ∃ locs : List Loc, locs = [] := ⟨_, rfl⟩
  have hS : va_S A s.heap H locs := by rw [hH, hlocs]; exact va_S.rf
  rw [← hH] at hP
  suffices hgo : W p l e rmX8_pairSteps s m args below meth c H locs 0 0 Q (F0 m 0 ls []) by rw [hH, hlocs] at hgo; exact hgo
  clear hH hlocs
  replace hl : lv_has ls 2 [(0, .ref q_)] := hl
  replace hown : s.vm.findClass RX8 = some m.cls := hown
  have hi_X8 : ∀ w ∈ u_ws RX8 TX8 11, w ∈ wsX8_pairSteps := fun _ h9 => List.mem_cons_of_mem _ (List.mem_append_right _ h9)
  have hf_83 := hts (.fieldLink RX8 83 "GlazierBench$Pieces" "steps" "I") (by decide +kernel)
  have hf_22 := hts (.fieldLink RX8 22 "GlazierBench$Pieces" "twin" "[I") (by decide +kernel)
  have hf_19 := hts (.fieldLink RX8 19 "GlazierBench$Pieces" "to" "[I") (by decide +kernel)
  have hf_15 := hts (.fieldLink RX8 15 "GlazierBench$Pieces" "from" "[I") (by decide +kernel)
  have hm_94 := hts (.methodLink RX8 94 Lib.Math.max.name) (by decide +kernel)
  have hs_mmax := hts (.static Lib.Math.max.name) (by decide +kernel)
  have hini_Math := hts (.initialized "java/lang/Math") (by decide +kernel)
  have hco_mmax := hts (.code Lib.Math.max.name Lib.Math.max.code 2 (some .int)) (by decide +kernel)
  unfold sX8_pairSteps at h
  refine lv_iconst (v := 0) hx hb dX8_pairSteps_0 (by decide) ?_
  refine lv_istore_n (lv' := [(1, .int (0 : Int32)), (0, .ref q_)]) hx hb dX8_pairSteps_1 rfl hl (by decide) rfl (fun ls hl => ?_)
  obtain ⟨⟨k, t⟩, hi, h⟩ := ob_of h
  refine iter_rule (P := fun (k : Nat) (t : Int32 × (Nat → Int32)) => ∀ (H : Heap) (locs : List Loc) (ls : Array Slot), va_P D vwCl [(q_, .inr (8, [.ref q_joints, .int s_steps, .ref q_from, .ref q_to, .ref q_twin, .ref q_firm, .ref q_first, .ref q_firmEnds, .ref q_reached, .ref q_nextLow, .ref q_nextHigh])), (q_first, .inl (ky 0, 129, .inl s_first)), (q_from, .inl (ky 0, 768, .inl s_from)), (q_to, .inl (ky 0, 768, .inl s_to)), (q_twin, .inl (ky 0, 768, .inl t.2))] H → va_D A [(q_, .inr (8, [.ref q_joints, .int s_steps, .ref q_from, .ref q_to, .ref q_twin, .ref q_firm, .ref q_first, .ref q_firmEnds, .ref q_reached, .ref q_nextLow, .ref q_nextHigh])), (q_first, .inl (ky 0, 129, .inl s_first)), (q_from, .inl (ky 0, 768, .inl s_from)), (q_to, .inl (ky 0, 768, .inl s_to)), (q_twin, .inl (ky 0, 768, .inl t.2))] → va_S A s.heap H locs → lv_has ls 2 [(0, .ref q_), (1, .int t.1)] → W p l e rmX8_pairSteps s m args below meth c H locs 0 0 Q (F0 m ([2, 42].getD k 0) ls [])) ?_ _ _ _ _ hi ?_ H locs ls hP hD hS (lv_sub hl [1, 0] rfl)
  · clear h hi hP hD hS hl
    intro t k t' h K
    obtain ⟨v1, v2⟩ := t
    intro H locs ls hP hD hS hl
    replace h := dm2_of h
    replace hP : va_P D vwCl [(q_, .inr (8, [.ref q_joints, .int s_steps, .ref q_from, .ref q_to, .ref q_twin, .ref q_firm, .ref q_first, .ref q_firmEnds, .ref q_reached, .ref q_nextLow, .ref q_nextHigh])), (q_first, .inl (ky 0, 129, .inl s_first)), (q_from, .inl (ky 0, 768, .inl s_from)), (q_to, .inl (ky 0, 768, .inl s_to)), (q_twin, .inl (ky 0, 768, .inl v2))] H := hP
    replace hD : va_D A [(q_, .inr (8, [.ref q_joints, .int s_steps, .ref q_from, .ref q_to, .ref q_twin, .ref q_firm, .ref q_first, .ref q_firmEnds, .ref q_reached, .ref q_nextLow, .ref q_nextHigh])), (q_first, .inl (ky 0, 129, .inl s_first)), (q_from, .inl (ky 0, 768, .inl s_from)), (q_to, .inl (ky 0, 768, .inl s_to)), (q_twin, .inl (ky 0, 768, .inl v2))] := hD
    replace hl : lv_has ls 2 [(0, .ref q_), (1, .int v1)] := hl
    refine lv_iload_n hx hb dX8_pairSteps_2 rfl (lv_at hl 1 rfl) ?_
    refine lv_aload_n hx hb dX8_pairSteps_3 rfl (lv_at hl 0 rfl) ?_
    refine va_get (D := D) (ci := 8) (v := .int s_steps) (C := RX8) (T := TX8) (N := 11) hx hb hts hi_X8 hown hK.1 hP 0 rfl rfl 1 (by decide) hf_83 (fun _ h9 => h9) rfl dX8_pairSteps_4 ?_
    refine lv_icmp_ge (tgt := 42) hx hb dX8_pairSteps_7 (by decide) (fun hc => ?_) (fun hc => ?_)
    · replace h := if_t hc h
      cases h
      exact K _ _ _ hP hD hS (lv_sub hl [0, 1] rfl)
    · replace h := if_f hc h
      refine lv_aload_n hx hb dX8_pairSteps_10 rfl (lv_at hl 0 rfl) ?_
      refine va_get (D := D) (ci := 8) (v := .ref q_twin) (C := RX8) (T := TX8) (N := 11) hx hb hts hi_X8 hown hK.1 hP 0 rfl rfl 4 (by decide) hf_22 (fun _ h9 => h9) rfl dX8_pairSteps_11 ?_
      refine lv_iload_n hx hb dX8_pairSteps_14 rfl (lv_at hl 1 rfl) ?_
      refine lv_iconst (v := 0) hx hb dX8_pairSteps_15 (by decide) ?_
      refine lv_aload_n hx hb dX8_pairSteps_16 rfl (lv_at hl 0 rfl) ?_
      refine lv_aload_n hx hb dX8_pairSteps_17 rfl (lv_at hl 0 rfl) ?_
      refine va_get (D := D) (ci := 8) (v := .ref q_to) (C := RX8) (T := TX8) (N := 11) hx hb hts hi_X8 hown hK.1 hP 0 rfl rfl 3 (by decide) hf_19 (fun _ h9 => h9) rfl dX8_pairSteps_18 ?_
      refine lv_iload_n hx hb dX8_pairSteps_21 rfl (lv_at hl 1 rfl) ?_
      obtain ⟨hg, h⟩ := gd_of h
      refine va_iald hx hb hK.1 hP 3 0 rfl rfl hg dX8_pairSteps_22 ?_
      refine lv_aload_n hx hb dX8_pairSteps_23 rfl (lv_at hl 0 rfl) ?_
      refine va_get (D := D) (ci := 8) (v := .ref q_from) (C := RX8) (T := TX8) (N := 11) hx hb hts hi_X8 hown hK.1 hP 0 rfl rfl 2 (by decide) hf_15 (fun _ h9 => h9) rfl dX8_pairSteps_24 ?_
      refine lv_iload_n hx hb dX8_pairSteps_27 rfl (lv_at hl 1 rfl) ?_
      obtain ⟨hg, h⟩ := gd_of h
      refine va_iald hx hb hK.1 hP 2 0 rfl rfl hg dX8_pairSteps_28 ?_
      obtain ⟨r3, hc, h⟩ := ob_of h
      replace h := dm1_of h
      refine cv_i (As := [.int (s_to v1.toNatClampNeg), .int (s_from v1.toNatClampNeg)]) (rest := [.int (0 : Int32), .int v1, .ref q_twin]) (wr := [(q_from, .inl (ky 0, 768, .inl s_from)), (q_twin, .inl (ky 0, 768, .inl v2))]) (wn := [(q_, .inr (8, [.ref q_joints, .int s_steps, .ref q_from, .ref q_to, .ref q_twin, .ref q_firm, .ref q_first, .ref q_firmEnds, .ref q_reached, .ref q_nextLow, .ref q_nextHigh])), (q_first, .inl (ky 0, 129, .inl s_first)), (q_from, .inl (ky 0, 768, .inl s_from)), (q_to, .inl (ky 0, 768, .inl s_to)), (q_twin, .inl (ky 0, 768, .inl v2))]) ⟨hx, hb, hml, hown, hts⟩ (c_X8_stepBetween l D ky q_ q_joints q_from q_to q_twin q_firm q_first q_firmEnds q_reached q_nextLow q_nextHigh (s_to v1.toNatClampNeg) (s_from v1.toNatClampNeg) s_steps s_first s_to hc) (cwV 2 hts gX8_pairSteps_X8_stepBetween rfl rfl rfl (by decide +kernel) ⟨Nat.le_of_ble_eq_true rfl, Nat.le_of_ble_eq_true rfl⟩) (rcv hK.1 hP (q0 := 0) rfl rfl) hP hD hK hS hA [0, 1, 3] [2, 4] [2, 3, 0, 4, 1] rfl (by decide +kernel) rfl (by decide +kernel) (by decide +kernel) (by decide +kernel) rfl rfl rfl hl.1 (Nat.le_of_ble_eq_true rfl) dX8_pairSteps_29 ⟨Nat.le_of_ble_eq_true rfl, Nat.le_of_ble_eq_true rfl⟩ (fun H locs hP hD hS => ?_)
      refine va_mmax hx hb (hml.trans hl.1.symm) hown hm_94 hs_mmax hini_Math hco_mmax (Nat.le_of_ble_eq_true rfl) (Nat.le_of_ble_eq_true rfl) (Nat.le_of_ble_eq_true rfl) (Nat.le_of_ble_eq_true rfl) dX8_pairSteps_32 ?_
      obtain ⟨hg, h⟩ := gd_of h
      refine r_iast hx hb hK.1 hP hD hS 4 0 rfl rfl hg dX8_pairSteps_35 (fun f4 ef4 H locs hP hD hS => ?_)
      replace h := lt_at ef4 h
      replace hP : va_P D vwCl [(q_, .inr (8, [.ref q_joints, .int s_steps, .ref q_from, .ref q_to, .ref q_twin, .ref q_firm, .ref q_first, .ref q_firmEnds, .ref q_reached, .ref q_nextLow, .ref q_nextHigh])), (q_first, .inl (ky 0, 129, .inl s_first)), (q_from, .inl (ky 0, 768, .inl s_from)), (q_to, .inl (ky 0, 768, .inl s_to)), (q_twin, .inl (ky 0, 768, .inl f4))] H := hP
      replace hD : va_D A [(q_, .inr (8, [.ref q_joints, .int s_steps, .ref q_from, .ref q_to, .ref q_twin, .ref q_firm, .ref q_first, .ref q_firmEnds, .ref q_reached, .ref q_nextLow, .ref q_nextHigh])), (q_first, .inl (ky 0, 129, .inl s_first)), (q_from, .inl (ky 0, 768, .inl s_from)), (q_to, .inl (ky 0, 768, .inl s_to)), (q_twin, .inl (ky 0, 768, .inl f4))] := hD
      obtain ⟨x5, ex5⟩ : ∃ z : Int32, z = v1 + 1 := ⟨_, rfl⟩
      replace h := lt_at ex5 h
      refine lv_iinc (v := x5) (lv' := [(1, .int x5), (0, .ref q_)]) hx hb dX8_pairSteps_36 hl (k := 1) rfl (by rw [ex5]; rfl) (by decide) rfl (fun ls hl => ?_)
      refine lv_goto (tgt := 2) hx hb dX8_pairSteps_39 (by decide) ?_
      cases h
      exact K _ _ _ hP hD hS (lv_sub hl [1, 0] rfl)
  · have h1 := ex1_of h
    clear h hi
    rcases h1 with ⟨rfl, h⟩
    obtain ⟨v6, v7⟩ := t
    replace h := dm2_of h
    intro H locs ls hP hD hS hl
    replace hP : va_P D vwCl [(q_, .inr (8, [.ref q_joints, .int s_steps, .ref q_from, .ref q_to, .ref q_twin, .ref q_firm, .ref q_first, .ref q_firmEnds, .ref q_reached, .ref q_nextLow, .ref q_nextHigh])), (q_first, .inl (ky 0, 129, .inl s_first)), (q_from, .inl (ky 0, 768, .inl s_from)), (q_to, .inl (ky 0, 768, .inl s_to)), (q_twin, .inl (ky 0, 768, .inl v7))] H := hP
    replace hD : va_D A [(q_, .inr (8, [.ref q_joints, .int s_steps, .ref q_from, .ref q_to, .ref q_twin, .ref q_firm, .ref q_first, .ref q_firmEnds, .ref q_reached, .ref q_nextLow, .ref q_nextHigh])), (q_first, .inl (ky 0, 129, .inl s_first)), (q_from, .inl (ky 0, 768, .inl s_from)), (q_to, .inl (ky 0, 768, .inl s_to)), (q_twin, .inl (ky 0, 768, .inl v7))] := hD
    replace hl : lv_has ls 2 [(0, .ref q_), (1, .int v6)] := hl
    refine W.eq (g2 := F0 m 42 ls []) rfl ?_
    cases h
    exact ret _ _ _ _ dX8_pairSteps_42 hP hD hS

def bX8_reachFromSides_2 (s_joints_total : Int32) (t : Int32 × (Nat → Int32)) : Option (Nat × (Int32 × (Nat → Int32))) := dm2 t (fun (v1 : Int32) (v2 : Nat → Int32) => if s_joints_total ≤ v1 then some (1, (v1, v2)) else ob (if ¬ v1 = 0 then some (0 : Int32) else some (1 : Int32)) (fun t => dm1 t (fun (v3 : Int32) => gd (¬ (v1 < 0 ∨ 128 ≤ v1.toNatClampNeg)) (lt (upd v2 v1.toNatClampNeg (vp_nar .boolean v3)) (fun f4 => lt (v1 + 1) (fun x5 => some (0, (x5, f4))))))))
def bX8_reachFromSides_57 (s_steps : Int32) (s_from : Nat → Int32) (s_to : Nat → Int32) (t : Int32 × Int32 × (Nat → Int32)) : Option (Nat × (Int32 × Int32 × (Nat → Int32))) := dm3 t (fun (v11 : Int32) (v12 : Int32) (v13 : Nat → Int32) => if s_steps ≤ v12 then some (1, (v11, v12, v13)) else gd (¬ (v12 < 0 ∨ 768 ≤ v12.toNatClampNeg)) (gd (¬ ((s_from v12.toNatClampNeg) < 0 ∨ 128 ≤ (s_from v12.toNatClampNeg).toNatClampNeg)) (ob (if (v13 (s_from v12.toNatClampNeg).toNatClampNeg) = 0 then some (v11, v13) else gd (¬ (v12 < 0 ∨ 768 ≤ v12.toNatClampNeg)) (gd (¬ ((s_to v12.toNatClampNeg) < 0 ∨ 128 ≤ (s_to v12.toNatClampNeg).toNatClampNeg)) (if ¬ (v13 (s_to v12.toNatClampNeg).toNatClampNeg) = 0 then some (v11, v13) else gd (¬ (v12 < 0 ∨ 768 ≤ v12.toNatClampNeg)) (gd (¬ ((s_to v12.toNatClampNeg) < 0 ∨ 128 ≤ (s_to v12.toNatClampNeg).toNatClampNeg)) (lt (upd v13 (s_to v12.toNatClampNeg).toNatClampNeg (vp_nar .boolean (1 : Int32))) (fun f17 => some ((1 : Int32), f17))))))) (fun t => dm2 t (fun (v14 : Int32) (v15 : Nat → Int32) => lt (v12 + 1) (fun x16 => some (0, (v14, x16, v15))))))))
def bX8_reachFromSides_38 (s_steps : Int32) (s_from : Nat → Int32) (s_joints_total : Int32) (s_to : Nat → Int32) (t : Int32 × Int32 × (Nat → Int32)) : Option (Nat × (Int32 × Int32 × (Nat → Int32))) := dm3 t (fun (v8 : Int32) (v9 : Int32) (v10 : Nat → Int32) => if s_joints_total ≤ v9 then some (1, (v8, v9, v10)) else if v8 = 0 then some (1, (v8, v9, v10)) else ob (iter (bX8_reachFromSides_57 s_steps s_from s_to) FU ((0 : Int32), (0 : Int32), v10)) (fun kt => ex1 kt (fun t => dm3 t (fun (v18 : Int32) (v19 : Int32) (v20 : Nat → Int32) => lt (v9 + 1) (fun x21 => some (0, (v18, x21, v20)))))))
def sX8_reachFromSides  (s_steps : Int32) (s_from : Nat → Int32) (s_joints_total : Int32) (s_reached : Nat → Int32) (s_to : Nat → Int32) : Option ((Nat → Int32)) := ob (iter (bX8_reachFromSides_2 s_joints_total) FU ((0 : Int32), s_reached)) (fun kt => ex1 kt (fun t => dm2 t (fun (v6 : Int32) (v7 : Nat → Int32) => ob (iter (bX8_reachFromSides_38 s_steps s_from s_joints_total s_to) FU ((1 : Int32), (0 : Int32), v7)) (fun kt => ex1 kt (fun t => dm3 t (fun (v22 : Int32) (v23 : Int32) (v24 : Nat → Int32) => some v24))))))
abbrev rmX8_reachFromSides : Room := { frames := 0, cells := 0, slots := 0, locals := 0 }
set_option maxHeartbeats 4000000 in
set_option maxRecDepth 100000 in
theorem c_X8_reachFromSides (l : Launch) (D : va_G) (ky : Nat → ClassId) (q_ q_joints q_from q_to q_twin q_firm q_first q_firmEnds q_reached q_nextLow q_nextHigh q_joints_x q_joints_y q_joints_under : Nat) (s_steps : Int32) (s_from : Nat → Int32) (s_joints_total : Int32) (s_reached : Nat → Int32) (s_to : Nat → Int32) {o_reached : Nat → Int32} (h : sX8_reachFromSides s_steps s_from s_joints_total s_reached s_to = some o_reached) : MtV l D ky yX8_reachFromSides wsX8_reachFromSides rmX8_reachFromSides [.ref q_] [(q_, .inr (8, [.ref q_joints, .int s_steps, .ref q_from, .ref q_to, .ref q_twin, .ref q_firm, .ref q_first, .ref q_firmEnds, .ref q_reached, .ref q_nextLow, .ref q_nextHigh])), (q_from, .inl (ky 0, 768, .inl s_from)), (q_joints, .inr (4, [.int s_joints_total, .ref q_joints_x, .ref q_joints_y, .ref q_joints_under])), (q_reached, .inl (ky 2, 128, .inl s_reached)), (q_to, .inl (ky 0, 768, .inl s_to))] [(q_, .inr (8, [.ref q_joints, .int s_steps, .ref q_from, .ref q_to, .ref q_twin, .ref q_firm, .ref q_first, .ref q_firmEnds, .ref q_reached, .ref q_nextLow, .ref q_nextHigh])), (q_from, .inl (ky 0, 768, .inl s_from)), (q_joints, .inr (4, [.int s_joints_total, .ref q_joints_x, .ref q_joints_y, .ref q_joints_under])), (q_reached, .inl (ky 2, 128, .inl o_reached)), (q_to, .inl (ky 0, 768, .inl s_to))] 0 0 := by
  refine MtV.of (cc := cX8_reachFromSides) (maxL := 4) (by decide +kernel) rfl (Nat.le_of_ble_eq_true rfl) ?_
  intro p e R s m args below meth c A Q ls hR hx hb hts hown hnm hml hP hK hD hA ret hl
  subst hR
  obtain ⟨H, hH⟩ : ∃ H, H = s.heap := ⟨_, rfl⟩
  obtain ⟨locs, hlocs⟩ : ∃ locs : List Loc, locs = [] := ⟨_, rfl⟩
  have hS : va_S A s.heap H locs := by rw [hH, hlocs]; exact va_S.rf
  rw [← hH] at hP
  suffices hgo : W p l e rmX8_reachFromSides s m args below meth c H locs 0 0 Q (F0 m 0 ls []) by rw [hH, hlocs] at hgo; exact hgo
  clear hH hlocs
  replace hl : lv_has ls 4 [(0, .ref q_)] := hl
  replace hown : s.vm.findClass RX8 = some m.cls := hown
  have hi_X8 : ∀ w ∈ u_ws RX8 TX8 11, w ∈ wsX8_reachFromSides := fun _ h9 => List.mem_cons_of_mem _ (List.mem_append_left _ (List.mem_append_right _ h9))
  have hf_9 := hts (.fieldLink RX8 9 "GlazierBench$Pieces" "joints" "LGlazierBench$Joints;") (by decide +kernel)
  have hi_X4 : ∀ w ∈ u_ws RX4 TX4 4, w ∈ wsX8_reachFromSides := fun _ h9 => List.mem_cons_of_mem _ (List.mem_append_right _ h9)
  have hf_45 := hts (.fieldLink RX8 45 "GlazierBench$Joints" "total" "I") (by decide +kernel)
  have hf_35 := hts (.fieldLink RX8 35 "GlazierBench$Pieces" "reached" "[Z") (by decide +kernel)
  have hf_83 := hts (.fieldLink RX8 83 "GlazierBench$Pieces" "steps" "I") (by decide +kernel)
  have hf_15 := hts (.fieldLink RX8 15 "GlazierBench$Pieces" "from" "[I") (by decide +kernel)
  have hf_19 := hts (.fieldLink RX8 19 "GlazierBench$Pieces" "to" "[I") (by decide +kernel)
  unfold sX8_reachFromSides at h
  refine lv_iconst (v := 0) hx hb dX8_reachFromSides_0 (by decide) ?_
  refine lv_istore_n (lv' := [(1, .int (0 : Int32)), (0, .ref q_)]) hx hb dX8_reachFromSides_1 rfl hl (by decide) rfl (fun ls hl => ?_)
  obtain ⟨⟨k, t⟩, hi, h⟩ := ob_of h
  refine iter_rule (P := fun (k : Nat) (t : Int32 × (Nat → Int32)) => ∀ (H : Heap) (locs : List Loc) (ls : Array Slot), va_P D vwCl [(q_, .inr (8, [.ref q_joints, .int s_steps, .ref q_from, .ref q_to, .ref q_twin, .ref q_firm, .ref q_first, .ref q_firmEnds, .ref q_reached, .ref q_nextLow, .ref q_nextHigh])), (q_from, .inl (ky 0, 768, .inl s_from)), (q_joints, .inr (4, [.int s_joints_total, .ref q_joints_x, .ref q_joints_y, .ref q_joints_under])), (q_reached, .inl (ky 2, 128, .inl t.2)), (q_to, .inl (ky 0, 768, .inl s_to))] H → va_D A [(q_, .inr (8, [.ref q_joints, .int s_steps, .ref q_from, .ref q_to, .ref q_twin, .ref q_firm, .ref q_first, .ref q_firmEnds, .ref q_reached, .ref q_nextLow, .ref q_nextHigh])), (q_from, .inl (ky 0, 768, .inl s_from)), (q_joints, .inr (4, [.int s_joints_total, .ref q_joints_x, .ref q_joints_y, .ref q_joints_under])), (q_reached, .inl (ky 2, 128, .inl t.2)), (q_to, .inl (ky 0, 768, .inl s_to))] → va_S A s.heap H locs → lv_has ls 4 [(0, .ref q_), (1, .int t.1)] → W p l e rmX8_reachFromSides s m args below meth c H locs 0 0 Q (F0 m ([2, 34].getD k 0) ls [])) ?_ _ _ _ _ hi ?_ H locs ls hP hD hS (lv_sub hl [1, 0] rfl)
  · clear h hi hP hD hS hl
    intro t k t' h K
    obtain ⟨v1, v2⟩ := t
    intro H locs ls hP hD hS hl
    replace h := dm2_of h
    replace hP : va_P D vwCl [(q_, .inr (8, [.ref q_joints, .int s_steps, .ref q_from, .ref q_to, .ref q_twin, .ref q_firm, .ref q_first, .ref q_firmEnds, .ref q_reached, .ref q_nextLow, .ref q_nextHigh])), (q_from, .inl (ky 0, 768, .inl s_from)), (q_joints, .inr (4, [.int s_joints_total, .ref q_joints_x, .ref q_joints_y, .ref q_joints_under])), (q_reached, .inl (ky 2, 128, .inl v2)), (q_to, .inl (ky 0, 768, .inl s_to))] H := hP
    replace hD : va_D A [(q_, .inr (8, [.ref q_joints, .int s_steps, .ref q_from, .ref q_to, .ref q_twin, .ref q_firm, .ref q_first, .ref q_firmEnds, .ref q_reached, .ref q_nextLow, .ref q_nextHigh])), (q_from, .inl (ky 0, 768, .inl s_from)), (q_joints, .inr (4, [.int s_joints_total, .ref q_joints_x, .ref q_joints_y, .ref q_joints_under])), (q_reached, .inl (ky 2, 128, .inl v2)), (q_to, .inl (ky 0, 768, .inl s_to))] := hD
    replace hl : lv_has ls 4 [(0, .ref q_), (1, .int v1)] := hl
    refine lv_iload_n hx hb dX8_reachFromSides_2 rfl (lv_at hl 1 rfl) ?_
    refine lv_aload_n hx hb dX8_reachFromSides_3 rfl (lv_at hl 0 rfl) ?_
    refine va_get (D := D) (ci := 8) (v := .ref q_joints) (C := RX8) (T := TX8) (N := 11) hx hb hts hi_X8 hown hK.1 hP 0 rfl rfl 0 (by decide) hf_9 (fun _ h9 => h9) rfl dX8_reachFromSides_4 ?_
    refine va_get (D := D) (ci := 4) (v := .int s_joints_total) (C := RX4) (T := TX4) (N := 4) hx hb hts hi_X4 hown hK.1 hP 2 rfl rfl 0 (by decide) hf_45 (fun _ h9 => h9) rfl dX8_reachFromSides_7 ?_
    refine lv_icmp_ge (tgt := 34) hx hb dX8_reachFromSides_10 (by decide) (fun hc => ?_) (fun hc => ?_)
    · replace h := if_t hc h
      cases h
      exact K _ _ _ hP hD hS (lv_sub hl [0, 1] rfl)
    · replace h := if_f hc h
      refine lv_aload_n hx hb dX8_reachFromSides_13 rfl (lv_at hl 0 rfl) ?_
      refine va_get (D := D) (ci := 8) (v := .ref q_reached) (C := RX8) (T := TX8) (N := 11) hx hb hts hi_X8 hown hK.1 hP 0 rfl rfl 8 (by decide) hf_35 (fun _ h9 => h9) rfl dX8_reachFromSides_14 ?_
      refine lv_iload_n hx hb dX8_reachFromSides_17 rfl (lv_at hl 1 rfl) ?_
      refine lv_iload_n hx hb dX8_reachFromSides_18 rfl (lv_at hl 1 rfl) ?_
      obtain ⟨t, hd, h⟩ := ob_of h
      have K : ∀ (H : Heap) (locs : List Loc) (ls : Array Slot), va_P D vwCl [(q_, .inr (8, [.ref q_joints, .int s_steps, .ref q_from, .ref q_to, .ref q_twin, .ref q_firm, .ref q_first, .ref q_firmEnds, .ref q_reached, .ref q_nextLow, .ref q_nextHigh])), (q_from, .inl (ky 0, 768, .inl s_from)), (q_joints, .inr (4, [.int s_joints_total, .ref q_joints_x, .ref q_joints_y, .ref q_joints_under])), (q_reached, .inl (ky 2, 128, .inl v2)), (q_to, .inl (ky 0, 768, .inl s_to))] H → va_D A [(q_, .inr (8, [.ref q_joints, .int s_steps, .ref q_from, .ref q_to, .ref q_twin, .ref q_firm, .ref q_first, .ref q_firmEnds, .ref q_reached, .ref q_nextLow, .ref q_nextHigh])), (q_from, .inl (ky 0, 768, .inl s_from)), (q_joints, .inr (4, [.int s_joints_total, .ref q_joints_x, .ref q_joints_y, .ref q_joints_under])), (q_reached, .inl (ky 2, 128, .inl v2)), (q_to, .inl (ky 0, 768, .inl s_to))] → va_S A s.heap H locs → lv_has ls 4 [(0, .ref q_), (1, .int v1)] → W p l e rmX8_reachFromSides s m args below meth c H locs 0 0 Q (F0 m 27 ls [.int t, .int v1, .ref q_reached]) := by
        clear hd hP hD hS hl
        obtain ⟨v3, rfl⟩ : ∃ z, z = t := ⟨_, rfl⟩
        replace h := dm1_of h
        intro H locs ls hP hD hS hl
        replace hP : va_P D vwCl [(q_, .inr (8, [.ref q_joints, .int s_steps, .ref q_from, .ref q_to, .ref q_twin, .ref q_firm, .ref q_first, .ref q_firmEnds, .ref q_reached, .ref q_nextLow, .ref q_nextHigh])), (q_from, .inl (ky 0, 768, .inl s_from)), (q_joints, .inr (4, [.int s_joints_total, .ref q_joints_x, .ref q_joints_y, .ref q_joints_under])), (q_reached, .inl (ky 2, 128, .inl v2)), (q_to, .inl (ky 0, 768, .inl s_to))] H := hP
        replace hD : va_D A [(q_, .inr (8, [.ref q_joints, .int s_steps, .ref q_from, .ref q_to, .ref q_twin, .ref q_firm, .ref q_first, .ref q_firmEnds, .ref q_reached, .ref q_nextLow, .ref q_nextHigh])), (q_from, .inl (ky 0, 768, .inl s_from)), (q_joints, .inr (4, [.int s_joints_total, .ref q_joints_x, .ref q_joints_y, .ref q_joints_under])), (q_reached, .inl (ky 2, 128, .inl v2)), (q_to, .inl (ky 0, 768, .inl s_to))] := hD
        replace hl : lv_has ls 4 [(0, .ref q_), (1, .int v1)] := hl
        refine W.eq (g2 := F0 m 27 ls [.int v3, .int v1, .ref q_reached]) rfl ?_
        obtain ⟨hg, h⟩ := gd_of h
        refine r_zast hx hb hK.1 hP hD hS 3 2 rfl rfl hg dX8_reachFromSides_27 (fun f4 ef4 H locs hP hD hS => ?_)
        replace h := lt_at ef4 h
        replace hP : va_P D vwCl [(q_, .inr (8, [.ref q_joints, .int s_steps, .ref q_from, .ref q_to, .ref q_twin, .ref q_firm, .ref q_first, .ref q_firmEnds, .ref q_reached, .ref q_nextLow, .ref q_nextHigh])), (q_from, .inl (ky 0, 768, .inl s_from)), (q_joints, .inr (4, [.int s_joints_total, .ref q_joints_x, .ref q_joints_y, .ref q_joints_under])), (q_reached, .inl (ky 2, 128, .inl f4)), (q_to, .inl (ky 0, 768, .inl s_to))] H := hP
        replace hD : va_D A [(q_, .inr (8, [.ref q_joints, .int s_steps, .ref q_from, .ref q_to, .ref q_twin, .ref q_firm, .ref q_first, .ref q_firmEnds, .ref q_reached, .ref q_nextLow, .ref q_nextHigh])), (q_from, .inl (ky 0, 768, .inl s_from)), (q_joints, .inr (4, [.int s_joints_total, .ref q_joints_x, .ref q_joints_y, .ref q_joints_under])), (q_reached, .inl (ky 2, 128, .inl f4)), (q_to, .inl (ky 0, 768, .inl s_to))] := hD
        obtain ⟨x5, ex5⟩ : ∃ z : Int32, z = v1 + 1 := ⟨_, rfl⟩
        replace h := lt_at ex5 h
        refine lv_iinc (v := x5) (lv' := [(1, .int x5), (0, .ref q_)]) hx hb dX8_reachFromSides_28 hl (k := 1) rfl (by rw [ex5]; rfl) (by decide) rfl (fun ls hl => ?_)
        refine lv_goto (tgt := 2) hx hb dX8_reachFromSides_31 (by decide) ?_
        cases h
        exact K _ _ _ hP hD hS (lv_sub hl [1, 0] rfl)
      replace h := hd
      clear hd
      refine lv_if_ne (tgt := 26) hx hb dX8_reachFromSides_19 (by decide) (fun hc => ?_) (fun hc => ?_)
      · replace h := if_t hc h
        refine lv_iconst (v := 0) hx hb dX8_reachFromSides_26 (by decide) ?_
        cases h
        exact K _ _ _ hP hD hS (lv_sub hl [0, 1] rfl)
      · replace h := if_f (fun z => z hc) h
        refine lv_iconst (v := 1) hx hb dX8_reachFromSides_22 (by decide) ?_
        refine lv_goto (tgt := 27) hx hb dX8_reachFromSides_23 (by decide) ?_
        cases h
        exact K _ _ _ hP hD hS (lv_sub hl [0, 1] rfl)
  · have h1 := ex1_of h
    clear h hi
    rcases h1 with ⟨rfl, h⟩
    obtain ⟨v6, v7⟩ := t
    replace h := dm2_of h
    intro H locs ls hP hD hS hl
    replace hP : va_P D vwCl [(q_, .inr (8, [.ref q_joints, .int s_steps, .ref q_from, .ref q_to, .ref q_twin, .ref q_firm, .ref q_first, .ref q_firmEnds, .ref q_reached, .ref q_nextLow, .ref q_nextHigh])), (q_from, .inl (ky 0, 768, .inl s_from)), (q_joints, .inr (4, [.int s_joints_total, .ref q_joints_x, .ref q_joints_y, .ref q_joints_under])), (q_reached, .inl (ky 2, 128, .inl v7)), (q_to, .inl (ky 0, 768, .inl s_to))] H := hP
    replace hD : va_D A [(q_, .inr (8, [.ref q_joints, .int s_steps, .ref q_from, .ref q_to, .ref q_twin, .ref q_firm, .ref q_first, .ref q_firmEnds, .ref q_reached, .ref q_nextLow, .ref q_nextHigh])), (q_from, .inl (ky 0, 768, .inl s_from)), (q_joints, .inr (4, [.int s_joints_total, .ref q_joints_x, .ref q_joints_y, .ref q_joints_under])), (q_reached, .inl (ky 2, 128, .inl v7)), (q_to, .inl (ky 0, 768, .inl s_to))] := hD
    replace hl : lv_has ls 4 [(0, .ref q_), (1, .int v6)] := hl
    refine W.eq (g2 := F0 m 34 ls []) rfl ?_
    refine lv_iconst (v := 1) hx hb dX8_reachFromSides_34 (by decide) ?_
    refine lv_istore_n (lv' := [(1, .int (1 : Int32)), (0, .ref q_)]) hx hb dX8_reachFromSides_35 rfl hl (by decide) rfl (fun ls hl => ?_)
    refine lv_iconst (v := 0) hx hb dX8_reachFromSides_36 (by decide) ?_
    refine lv_istore_n (lv' := [(2, .int (0 : Int32)), (1, .int (1 : Int32)), (0, .ref q_)]) hx hb dX8_reachFromSides_37 rfl hl (by decide) rfl (fun ls hl => ?_)
    obtain ⟨⟨k, t⟩, hi, h⟩ := ob_of h
    refine iter_rule (P := fun (k : Nat) (t : Int32 × Int32 × (Nat → Int32)) => ∀ (H : Heap) (locs : List Loc) (ls : Array Slot), va_P D vwCl [(q_, .inr (8, [.ref q_joints, .int s_steps, .ref q_from, .ref q_to, .ref q_twin, .ref q_firm, .ref q_first, .ref q_firmEnds, .ref q_reached, .ref q_nextLow, .ref q_nextHigh])), (q_from, .inl (ky 0, 768, .inl s_from)), (q_joints, .inr (4, [.int s_joints_total, .ref q_joints_x, .ref q_joints_y, .ref q_joints_under])), (q_reached, .inl (ky 2, 128, .inl t.2.2)), (q_to, .inl (ky 0, 768, .inl s_to))] H → va_D A [(q_, .inr (8, [.ref q_joints, .int s_steps, .ref q_from, .ref q_to, .ref q_twin, .ref q_firm, .ref q_first, .ref q_firmEnds, .ref q_reached, .ref q_nextLow, .ref q_nextHigh])), (q_from, .inl (ky 0, 768, .inl s_from)), (q_joints, .inr (4, [.int s_joints_total, .ref q_joints_x, .ref q_joints_y, .ref q_joints_under])), (q_reached, .inl (ky 2, 128, .inl t.2.2)), (q_to, .inl (ky 0, 768, .inl s_to))] → va_S A s.heap H locs → lv_has ls 4 [(0, .ref q_), (1, .int t.1), (2, .int t.2.1)] → W p l e rmX8_reachFromSides s m args below meth c H locs 0 0 Q (F0 m ([38, 119].getD k 0) ls [])) ?_ _ _ _ _ hi ?_ H locs ls hP hD hS (lv_sub hl [2, 1, 0] rfl)
    · clear h hi hP hD hS hl
      intro t k t' h K
      obtain ⟨v8, v9, v10⟩ := t
      intro H locs ls hP hD hS hl
      replace h := dm3_of h
      replace hP : va_P D vwCl [(q_, .inr (8, [.ref q_joints, .int s_steps, .ref q_from, .ref q_to, .ref q_twin, .ref q_firm, .ref q_first, .ref q_firmEnds, .ref q_reached, .ref q_nextLow, .ref q_nextHigh])), (q_from, .inl (ky 0, 768, .inl s_from)), (q_joints, .inr (4, [.int s_joints_total, .ref q_joints_x, .ref q_joints_y, .ref q_joints_under])), (q_reached, .inl (ky 2, 128, .inl v10)), (q_to, .inl (ky 0, 768, .inl s_to))] H := hP
      replace hD : va_D A [(q_, .inr (8, [.ref q_joints, .int s_steps, .ref q_from, .ref q_to, .ref q_twin, .ref q_firm, .ref q_first, .ref q_firmEnds, .ref q_reached, .ref q_nextLow, .ref q_nextHigh])), (q_from, .inl (ky 0, 768, .inl s_from)), (q_joints, .inr (4, [.int s_joints_total, .ref q_joints_x, .ref q_joints_y, .ref q_joints_under])), (q_reached, .inl (ky 2, 128, .inl v10)), (q_to, .inl (ky 0, 768, .inl s_to))] := hD
      replace hl : lv_has ls 4 [(0, .ref q_), (1, .int v8), (2, .int v9)] := hl
      refine lv_iload_n hx hb dX8_reachFromSides_38 rfl (lv_at hl 2 rfl) ?_
      refine lv_aload_n hx hb dX8_reachFromSides_39 rfl (lv_at hl 0 rfl) ?_
      refine va_get (D := D) (ci := 8) (v := .ref q_joints) (C := RX8) (T := TX8) (N := 11) hx hb hts hi_X8 hown hK.1 hP 0 rfl rfl 0 (by decide) hf_9 (fun _ h9 => h9) rfl dX8_reachFromSides_40 ?_
      refine va_get (D := D) (ci := 4) (v := .int s_joints_total) (C := RX4) (T := TX4) (N := 4) hx hb hts hi_X4 hown hK.1 hP 2 rfl rfl 0 (by decide) hf_45 (fun _ h9 => h9) rfl dX8_reachFromSides_43 ?_
      refine lv_icmp_ge (tgt := 119) hx hb dX8_reachFromSides_46 (by decide) (fun hc => ?_) (fun hc => ?_)
      · replace h := if_t hc h
        cases h
        exact K _ _ _ hP hD hS (lv_sub hl [0, 1, 2] rfl)
      · replace h := if_f hc h
        refine lv_iload_n hx hb dX8_reachFromSides_49 rfl (lv_at hl 1 rfl) ?_
        refine lv_if_eq (tgt := 119) hx hb dX8_reachFromSides_50 (by decide) (fun hc => ?_) (fun hc => ?_)
        · replace h := if_t hc h
          cases h
          exact K _ _ _ hP hD hS (lv_sub hl [0, 1, 2] rfl)
        · replace h := if_f hc h
          refine lv_iconst (v := 0) hx hb dX8_reachFromSides_53 (by decide) ?_
          refine lv_istore_n (lv' := [(1, .int (0 : Int32)), (0, .ref q_), (2, .int v9)]) hx hb dX8_reachFromSides_54 rfl hl (by decide) rfl (fun ls hl => ?_)
          refine lv_iconst (v := 0) hx hb dX8_reachFromSides_55 (by decide) ?_
          refine lv_istore_n (lv' := [(3, .int (0 : Int32)), (1, .int (0 : Int32)), (0, .ref q_), (2, .int v9)]) hx hb dX8_reachFromSides_56 rfl hl (by decide) rfl (fun ls hl => ?_)
          obtain ⟨⟨k, t⟩, hi, h⟩ := ob_of h
          refine iter_rule (P := fun (k : Nat) (t : Int32 × Int32 × (Nat → Int32)) => ∀ (H : Heap) (locs : List Loc) (ls : Array Slot), va_P D vwCl [(q_, .inr (8, [.ref q_joints, .int s_steps, .ref q_from, .ref q_to, .ref q_twin, .ref q_firm, .ref q_first, .ref q_firmEnds, .ref q_reached, .ref q_nextLow, .ref q_nextHigh])), (q_from, .inl (ky 0, 768, .inl s_from)), (q_joints, .inr (4, [.int s_joints_total, .ref q_joints_x, .ref q_joints_y, .ref q_joints_under])), (q_reached, .inl (ky 2, 128, .inl t.2.2)), (q_to, .inl (ky 0, 768, .inl s_to))] H → va_D A [(q_, .inr (8, [.ref q_joints, .int s_steps, .ref q_from, .ref q_to, .ref q_twin, .ref q_firm, .ref q_first, .ref q_firmEnds, .ref q_reached, .ref q_nextLow, .ref q_nextHigh])), (q_from, .inl (ky 0, 768, .inl s_from)), (q_joints, .inr (4, [.int s_joints_total, .ref q_joints_x, .ref q_joints_y, .ref q_joints_under])), (q_reached, .inl (ky 2, 128, .inl t.2.2)), (q_to, .inl (ky 0, 768, .inl s_to))] → va_S A s.heap H locs → lv_has ls 4 [(0, .ref q_), (1, .int t.1), (2, .int v9), (3, .int t.2.1)] → W p l e rmX8_reachFromSides s m args below meth c H locs 0 0 Q (F0 m ([57, 113].getD k 0) ls [])) ?_ _ _ _ _ hi ?_ H locs ls hP hD hS (lv_sub hl [2, 1, 3, 0] rfl)
          · clear h hi hP hD hS hl
            intro t k t' h K
            obtain ⟨v11, v12, v13⟩ := t
            intro H locs ls hP hD hS hl
            replace h := dm3_of h
            replace hP : va_P D vwCl [(q_, .inr (8, [.ref q_joints, .int s_steps, .ref q_from, .ref q_to, .ref q_twin, .ref q_firm, .ref q_first, .ref q_firmEnds, .ref q_reached, .ref q_nextLow, .ref q_nextHigh])), (q_from, .inl (ky 0, 768, .inl s_from)), (q_joints, .inr (4, [.int s_joints_total, .ref q_joints_x, .ref q_joints_y, .ref q_joints_under])), (q_reached, .inl (ky 2, 128, .inl v13)), (q_to, .inl (ky 0, 768, .inl s_to))] H := hP
            replace hD : va_D A [(q_, .inr (8, [.ref q_joints, .int s_steps, .ref q_from, .ref q_to, .ref q_twin, .ref q_firm, .ref q_first, .ref q_firmEnds, .ref q_reached, .ref q_nextLow, .ref q_nextHigh])), (q_from, .inl (ky 0, 768, .inl s_from)), (q_joints, .inr (4, [.int s_joints_total, .ref q_joints_x, .ref q_joints_y, .ref q_joints_under])), (q_reached, .inl (ky 2, 128, .inl v13)), (q_to, .inl (ky 0, 768, .inl s_to))] := hD
            replace hl : lv_has ls 4 [(0, .ref q_), (1, .int v11), (2, .int v9), (3, .int v12)] := hl
            refine lv_iload_n hx hb dX8_reachFromSides_57 rfl (lv_at hl 3 rfl) ?_
            refine lv_aload_n hx hb dX8_reachFromSides_58 rfl (lv_at hl 0 rfl) ?_
            refine va_get (D := D) (ci := 8) (v := .int s_steps) (C := RX8) (T := TX8) (N := 11) hx hb hts hi_X8 hown hK.1 hP 0 rfl rfl 1 (by decide) hf_83 (fun _ h9 => h9) rfl dX8_reachFromSides_59 ?_
            refine lv_icmp_ge (tgt := 113) hx hb dX8_reachFromSides_62 (by decide) (fun hc => ?_) (fun hc => ?_)
            · replace h := if_t hc h
              cases h
              exact K _ _ _ hP hD hS (lv_sub hl [0, 1, 2, 3] rfl)
            · replace h := if_f hc h
              refine lv_aload_n hx hb dX8_reachFromSides_65 rfl (lv_at hl 0 rfl) ?_
              refine va_get (D := D) (ci := 8) (v := .ref q_reached) (C := RX8) (T := TX8) (N := 11) hx hb hts hi_X8 hown hK.1 hP 0 rfl rfl 8 (by decide) hf_35 (fun _ h9 => h9) rfl dX8_reachFromSides_66 ?_
              refine lv_aload_n hx hb dX8_reachFromSides_69 rfl (lv_at hl 0 rfl) ?_
              refine va_get (D := D) (ci := 8) (v := .ref q_from) (C := RX8) (T := TX8) (N := 11) hx hb hts hi_X8 hown hK.1 hP 0 rfl rfl 2 (by decide) hf_15 (fun _ h9 => h9) rfl dX8_reachFromSides_70 ?_
              refine lv_iload_n hx hb dX8_reachFromSides_73 rfl (lv_at hl 3 rfl) ?_
              obtain ⟨hg, h⟩ := gd_of h
              refine va_iald hx hb hK.1 hP 1 0 rfl rfl hg dX8_reachFromSides_74 ?_
              obtain ⟨hg, h⟩ := gd_of h
              refine va_zald hx hb hK.1 hP 3 2 rfl rfl hg dX8_reachFromSides_75 ?_
              obtain ⟨t, hd, h⟩ := ob_of h
              have K : ∀ (H : Heap) (locs : List Loc) (ls : Array Slot), va_P D vwCl [(q_, .inr (8, [.ref q_joints, .int s_steps, .ref q_from, .ref q_to, .ref q_twin, .ref q_firm, .ref q_first, .ref q_firmEnds, .ref q_reached, .ref q_nextLow, .ref q_nextHigh])), (q_from, .inl (ky 0, 768, .inl s_from)), (q_joints, .inr (4, [.int s_joints_total, .ref q_joints_x, .ref q_joints_y, .ref q_joints_under])), (q_reached, .inl (ky 2, 128, .inl t.2)), (q_to, .inl (ky 0, 768, .inl s_to))] H → va_D A [(q_, .inr (8, [.ref q_joints, .int s_steps, .ref q_from, .ref q_to, .ref q_twin, .ref q_firm, .ref q_first, .ref q_firmEnds, .ref q_reached, .ref q_nextLow, .ref q_nextHigh])), (q_from, .inl (ky 0, 768, .inl s_from)), (q_joints, .inr (4, [.int s_joints_total, .ref q_joints_x, .ref q_joints_y, .ref q_joints_under])), (q_reached, .inl (ky 2, 128, .inl t.2)), (q_to, .inl (ky 0, 768, .inl s_to))] → va_S A s.heap H locs → lv_has ls 4 [(0, .ref q_), (1, .int t.1), (2, .int v9), (3, .int v12)] → W p l e rmX8_reachFromSides s m args below meth c H locs 0 0 Q (F0 m 107 ls []) := by
                clear hd hP hD hS hl
                obtain ⟨v14, v15⟩ := t
                replace h := dm2_of h
                intro H locs ls hP hD hS hl
                replace hP : va_P D vwCl [(q_, .inr (8, [.ref q_joints, .int s_steps, .ref q_from, .ref q_to, .ref q_twin, .ref q_firm, .ref q_first, .ref q_firmEnds, .ref q_reached, .ref q_nextLow, .ref q_nextHigh])), (q_from, .inl (ky 0, 768, .inl s_from)), (q_joints, .inr (4, [.int s_joints_total, .ref q_joints_x, .ref q_joints_y, .ref q_joints_under])), (q_reached, .inl (ky 2, 128, .inl v15)), (q_to, .inl (ky 0, 768, .inl s_to))] H := hP
                replace hD : va_D A [(q_, .inr (8, [.ref q_joints, .int s_steps, .ref q_from, .ref q_to, .ref q_twin, .ref q_firm, .ref q_first, .ref q_firmEnds, .ref q_reached, .ref q_nextLow, .ref q_nextHigh])), (q_from, .inl (ky 0, 768, .inl s_from)), (q_joints, .inr (4, [.int s_joints_total, .ref q_joints_x, .ref q_joints_y, .ref q_joints_under])), (q_reached, .inl (ky 2, 128, .inl v15)), (q_to, .inl (ky 0, 768, .inl s_to))] := hD
                replace hl : lv_has ls 4 [(0, .ref q_), (1, .int v14), (2, .int v9), (3, .int v12)] := hl
                refine W.eq (g2 := F0 m 107 ls []) rfl ?_
                obtain ⟨x16, ex16⟩ : ∃ z : Int32, z = v12 + 1 := ⟨_, rfl⟩
                replace h := lt_at ex16 h
                refine lv_iinc (v := x16) (lv' := [(3, .int x16), (0, .ref q_), (1, .int v14), (2, .int v9)]) hx hb dX8_reachFromSides_107 hl (k := 3) rfl (by rw [ex16]; rfl) (by decide) rfl (fun ls hl => ?_)
                refine lv_goto (tgt := 57) hx hb dX8_reachFromSides_110 (by decide) ?_
                cases h
                exact K _ _ _ hP hD hS (lv_sub hl [1, 2, 3, 0] rfl)
              replace h := hd
              clear hd
              refine lv_if_eq (tgt := 107) hx hb dX8_reachFromSides_76 (by decide) (fun hc => ?_) (fun hc => ?_)
              · replace h := if_t hc h
                cases h
                exact K _ _ _ hP hD hS (lv_sub hl [0, 1, 2, 3] rfl)
              · replace h := if_f hc h
                refine lv_aload_n hx hb dX8_reachFromSides_79 rfl (lv_at hl 0 rfl) ?_
                refine va_get (D := D) (ci := 8) (v := .ref q_reached) (C := RX8) (T := TX8) (N := 11) hx hb hts hi_X8 hown hK.1 hP 0 rfl rfl 8 (by decide) hf_35 (fun _ h9 => h9) rfl dX8_reachFromSides_80 ?_
                refine lv_aload_n hx hb dX8_reachFromSides_83 rfl (lv_at hl 0 rfl) ?_
                refine va_get (D := D) (ci := 8) (v := .ref q_to) (C := RX8) (T := TX8) (N := 11) hx hb hts hi_X8 hown hK.1 hP 0 rfl rfl 3 (by decide) hf_19 (fun _ h9 => h9) rfl dX8_reachFromSides_84 ?_
                refine lv_iload_n hx hb dX8_reachFromSides_87 rfl (lv_at hl 3 rfl) ?_
                obtain ⟨hg, h⟩ := gd_of h
                refine va_iald hx hb hK.1 hP 4 0 rfl rfl hg dX8_reachFromSides_88 ?_
                obtain ⟨hg, h⟩ := gd_of h
                refine va_zald hx hb hK.1 hP 3 2 rfl rfl hg dX8_reachFromSides_89 ?_
                refine lv_if_ne (tgt := 107) hx hb dX8_reachFromSides_90 (by decide) (fun hc => ?_) (fun hc => ?_)
                · replace h := if_t hc h
                  cases h
                  exact K _ _ _ hP hD hS (lv_sub hl [0, 1, 2, 3] rfl)
                · replace h := if_f (fun z => z hc) h
                  refine lv_aload_n hx hb dX8_reachFromSides_93 rfl (lv_at hl 0 rfl) ?_
                  refine va_get (D := D) (ci := 8) (v := .ref q_reached) (C := RX8) (T := TX8) (N := 11) hx hb hts hi_X8 hown hK.1 hP 0 rfl rfl 8 (by decide) hf_35 (fun _ h9 => h9) rfl dX8_reachFromSides_94 ?_
                  refine lv_aload_n hx hb dX8_reachFromSides_97 rfl (lv_at hl 0 rfl) ?_
                  refine va_get (D := D) (ci := 8) (v := .ref q_to) (C := RX8) (T := TX8) (N := 11) hx hb hts hi_X8 hown hK.1 hP 0 rfl rfl 3 (by decide) hf_19 (fun _ h9 => h9) rfl dX8_reachFromSides_98 ?_
                  refine lv_iload_n hx hb dX8_reachFromSides_101 rfl (lv_at hl 3 rfl) ?_
                  obtain ⟨hg, h⟩ := gd_of h
                  refine va_iald hx hb hK.1 hP 4 0 rfl rfl hg dX8_reachFromSides_102 ?_
                  refine lv_iconst (v := 1) hx hb dX8_reachFromSides_103 (by decide) ?_
                  obtain ⟨hg, h⟩ := gd_of h
                  refine r_zast hx hb hK.1 hP hD hS 3 2 rfl rfl hg dX8_reachFromSides_104 (fun f17 ef17 H locs hP hD hS => ?_)
                  replace h := lt_at ef17 h
                  replace hP : va_P D vwCl [(q_, .inr (8, [.ref q_joints, .int s_steps, .ref q_from, .ref q_to, .ref q_twin, .ref q_firm, .ref q_first, .ref q_firmEnds, .ref q_reached, .ref q_nextLow, .ref q_nextHigh])), (q_from, .inl (ky 0, 768, .inl s_from)), (q_joints, .inr (4, [.int s_joints_total, .ref q_joints_x, .ref q_joints_y, .ref q_joints_under])), (q_reached, .inl (ky 2, 128, .inl f17)), (q_to, .inl (ky 0, 768, .inl s_to))] H := hP
                  replace hD : va_D A [(q_, .inr (8, [.ref q_joints, .int s_steps, .ref q_from, .ref q_to, .ref q_twin, .ref q_firm, .ref q_first, .ref q_firmEnds, .ref q_reached, .ref q_nextLow, .ref q_nextHigh])), (q_from, .inl (ky 0, 768, .inl s_from)), (q_joints, .inr (4, [.int s_joints_total, .ref q_joints_x, .ref q_joints_y, .ref q_joints_under])), (q_reached, .inl (ky 2, 128, .inl f17)), (q_to, .inl (ky 0, 768, .inl s_to))] := hD
                  refine lv_iconst (v := 1) hx hb dX8_reachFromSides_105 (by decide) ?_
                  refine lv_istore_n (lv' := [(1, .int (1 : Int32)), (0, .ref q_), (2, .int v9), (3, .int v12)]) hx hb dX8_reachFromSides_106 rfl hl (by decide) rfl (fun ls hl => ?_)
                  cases h
                  exact K _ _ _ hP hD hS (lv_sub hl [1, 0, 2, 3] rfl)
          · have h1 := ex1_of h
            clear h hi
            rcases h1 with ⟨rfl, h⟩
            obtain ⟨v18, v19, v20⟩ := t
            replace h := dm3_of h
            intro H locs ls hP hD hS hl
            replace hP : va_P D vwCl [(q_, .inr (8, [.ref q_joints, .int s_steps, .ref q_from, .ref q_to, .ref q_twin, .ref q_firm, .ref q_first, .ref q_firmEnds, .ref q_reached, .ref q_nextLow, .ref q_nextHigh])), (q_from, .inl (ky 0, 768, .inl s_from)), (q_joints, .inr (4, [.int s_joints_total, .ref q_joints_x, .ref q_joints_y, .ref q_joints_under])), (q_reached, .inl (ky 2, 128, .inl v20)), (q_to, .inl (ky 0, 768, .inl s_to))] H := hP
            replace hD : va_D A [(q_, .inr (8, [.ref q_joints, .int s_steps, .ref q_from, .ref q_to, .ref q_twin, .ref q_firm, .ref q_first, .ref q_firmEnds, .ref q_reached, .ref q_nextLow, .ref q_nextHigh])), (q_from, .inl (ky 0, 768, .inl s_from)), (q_joints, .inr (4, [.int s_joints_total, .ref q_joints_x, .ref q_joints_y, .ref q_joints_under])), (q_reached, .inl (ky 2, 128, .inl v20)), (q_to, .inl (ky 0, 768, .inl s_to))] := hD
            replace hl : lv_has ls 4 [(0, .ref q_), (1, .int v18), (2, .int v9), (3, .int v19)] := hl
            refine W.eq (g2 := F0 m 113 ls []) rfl ?_
            obtain ⟨x21, ex21⟩ : ∃ z : Int32, z = v9 + 1 := ⟨_, rfl⟩
            replace h := lt_at ex21 h
            refine lv_iinc (v := x21) (lv' := [(2, .int x21), (0, .ref q_), (1, .int v18), (3, .int v19)]) hx hb dX8_reachFromSides_113 hl (k := 2) rfl (by rw [ex21]; rfl) (by decide) rfl (fun ls hl => ?_)
            refine lv_goto (tgt := 38) hx hb dX8_reachFromSides_116 (by decide) ?_
            cases h
            exact K _ _ _ hP hD hS (lv_sub hl [1, 2, 0] rfl)
    · have h1 := ex1_of h
      clear h hi
      rcases h1 with ⟨rfl, h⟩
      obtain ⟨v22, v23, v24⟩ := t
      replace h := dm3_of h
      intro H locs ls hP hD hS hl
      replace hP : va_P D vwCl [(q_, .inr (8, [.ref q_joints, .int s_steps, .ref q_from, .ref q_to, .ref q_twin, .ref q_firm, .ref q_first, .ref q_firmEnds, .ref q_reached, .ref q_nextLow, .ref q_nextHigh])), (q_from, .inl (ky 0, 768, .inl s_from)), (q_joints, .inr (4, [.int s_joints_total, .ref q_joints_x, .ref q_joints_y, .ref q_joints_under])), (q_reached, .inl (ky 2, 128, .inl v24)), (q_to, .inl (ky 0, 768, .inl s_to))] H := hP
      replace hD : va_D A [(q_, .inr (8, [.ref q_joints, .int s_steps, .ref q_from, .ref q_to, .ref q_twin, .ref q_firm, .ref q_first, .ref q_firmEnds, .ref q_reached, .ref q_nextLow, .ref q_nextHigh])), (q_from, .inl (ky 0, 768, .inl s_from)), (q_joints, .inr (4, [.int s_joints_total, .ref q_joints_x, .ref q_joints_y, .ref q_joints_under])), (q_reached, .inl (ky 2, 128, .inl v24)), (q_to, .inl (ky 0, 768, .inl s_to))] := hD
      replace hl : lv_has ls 4 [(0, .ref q_), (1, .int v22), (2, .int v23)] := hl
      refine W.eq (g2 := F0 m 119 ls []) rfl ?_
      cases h
      exact ret _ _ _ _ dX8_reachFromSides_119 hP hD hS

def sX8_endsAt (a1 : Int32) (s_first : Nat → Int32) : Option (Int32) := gd (¬ ((a1 + (1 : Int32)) < 0 ∨ 129 ≤ (a1 + (1 : Int32)).toNatClampNeg)) (gd (¬ (a1 < 0 ∨ 129 ≤ a1.toNatClampNeg)) (some ((s_first (a1 + (1 : Int32)).toNatClampNeg) - (s_first a1.toNatClampNeg))))
abbrev rmX8_endsAt : Room := { frames := 0, cells := 0, slots := 0, locals := 0 }
set_option maxHeartbeats 4000000 in
set_option maxRecDepth 100000 in
theorem c_X8_endsAt (l : Launch) (D : va_G) (ky : Nat → ClassId) (q_ q_joints q_from q_to q_twin q_firm q_first q_firmEnds q_reached q_nextLow q_nextHigh : Nat) (a1 : Int32) (s_steps : Int32) (s_first : Nat → Int32) {o_r : Int32} (h : sX8_endsAt a1 s_first = some o_r) : MtI l D ky yX8_endsAt wsX8_endsAt rmX8_endsAt [.ref q_, .int a1] [(q_, .inr (8, [.ref q_joints, .int s_steps, .ref q_from, .ref q_to, .ref q_twin, .ref q_firm, .ref q_first, .ref q_firmEnds, .ref q_reached, .ref q_nextLow, .ref q_nextHigh])), (q_first, .inl (ky 0, 129, .inl s_first))] [(q_, .inr (8, [.ref q_joints, .int s_steps, .ref q_from, .ref q_to, .ref q_twin, .ref q_firm, .ref q_first, .ref q_firmEnds, .ref q_reached, .ref q_nextLow, .ref q_nextHigh])), (q_first, .inl (ky 0, 129, .inl s_first))] o_r 0 0 := by
  refine MtI.of (cc := cX8_endsAt) (maxL := 2) (by decide +kernel) rfl (Nat.le_of_ble_eq_true rfl) ?_
  intro p e R s m args below meth c A Q ls hR hx hb hts hown hnm hml hP hK hD hA ret hl
  subst hR
  obtain ⟨H, hH⟩ : ∃ H, H = s.heap := ⟨_, rfl⟩
  obtain ⟨locs, hlocs⟩ : ∃ locs : List Loc, locs = [] := ⟨_, rfl⟩
  have hS : va_S A s.heap H locs := by rw [hH, hlocs]; exact va_S.rf
  rw [← hH] at hP
  suffices hgo : W p l e rmX8_endsAt s m args below meth c H locs 0 0 Q (F0 m 0 ls []) by rw [hH, hlocs] at hgo; exact hgo
  clear hH hlocs
  replace hl : lv_has ls 2 [(0, .ref q_), (1, .int a1)] := hl
  replace hown : s.vm.findClass RX8 = some m.cls := hown
  have hi_X8 : ∀ w ∈ u_ws RX8 TX8 11, w ∈ wsX8_endsAt := fun _ h9 => List.mem_cons_of_mem _ (List.mem_append_right _ h9)
  have hf_29 := hts (.fieldLink RX8 29 "GlazierBench$Pieces" "first" "[I") (by decide +kernel)
  unfold sX8_endsAt at h
  refine lv_aload_n hx hb dX8_endsAt_0 rfl (lv_at hl 0 rfl) ?_
  refine va_get (D := D) (ci := 8) (v := .ref q_first) (C := RX8) (T := TX8) (N := 11) hx hb hts hi_X8 hown hK.1 hP 0 rfl rfl 6 (by decide) hf_29 (fun _ h9 => h9) rfl dX8_endsAt_1 ?_
  refine lv_iload_n hx hb dX8_endsAt_4 rfl (lv_at hl 1 rfl) ?_
  refine lv_iconst (v := 1) hx hb dX8_endsAt_5 (by decide) ?_
  refine lv_iadd hx hb dX8_endsAt_6 ?_
  obtain ⟨hg, h⟩ := gd_of h
  refine va_iald hx hb hK.1 hP 1 0 rfl rfl hg dX8_endsAt_7 ?_
  refine lv_aload_n hx hb dX8_endsAt_8 rfl (lv_at hl 0 rfl) ?_
  refine va_get (D := D) (ci := 8) (v := .ref q_first) (C := RX8) (T := TX8) (N := 11) hx hb hts hi_X8 hown hK.1 hP 0 rfl rfl 6 (by decide) hf_29 (fun _ h9 => h9) rfl dX8_endsAt_9 ?_
  refine lv_iload_n hx hb dX8_endsAt_12 rfl (lv_at hl 1 rfl) ?_
  obtain ⟨hg, h⟩ := gd_of h
  refine va_iald hx hb hK.1 hP 1 0 rfl rfl hg dX8_endsAt_13 ?_
  refine lv_isub hx hb dX8_endsAt_14 ?_
  cases h
  exact ret _ _ _ _ dX8_endsAt_15 hP hD hS

def bX8_firmWhatIsReached_2 (s_first : Nat → Int32) (s_joints_total : Int32) (s_reached : Nat → Int32) (t : Int32 × (Nat → Int32)) : Option (Nat × (Int32 × (Nat → Int32))) := dm2 t (fun (v1 : Int32) (v2 : Nat → Int32) => if s_joints_total ≤ v1 then some (1, (v1, v2)) else gd (¬ (v1 < 0 ∨ 128 ≤ v1.toNatClampNeg)) (ob (if (s_reached v1.toNatClampNeg) = 0 then some (0 : Int32) else ob (sX8_endsAt v1 s_first) (fun o => dm1 o (fun (r6 : Int32) => some r6))) (fun t => dm1 t (fun (v3 : Int32) => gd (¬ (v1 < 0 ∨ 128 ≤ v1.toNatClampNeg)) (lt (upd v2 v1.toNatClampNeg v3) (fun f4 => lt (v1 + 1) (fun x5 => some (0, (x5, f4)))))))))
def bX8_firmWhatIsReached_45 (s_steps : Int32) (s_from : Nat → Int32) (s_reached : Nat → Int32) (t : Int32 × (Nat → Int32)) : Option (Nat × (Int32 × (Nat → Int32))) := dm2 t (fun (v9 : Int32) (v10 : Nat → Int32) => if s_steps ≤ v9 then some (1, (v9, v10)) else gd (¬ (v9 < 0 ∨ 768 ≤ v9.toNatClampNeg)) (gd (¬ ((s_from v9.toNatClampNeg) < 0 ∨ 128 ≤ (s_from v9.toNatClampNeg).toNatClampNeg)) (gd (¬ (v9 < 0 ∨ 768 ≤ v9.toNatClampNeg)) (lt (upd v10 v9.toNatClampNeg (vp_nar .boolean (s_reached (s_from v9.toNatClampNeg).toNatClampNeg))) (fun f11 => lt (v9 + 1) (fun x12 => some (0, (x12, f11))))))))
def sX8_firmWhatIsReached  (s_steps : Int32) (s_firm : Nat → Int32) (s_firmEnds : Nat → Int32) (s_first : Nat → Int32) (s_from : Nat → Int32) (s_joints_total : Int32) (s_reached : Nat → Int32) : Option ((Nat → Int32) × (Nat → Int32)) := ob (iter (bX8_firmWhatIsReached_2 s_first s_joints_total s_reached) FU ((0 : Int32), s_firmEnds)) (fun kt => ex1 kt (fun t => dm2 t (fun (v7 : Int32) (v8 : Nat → Int32) => ob (iter (bX8_firmWhatIsReached_45 s_steps s_from s_reached) FU ((0 : Int32), s_firm)) (fun kt => ex1 kt (fun t => dm2 t (fun (v13 : Int32) (v14 : Nat → Int32) => some (v14, v8)))))))
abbrev rmX8_firmWhatIsReached : Room := { frames := 1, cells := 0, slots := 0, locals := 21 }
set_option maxHeartbeats 4000000 in
set_option maxRecDepth 100000 in
theorem c_X8_firmWhatIsReached (l : Launch) (D : va_G) (ky : Nat → ClassId) (q_ q_joints q_from q_to q_twin q_firm q_first q_firmEnds q_reached q_nextLow q_nextHigh q_joints_x q_joints_y q_joints_under : Nat) (s_steps : Int32) (s_firm : Nat → Int32) (s_firmEnds : Nat → Int32) (s_first : Nat → Int32) (s_from : Nat → Int32) (s_joints_total : Int32) (s_reached : Nat → Int32) {o_firm : Nat → Int32} {o_firmEnds : Nat → Int32} (h : sX8_firmWhatIsReached s_steps s_firm s_firmEnds s_first s_from s_joints_total s_reached = some (o_firm, o_firmEnds)) : MtV l D ky yX8_firmWhatIsReached wsX8_firmWhatIsReached rmX8_firmWhatIsReached [.ref q_] [(q_, .inr (8, [.ref q_joints, .int s_steps, .ref q_from, .ref q_to, .ref q_twin, .ref q_firm, .ref q_first, .ref q_firmEnds, .ref q_reached, .ref q_nextLow, .ref q_nextHigh])), (q_firm, .inl (ky 2, 768, .inl s_firm)), (q_firmEnds, .inl (ky 0, 128, .inl s_firmEnds)), (q_first, .inl (ky 0, 129, .inl s_first)), (q_from, .inl (ky 0, 768, .inl s_from)), (q_joints, .inr (4, [.int s_joints_total, .ref q_joints_x, .ref q_joints_y, .ref q_joints_under])), (q_reached, .inl (ky 2, 128, .inl s_reached))] [(q_, .inr (8, [.ref q_joints, .int s_steps, .ref q_from, .ref q_to, .ref q_twin, .ref q_firm, .ref q_first, .ref q_firmEnds, .ref q_reached, .ref q_nextLow, .ref q_nextHigh])), (q_firm, .inl (ky 2, 768, .inl o_firm)), (q_firmEnds, .inl (ky 0, 128, .inl o_firmEnds)), (q_first, .inl (ky 0, 129, .inl s_first)), (q_from, .inl (ky 0, 768, .inl s_from)), (q_joints, .inr (4, [.int s_joints_total, .ref q_joints_x, .ref q_joints_y, .ref q_joints_under])), (q_reached, .inl (ky 2, 128, .inl s_reached))] 0 0 := by
  refine MtV.of (cc := cX8_firmWhatIsReached) (maxL := 2) (by decide +kernel) rfl (Nat.le_of_ble_eq_true rfl) ?_
  intro p e R s m args below meth c A Q ls hR hx hb hts hown hnm hml hP hK hD hA ret hl
  have rt := rtV (dc := fun pc => decode cX8_firmWhatIsReached pc = .ok (.return_, 1)) (o_firm, o_firmEnds) (fun t => [(q_, .inr (8, [.ref q_joints, .int s_steps, .ref q_from, .ref q_to, .ref q_twin, .ref q_firm, .ref q_first, .ref q_firmEnds, .ref q_reached, .ref q_nextLow, .ref q_nextHigh])), (q_firm, .inl (ky 2, 768, .inl t.1)), (q_firmEnds, .inl (ky 0, 128, .inl t.2)), (q_first, .inl (ky 0, 129, .inl s_first)), (q_from, .inl (ky 0, 768, .inl s_from)), (q_joints, .inr (4, [.int s_joints_total, .ref q_joints_x, .ref q_joints_y, .ref q_joints_under])), (q_reached, .inl (ky 2, 128, .inl s_reached))]) ret
  subst hR
  obtain ⟨H, hH⟩ : ∃ H, H = s.heap := ⟨_, rfl⟩
  obtain ⟨locs, hlocs⟩ : ∃ locs : List Loc, locs = [] := ⟨_, rfl⟩
  have hS : va_S A s.heap H locs := by rw [hH, hlocs]; exact va_S.rf
  rw [← hH] at hP
  suffices hgo : W p l e rmX8_firmWhatIsReached s m args below meth c H locs 0 0 Q (F0 m 0 ls []) by rw [hH, hlocs] at hgo; exact hgo
  clear hH hlocs
  replace hl : lv_has ls 2 [(0, .ref q_)] := hl
  replace hown : s.vm.findClass RX8 = some m.cls := hown
  have hi_X8 : ∀ w ∈ u_ws RX8 TX8 11, w ∈ wsX8_firmWhatIsReached := fun _ h9 => List.mem_cons_of_mem _ (List.mem_append_left _ (List.mem_append_right _ h9))
  have hf_9 := hts (.fieldLink RX8 9 "GlazierBench$Pieces" "joints" "LGlazierBench$Joints;") (by decide +kernel)
  have hi_X4 : ∀ w ∈ u_ws RX4 TX4 4, w ∈ wsX8_firmWhatIsReached := fun _ h9 => List.mem_cons_of_mem _ (List.mem_append_right _ h9)
  have hf_45 := hts (.fieldLink RX8 45 "GlazierBench$Joints" "total" "I") (by decide +kernel)
  have hf_32 := hts (.fieldLink RX8 32 "GlazierBench$Pieces" "firmEnds" "[I") (by decide +kernel)
  have hf_35 := hts (.fieldLink RX8 35 "GlazierBench$Pieces" "reached" "[Z") (by decide +kernel)
  have hf_83 := hts (.fieldLink RX8 83 "GlazierBench$Pieces" "steps" "I") (by decide +kernel)
  have hf_25 := hts (.fieldLink RX8 25 "GlazierBench$Pieces" "firm" "[Z") (by decide +kernel)
  have hf_15 := hts (.fieldLink RX8 15 "GlazierBench$Pieces" "from" "[I") (by decide +kernel)
  unfold sX8_firmWhatIsReached at h
  refine lv_iconst (v := 0) hx hb dX8_firmWhatIsReached_0 (by decide) ?_
  refine lv_istore_n (lv' := [(1, .int (0 : Int32)), (0, .ref q_)]) hx hb dX8_firmWhatIsReached_1 rfl hl (by decide) rfl (fun ls hl => ?_)
  obtain ⟨⟨k, t⟩, hi, h⟩ := ob_of h
  refine iter_rule (P := fun (k : Nat) (t : Int32 × (Nat → Int32)) => ∀ (H : Heap) (locs : List Loc) (ls : Array Slot), va_P D vwCl [(q_, .inr (8, [.ref q_joints, .int s_steps, .ref q_from, .ref q_to, .ref q_twin, .ref q_firm, .ref q_first, .ref q_firmEnds, .ref q_reached, .ref q_nextLow, .ref q_nextHigh])), (q_firm, .inl (ky 2, 768, .inl s_firm)), (q_firmEnds, .inl (ky 0, 128, .inl t.2)), (q_first, .inl (ky 0, 129, .inl s_first)), (q_from, .inl (ky 0, 768, .inl s_from)), (q_joints, .inr (4, [.int s_joints_total, .ref q_joints_x, .ref q_joints_y, .ref q_joints_under])), (q_reached, .inl (ky 2, 128, .inl s_reached))] H → va_D A [(q_, .inr (8, [.ref q_joints, .int s_steps, .ref q_from, .ref q_to, .ref q_twin, .ref q_firm, .ref q_first, .ref q_firmEnds, .ref q_reached, .ref q_nextLow, .ref q_nextHigh])), (q_firm, .inl (ky 2, 768, .inl s_firm)), (q_firmEnds, .inl (ky 0, 128, .inl t.2)), (q_first, .inl (ky 0, 129, .inl s_first)), (q_from, .inl (ky 0, 768, .inl s_from)), (q_joints, .inr (4, [.int s_joints_total, .ref q_joints_x, .ref q_joints_y, .ref q_joints_under])), (q_reached, .inl (ky 2, 128, .inl s_reached))] → va_S A s.heap H locs → lv_has ls 2 [(0, .ref q_), (1, .int t.1)] → W p l e rmX8_firmWhatIsReached s m args below meth c H locs 0 0 Q (F0 m ([2, 43].getD k 0) ls [])) ?_ _ _ _ _ hi ?_ H locs ls hP hD hS (lv_sub hl [1, 0] rfl)
  · clear h hi hP hD hS hl
    intro t k t' h K
    obtain ⟨v1, v2⟩ := t
    intro H locs ls hP hD hS hl
    replace h := dm2_of h
    replace hP : va_P D vwCl [(q_, .inr (8, [.ref q_joints, .int s_steps, .ref q_from, .ref q_to, .ref q_twin, .ref q_firm, .ref q_first, .ref q_firmEnds, .ref q_reached, .ref q_nextLow, .ref q_nextHigh])), (q_firm, .inl (ky 2, 768, .inl s_firm)), (q_firmEnds, .inl (ky 0, 128, .inl v2)), (q_first, .inl (ky 0, 129, .inl s_first)), (q_from, .inl (ky 0, 768, .inl s_from)), (q_joints, .inr (4, [.int s_joints_total, .ref q_joints_x, .ref q_joints_y, .ref q_joints_under])), (q_reached, .inl (ky 2, 128, .inl s_reached))] H := hP
    replace hD : va_D A [(q_, .inr (8, [.ref q_joints, .int s_steps, .ref q_from, .ref q_to, .ref q_twin, .ref q_firm, .ref q_first, .ref q_firmEnds, .ref q_reached, .ref q_nextLow, .ref q_nextHigh])), (q_firm, .inl (ky 2, 768, .inl s_firm)), (q_firmEnds, .inl (ky 0, 128, .inl v2)), (q_first, .inl (ky 0, 129, .inl s_first)), (q_from, .inl (ky 0, 768, .inl s_from)), (q_joints, .inr (4, [.int s_joints_total, .ref q_joints_x, .ref q_joints_y, .ref q_joints_under])), (q_reached, .inl (ky 2, 128, .inl s_reached))] := hD
    replace hl : lv_has ls 2 [(0, .ref q_), (1, .int v1)] := hl
    refine lv_iload_n hx hb dX8_firmWhatIsReached_2 rfl (lv_at hl 1 rfl) ?_
    refine lv_aload_n hx hb dX8_firmWhatIsReached_3 rfl (lv_at hl 0 rfl) ?_
    refine va_get (D := D) (ci := 8) (v := .ref q_joints) (C := RX8) (T := TX8) (N := 11) hx hb hts hi_X8 hown hK.1 hP 0 rfl rfl 0 (by decide) hf_9 (fun _ h9 => h9) rfl dX8_firmWhatIsReached_4 ?_
    refine va_get (D := D) (ci := 4) (v := .int s_joints_total) (C := RX4) (T := TX4) (N := 4) hx hb hts hi_X4 hown hK.1 hP 5 rfl rfl 0 (by decide) hf_45 (fun _ h9 => h9) rfl dX8_firmWhatIsReached_7 ?_
    refine lv_icmp_ge (tgt := 43) hx hb dX8_firmWhatIsReached_10 (by decide) (fun hc => ?_) (fun hc => ?_)
    · replace h := if_t hc h
      cases h
      exact K _ _ _ hP hD hS (lv_sub hl [0, 1] rfl)
    · replace h := if_f hc h
      refine lv_aload_n hx hb dX8_firmWhatIsReached_13 rfl (lv_at hl 0 rfl) ?_
      refine va_get (D := D) (ci := 8) (v := .ref q_firmEnds) (C := RX8) (T := TX8) (N := 11) hx hb hts hi_X8 hown hK.1 hP 0 rfl rfl 7 (by decide) hf_32 (fun _ h9 => h9) rfl dX8_firmWhatIsReached_14 ?_
      refine lv_iload_n hx hb dX8_firmWhatIsReached_17 rfl (lv_at hl 1 rfl) ?_
      refine lv_aload_n hx hb dX8_firmWhatIsReached_18 rfl (lv_at hl 0 rfl) ?_
      refine va_get (D := D) (ci := 8) (v := .ref q_reached) (C := RX8) (T := TX8) (N := 11) hx hb hts hi_X8 hown hK.1 hP 0 rfl rfl 8 (by decide) hf_35 (fun _ h9 => h9) rfl dX8_firmWhatIsReached_19 ?_
      refine lv_iload_n hx hb dX8_firmWhatIsReached_22 rfl (lv_at hl 1 rfl) ?_
      obtain ⟨hg, h⟩ := gd_of h
      refine va_zald hx hb hK.1 hP 6 2 rfl rfl hg dX8_firmWhatIsReached_23 ?_
      obtain ⟨t, hd, h⟩ := ob_of h
      have K : ∀ (H : Heap) (locs : List Loc) (ls : Array Slot), va_P D vwCl [(q_, .inr (8, [.ref q_joints, .int s_steps, .ref q_from, .ref q_to, .ref q_twin, .ref q_firm, .ref q_first, .ref q_firmEnds, .ref q_reached, .ref q_nextLow, .ref q_nextHigh])), (q_firm, .inl (ky 2, 768, .inl s_firm)), (q_firmEnds, .inl (ky 0, 128, .inl v2)), (q_first, .inl (ky 0, 129, .inl s_first)), (q_from, .inl (ky 0, 768, .inl s_from)), (q_joints, .inr (4, [.int s_joints_total, .ref q_joints_x, .ref q_joints_y, .ref q_joints_under])), (q_reached, .inl (ky 2, 128, .inl s_reached))] H → va_D A [(q_, .inr (8, [.ref q_joints, .int s_steps, .ref q_from, .ref q_to, .ref q_twin, .ref q_firm, .ref q_first, .ref q_firmEnds, .ref q_reached, .ref q_nextLow, .ref q_nextHigh])), (q_firm, .inl (ky 2, 768, .inl s_firm)), (q_firmEnds, .inl (ky 0, 128, .inl v2)), (q_first, .inl (ky 0, 129, .inl s_first)), (q_from, .inl (ky 0, 768, .inl s_from)), (q_joints, .inr (4, [.int s_joints_total, .ref q_joints_x, .ref q_joints_y, .ref q_joints_under])), (q_reached, .inl (ky 2, 128, .inl s_reached))] → va_S A s.heap H locs → lv_has ls 2 [(0, .ref q_), (1, .int v1)] → W p l e rmX8_firmWhatIsReached s m args below meth c H locs 0 0 Q (F0 m 36 ls [.int t, .int v1, .ref q_firmEnds]) := by
        clear hd hP hD hS hl
        obtain ⟨v3, rfl⟩ : ∃ z, z = t := ⟨_, rfl⟩
        replace h := dm1_of h
        intro H locs ls hP hD hS hl
        replace hP : va_P D vwCl [(q_, .inr (8, [.ref q_joints, .int s_steps, .ref q_from, .ref q_to, .ref q_twin, .ref q_firm, .ref q_first, .ref q_firmEnds, .ref q_reached, .ref q_nextLow, .ref q_nextHigh])), (q_firm, .inl (ky 2, 768, .inl s_firm)), (q_firmEnds, .inl (ky 0, 128, .inl v2)), (q_first, .inl (ky 0, 129, .inl s_first)), (q_from, .inl (ky 0, 768, .inl s_from)), (q_joints, .inr (4, [.int s_joints_total, .ref q_joints_x, .ref q_joints_y, .ref q_joints_under])), (q_reached, .inl (ky 2, 128, .inl s_reached))] H := hP
        replace hD : va_D A [(q_, .inr (8, [.ref q_joints, .int s_steps, .ref q_from, .ref q_to, .ref q_twin, .ref q_firm, .ref q_first, .ref q_firmEnds, .ref q_reached, .ref q_nextLow, .ref q_nextHigh])), (q_firm, .inl (ky 2, 768, .inl s_firm)), (q_firmEnds, .inl (ky 0, 128, .inl v2)), (q_first, .inl (ky 0, 129, .inl s_first)), (q_from, .inl (ky 0, 768, .inl s_from)), (q_joints, .inr (4, [.int s_joints_total, .ref q_joints_x, .ref q_joints_y, .ref q_joints_under])), (q_reached, .inl (ky 2, 128, .inl s_reached))] := hD
        replace hl : lv_has ls 2 [(0, .ref q_), (1, .int v1)] := hl
        refine W.eq (g2 := F0 m 36 ls [.int v3, .int v1, .ref q_firmEnds]) rfl ?_
        obtain ⟨hg, h⟩ := gd_of h
        refine r_iast hx hb hK.1 hP hD hS 2 0 rfl rfl hg dX8_firmWhatIsReached_36 (fun f4 ef4 H locs hP hD hS => ?_)
        replace h := lt_at ef4 h
        replace hP : va_P D vwCl [(q_, .inr (8, [.ref q_joints, .int s_steps, .ref q_from, .ref q_to, .ref q_twin, .ref q_firm, .ref q_first, .ref q_firmEnds, .ref q_reached, .ref q_nextLow, .ref q_nextHigh])), (q_firm, .inl (ky 2, 768, .inl s_firm)), (q_firmEnds, .inl (ky 0, 128, .inl f4)), (q_first, .inl (ky 0, 129, .inl s_first)), (q_from, .inl (ky 0, 768, .inl s_from)), (q_joints, .inr (4, [.int s_joints_total, .ref q_joints_x, .ref q_joints_y, .ref q_joints_under])), (q_reached, .inl (ky 2, 128, .inl s_reached))] H := hP
        replace hD : va_D A [(q_, .inr (8, [.ref q_joints, .int s_steps, .ref q_from, .ref q_to, .ref q_twin, .ref q_firm, .ref q_first, .ref q_firmEnds, .ref q_reached, .ref q_nextLow, .ref q_nextHigh])), (q_firm, .inl (ky 2, 768, .inl s_firm)), (q_firmEnds, .inl (ky 0, 128, .inl f4)), (q_first, .inl (ky 0, 129, .inl s_first)), (q_from, .inl (ky 0, 768, .inl s_from)), (q_joints, .inr (4, [.int s_joints_total, .ref q_joints_x, .ref q_joints_y, .ref q_joints_under])), (q_reached, .inl (ky 2, 128, .inl s_reached))] := hD
        obtain ⟨x5, ex5⟩ : ∃ z : Int32, z = v1 + 1 := ⟨_, rfl⟩
        replace h := lt_at ex5 h
        refine lv_iinc (v := x5) (lv' := [(1, .int x5), (0, .ref q_)]) hx hb dX8_firmWhatIsReached_37 hl (k := 1) rfl (by rw [ex5]; rfl) (by decide) rfl (fun ls hl => ?_)
        refine lv_goto (tgt := 2) hx hb dX8_firmWhatIsReached_40 (by decide) ?_
        cases h
        exact K _ _ _ hP hD hS (lv_sub hl [1, 0] rfl)
      replace h := hd
      clear hd
      refine lv_if_eq (tgt := 35) hx hb dX8_firmWhatIsReached_24 (by decide) (fun hc => ?_) (fun hc => ?_)
      · replace h := if_t hc h
        refine lv_iconst (v := 0) hx hb dX8_firmWhatIsReached_35 (by decide) ?_
        cases h
        exact K _ _ _ hP hD hS (lv_sub hl [0, 1] rfl)
      · replace h := if_f hc h
        refine lv_aload_n hx hb dX8_firmWhatIsReached_27 rfl (lv_at hl 0 rfl) ?_
        refine lv_iload_n hx hb dX8_firmWhatIsReached_28 rfl (lv_at hl 1 rfl) ?_
        obtain ⟨r6, hc, h⟩ := ob_of h
        replace h := dm1_of h
        refine cv_i (As := [.int v1]) (rest := [.int v1, .ref q_firmEnds]) (wr := [(q_firm, .inl (ky 2, 768, .inl s_firm)), (q_firmEnds, .inl (ky 0, 128, .inl v2)), (q_from, .inl (ky 0, 768, .inl s_from)), (q_joints, .inr (4, [.int s_joints_total, .ref q_joints_x, .ref q_joints_y, .ref q_joints_under])), (q_reached, .inl (ky 2, 128, .inl s_reached))]) (wn := [(q_, .inr (8, [.ref q_joints, .int s_steps, .ref q_from, .ref q_to, .ref q_twin, .ref q_firm, .ref q_first, .ref q_firmEnds, .ref q_reached, .ref q_nextLow, .ref q_nextHigh])), (q_firm, .inl (ky 2, 768, .inl s_firm)), (q_firmEnds, .inl (ky 0, 128, .inl v2)), (q_first, .inl (ky 0, 129, .inl s_first)), (q_from, .inl (ky 0, 768, .inl s_from)), (q_joints, .inr (4, [.int s_joints_total, .ref q_joints_x, .ref q_joints_y, .ref q_joints_under])), (q_reached, .inl (ky 2, 128, .inl s_reached))]) ⟨hx, hb, hml, hown, hts⟩ (c_X8_endsAt l D ky q_ q_joints q_from q_to q_twin q_firm q_first q_firmEnds q_reached q_nextLow q_nextHigh v1 s_steps s_first hc) (cwV 1 hts gX8_firmWhatIsReached_X8_endsAt rfl rfl rfl (by decide +kernel) ⟨Nat.le_of_ble_eq_true rfl, Nat.le_of_ble_eq_true rfl⟩) (rcv hK.1 hP (q0 := 0) rfl rfl) hP hD hK hS hA [0, 3] [1, 2, 4, 5, 6] [5, 0, 1, 6, 2, 3, 4] rfl (by decide +kernel) rfl (by decide +kernel) (by decide +kernel) (by decide +kernel) rfl rfl rfl hl.1 (Nat.le_of_ble_eq_true rfl) dX8_firmWhatIsReached_29 ⟨Nat.le_of_ble_eq_true rfl, Nat.le_of_ble_eq_true rfl⟩ (fun H locs hP hD hS => ?_)
        refine lv_goto (tgt := 36) hx hb dX8_firmWhatIsReached_32 (by decide) ?_
        cases h
        exact K _ _ _ hP hD hS (lv_sub hl [0, 1] rfl)
  · have h1 := ex1_of h
    clear h hi
    rcases h1 with ⟨rfl, h⟩
    obtain ⟨v7, v8⟩ := t
    replace h := dm2_of h
    intro H locs ls hP hD hS hl
    replace hP : va_P D vwCl [(q_, .inr (8, [.ref q_joints, .int s_steps, .ref q_from, .ref q_to, .ref q_twin, .ref q_firm, .ref q_first, .ref q_firmEnds, .ref q_reached, .ref q_nextLow, .ref q_nextHigh])), (q_firm, .inl (ky 2, 768, .inl s_firm)), (q_firmEnds, .inl (ky 0, 128, .inl v8)), (q_first, .inl (ky 0, 129, .inl s_first)), (q_from, .inl (ky 0, 768, .inl s_from)), (q_joints, .inr (4, [.int s_joints_total, .ref q_joints_x, .ref q_joints_y, .ref q_joints_under])), (q_reached, .inl (ky 2, 128, .inl s_reached))] H := hP
    replace hD : va_D A [(q_, .inr (8, [.ref q_joints, .int s_steps, .ref q_from, .ref q_to, .ref q_twin, .ref q_firm, .ref q_first, .ref q_firmEnds, .ref q_reached, .ref q_nextLow, .ref q_nextHigh])), (q_firm, .inl (ky 2, 768, .inl s_firm)), (q_firmEnds, .inl (ky 0, 128, .inl v8)), (q_first, .inl (ky 0, 129, .inl s_first)), (q_from, .inl (ky 0, 768, .inl s_from)), (q_joints, .inr (4, [.int s_joints_total, .ref q_joints_x, .ref q_joints_y, .ref q_joints_under])), (q_reached, .inl (ky 2, 128, .inl s_reached))] := hD
    replace hl : lv_has ls 2 [(0, .ref q_), (1, .int v7)] := hl
    refine W.eq (g2 := F0 m 43 ls []) rfl ?_
    refine lv_iconst (v := 0) hx hb dX8_firmWhatIsReached_43 (by decide) ?_
    refine lv_istore_n (lv' := [(1, .int (0 : Int32)), (0, .ref q_)]) hx hb dX8_firmWhatIsReached_44 rfl hl (by decide) rfl (fun ls hl => ?_)
    obtain ⟨⟨k, t⟩, hi, h⟩ := ob_of h
    refine iter_rule (P := fun (k : Nat) (t : Int32 × (Nat → Int32)) => ∀ (H : Heap) (locs : List Loc) (ls : Array Slot), va_P D vwCl [(q_, .inr (8, [.ref q_joints, .int s_steps, .ref q_from, .ref q_to, .ref q_twin, .ref q_firm, .ref q_first, .ref q_firmEnds, .ref q_reached, .ref q_nextLow, .ref q_nextHigh])), (q_firm, .inl (ky 2, 768, .inl t.2)), (q_firmEnds, .inl (ky 0, 128, .inl v8)), (q_first, .inl (ky 0, 129, .inl s_first)), (q_from, .inl (ky 0, 768, .inl s_from)), (q_joints, .inr (4, [.int s_joints_total, .ref q_joints_x, .ref q_joints_y, .ref q_joints_under])), (q_reached, .inl (ky 2, 128, .inl s_reached))] H → va_D A [(q_, .inr (8, [.ref q_joints, .int s_steps, .ref q_from, .ref q_to, .ref q_twin, .ref q_firm, .ref q_first, .ref q_firmEnds, .ref q_reached, .ref q_nextLow, .ref q_nextHigh])), (q_firm, .inl (ky 2, 768, .inl t.2)), (q_firmEnds, .inl (ky 0, 128, .inl v8)), (q_first, .inl (ky 0, 129, .inl s_first)), (q_from, .inl (ky 0, 768, .inl s_from)), (q_joints, .inr (4, [.int s_joints_total, .ref q_joints_x, .ref q_joints_y, .ref q_joints_under])), (q_reached, .inl (ky 2, 128, .inl s_reached))] → va_S A s.heap H locs → lv_has ls 2 [(0, .ref q_), (1, .int t.1)] → W p l e rmX8_firmWhatIsReached s m args below meth c H locs 0 0 Q (F0 m ([45, 76].getD k 0) ls [])) ?_ _ _ _ _ hi ?_ H locs ls hP hD hS (lv_sub hl [1, 0] rfl)
    · clear h hi hP hD hS hl
      intro t k t' h K
      obtain ⟨v9, v10⟩ := t
      intro H locs ls hP hD hS hl
      replace h := dm2_of h
      replace hP : va_P D vwCl [(q_, .inr (8, [.ref q_joints, .int s_steps, .ref q_from, .ref q_to, .ref q_twin, .ref q_firm, .ref q_first, .ref q_firmEnds, .ref q_reached, .ref q_nextLow, .ref q_nextHigh])), (q_firm, .inl (ky 2, 768, .inl v10)), (q_firmEnds, .inl (ky 0, 128, .inl v8)), (q_first, .inl (ky 0, 129, .inl s_first)), (q_from, .inl (ky 0, 768, .inl s_from)), (q_joints, .inr (4, [.int s_joints_total, .ref q_joints_x, .ref q_joints_y, .ref q_joints_under])), (q_reached, .inl (ky 2, 128, .inl s_reached))] H := hP
      replace hD : va_D A [(q_, .inr (8, [.ref q_joints, .int s_steps, .ref q_from, .ref q_to, .ref q_twin, .ref q_firm, .ref q_first, .ref q_firmEnds, .ref q_reached, .ref q_nextLow, .ref q_nextHigh])), (q_firm, .inl (ky 2, 768, .inl v10)), (q_firmEnds, .inl (ky 0, 128, .inl v8)), (q_first, .inl (ky 0, 129, .inl s_first)), (q_from, .inl (ky 0, 768, .inl s_from)), (q_joints, .inr (4, [.int s_joints_total, .ref q_joints_x, .ref q_joints_y, .ref q_joints_under])), (q_reached, .inl (ky 2, 128, .inl s_reached))] := hD
      replace hl : lv_has ls 2 [(0, .ref q_), (1, .int v9)] := hl
      refine lv_iload_n hx hb dX8_firmWhatIsReached_45 rfl (lv_at hl 1 rfl) ?_
      refine lv_aload_n hx hb dX8_firmWhatIsReached_46 rfl (lv_at hl 0 rfl) ?_
      refine va_get (D := D) (ci := 8) (v := .int s_steps) (C := RX8) (T := TX8) (N := 11) hx hb hts hi_X8 hown hK.1 hP 0 rfl rfl 1 (by decide) hf_83 (fun _ h9 => h9) rfl dX8_firmWhatIsReached_47 ?_
      refine lv_icmp_ge (tgt := 76) hx hb dX8_firmWhatIsReached_50 (by decide) (fun hc => ?_) (fun hc => ?_)
      · replace h := if_t hc h
        cases h
        exact K _ _ _ hP hD hS (lv_sub hl [0, 1] rfl)
      · replace h := if_f hc h
        refine lv_aload_n hx hb dX8_firmWhatIsReached_53 rfl (lv_at hl 0 rfl) ?_
        refine va_get (D := D) (ci := 8) (v := .ref q_firm) (C := RX8) (T := TX8) (N := 11) hx hb hts hi_X8 hown hK.1 hP 0 rfl rfl 5 (by decide) hf_25 (fun _ h9 => h9) rfl dX8_firmWhatIsReached_54 ?_
        refine lv_iload_n hx hb dX8_firmWhatIsReached_57 rfl (lv_at hl 1 rfl) ?_
        refine lv_aload_n hx hb dX8_firmWhatIsReached_58 rfl (lv_at hl 0 rfl) ?_
        refine va_get (D := D) (ci := 8) (v := .ref q_reached) (C := RX8) (T := TX8) (N := 11) hx hb hts hi_X8 hown hK.1 hP 0 rfl rfl 8 (by decide) hf_35 (fun _ h9 => h9) rfl dX8_firmWhatIsReached_59 ?_
        refine lv_aload_n hx hb dX8_firmWhatIsReached_62 rfl (lv_at hl 0 rfl) ?_
        refine va_get (D := D) (ci := 8) (v := .ref q_from) (C := RX8) (T := TX8) (N := 11) hx hb hts hi_X8 hown hK.1 hP 0 rfl rfl 2 (by decide) hf_15 (fun _ h9 => h9) rfl dX8_firmWhatIsReached_63 ?_
        refine lv_iload_n hx hb dX8_firmWhatIsReached_66 rfl (lv_at hl 1 rfl) ?_
        obtain ⟨hg, h⟩ := gd_of h
        refine va_iald hx hb hK.1 hP 4 0 rfl rfl hg dX8_firmWhatIsReached_67 ?_
        obtain ⟨hg, h⟩ := gd_of h
        refine va_zald hx hb hK.1 hP 6 2 rfl rfl hg dX8_firmWhatIsReached_68 ?_
        obtain ⟨hg, h⟩ := gd_of h
        refine r_zast hx hb hK.1 hP hD hS 1 2 rfl rfl hg dX8_firmWhatIsReached_69 (fun f11 ef11 H locs hP hD hS => ?_)
        replace h := lt_at ef11 h
        replace hP : va_P D vwCl [(q_, .inr (8, [.ref q_joints, .int s_steps, .ref q_from, .ref q_to, .ref q_twin, .ref q_firm, .ref q_first, .ref q_firmEnds, .ref q_reached, .ref q_nextLow, .ref q_nextHigh])), (q_firm, .inl (ky 2, 768, .inl f11)), (q_firmEnds, .inl (ky 0, 128, .inl v8)), (q_first, .inl (ky 0, 129, .inl s_first)), (q_from, .inl (ky 0, 768, .inl s_from)), (q_joints, .inr (4, [.int s_joints_total, .ref q_joints_x, .ref q_joints_y, .ref q_joints_under])), (q_reached, .inl (ky 2, 128, .inl s_reached))] H := hP
        replace hD : va_D A [(q_, .inr (8, [.ref q_joints, .int s_steps, .ref q_from, .ref q_to, .ref q_twin, .ref q_firm, .ref q_first, .ref q_firmEnds, .ref q_reached, .ref q_nextLow, .ref q_nextHigh])), (q_firm, .inl (ky 2, 768, .inl f11)), (q_firmEnds, .inl (ky 0, 128, .inl v8)), (q_first, .inl (ky 0, 129, .inl s_first)), (q_from, .inl (ky 0, 768, .inl s_from)), (q_joints, .inr (4, [.int s_joints_total, .ref q_joints_x, .ref q_joints_y, .ref q_joints_under])), (q_reached, .inl (ky 2, 128, .inl s_reached))] := hD
        obtain ⟨x12, ex12⟩ : ∃ z : Int32, z = v9 + 1 := ⟨_, rfl⟩
        replace h := lt_at ex12 h
        refine lv_iinc (v := x12) (lv' := [(1, .int x12), (0, .ref q_)]) hx hb dX8_firmWhatIsReached_70 hl (k := 1) rfl (by rw [ex12]; rfl) (by decide) rfl (fun ls hl => ?_)
        refine lv_goto (tgt := 45) hx hb dX8_firmWhatIsReached_73 (by decide) ?_
        cases h
        exact K _ _ _ hP hD hS (lv_sub hl [1, 0] rfl)
    · have h1 := ex1_of h
      clear h hi
      rcases h1 with ⟨rfl, h⟩
      obtain ⟨v13, v14⟩ := t
      replace h := dm2_of h
      intro H locs ls hP hD hS hl
      replace hP : va_P D vwCl [(q_, .inr (8, [.ref q_joints, .int s_steps, .ref q_from, .ref q_to, .ref q_twin, .ref q_firm, .ref q_first, .ref q_firmEnds, .ref q_reached, .ref q_nextLow, .ref q_nextHigh])), (q_firm, .inl (ky 2, 768, .inl v14)), (q_firmEnds, .inl (ky 0, 128, .inl v8)), (q_first, .inl (ky 0, 129, .inl s_first)), (q_from, .inl (ky 0, 768, .inl s_from)), (q_joints, .inr (4, [.int s_joints_total, .ref q_joints_x, .ref q_joints_y, .ref q_joints_under])), (q_reached, .inl (ky 2, 128, .inl s_reached))] H := hP
      replace hD : va_D A [(q_, .inr (8, [.ref q_joints, .int s_steps, .ref q_from, .ref q_to, .ref q_twin, .ref q_firm, .ref q_first, .ref q_firmEnds, .ref q_reached, .ref q_nextLow, .ref q_nextHigh])), (q_firm, .inl (ky 2, 768, .inl v14)), (q_firmEnds, .inl (ky 0, 128, .inl v8)), (q_first, .inl (ky 0, 129, .inl s_first)), (q_from, .inl (ky 0, 768, .inl s_from)), (q_joints, .inr (4, [.int s_joints_total, .ref q_joints_x, .ref q_joints_y, .ref q_joints_under])), (q_reached, .inl (ky 2, 128, .inl s_reached))] := hD
      replace hl : lv_has ls 2 [(0, .ref q_), (1, .int v13)] := hl
      refine W.eq (g2 := F0 m 76 ls []) rfl ?_
      exact rt _ h _ _ _ _ dX8_firmWhatIsReached_76 hP hD hS

def sX8_loosen (a1 : Int32) (s_firm : Nat → Int32) (s_firmEnds : Nat → Int32) (s_from : Nat → Int32) (s_to : Nat → Int32) (s_twin : Nat → Int32) : Option ((Nat → Int32) × (Nat → Int32)) := gd (¬ (a1 < 0 ∨ 768 ≤ a1.toNatClampNeg)) (lt (upd s_firm a1.toNatClampNeg (vp_nar .boolean (0 : Int32))) (fun f1 => gd (¬ (a1 < 0 ∨ 768 ≤ a1.toNatClampNeg)) (gd (¬ ((s_twin a1.toNatClampNeg) < 0 ∨ 768 ≤ (s_twin a1.toNatClampNeg).toNatClampNeg)) (lt (upd f1 (s_twin a1.toNatClampNeg).toNatClampNeg (vp_nar .boolean (0 : Int32))) (fun f2 => gd (¬ (a1 < 0 ∨ 768 ≤ a1.toNatClampNeg)) (gd (¬ ((s_from a1.toNatClampNeg) < 0 ∨ 128 ≤ (s_from a1.toNatClampNeg).toNatClampNeg)) (gd (¬ ((s_from a1.toNatClampNeg) < 0 ∨ 128 ≤ (s_from a1.toNatClampNeg).toNatClampNeg)) (lt (upd s_firmEnds (s_from a1.toNatClampNeg).toNatClampNeg ((s_firmEnds (s_from a1.toNatClampNeg).toNatClampNeg) - (1 : Int32))) (fun f3 => gd (¬ (a1 < 0 ∨ 768 ≤ a1.toNatClampNeg)) (gd (¬ ((s_to a1.toNatClampNeg) < 0 ∨ 128 ≤ (s_to a1.toNatClampNeg).toNatClampNeg)) (gd (¬ ((s_to a1.toNatClampNeg) < 0 ∨ 128 ≤ (s_to a1.toNatClampNeg).toNatClampNeg)) (lt (upd f3 (s_to a1.toNatClampNeg).toNatClampNeg ((f3 (s_to a1.toNatClampNeg).toNatClampNeg) - (1 : Int32))) (fun f4 => some (f2, f4))))))))))))))
abbrev rmX8_loosen : Room := { frames := 0, cells := 0, slots := 0, locals := 0 }
set_option maxHeartbeats 4000000 in
set_option maxRecDepth 100000 in
theorem c_X8_loosen (l : Launch) (D : va_G) (ky : Nat → ClassId) (q_ q_joints q_from q_to q_twin q_firm q_first q_firmEnds q_reached q_nextLow q_nextHigh : Nat) (a1 : Int32) (s_steps : Int32) (s_firm : Nat → Int32) (s_firmEnds : Nat → Int32) (s_from : Nat → Int32) (s_to : Nat → Int32) (s_twin : Nat → Int32) {o_firm : Nat → Int32} {o_firmEnds : Nat → Int32} (h : sX8_loosen a1 s_firm s_firmEnds s_from s_to s_twin = some (o_firm, o_firmEnds)) : MtV l D ky yX8_loosen wsX8_loosen rmX8_loosen [.ref q_, .int a1] [(q_, .inr (8, [.ref q_joints, .int s_steps, .ref q_from, .ref q_to, .ref q_twin, .ref q_firm, .ref q_first, .ref q_firmEnds, .ref q_reached, .ref q_nextLow, .ref q_nextHigh])), (q_firm, .inl (ky 2, 768, .inl s_firm)), (q_firmEnds, .inl (ky 0, 128, .inl s_firmEnds)), (q_from, .inl (ky 0, 768, .inl s_from)), (q_to, .inl (ky 0, 768, .inl s_to)), (q_twin, .inl (ky 0, 768, .inl s_twin))] [(q_, .inr (8, [.ref q_joints, .int s_steps, .ref q_from, .ref q_to, .ref q_twin, .ref q_firm, .ref q_first, .ref q_firmEnds, .ref q_reached, .ref q_nextLow, .ref q_nextHigh])), (q_firm, .inl (ky 2, 768, .inl o_firm)), (q_firmEnds, .inl (ky 0, 128, .inl o_firmEnds)), (q_from, .inl (ky 0, 768, .inl s_from)), (q_to, .inl (ky 0, 768, .inl s_to)), (q_twin, .inl (ky 0, 768, .inl s_twin))] 0 0 := by
  refine MtV.of (cc := cX8_loosen) (maxL := 2) (by decide +kernel) rfl (Nat.le_of_ble_eq_true rfl) ?_
  intro p e R s m args below meth c A Q ls hR hx hb hts hown hnm hml hP hK hD hA ret hl
  have rt := rtV (dc := fun pc => decode cX8_loosen pc = .ok (.return_, 1)) (o_firm, o_firmEnds) (fun t => [(q_, .inr (8, [.ref q_joints, .int s_steps, .ref q_from, .ref q_to, .ref q_twin, .ref q_firm, .ref q_first, .ref q_firmEnds, .ref q_reached, .ref q_nextLow, .ref q_nextHigh])), (q_firm, .inl (ky 2, 768, .inl t.1)), (q_firmEnds, .inl (ky 0, 128, .inl t.2)), (q_from, .inl (ky 0, 768, .inl s_from)), (q_to, .inl (ky 0, 768, .inl s_to)), (q_twin, .inl (ky 0, 768, .inl s_twin))]) ret
  subst hR
  obtain ⟨H, hH⟩ : ∃ H, H = s.heap := ⟨_, rfl⟩
  obtain ⟨locs, hlocs⟩ : ∃ locs : List Loc, locs = [] := ⟨_, rfl⟩
  have hS : va_S A s.heap H locs := by rw [hH, hlocs]; exact va_S.rf
  rw [← hH] at hP
  suffices hgo : W p l e rmX8_loosen s m args below meth c H locs 0 0 Q (F0 m 0 ls []) by rw [hH, hlocs] at hgo; exact hgo
  clear hH hlocs
  replace hl : lv_has ls 2 [(0, .ref q_), (1, .int a1)] := hl
  replace hown : s.vm.findClass RX8 = some m.cls := hown
  have hi_X8 : ∀ w ∈ u_ws RX8 TX8 11, w ∈ wsX8_loosen := fun _ h9 => List.mem_cons_of_mem _ (List.mem_append_right _ h9)
  have hf_25 := hts (.fieldLink RX8 25 "GlazierBench$Pieces" "firm" "[Z") (by decide +kernel)
  have hf_22 := hts (.fieldLink RX8 22 "GlazierBench$Pieces" "twin" "[I") (by decide +kernel)
  have hf_32 := hts (.fieldLink RX8 32 "GlazierBench$Pieces" "firmEnds" "[I") (by decide +kernel)
  have hf_15 := hts (.fieldLink RX8 15 "GlazierBench$Pieces" "from" "[I") (by decide +kernel)
  have hf_19 := hts (.fieldLink RX8 19 "GlazierBench$Pieces" "to" "[I") (by decide +kernel)
  unfold sX8_loosen at h
  refine lv_aload_n hx hb dX8_loosen_0 rfl (lv_at hl 0 rfl) ?_
  refine va_get (D := D) (ci := 8) (v := .ref q_firm) (C := RX8) (T := TX8) (N := 11) hx hb hts hi_X8 hown hK.1 hP 0 rfl rfl 5 (by decide) hf_25 (fun _ h9 => h9) rfl dX8_loosen_1 ?_
  refine lv_iload_n hx hb dX8_loosen_4 rfl (lv_at hl 1 rfl) ?_
  refine lv_iconst (v := 0) hx hb dX8_loosen_5 (by decide) ?_
  obtain ⟨hg, h⟩ := gd_of h
  refine r_zast hx hb hK.1 hP hD hS 1 2 rfl rfl hg dX8_loosen_6 (fun f1 ef1 H locs hP hD hS => ?_)
  replace h := lt_at ef1 h
  replace hP : va_P D vwCl [(q_, .inr (8, [.ref q_joints, .int s_steps, .ref q_from, .ref q_to, .ref q_twin, .ref q_firm, .ref q_first, .ref q_firmEnds, .ref q_reached, .ref q_nextLow, .ref q_nextHigh])), (q_firm, .inl (ky 2, 768, .inl f1)), (q_firmEnds, .inl (ky 0, 128, .inl s_firmEnds)), (q_from, .inl (ky 0, 768, .inl s_from)), (q_to, .inl (ky 0, 768, .inl s_to)), (q_twin, .inl (ky 0, 768, .inl s_twin))] H := hP
  replace hD : va_D A [(q_, .inr (8, [.ref q_joints, .int s_steps, .ref q_from, .ref q_to, .ref q_twin, .ref q_firm, .ref q_first, .ref q_firmEnds, .ref q_reached, .ref q_nextLow, .ref q_nextHigh])), (q_firm, .inl (ky 2, 768, .inl f1)), (q_firmEnds, .inl (ky 0, 128, .inl s_firmEnds)), (q_from, .inl (ky 0, 768, .inl s_from)), (q_to, .inl (ky 0, 768, .inl s_to)), (q_twin, .inl (ky 0, 768, .inl s_twin))] := hD
  refine lv_aload_n hx hb dX8_loosen_7 rfl (lv_at hl 0 rfl) ?_
  refine va_get (D := D) (ci := 8) (v := .ref q_firm) (C := RX8) (T := TX8) (N := 11) hx hb hts hi_X8 hown hK.1 hP 0 rfl rfl 5 (by decide) hf_25 (fun _ h9 => h9) rfl dX8_loosen_8 ?_
  refine lv_aload_n hx hb dX8_loosen_11 rfl (lv_at hl 0 rfl) ?_
  refine va_get (D := D) (ci := 8) (v := .ref q_twin) (C := RX8) (T := TX8) (N := 11) hx hb hts hi_X8 hown hK.1 hP 0 rfl rfl 4 (by decide) hf_22 (fun _ h9 => h9) rfl dX8_loosen_12 ?_
  refine lv_iload_n hx hb dX8_loosen_15 rfl (lv_at hl 1 rfl) ?_
  obtain ⟨hg, h⟩ := gd_of h
  refine va_iald hx hb hK.1 hP 5 0 rfl rfl hg dX8_loosen_16 ?_
  refine lv_iconst (v := 0) hx hb dX8_loosen_17 (by decide) ?_
  obtain ⟨hg, h⟩ := gd_of h
  refine r_zast hx hb hK.1 hP hD hS 1 2 rfl rfl hg dX8_loosen_18 (fun f2 ef2 H locs hP hD hS => ?_)
  replace h := lt_at ef2 h
  replace hP : va_P D vwCl [(q_, .inr (8, [.ref q_joints, .int s_steps, .ref q_from, .ref q_to, .ref q_twin, .ref q_firm, .ref q_first, .ref q_firmEnds, .ref q_reached, .ref q_nextLow, .ref q_nextHigh])), (q_firm, .inl (ky 2, 768, .inl f2)), (q_firmEnds, .inl (ky 0, 128, .inl s_firmEnds)), (q_from, .inl (ky 0, 768, .inl s_from)), (q_to, .inl (ky 0, 768, .inl s_to)), (q_twin, .inl (ky 0, 768, .inl s_twin))] H := hP
  replace hD : va_D A [(q_, .inr (8, [.ref q_joints, .int s_steps, .ref q_from, .ref q_to, .ref q_twin, .ref q_firm, .ref q_first, .ref q_firmEnds, .ref q_reached, .ref q_nextLow, .ref q_nextHigh])), (q_firm, .inl (ky 2, 768, .inl f2)), (q_firmEnds, .inl (ky 0, 128, .inl s_firmEnds)), (q_from, .inl (ky 0, 768, .inl s_from)), (q_to, .inl (ky 0, 768, .inl s_to)), (q_twin, .inl (ky 0, 768, .inl s_twin))] := hD
  refine lv_aload_n hx hb dX8_loosen_19 rfl (lv_at hl 0 rfl) ?_
  refine va_get (D := D) (ci := 8) (v := .ref q_firmEnds) (C := RX8) (T := TX8) (N := 11) hx hb hts hi_X8 hown hK.1 hP 0 rfl rfl 7 (by decide) hf_32 (fun _ h9 => h9) rfl dX8_loosen_20 ?_
  refine lv_aload_n hx hb dX8_loosen_23 rfl (lv_at hl 0 rfl) ?_
  refine va_get (D := D) (ci := 8) (v := .ref q_from) (C := RX8) (T := TX8) (N := 11) hx hb hts hi_X8 hown hK.1 hP 0 rfl rfl 2 (by decide) hf_15 (fun _ h9 => h9) rfl dX8_loosen_24 ?_
  refine lv_iload_n hx hb dX8_loosen_27 rfl (lv_at hl 1 rfl) ?_
  obtain ⟨hg, h⟩ := gd_of h
  refine va_iald hx hb hK.1 hP 3 0 rfl rfl hg dX8_loosen_28 ?_
  refine lv_dup2_11 hx hb dX8_loosen_29 rfl rfl ?_
  obtain ⟨hg, h⟩ := gd_of h
  refine va_iald hx hb hK.1 hP 2 0 rfl rfl hg dX8_loosen_30 ?_
  refine lv_iconst (v := 1) hx hb dX8_loosen_31 (by decide) ?_
  refine lv_isub hx hb dX8_loosen_32 ?_
  obtain ⟨hg, h⟩ := gd_of h
  refine r_iast hx hb hK.1 hP hD hS 2 0 rfl rfl hg dX8_loosen_33 (fun f3 ef3 H locs hP hD hS => ?_)
  replace h := lt_at ef3 h
  replace hP : va_P D vwCl [(q_, .inr (8, [.ref q_joints, .int s_steps, .ref q_from, .ref q_to, .ref q_twin, .ref q_firm, .ref q_first, .ref q_firmEnds, .ref q_reached, .ref q_nextLow, .ref q_nextHigh])), (q_firm, .inl (ky 2, 768, .inl f2)), (q_firmEnds, .inl (ky 0, 128, .inl f3)), (q_from, .inl (ky 0, 768, .inl s_from)), (q_to, .inl (ky 0, 768, .inl s_to)), (q_twin, .inl (ky 0, 768, .inl s_twin))] H := hP
  replace hD : va_D A [(q_, .inr (8, [.ref q_joints, .int s_steps, .ref q_from, .ref q_to, .ref q_twin, .ref q_firm, .ref q_first, .ref q_firmEnds, .ref q_reached, .ref q_nextLow, .ref q_nextHigh])), (q_firm, .inl (ky 2, 768, .inl f2)), (q_firmEnds, .inl (ky 0, 128, .inl f3)), (q_from, .inl (ky 0, 768, .inl s_from)), (q_to, .inl (ky 0, 768, .inl s_to)), (q_twin, .inl (ky 0, 768, .inl s_twin))] := hD
  refine lv_aload_n hx hb dX8_loosen_34 rfl (lv_at hl 0 rfl) ?_
  refine va_get (D := D) (ci := 8) (v := .ref q_firmEnds) (C := RX8) (T := TX8) (N := 11) hx hb hts hi_X8 hown hK.1 hP 0 rfl rfl 7 (by decide) hf_32 (fun _ h9 => h9) rfl dX8_loosen_35 ?_
  refine lv_aload_n hx hb dX8_loosen_38 rfl (lv_at hl 0 rfl) ?_
  refine va_get (D := D) (ci := 8) (v := .ref q_to) (C := RX8) (T := TX8) (N := 11) hx hb hts hi_X8 hown hK.1 hP 0 rfl rfl 3 (by decide) hf_19 (fun _ h9 => h9) rfl dX8_loosen_39 ?_
  refine lv_iload_n hx hb dX8_loosen_42 rfl (lv_at hl 1 rfl) ?_
  obtain ⟨hg, h⟩ := gd_of h
  refine va_iald hx hb hK.1 hP 4 0 rfl rfl hg dX8_loosen_43 ?_
  refine lv_dup2_11 hx hb dX8_loosen_44 rfl rfl ?_
  obtain ⟨hg, h⟩ := gd_of h
  refine va_iald hx hb hK.1 hP 2 0 rfl rfl hg dX8_loosen_45 ?_
  refine lv_iconst (v := 1) hx hb dX8_loosen_46 (by decide) ?_
  refine lv_isub hx hb dX8_loosen_47 ?_
  obtain ⟨hg, h⟩ := gd_of h
  refine r_iast hx hb hK.1 hP hD hS 2 0 rfl rfl hg dX8_loosen_48 (fun f4 ef4 H locs hP hD hS => ?_)
  replace h := lt_at ef4 h
  replace hP : va_P D vwCl [(q_, .inr (8, [.ref q_joints, .int s_steps, .ref q_from, .ref q_to, .ref q_twin, .ref q_firm, .ref q_first, .ref q_firmEnds, .ref q_reached, .ref q_nextLow, .ref q_nextHigh])), (q_firm, .inl (ky 2, 768, .inl f2)), (q_firmEnds, .inl (ky 0, 128, .inl f4)), (q_from, .inl (ky 0, 768, .inl s_from)), (q_to, .inl (ky 0, 768, .inl s_to)), (q_twin, .inl (ky 0, 768, .inl s_twin))] H := hP
  replace hD : va_D A [(q_, .inr (8, [.ref q_joints, .int s_steps, .ref q_from, .ref q_to, .ref q_twin, .ref q_firm, .ref q_first, .ref q_firmEnds, .ref q_reached, .ref q_nextLow, .ref q_nextHigh])), (q_firm, .inl (ky 2, 768, .inl f2)), (q_firmEnds, .inl (ky 0, 128, .inl f4)), (q_from, .inl (ky 0, 768, .inl s_from)), (q_to, .inl (ky 0, 768, .inl s_to)), (q_twin, .inl (ky 0, 768, .inl s_twin))] := hD
  exact rt _ h _ _ _ _ dX8_loosen_49 hP hD hS

def bX8_loosenDeadEnds_20 (s_steps : Int32) (s_from : Nat → Int32) (s_to : Nat → Int32) (s_twin : Nat → Int32) (t : Int32 × Int32 × (Nat → Int32) × (Nat → Int32)) : Option (Nat × (Int32 × Int32 × (Nat → Int32) × (Nat → Int32))) := dm4 t (fun (v5 : Int32) (v6 : Int32) (v7 : Nat → Int32) (v8 : Nat → Int32) => if s_steps ≤ v6 then some (1, (v5, v6, v7, v8)) else gd (¬ (v6 < 0 ∨ 768 ≤ v6.toNatClampNeg)) (ob (if (v7 v6.toNatClampNeg) = 0 then some (v5, v7, v8) else gd (¬ (v6 < 0 ∨ 768 ≤ v6.toNatClampNeg)) (gd (¬ ((s_from v6.toNatClampNeg) < 0 ∨ 128 ≤ (s_from v6.toNatClampNeg).toNatClampNeg)) (if ¬ (v8 (s_from v6.toNatClampNeg).toNatClampNeg) = (1 : Int32) then some (v5, v7, v8) else ob (sX8_loosen v6 v7 v8 s_from s_to s_twin) (fun o => dm2 o (fun (o13 : Nat → Int32) (o14 : Nat → Int32) => some ((1 : Int32), o13, o14)))))) (fun t => dm3 t (fun (v9 : Int32) (v10 : Nat → Int32) (v11 : Nat → Int32) => lt (v6 + 1) (fun x12 => some (0, (v9, x12, v10, v11)))))))
def bX8_loosenDeadEnds_4 (s_steps : Int32) (s_from : Nat → Int32) (s_to : Nat → Int32) (s_twin : Nat → Int32) (t : Int32 × Int32 × (Nat → Int32) × (Nat → Int32)) : Option (Nat × (Int32 × Int32 × (Nat → Int32) × (Nat → Int32))) := dm4 t (fun (v1 : Int32) (v2 : Int32) (v3 : Nat → Int32) (v4 : Nat → Int32) => if s_steps ≤ v2 then some (1, (v1, v2, v3, v4)) else if v1 = 0 then some (1, (v1, v2, v3, v4)) else ob (iter (bX8_loosenDeadEnds_20 s_steps s_from s_to s_twin) FU ((0 : Int32), (0 : Int32), v3, v4)) (fun kt => ex1 kt (fun t => dm4 t (fun (v15 : Int32) (v16 : Int32) (v17 : Nat → Int32) (v18 : Nat → Int32) => lt (v2 + 1) (fun x19 => some (0, (v15, x19, v17, v18)))))))
def sX8_loosenDeadEnds  (s_steps : Int32) (s_firm : Nat → Int32) (s_firmEnds : Nat → Int32) (s_from : Nat → Int32) (s_to : Nat → Int32) (s_twin : Nat → Int32) : Option ((Nat → Int32) × (Nat → Int32)) := ob (iter (bX8_loosenDeadEnds_4 s_steps s_from s_to s_twin) FU ((1 : Int32), (0 : Int32), s_firm, s_firmEnds)) (fun kt => ex1 kt (fun t => dm4 t (fun (v20 : Int32) (v21 : Int32) (v22 : Nat → Int32) (v23 : Nat → Int32) => some (v22, v23))))
abbrev rmX8_loosenDeadEnds : Room := { frames := 1, cells := 0, slots := 0, locals := 21 }
set_option maxHeartbeats 4000000 in
set_option maxRecDepth 100000 in
theorem c_X8_loosenDeadEnds (l : Launch) (D : va_G) (ky : Nat → ClassId) (q_ q_joints q_from q_to q_twin q_firm q_first q_firmEnds q_reached q_nextLow q_nextHigh : Nat) (s_steps : Int32) (s_firm : Nat → Int32) (s_firmEnds : Nat → Int32) (s_from : Nat → Int32) (s_to : Nat → Int32) (s_twin : Nat → Int32) {o_firm : Nat → Int32} {o_firmEnds : Nat → Int32} (h : sX8_loosenDeadEnds s_steps s_firm s_firmEnds s_from s_to s_twin = some (o_firm, o_firmEnds)) : MtV l D ky yX8_loosenDeadEnds wsX8_loosenDeadEnds rmX8_loosenDeadEnds [.ref q_] [(q_, .inr (8, [.ref q_joints, .int s_steps, .ref q_from, .ref q_to, .ref q_twin, .ref q_firm, .ref q_first, .ref q_firmEnds, .ref q_reached, .ref q_nextLow, .ref q_nextHigh])), (q_firm, .inl (ky 2, 768, .inl s_firm)), (q_firmEnds, .inl (ky 0, 128, .inl s_firmEnds)), (q_from, .inl (ky 0, 768, .inl s_from)), (q_to, .inl (ky 0, 768, .inl s_to)), (q_twin, .inl (ky 0, 768, .inl s_twin))] [(q_, .inr (8, [.ref q_joints, .int s_steps, .ref q_from, .ref q_to, .ref q_twin, .ref q_firm, .ref q_first, .ref q_firmEnds, .ref q_reached, .ref q_nextLow, .ref q_nextHigh])), (q_firm, .inl (ky 2, 768, .inl o_firm)), (q_firmEnds, .inl (ky 0, 128, .inl o_firmEnds)), (q_from, .inl (ky 0, 768, .inl s_from)), (q_to, .inl (ky 0, 768, .inl s_to)), (q_twin, .inl (ky 0, 768, .inl s_twin))] 0 0 := by
  refine MtV.of (cc := cX8_loosenDeadEnds) (maxL := 4) (by decide +kernel) rfl (Nat.le_of_ble_eq_true rfl) ?_
  intro p e R s m args below meth c A Q ls hR hx hb hts hown hnm hml hP hK hD hA ret hl
  have rt := rtV (dc := fun pc => decode cX8_loosenDeadEnds pc = .ok (.return_, 1)) (o_firm, o_firmEnds) (fun t => [(q_, .inr (8, [.ref q_joints, .int s_steps, .ref q_from, .ref q_to, .ref q_twin, .ref q_firm, .ref q_first, .ref q_firmEnds, .ref q_reached, .ref q_nextLow, .ref q_nextHigh])), (q_firm, .inl (ky 2, 768, .inl t.1)), (q_firmEnds, .inl (ky 0, 128, .inl t.2)), (q_from, .inl (ky 0, 768, .inl s_from)), (q_to, .inl (ky 0, 768, .inl s_to)), (q_twin, .inl (ky 0, 768, .inl s_twin))]) ret
  subst hR
  obtain ⟨H, hH⟩ : ∃ H, H = s.heap := ⟨_, rfl⟩
  obtain ⟨locs, hlocs⟩ : ∃ locs : List Loc, locs = [] := ⟨_, rfl⟩
  have hS : va_S A s.heap H locs := by rw [hH, hlocs]; exact va_S.rf
  rw [← hH] at hP
  suffices hgo : W p l e rmX8_loosenDeadEnds s m args below meth c H locs 0 0 Q (F0 m 0 ls []) by rw [hH, hlocs] at hgo; exact hgo
  clear hH hlocs
  replace hl : lv_has ls 4 [(0, .ref q_)] := hl
  replace hown : s.vm.findClass RX8 = some m.cls := hown
  have hi_X8 : ∀ w ∈ u_ws RX8 TX8 11, w ∈ wsX8_loosenDeadEnds := fun _ h9 => List.mem_cons_of_mem _ (List.mem_append_right _ h9)
  have hf_83 := hts (.fieldLink RX8 83 "GlazierBench$Pieces" "steps" "I") (by decide +kernel)
  have hf_25 := hts (.fieldLink RX8 25 "GlazierBench$Pieces" "firm" "[Z") (by decide +kernel)
  have hf_32 := hts (.fieldLink RX8 32 "GlazierBench$Pieces" "firmEnds" "[I") (by decide +kernel)
  have hf_15 := hts (.fieldLink RX8 15 "GlazierBench$Pieces" "from" "[I") (by decide +kernel)
  unfold sX8_loosenDeadEnds at h
  refine lv_iconst (v := 1) hx hb dX8_loosenDeadEnds_0 (by decide) ?_
  refine lv_istore_n (lv' := [(1, .int (1 : Int32)), (0, .ref q_)]) hx hb dX8_loosenDeadEnds_1 rfl hl (by decide) rfl (fun ls hl => ?_)
  refine lv_iconst (v := 0) hx hb dX8_loosenDeadEnds_2 (by decide) ?_
  refine lv_istore_n (lv' := [(2, .int (0 : Int32)), (1, .int (1 : Int32)), (0, .ref q_)]) hx hb dX8_loosenDeadEnds_3 rfl hl (by decide) rfl (fun ls hl => ?_)
  obtain ⟨⟨k, t⟩, hi, h⟩ := ob_of h
  refine iter_rule (P := fun (k : Nat) (t : Int32 × Int32 × (Nat → Int32) × (Nat → Int32)) => ∀ (H : Heap) (locs : List Loc) (ls : Array Slot), va_P D vwCl [(q_, .inr (8, [.ref q_joints, .int s_steps, .ref q_from, .ref q_to, .ref q_twin, .ref q_firm, .ref q_first, .ref q_firmEnds, .ref q_reached, .ref q_nextLow, .ref q_nextHigh])), (q_firm, .inl (ky 2, 768, .inl t.2.2.1)), (q_firmEnds, .inl (ky 0, 128, .inl t.2.2.2)), (q_from, .inl (ky 0, 768, .inl s_from)), (q_to, .inl (ky 0, 768, .inl s_to)), (q_twin, .inl (ky 0, 768, .inl s_twin))] H → va_D A [(q_, .inr (8, [.ref q_joints, .int s_steps, .ref q_from, .ref q_to, .ref q_twin, .ref q_firm, .ref q_first, .ref q_firmEnds, .ref q_reached, .ref q_nextLow, .ref q_nextHigh])), (q_firm, .inl (ky 2, 768, .inl t.2.2.1)), (q_firmEnds, .inl (ky 0, 128, .inl t.2.2.2)), (q_from, .inl (ky 0, 768, .inl s_from)), (q_to, .inl (ky 0, 768, .inl s_to)), (q_twin, .inl (ky 0, 768, .inl s_twin))] → va_S A s.heap H locs → lv_has ls 4 [(0, .ref q_), (1, .int t.1), (2, .int t.2.1)] → W p l e rmX8_loosenDeadEnds s m args below meth c H locs 0 0 Q (F0 m ([4, 71].getD k 0) ls [])) ?_ _ _ _ _ hi ?_ H locs ls hP hD hS (lv_sub hl [2, 1, 0] rfl)
  · clear h hi hP hD hS hl
    intro t k t' h K
    obtain ⟨v1, v2, v3, v4⟩ := t
    intro H locs ls hP hD hS hl
    replace h := dm4_of h
    replace hP : va_P D vwCl [(q_, .inr (8, [.ref q_joints, .int s_steps, .ref q_from, .ref q_to, .ref q_twin, .ref q_firm, .ref q_first, .ref q_firmEnds, .ref q_reached, .ref q_nextLow, .ref q_nextHigh])), (q_firm, .inl (ky 2, 768, .inl v3)), (q_firmEnds, .inl (ky 0, 128, .inl v4)), (q_from, .inl (ky 0, 768, .inl s_from)), (q_to, .inl (ky 0, 768, .inl s_to)), (q_twin, .inl (ky 0, 768, .inl s_twin))] H := hP
    replace hD : va_D A [(q_, .inr (8, [.ref q_joints, .int s_steps, .ref q_from, .ref q_to, .ref q_twin, .ref q_firm, .ref q_first, .ref q_firmEnds, .ref q_reached, .ref q_nextLow, .ref q_nextHigh])), (q_firm, .inl (ky 2, 768, .inl v3)), (q_firmEnds, .inl (ky 0, 128, .inl v4)), (q_from, .inl (ky 0, 768, .inl s_from)), (q_to, .inl (ky 0, 768, .inl s_to)), (q_twin, .inl (ky 0, 768, .inl s_twin))] := hD
    replace hl : lv_has ls 4 [(0, .ref q_), (1, .int v1), (2, .int v2)] := hl
    refine lv_iload_n hx hb dX8_loosenDeadEnds_4 rfl (lv_at hl 2 rfl) ?_
    refine lv_aload_n hx hb dX8_loosenDeadEnds_5 rfl (lv_at hl 0 rfl) ?_
    refine va_get (D := D) (ci := 8) (v := .int s_steps) (C := RX8) (T := TX8) (N := 11) hx hb hts hi_X8 hown hK.1 hP 0 rfl rfl 1 (by decide) hf_83 (fun _ h9 => h9) rfl dX8_loosenDeadEnds_6 ?_
    refine lv_icmp_ge (tgt := 71) hx hb dX8_loosenDeadEnds_9 (by decide) (fun hc => ?_) (fun hc => ?_)
    · replace h := if_t hc h
      cases h
      exact K _ _ _ hP hD hS (lv_sub hl [0, 1, 2] rfl)
    · replace h := if_f hc h
      refine lv_iload_n hx hb dX8_loosenDeadEnds_12 rfl (lv_at hl 1 rfl) ?_
      refine lv_if_eq (tgt := 71) hx hb dX8_loosenDeadEnds_13 (by decide) (fun hc => ?_) (fun hc => ?_)
      · replace h := if_t hc h
        cases h
        exact K _ _ _ hP hD hS (lv_sub hl [0, 1, 2] rfl)
      · replace h := if_f hc h
        refine lv_iconst (v := 0) hx hb dX8_loosenDeadEnds_16 (by decide) ?_
        refine lv_istore_n (lv' := [(1, .int (0 : Int32)), (0, .ref q_), (2, .int v2)]) hx hb dX8_loosenDeadEnds_17 rfl hl (by decide) rfl (fun ls hl => ?_)
        refine lv_iconst (v := 0) hx hb dX8_loosenDeadEnds_18 (by decide) ?_
        refine lv_istore_n (lv' := [(3, .int (0 : Int32)), (1, .int (0 : Int32)), (0, .ref q_), (2, .int v2)]) hx hb dX8_loosenDeadEnds_19 rfl hl (by decide) rfl (fun ls hl => ?_)
        obtain ⟨⟨k, t⟩, hi, h⟩ := ob_of h
        refine iter_rule (P := fun (k : Nat) (t : Int32 × Int32 × (Nat → Int32) × (Nat → Int32)) => ∀ (H : Heap) (locs : List Loc) (ls : Array Slot), va_P D vwCl [(q_, .inr (8, [.ref q_joints, .int s_steps, .ref q_from, .ref q_to, .ref q_twin, .ref q_firm, .ref q_first, .ref q_firmEnds, .ref q_reached, .ref q_nextLow, .ref q_nextHigh])), (q_firm, .inl (ky 2, 768, .inl t.2.2.1)), (q_firmEnds, .inl (ky 0, 128, .inl t.2.2.2)), (q_from, .inl (ky 0, 768, .inl s_from)), (q_to, .inl (ky 0, 768, .inl s_to)), (q_twin, .inl (ky 0, 768, .inl s_twin))] H → va_D A [(q_, .inr (8, [.ref q_joints, .int s_steps, .ref q_from, .ref q_to, .ref q_twin, .ref q_firm, .ref q_first, .ref q_firmEnds, .ref q_reached, .ref q_nextLow, .ref q_nextHigh])), (q_firm, .inl (ky 2, 768, .inl t.2.2.1)), (q_firmEnds, .inl (ky 0, 128, .inl t.2.2.2)), (q_from, .inl (ky 0, 768, .inl s_from)), (q_to, .inl (ky 0, 768, .inl s_to)), (q_twin, .inl (ky 0, 768, .inl s_twin))] → va_S A s.heap H locs → lv_has ls 4 [(0, .ref q_), (1, .int t.1), (2, .int v2), (3, .int t.2.1)] → W p l e rmX8_loosenDeadEnds s m args below meth c H locs 0 0 Q (F0 m ([20, 65].getD k 0) ls [])) ?_ _ _ _ _ hi ?_ H locs ls hP hD hS (lv_sub hl [2, 1, 3, 0] rfl)
        · clear h hi hP hD hS hl
          intro t k t' h K
          obtain ⟨v5, v6, v7, v8⟩ := t
          intro H locs ls hP hD hS hl
          replace h := dm4_of h
          replace hP : va_P D vwCl [(q_, .inr (8, [.ref q_joints, .int s_steps, .ref q_from, .ref q_to, .ref q_twin, .ref q_firm, .ref q_first, .ref q_firmEnds, .ref q_reached, .ref q_nextLow, .ref q_nextHigh])), (q_firm, .inl (ky 2, 768, .inl v7)), (q_firmEnds, .inl (ky 0, 128, .inl v8)), (q_from, .inl (ky 0, 768, .inl s_from)), (q_to, .inl (ky 0, 768, .inl s_to)), (q_twin, .inl (ky 0, 768, .inl s_twin))] H := hP
          replace hD : va_D A [(q_, .inr (8, [.ref q_joints, .int s_steps, .ref q_from, .ref q_to, .ref q_twin, .ref q_firm, .ref q_first, .ref q_firmEnds, .ref q_reached, .ref q_nextLow, .ref q_nextHigh])), (q_firm, .inl (ky 2, 768, .inl v7)), (q_firmEnds, .inl (ky 0, 128, .inl v8)), (q_from, .inl (ky 0, 768, .inl s_from)), (q_to, .inl (ky 0, 768, .inl s_to)), (q_twin, .inl (ky 0, 768, .inl s_twin))] := hD
          replace hl : lv_has ls 4 [(0, .ref q_), (1, .int v5), (2, .int v2), (3, .int v6)] := hl
          refine lv_iload_n hx hb dX8_loosenDeadEnds_20 rfl (lv_at hl 3 rfl) ?_
          refine lv_aload_n hx hb dX8_loosenDeadEnds_21 rfl (lv_at hl 0 rfl) ?_
          refine va_get (D := D) (ci := 8) (v := .int s_steps) (C := RX8) (T := TX8) (N := 11) hx hb hts hi_X8 hown hK.1 hP 0 rfl rfl 1 (by decide) hf_83 (fun _ h9 => h9) rfl dX8_loosenDeadEnds_22 ?_
          refine lv_icmp_ge (tgt := 65) hx hb dX8_loosenDeadEnds_25 (by decide) (fun hc => ?_) (fun hc => ?_)
          · replace h := if_t hc h
            cases h
            exact K _ _ _ hP hD hS (lv_sub hl [0, 1, 2, 3] rfl)
          · replace h := if_f hc h
            refine lv_aload_n hx hb dX8_loosenDeadEnds_28 rfl (lv_at hl 0 rfl) ?_
            refine va_get (D := D) (ci := 8) (v := .ref q_firm) (C := RX8) (T := TX8) (N := 11) hx hb hts hi_X8 hown hK.1 hP 0 rfl rfl 5 (by decide) hf_25 (fun _ h9 => h9) rfl dX8_loosenDeadEnds_29 ?_
            refine lv_iload_n hx hb dX8_loosenDeadEnds_32 rfl (lv_at hl 3 rfl) ?_
            obtain ⟨hg, h⟩ := gd_of h
            refine va_zald hx hb hK.1 hP 1 2 rfl rfl hg dX8_loosenDeadEnds_33 ?_
            obtain ⟨t, hd, h⟩ := ob_of h
            have K : ∀ (H : Heap) (locs : List Loc) (ls : Array Slot), va_P D vwCl [(q_, .inr (8, [.ref q_joints, .int s_steps, .ref q_from, .ref q_to, .ref q_twin, .ref q_firm, .ref q_first, .ref q_firmEnds, .ref q_reached, .ref q_nextLow, .ref q_nextHigh])), (q_firm, .inl (ky 2, 768, .inl t.2.1)), (q_firmEnds, .inl (ky 0, 128, .inl t.2.2)), (q_from, .inl (ky 0, 768, .inl s_from)), (q_to, .inl (ky 0, 768, .inl s_to)), (q_twin, .inl (ky 0, 768, .inl s_twin))] H → va_D A [(q_, .inr (8, [.ref q_joints, .int s_steps, .ref q_from, .ref q_to, .ref q_twin, .ref q_firm, .ref q_first, .ref q_firmEnds, .ref q_reached, .ref q_nextLow, .ref q_nextHigh])), (q_firm, .inl (ky 2, 768, .inl t.2.1)), (q_firmEnds, .inl (ky 0, 128, .inl t.2.2)), (q_from, .inl (ky 0, 768, .inl s_from)), (q_to, .inl (ky 0, 768, .inl s_to)), (q_twin, .inl (ky 0, 768, .inl s_twin))] → va_S A s.heap H locs → lv_has ls 4 [(0, .ref q_), (1, .int t.1), (2, .int v2), (3, .int v6)] → W p l e rmX8_loosenDeadEnds s m args below meth c H locs 0 0 Q (F0 m 59 ls []) := by
              clear hd hP hD hS hl
              obtain ⟨v9, v10, v11⟩ := t
              replace h := dm3_of h
              intro H locs ls hP hD hS hl
              replace hP : va_P D vwCl [(q_, .inr (8, [.ref q_joints, .int s_steps, .ref q_from, .ref q_to, .ref q_twin, .ref q_firm, .ref q_first, .ref q_firmEnds, .ref q_reached, .ref q_nextLow, .ref q_nextHigh])), (q_firm, .inl (ky 2, 768, .inl v10)), (q_firmEnds, .inl (ky 0, 128, .inl v11)), (q_from, .inl (ky 0, 768, .inl s_from)), (q_to, .inl (ky 0, 768, .inl s_to)), (q_twin, .inl (ky 0, 768, .inl s_twin))] H := hP
              replace hD : va_D A [(q_, .inr (8, [.ref q_joints, .int s_steps, .ref q_from, .ref q_to, .ref q_twin, .ref q_firm, .ref q_first, .ref q_firmEnds, .ref q_reached, .ref q_nextLow, .ref q_nextHigh])), (q_firm, .inl (ky 2, 768, .inl v10)), (q_firmEnds, .inl (ky 0, 128, .inl v11)), (q_from, .inl (ky 0, 768, .inl s_from)), (q_to, .inl (ky 0, 768, .inl s_to)), (q_twin, .inl (ky 0, 768, .inl s_twin))] := hD
              replace hl : lv_has ls 4 [(0, .ref q_), (1, .int v9), (2, .int v2), (3, .int v6)] := hl
              refine W.eq (g2 := F0 m 59 ls []) rfl ?_
              obtain ⟨x12, ex12⟩ : ∃ z : Int32, z = v6 + 1 := ⟨_, rfl⟩
              replace h := lt_at ex12 h
              refine lv_iinc (v := x12) (lv' := [(3, .int x12), (0, .ref q_), (1, .int v9), (2, .int v2)]) hx hb dX8_loosenDeadEnds_59 hl (k := 3) rfl (by rw [ex12]; rfl) (by decide) rfl (fun ls hl => ?_)
              refine lv_goto (tgt := 20) hx hb dX8_loosenDeadEnds_62 (by decide) ?_
              cases h
              exact K _ _ _ hP hD hS (lv_sub hl [1, 2, 3, 0] rfl)
            replace h := hd
            clear hd
            refine lv_if_eq (tgt := 59) hx hb dX8_loosenDeadEnds_34 (by decide) (fun hc => ?_) (fun hc => ?_)
            · replace h := if_t hc h
              cases h
              exact K _ _ _ hP hD hS (lv_sub hl [0, 1, 2, 3] rfl)
            · replace h := if_f hc h
              refine lv_aload_n hx hb dX8_loosenDeadEnds_37 rfl (lv_at hl 0 rfl) ?_
              refine va_get (D := D) (ci := 8) (v := .ref q_firmEnds) (C := RX8) (T := TX8) (N := 11) hx hb hts hi_X8 hown hK.1 hP 0 rfl rfl 7 (by decide) hf_32 (fun _ h9 => h9) rfl dX8_loosenDeadEnds_38 ?_
              refine lv_aload_n hx hb dX8_loosenDeadEnds_41 rfl (lv_at hl 0 rfl) ?_
              refine va_get (D := D) (ci := 8) (v := .ref q_from) (C := RX8) (T := TX8) (N := 11) hx hb hts hi_X8 hown hK.1 hP 0 rfl rfl 2 (by decide) hf_15 (fun _ h9 => h9) rfl dX8_loosenDeadEnds_42 ?_
              refine lv_iload_n hx hb dX8_loosenDeadEnds_45 rfl (lv_at hl 3 rfl) ?_
              obtain ⟨hg, h⟩ := gd_of h
              refine va_iald hx hb hK.1 hP 3 0 rfl rfl hg dX8_loosenDeadEnds_46 ?_
              obtain ⟨hg, h⟩ := gd_of h
              refine va_iald hx hb hK.1 hP 2 0 rfl rfl hg dX8_loosenDeadEnds_47 ?_
              refine lv_iconst (v := 1) hx hb dX8_loosenDeadEnds_48 (by decide) ?_
              refine lv_icmp_ne (tgt := 59) hx hb dX8_loosenDeadEnds_49 (by decide) (fun hc => ?_) (fun hc => ?_)
              · replace h := if_t hc h
                cases h
                exact K _ _ _ hP hD hS (lv_sub hl [0, 1, 2, 3] rfl)
              · replace h := if_f (fun z => z hc) h
                refine lv_aload_n hx hb dX8_loosenDeadEnds_52 rfl (lv_at hl 0 rfl) ?_
                refine lv_iload_n hx hb dX8_loosenDeadEnds_53 rfl (lv_at hl 3 rfl) ?_
                obtain ⟨⟨o13, o14⟩, hc, h⟩ := ob_of h
                replace h := dm2_of h
                refine cv_v (As := [.int v6]) (rest := []) (wr := []) (wn := [(q_, .inr (8, [.ref q_joints, .int s_steps, .ref q_from, .ref q_to, .ref q_twin, .ref q_firm, .ref q_first, .ref q_firmEnds, .ref q_reached, .ref q_nextLow, .ref q_nextHigh])), (q_firm, .inl (ky 2, 768, .inl o13)), (q_firmEnds, .inl (ky 0, 128, .inl o14)), (q_from, .inl (ky 0, 768, .inl s_from)), (q_to, .inl (ky 0, 768, .inl s_to)), (q_twin, .inl (ky 0, 768, .inl s_twin))]) ⟨hx, hb, hml, hown, hts⟩ (c_X8_loosen l D ky q_ q_joints q_from q_to q_twin q_firm q_first q_firmEnds q_reached q_nextLow q_nextHigh v6 s_steps v7 v8 s_from s_to s_twin hc) (cwV 1 hts gX8_loosenDeadEnds_X8_loosen rfl rfl rfl (by decide +kernel) ⟨Nat.le_of_ble_eq_true rfl, Nat.le_of_ble_eq_true rfl⟩) (rcv hK.1 hP (q0 := 0) rfl rfl) hP hD hK hS hA [0, 1, 2, 3, 4, 5] [] [0, 1, 2, 3, 4, 5] rfl (by decide +kernel) rfl (by decide +kernel) (by decide +kernel) (by decide +kernel) rfl rfl rfl hl.1 (Nat.le_of_ble_eq_true rfl) dX8_loosenDeadEnds_54 ⟨Nat.le_of_ble_eq_true rfl, Nat.le_of_ble_eq_true rfl⟩ (fun H locs hP hD hS => ?_)
                refine lv_iconst (v := 1) hx hb dX8_loosenDeadEnds_57 (by decide) ?_
                refine lv_istore_n (lv' := [(1, .int (1 : Int32)), (0, .ref q_), (2, .int v2), (3, .int v6)]) hx hb dX8_loosenDeadEnds_58 rfl hl (by decide) rfl (fun ls hl => ?_)
                cases h
                exact K _ _ _ hP hD hS (lv_sub hl [1, 0, 2, 3] rfl)
        · have h1 := ex1_of h
          clear h hi
          rcases h1 with ⟨rfl, h⟩
          obtain ⟨v15, v16, v17, v18⟩ := t
          replace h := dm4_of h
          intro H locs ls hP hD hS hl
          replace hP : va_P D vwCl [(q_, .inr (8, [.ref q_joints, .int s_steps, .ref q_from, .ref q_to, .ref q_twin, .ref q_firm, .ref q_first, .ref q_firmEnds, .ref q_reached, .ref q_nextLow, .ref q_nextHigh])), (q_firm, .inl (ky 2, 768, .inl v17)), (q_firmEnds, .inl (ky 0, 128, .inl v18)), (q_from, .inl (ky 0, 768, .inl s_from)), (q_to, .inl (ky 0, 768, .inl s_to)), (q_twin, .inl (ky 0, 768, .inl s_twin))] H := hP
          replace hD : va_D A [(q_, .inr (8, [.ref q_joints, .int s_steps, .ref q_from, .ref q_to, .ref q_twin, .ref q_firm, .ref q_first, .ref q_firmEnds, .ref q_reached, .ref q_nextLow, .ref q_nextHigh])), (q_firm, .inl (ky 2, 768, .inl v17)), (q_firmEnds, .inl (ky 0, 128, .inl v18)), (q_from, .inl (ky 0, 768, .inl s_from)), (q_to, .inl (ky 0, 768, .inl s_to)), (q_twin, .inl (ky 0, 768, .inl s_twin))] := hD
          replace hl : lv_has ls 4 [(0, .ref q_), (1, .int v15), (2, .int v2), (3, .int v16)] := hl
          refine W.eq (g2 := F0 m 65 ls []) rfl ?_
          obtain ⟨x19, ex19⟩ : ∃ z : Int32, z = v2 + 1 := ⟨_, rfl⟩
          replace h := lt_at ex19 h
          refine lv_iinc (v := x19) (lv' := [(2, .int x19), (0, .ref q_), (1, .int v15), (3, .int v16)]) hx hb dX8_loosenDeadEnds_65 hl (k := 2) rfl (by rw [ex19]; rfl) (by decide) rfl (fun ls hl => ?_)
          refine lv_goto (tgt := 4) hx hb dX8_loosenDeadEnds_68 (by decide) ?_
          cases h
          exact K _ _ _ hP hD hS (lv_sub hl [1, 2, 0] rfl)
  · have h1 := ex1_of h
    clear h hi
    rcases h1 with ⟨rfl, h⟩
    obtain ⟨v20, v21, v22, v23⟩ := t
    replace h := dm4_of h
    intro H locs ls hP hD hS hl
    replace hP : va_P D vwCl [(q_, .inr (8, [.ref q_joints, .int s_steps, .ref q_from, .ref q_to, .ref q_twin, .ref q_firm, .ref q_first, .ref q_firmEnds, .ref q_reached, .ref q_nextLow, .ref q_nextHigh])), (q_firm, .inl (ky 2, 768, .inl v22)), (q_firmEnds, .inl (ky 0, 128, .inl v23)), (q_from, .inl (ky 0, 768, .inl s_from)), (q_to, .inl (ky 0, 768, .inl s_to)), (q_twin, .inl (ky 0, 768, .inl s_twin))] H := hP
    replace hD : va_D A [(q_, .inr (8, [.ref q_joints, .int s_steps, .ref q_from, .ref q_to, .ref q_twin, .ref q_firm, .ref q_first, .ref q_firmEnds, .ref q_reached, .ref q_nextLow, .ref q_nextHigh])), (q_firm, .inl (ky 2, 768, .inl v22)), (q_firmEnds, .inl (ky 0, 128, .inl v23)), (q_from, .inl (ky 0, 768, .inl s_from)), (q_to, .inl (ky 0, 768, .inl s_to)), (q_twin, .inl (ky 0, 768, .inl s_twin))] := hD
    replace hl : lv_has ls 4 [(0, .ref q_), (1, .int v20), (2, .int v21)] := hl
    refine W.eq (g2 := F0 m 71 ls []) rfl ?_
    exact rt _ h _ _ _ _ dX8_loosenDeadEnds_71 hP hD hS

