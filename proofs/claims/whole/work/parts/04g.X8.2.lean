def bX8_part_2 (s_joints_total : Int32) (t : Int32 × (Nat → Int64) × (Nat → Int64)) : Option (Nat × (Int32 × (Nat → Int64) × (Nat → Int64))) := dm3 t (fun (v1 : Int32) (v2 : Nat → Int64) (v3 : Nat → Int64) => if s_joints_total ≤ v1 then some (1, (v1, v2, v3)) else gd (¬ (v1 < 0 ∨ 128 ≤ v1.toNatClampNeg)) (lt (vp_updL v3 v1.toNatClampNeg (0 : Int64)) (fun f4 => gd (¬ (v1 < 0 ∨ 128 ≤ v1.toNatClampNeg)) (lt (vp_updL v2 v1.toNatClampNeg (0 : Int64)) (fun f5 => lt (v1 + 1) (fun x6 => some (0, (x6, f5, f4))))))))
def bX8_part_35 (s_joints_total : Int32) (s_joints_under : Nat → Int32) (s_joints_x : Nat → Int32) (s_joints_y : Nat → Int32) (s_a1_lines : Int32) (s_a1_u : Nat → Int32) (s_a1_v : Nat → Int32) (s_a1_x : Nat → Int32) (s_a1_y : Nat → Int32) (t : Int32 × (Nat → Int64) × (Nat → Int64)) : Option (Nat × (Int32 × (Nat → Int64) × (Nat → Int64))) := dm3 t (fun (v10 : Int32) (v11 : Nat → Int64) (v12 : Nat → Int64) => if s_a1_lines ≤ v10 then some (1, (v10, v11, v12)) else ob (sX8_joinAlong v10 s_joints_total s_joints_under s_joints_x s_joints_y v11 v12 s_a1_u s_a1_v s_a1_x s_a1_y) (fun o => dm2 o (fun (o13 : Nat → Int64) (o14 : Nat → Int64) => lt (v10 + 1) (fun x15 => some (0, (x15, o13, o14))))))
def sX8_part  (s_steps : Int32) (s_firm : Nat → Int32) (s_firmEnds : Nat → Int32) (s_first : Nat → Int32) (s_from : Nat → Int32) (s_joints_total : Int32) (s_joints_under : Nat → Int32) (s_joints_x : Nat → Int32) (s_joints_y : Nat → Int32) (s_nextHigh : Nat → Int64) (s_nextLow : Nat → Int64) (s_reached : Nat → Int32) (s_to : Nat → Int32) (s_twin : Nat → Int32) (s_a1_lines : Int32) (s_a1_u : Nat → Int32) (s_a1_v : Nat → Int32) (s_a1_x : Nat → Int32) (s_a1_y : Nat → Int32) : Option (Int32 × (Nat → Int32) × (Nat → Int32) × (Nat → Int32) × (Nat → Int32) × (Nat → Int64) × (Nat → Int64) × (Nat → Int32) × (Nat → Int32) × (Nat → Int32)) := ob (iter (bX8_part_2 s_joints_total) FU ((0 : Int32), s_nextHigh, s_nextLow)) (fun kt => ex1 kt (fun t => dm3 t (fun (v7 : Int32) (v8 : Nat → Int64) (v9 : Nat → Int64) => ob (iter (bX8_part_35 s_joints_total s_joints_under s_joints_x s_joints_y s_a1_lines s_a1_u s_a1_v s_a1_x s_a1_y) FU ((0 : Int32), v8, v9)) (fun kt => ex1 kt (fun t => dm3 t (fun (v16 : Int32) (v17 : Nat → Int64) (v18 : Nat → Int64) => ob (sX8_listSteps s_steps s_first s_from s_joints_total v17 v18 s_to) (fun o => dm4 o (fun (o19 : Int32) (o20 : Nat → Int32) (o21 : Nat → Int32) (o22 : Nat → Int32) => ob (sX8_pairSteps o19 o20 o21 o22 s_twin) (fun o => dm1 o (fun (o23 : Nat → Int32) => ob (sX8_reachFromSides o19 o21 s_joints_total s_reached o22) (fun o => dm1 o (fun (o24 : Nat → Int32) => ob (sX8_firmWhatIsReached o19 s_firm s_firmEnds o20 o21 s_joints_total o24) (fun o => dm2 o (fun (o25 : Nat → Int32) (o26 : Nat → Int32) => ob (sX8_loosenDeadEnds o19 o25 o26 o21 o22 o23) (fun o => dm2 o (fun (o27 : Nat → Int32) (o28 : Nat → Int32) => some (o19, o27, o28, o20, o21, v17, v18, o24, o22, o23)))))))))))))))))
abbrev rmX8_part : Room := { frames := 4, cells := 0, slots := 0, locals := 115 }
set_option maxHeartbeats 4000000 in
set_option maxRecDepth 100000 in
theorem c_X8_part (l : Launch) (D : va_G) (ky : Nat → ClassId) (q_ q_joints q_from q_to q_twin q_firm q_first q_firmEnds q_reached q_nextLow q_nextHigh q_joints_x q_joints_y q_joints_under q_a1 q_a1_x q_a1_y q_a1_u q_a1_v : Nat) (s_steps : Int32) (s_firm : Nat → Int32) (s_firmEnds : Nat → Int32) (s_first : Nat → Int32) (s_from : Nat → Int32) (s_joints_total : Int32) (s_joints_under : Nat → Int32) (s_joints_x : Nat → Int32) (s_joints_y : Nat → Int32) (s_nextHigh : Nat → Int64) (s_nextLow : Nat → Int64) (s_reached : Nat → Int32) (s_to : Nat → Int32) (s_twin : Nat → Int32) (s_a1_width : Int32) (s_a1_height : Int32) (s_a1_lines : Int32) (s_a1_u : Nat → Int32) (s_a1_v : Nat → Int32) (s_a1_x : Nat → Int32) (s_a1_y : Nat → Int32) {o_steps : Int32} {o_firm : Nat → Int32} {o_firmEnds : Nat → Int32} {o_first : Nat → Int32} {o_from : Nat → Int32} {o_nextHigh : Nat → Int64} {o_nextLow : Nat → Int64} {o_reached : Nat → Int32} {o_to : Nat → Int32} {o_twin : Nat → Int32} (h : sX8_part s_steps s_firm s_firmEnds s_first s_from s_joints_total s_joints_under s_joints_x s_joints_y s_nextHigh s_nextLow s_reached s_to s_twin s_a1_lines s_a1_u s_a1_v s_a1_x s_a1_y = some (o_steps, o_firm, o_firmEnds, o_first, o_from, o_nextHigh, o_nextLow, o_reached, o_to, o_twin)) : MtV l D ky yX8_part wsX8_part rmX8_part [.ref q_, .ref q_a1] [(q_, .inr (8, [.ref q_joints, .int s_steps, .ref q_from, .ref q_to, .ref q_twin, .ref q_firm, .ref q_first, .ref q_firmEnds, .ref q_reached, .ref q_nextLow, .ref q_nextHigh])), (q_firm, .inl (ky 2, 768, .inl s_firm)), (q_firmEnds, .inl (ky 0, 128, .inl s_firmEnds)), (q_first, .inl (ky 0, 129, .inl s_first)), (q_from, .inl (ky 0, 768, .inl s_from)), (q_joints, .inr (4, [.int s_joints_total, .ref q_joints_x, .ref q_joints_y, .ref q_joints_under])), (q_joints_under, .inl (ky 0, 129, .inl s_joints_under)), (q_joints_x, .inl (ky 0, 129, .inl s_joints_x)), (q_joints_y, .inl (ky 0, 129, .inl s_joints_y)), (q_nextHigh, .inl (ky 1, 128, .inr (.inl s_nextHigh))), (q_nextLow, .inl (ky 1, 128, .inr (.inl s_nextLow))), (q_reached, .inl (ky 2, 128, .inl s_reached)), (q_to, .inl (ky 0, 768, .inl s_to)), (q_twin, .inl (ky 0, 768, .inl s_twin)), (q_a1, .inr (1, [.int s_a1_width, .int s_a1_height, .int s_a1_lines, .ref q_a1_x, .ref q_a1_y, .ref q_a1_u, .ref q_a1_v])), (q_a1_u, .inl (ky 0, 18, .inl s_a1_u)), (q_a1_v, .inl (ky 0, 18, .inl s_a1_v)), (q_a1_x, .inl (ky 0, 18, .inl s_a1_x)), (q_a1_y, .inl (ky 0, 18, .inl s_a1_y))] [(q_, .inr (8, [.ref q_joints, .int o_steps, .ref q_from, .ref q_to, .ref q_twin, .ref q_firm, .ref q_first, .ref q_firmEnds, .ref q_reached, .ref q_nextLow, .ref q_nextHigh])), (q_firm, .inl (ky 2, 768, .inl o_firm)), (q_firmEnds, .inl (ky 0, 128, .inl o_firmEnds)), (q_first, .inl (ky 0, 129, .inl o_first)), (q_from, .inl (ky 0, 768, .inl o_from)), (q_joints, .inr (4, [.int s_joints_total, .ref q_joints_x, .ref q_joints_y, .ref q_joints_under])), (q_joints_under, .inl (ky 0, 129, .inl s_joints_under)), (q_joints_x, .inl (ky 0, 129, .inl s_joints_x)), (q_joints_y, .inl (ky 0, 129, .inl s_joints_y)), (q_nextHigh, .inl (ky 1, 128, .inr (.inl o_nextHigh))), (q_nextLow, .inl (ky 1, 128, .inr (.inl o_nextLow))), (q_reached, .inl (ky 2, 128, .inl o_reached)), (q_to, .inl (ky 0, 768, .inl o_to)), (q_twin, .inl (ky 0, 768, .inl o_twin)), (q_a1, .inr (1, [.int s_a1_width, .int s_a1_height, .int s_a1_lines, .ref q_a1_x, .ref q_a1_y, .ref q_a1_u, .ref q_a1_v])), (q_a1_u, .inl (ky 0, 18, .inl s_a1_u)), (q_a1_v, .inl (ky 0, 18, .inl s_a1_v)), (q_a1_x, .inl (ky 0, 18, .inl s_a1_x)), (q_a1_y, .inl (ky 0, 18, .inl s_a1_y))] 0 0 := by
  refine MtV.of (cc := cX8_part) (maxL := 3) (by decide +kernel) rfl (Nat.le_of_ble_eq_true rfl) ?_
  intro p e R s m args below meth c A Q ls hR hx hb hts hown hnm hml hP hK hD hA ret hl
  have rt := rtV (dc := fun pc => decode cX8_part pc = .ok (.return_, 1)) (o_steps, o_firm, o_firmEnds, o_first, o_from, o_nextHigh, o_nextLow, o_reached, o_to, o_twin) (fun t => [(q_, .inr (8, [.ref q_joints, .int t.1, .ref q_from, .ref q_to, .ref q_twin, .ref q_firm, .ref q_first, .ref q_firmEnds, .ref q_reached, .ref q_nextLow, .ref q_nextHigh])), (q_firm, .inl (ky 2, 768, .inl t.2.1)), (q_firmEnds, .inl (ky 0, 128, .inl t.2.2.1)), (q_first, .inl (ky 0, 129, .inl t.2.2.2.1)), (q_from, .inl (ky 0, 768, .inl t.2.2.2.2.1)), (q_joints, .inr (4, [.int s_joints_total, .ref q_joints_x, .ref q_joints_y, .ref q_joints_under])), (q_joints_under, .inl (ky 0, 129, .inl s_joints_under)), (q_joints_x, .inl (ky 0, 129, .inl s_joints_x)), (q_joints_y, .inl (ky 0, 129, .inl s_joints_y)), (q_nextHigh, .inl (ky 1, 128, .inr (.inl t.2.2.2.2.2.1))), (q_nextLow, .inl (ky 1, 128, .inr (.inl t.2.2.2.2.2.2.1))), (q_reached, .inl (ky 2, 128, .inl t.2.2.2.2.2.2.2.1)), (q_to, .inl (ky 0, 768, .inl t.2.2.2.2.2.2.2.2.1)), (q_twin, .inl (ky 0, 768, .inl t.2.2.2.2.2.2.2.2.2)), (q_a1, .inr (1, [.int s_a1_width, .int s_a1_height, .int s_a1_lines, .ref q_a1_x, .ref q_a1_y, .ref q_a1_u, .ref q_a1_v])), (q_a1_u, .inl (ky 0, 18, .inl s_a1_u)), (q_a1_v, .inl (ky 0, 18, .inl s_a1_v)), (q_a1_x, .inl (ky 0, 18, .inl s_a1_x)), (q_a1_y, .inl (ky 0, 18, .inl s_a1_y))]) ret
  subst hR
  obtain ⟨H, hH⟩ : ∃ H, H = s.heap := ⟨_, rfl⟩
  obtain ⟨locs, hlocs⟩ : ∃ locs : List Loc, locs = [] := ⟨_, rfl⟩
  have hS : va_S A s.heap H locs := by rw [hH, hlocs]; exact va_S.rf
  rw [← hH] at hP
  suffices hgo : W p l e rmX8_part s m args below meth c H locs 0 0 Q (F0 m 0 ls []) by rw [hH, hlocs] at hgo; exact hgo
  clear hH hlocs
  replace hl : lv_has ls 3 [(0, .ref q_), (1, .ref q_a1)] := hl
  replace hown : s.vm.findClass RX8 = some m.cls := hown
  have hi_X8 : ∀ w ∈ u_ws RX8 TX8 11, w ∈ wsX8_part := fun _ h9 => List.mem_cons_of_mem _ (List.mem_append_left _ (List.mem_append_left _ (List.mem_append_right _ h9)))
  have hf_9 := hts (.fieldLink RX8 9 "GlazierBench$Pieces" "joints" "LGlazierBench$Joints;") (by decide +kernel)
  have hi_X4 : ∀ w ∈ u_ws RX4 TX4 4, w ∈ wsX8_part := fun _ h9 => List.mem_cons_of_mem _ (List.mem_append_left _ (List.mem_append_right _ h9))
  have hf_45 := hts (.fieldLink RX8 45 "GlazierBench$Joints" "total" "I") (by decide +kernel)
  have hf_38 := hts (.fieldLink RX8 38 "GlazierBench$Pieces" "nextLow" "[J") (by decide +kernel)
  have hf_42 := hts (.fieldLink RX8 42 "GlazierBench$Pieces" "nextHigh" "[J") (by decide +kernel)
  have hi_X1 : ∀ w ∈ u_ws RX1 TX1 7, w ∈ wsX8_part := fun _ h9 => List.mem_cons_of_mem _ (List.mem_append_right _ h9)
  have hf_51 := hts (.fieldLink RX8 51 "GlazierBench$Drawing" "lines" "I") (by decide +kernel)
  unfold sX8_part at h
  refine lv_iconst (v := 0) hx hb dX8_part_0 (by decide) ?_
  refine lv_istore_n (lv' := [(2, .int (0 : Int32)), (0, .ref q_), (1, .ref q_a1)]) hx hb dX8_part_1 rfl hl (by decide) rfl (fun ls hl => ?_)
  obtain ⟨⟨k, t⟩, hi, h⟩ := ob_of h
  refine iter_rule (P := fun (k : Nat) (t : Int32 × (Nat → Int64) × (Nat → Int64)) => ∀ (H : Heap) (locs : List Loc) (ls : Array Slot), va_P D vwCl [(q_, .inr (8, [.ref q_joints, .int s_steps, .ref q_from, .ref q_to, .ref q_twin, .ref q_firm, .ref q_first, .ref q_firmEnds, .ref q_reached, .ref q_nextLow, .ref q_nextHigh])), (q_firm, .inl (ky 2, 768, .inl s_firm)), (q_firmEnds, .inl (ky 0, 128, .inl s_firmEnds)), (q_first, .inl (ky 0, 129, .inl s_first)), (q_from, .inl (ky 0, 768, .inl s_from)), (q_joints, .inr (4, [.int s_joints_total, .ref q_joints_x, .ref q_joints_y, .ref q_joints_under])), (q_joints_under, .inl (ky 0, 129, .inl s_joints_under)), (q_joints_x, .inl (ky 0, 129, .inl s_joints_x)), (q_joints_y, .inl (ky 0, 129, .inl s_joints_y)), (q_nextHigh, .inl (ky 1, 128, .inr (.inl t.2.1))), (q_nextLow, .inl (ky 1, 128, .inr (.inl t.2.2))), (q_reached, .inl (ky 2, 128, .inl s_reached)), (q_to, .inl (ky 0, 768, .inl s_to)), (q_twin, .inl (ky 0, 768, .inl s_twin)), (q_a1, .inr (1, [.int s_a1_width, .int s_a1_height, .int s_a1_lines, .ref q_a1_x, .ref q_a1_y, .ref q_a1_u, .ref q_a1_v])), (q_a1_u, .inl (ky 0, 18, .inl s_a1_u)), (q_a1_v, .inl (ky 0, 18, .inl s_a1_v)), (q_a1_x, .inl (ky 0, 18, .inl s_a1_x)), (q_a1_y, .inl (ky 0, 18, .inl s_a1_y))] H → va_D A [(q_, .inr (8, [.ref q_joints, .int s_steps, .ref q_from, .ref q_to, .ref q_twin, .ref q_firm, .ref q_first, .ref q_firmEnds, .ref q_reached, .ref q_nextLow, .ref q_nextHigh])), (q_firm, .inl (ky 2, 768, .inl s_firm)), (q_firmEnds, .inl (ky 0, 128, .inl s_firmEnds)), (q_first, .inl (ky 0, 129, .inl s_first)), (q_from, .inl (ky 0, 768, .inl s_from)), (q_joints, .inr (4, [.int s_joints_total, .ref q_joints_x, .ref q_joints_y, .ref q_joints_under])), (q_joints_under, .inl (ky 0, 129, .inl s_joints_under)), (q_joints_x, .inl (ky 0, 129, .inl s_joints_x)), (q_joints_y, .inl (ky 0, 129, .inl s_joints_y)), (q_nextHigh, .inl (ky 1, 128, .inr (.inl t.2.1))), (q_nextLow, .inl (ky 1, 128, .inr (.inl t.2.2))), (q_reached, .inl (ky 2, 128, .inl s_reached)), (q_to, .inl (ky 0, 768, .inl s_to)), (q_twin, .inl (ky 0, 768, .inl s_twin)), (q_a1, .inr (1, [.int s_a1_width, .int s_a1_height, .int s_a1_lines, .ref q_a1_x, .ref q_a1_y, .ref q_a1_u, .ref q_a1_v])), (q_a1_u, .inl (ky 0, 18, .inl s_a1_u)), (q_a1_v, .inl (ky 0, 18, .inl s_a1_v)), (q_a1_x, .inl (ky 0, 18, .inl s_a1_x)), (q_a1_y, .inl (ky 0, 18, .inl s_a1_y))] → va_S A s.heap H locs → lv_has ls 3 [(0, .ref q_), (1, .ref q_a1), (2, .int t.1)] → W p l e rmX8_part s m args below meth c H locs 0 0 Q (F0 m ([2, 33].getD k 0) ls [])) ?_ _ _ _ _ hi ?_ H locs ls hP hD hS (lv_sub hl [1, 2, 0] rfl)
  · clear h hi hP hD hS hl
    intro t k t' h K
    obtain ⟨v1, v2, v3⟩ := t
    intro H locs ls hP hD hS hl
    replace h := dm3_of h
    replace hP : va_P D vwCl [(q_, .inr (8, [.ref q_joints, .int s_steps, .ref q_from, .ref q_to, .ref q_twin, .ref q_firm, .ref q_first, .ref q_firmEnds, .ref q_reached, .ref q_nextLow, .ref q_nextHigh])), (q_firm, .inl (ky 2, 768, .inl s_firm)), (q_firmEnds, .inl (ky 0, 128, .inl s_firmEnds)), (q_first, .inl (ky 0, 129, .inl s_first)), (q_from, .inl (ky 0, 768, .inl s_from)), (q_joints, .inr (4, [.int s_joints_total, .ref q_joints_x, .ref q_joints_y, .ref q_joints_under])), (q_joints_under, .inl (ky 0, 129, .inl s_joints_under)), (q_joints_x, .inl (ky 0, 129, .inl s_joints_x)), (q_joints_y, .inl (ky 0, 129, .inl s_joints_y)), (q_nextHigh, .inl (ky 1, 128, .inr (.inl v2))), (q_nextLow, .inl (ky 1, 128, .inr (.inl v3))), (q_reached, .inl (ky 2, 128, .inl s_reached)), (q_to, .inl (ky 0, 768, .inl s_to)), (q_twin, .inl (ky 0, 768, .inl s_twin)), (q_a1, .inr (1, [.int s_a1_width, .int s_a1_height, .int s_a1_lines, .ref q_a1_x, .ref q_a1_y, .ref q_a1_u, .ref q_a1_v])), (q_a1_u, .inl (ky 0, 18, .inl s_a1_u)), (q_a1_v, .inl (ky 0, 18, .inl s_a1_v)), (q_a1_x, .inl (ky 0, 18, .inl s_a1_x)), (q_a1_y, .inl (ky 0, 18, .inl s_a1_y))] H := hP
    replace hD : va_D A [(q_, .inr (8, [.ref q_joints, .int s_steps, .ref q_from, .ref q_to, .ref q_twin, .ref q_firm, .ref q_first, .ref q_firmEnds, .ref q_reached, .ref q_nextLow, .ref q_nextHigh])), (q_firm, .inl (ky 2, 768, .inl s_firm)), (q_firmEnds, .inl (ky 0, 128, .inl s_firmEnds)), (q_first, .inl (ky 0, 129, .inl s_first)), (q_from, .inl (ky 0, 768, .inl s_from)), (q_joints, .inr (4, [.int s_joints_total, .ref q_joints_x, .ref q_joints_y, .ref q_joints_under])), (q_joints_under, .inl (ky 0, 129, .inl s_joints_under)), (q_joints_x, .inl (ky 0, 129, .inl s_joints_x)), (q_joints_y, .inl (ky 0, 129, .inl s_joints_y)), (q_nextHigh, .inl (ky 1, 128, .inr (.inl v2))), (q_nextLow, .inl (ky 1, 128, .inr (.inl v3))), (q_reached, .inl (ky 2, 128, .inl s_reached)), (q_to, .inl (ky 0, 768, .inl s_to)), (q_twin, .inl (ky 0, 768, .inl s_twin)), (q_a1, .inr (1, [.int s_a1_width, .int s_a1_height, .int s_a1_lines, .ref q_a1_x, .ref q_a1_y, .ref q_a1_u, .ref q_a1_v])), (q_a1_u, .inl (ky 0, 18, .inl s_a1_u)), (q_a1_v, .inl (ky 0, 18, .inl s_a1_v)), (q_a1_x, .inl (ky 0, 18, .inl s_a1_x)), (q_a1_y, .inl (ky 0, 18, .inl s_a1_y))] := hD
    replace hl : lv_has ls 3 [(0, .ref q_), (1, .ref q_a1), (2, .int v1)] := hl
    refine lv_iload_n hx hb dX8_part_2 rfl (lv_at hl 2 rfl) ?_
    refine lv_aload_n hx hb dX8_part_3 rfl (lv_at hl 0 rfl) ?_
    refine va_get (D := D) (ci := 8) (v := .ref q_joints) (C := RX8) (T := TX8) (N := 11) hx hb hts hi_X8 hown hK.1 hP 0 rfl rfl 0 (by decide) hf_9 (fun _ h9 => h9) rfl dX8_part_4 ?_
    refine va_get (D := D) (ci := 4) (v := .int s_joints_total) (C := RX4) (T := TX4) (N := 4) hx hb hts hi_X4 hown hK.1 hP 5 rfl rfl 0 (by decide) hf_45 (fun _ h9 => h9) rfl dX8_part_7 ?_
    refine lv_icmp_ge (tgt := 33) hx hb dX8_part_10 (by decide) (fun hc => ?_) (fun hc => ?_)
    · replace h := if_t hc h
      cases h
      exact K _ _ _ hP hD hS (lv_sub hl [0, 1, 2] rfl)
    · replace h := if_f hc h
      refine lv_aload_n hx hb dX8_part_13 rfl (lv_at hl 0 rfl) ?_
      refine va_get (D := D) (ci := 8) (v := .ref q_nextLow) (C := RX8) (T := TX8) (N := 11) hx hb hts hi_X8 hown hK.1 hP 0 rfl rfl 9 (by decide) hf_38 (fun _ h9 => h9) rfl dX8_part_14 ?_
      refine lv_iload_n hx hb dX8_part_17 rfl (lv_at hl 2 rfl) ?_
      refine lv_lconst (v := 0) hx hb dX8_part_18 (by decide) ?_
      obtain ⟨hg, h⟩ := gd_of h
      refine r_last hx hb hK.1 hP hD hS 10 1 rfl rfl hg dX8_part_19 (fun f4 ef4 H locs hP hD hS => ?_)
      replace h := lt_at ef4 h
      replace hP : va_P D vwCl [(q_, .inr (8, [.ref q_joints, .int s_steps, .ref q_from, .ref q_to, .ref q_twin, .ref q_firm, .ref q_first, .ref q_firmEnds, .ref q_reached, .ref q_nextLow, .ref q_nextHigh])), (q_firm, .inl (ky 2, 768, .inl s_firm)), (q_firmEnds, .inl (ky 0, 128, .inl s_firmEnds)), (q_first, .inl (ky 0, 129, .inl s_first)), (q_from, .inl (ky 0, 768, .inl s_from)), (q_joints, .inr (4, [.int s_joints_total, .ref q_joints_x, .ref q_joints_y, .ref q_joints_under])), (q_joints_under, .inl (ky 0, 129, .inl s_joints_under)), (q_joints_x, .inl (ky 0, 129, .inl s_joints_x)), (q_joints_y, .inl (ky 0, 129, .inl s_joints_y)), (q_nextHigh, .inl (ky 1, 128, .inr (.inl v2))), (q_nextLow, .inl (ky 1, 128, .inr (.inl f4))), (q_reached, .inl (ky 2, 128, .inl s_reached)), (q_to, .inl (ky 0, 768, .inl s_to)), (q_twin, .inl (ky 0, 768, .inl s_twin)), (q_a1, .inr (1, [.int s_a1_width, .int s_a1_height, .int s_a1_lines, .ref q_a1_x, .ref q_a1_y, .ref q_a1_u, .ref q_a1_v])), (q_a1_u, .inl (ky 0, 18, .inl s_a1_u)), (q_a1_v, .inl (ky 0, 18, .inl s_a1_v)), (q_a1_x, .inl (ky 0, 18, .inl s_a1_x)), (q_a1_y, .inl (ky 0, 18, .inl s_a1_y))] H := hP
      replace hD : va_D A [(q_, .inr (8, [.ref q_joints, .int s_steps, .ref q_from, .ref q_to, .ref q_twin, .ref q_firm, .ref q_first, .ref q_firmEnds, .ref q_reached, .ref q_nextLow, .ref q_nextHigh])), (q_firm, .inl (ky 2, 768, .inl s_firm)), (q_firmEnds, .inl (ky 0, 128, .inl s_firmEnds)), (q_first, .inl (ky 0, 129, .inl s_first)), (q_from, .inl (ky 0, 768, .inl s_from)), (q_joints, .inr (4, [.int s_joints_total, .ref q_joints_x, .ref q_joints_y, .ref q_joints_under])), (q_joints_under, .inl (ky 0, 129, .inl s_joints_under)), (q_joints_x, .inl (ky 0, 129, .inl s_joints_x)), (q_joints_y, .inl (ky 0, 129, .inl s_joints_y)), (q_nextHigh, .inl (ky 1, 128, .inr (.inl v2))), (q_nextLow, .inl (ky 1, 128, .inr (.inl f4))), (q_reached, .inl (ky 2, 128, .inl s_reached)), (q_to, .inl (ky 0, 768, .inl s_to)), (q_twin, .inl (ky 0, 768, .inl s_twin)), (q_a1, .inr (1, [.int s_a1_width, .int s_a1_height, .int s_a1_lines, .ref q_a1_x, .ref q_a1_y, .ref q_a1_u, .ref q_a1_v])), (q_a1_u, .inl (ky 0, 18, .inl s_a1_u)), (q_a1_v, .inl (ky 0, 18, .inl s_a1_v)), (q_a1_x, .inl (ky 0, 18, .inl s_a1_x)), (q_a1_y, .inl (ky 0, 18, .inl s_a1_y))] := hD
      refine lv_aload_n hx hb dX8_part_20 rfl (lv_at hl 0 rfl) ?_
      refine va_get (D := D) (ci := 8) (v := .ref q_nextHigh) (C := RX8) (T := TX8) (N := 11) hx hb hts hi_X8 hown hK.1 hP 0 rfl rfl 10 (by decide) hf_42 (fun _ h9 => h9) rfl dX8_part_21 ?_
      refine lv_iload_n hx hb dX8_part_24 rfl (lv_at hl 2 rfl) ?_
      refine lv_lconst (v := 0) hx hb dX8_part_25 (by decide) ?_
      obtain ⟨hg, h⟩ := gd_of h
      refine r_last hx hb hK.1 hP hD hS 9 1 rfl rfl hg dX8_part_26 (fun f5 ef5 H locs hP hD hS => ?_)
      replace h := lt_at ef5 h
      replace hP : va_P D vwCl [(q_, .inr (8, [.ref q_joints, .int s_steps, .ref q_from, .ref q_to, .ref q_twin, .ref q_firm, .ref q_first, .ref q_firmEnds, .ref q_reached, .ref q_nextLow, .ref q_nextHigh])), (q_firm, .inl (ky 2, 768, .inl s_firm)), (q_firmEnds, .inl (ky 0, 128, .inl s_firmEnds)), (q_first, .inl (ky 0, 129, .inl s_first)), (q_from, .inl (ky 0, 768, .inl s_from)), (q_joints, .inr (4, [.int s_joints_total, .ref q_joints_x, .ref q_joints_y, .ref q_joints_under])), (q_joints_under, .inl (ky 0, 129, .inl s_joints_under)), (q_joints_x, .inl (ky 0, 129, .inl s_joints_x)), (q_joints_y, .inl (ky 0, 129, .inl s_joints_y)), (q_nextHigh, .inl (ky 1, 128, .inr (.inl f5))), (q_nextLow, .inl (ky 1, 128, .inr (.inl f4))), (q_reached, .inl (ky 2, 128, .inl s_reached)), (q_to, .inl (ky 0, 768, .inl s_to)), (q_twin, .inl (ky 0, 768, .inl s_twin)), (q_a1, .inr (1, [.int s_a1_width, .int s_a1_height, .int s_a1_lines, .ref q_a1_x, .ref q_a1_y, .ref q_a1_u, .ref q_a1_v])), (q_a1_u, .inl (ky 0, 18, .inl s_a1_u)), (q_a1_v, .inl (ky 0, 18, .inl s_a1_v)), (q_a1_x, .inl (ky 0, 18, .inl s_a1_x)), (q_a1_y, .inl (ky 0, 18, .inl s_a1_y))] H := hP
      replace hD : va_D A [(q_, .inr (8, [.ref q_joints, .int s_steps, .ref q_from, .ref q_to, .ref q_twin, .ref q_firm, .ref q_first, .ref q_firmEnds, .ref q_reached, .ref q_nextLow, .ref q_nextHigh])), (q_firm, .inl (ky 2, 768, .inl s_firm)), (q_firmEnds, .inl (ky 0, 128, .inl s_firmEnds)), (q_first, .inl (ky 0, 129, .inl s_first)), (q_from, .inl (ky 0, 768, .inl s_from)), (q_joints, .inr (4, [.int s_joints_total, .ref q_joints_x, .ref q_joints_y, .ref q_joints_under])), (q_joints_under, .inl (ky 0, 129, .inl s_joints_under)), (q_joints_x, .inl (ky 0, 129, .inl s_joints_x)), (q_joints_y, .inl (ky 0, 129, .inl s_joints_y)), (q_nextHigh, .inl (ky 1, 128, .inr (.inl f5))), (q_nextLow, .inl (ky 1, 128, .inr (.inl f4))), (q_reached, .inl (ky 2, 128, .inl s_reached)), (q_to, .inl (ky 0, 768, .inl s_to)), (q_twin, .inl (ky 0, 768, .inl s_twin)), (q_a1, .inr (1, [.int s_a1_width, .int s_a1_height, .int s_a1_lines, .ref q_a1_x, .ref q_a1_y, .ref q_a1_u, .ref q_a1_v])), (q_a1_u, .inl (ky 0, 18, .inl s_a1_u)), (q_a1_v, .inl (ky 0, 18, .inl s_a1_v)), (q_a1_x, .inl (ky 0, 18, .inl s_a1_x)), (q_a1_y, .inl (ky 0, 18, .inl s_a1_y))] := hD
      obtain ⟨x6, ex6⟩ : ∃ z : Int32, z = v1 + 1 := ⟨_, rfl⟩
      replace h := lt_at ex6 h
      refine lv_iinc (v := x6) (lv' := [(2, .int x6), (0, .ref q_), (1, .ref q_a1)]) hx hb dX8_part_27 hl (k := 2) rfl (by rw [ex6]; rfl) (by decide) rfl (fun ls hl => ?_)
      refine lv_goto (tgt := 2) hx hb dX8_part_30 (by decide) ?_
      cases h
      exact K _ _ _ hP hD hS (lv_sub hl [1, 2, 0] rfl)
  · have h1 := ex1_of h
    clear h hi
    rcases h1 with ⟨rfl, h⟩
    obtain ⟨v7, v8, v9⟩ := t
    replace h := dm3_of h
    intro H locs ls hP hD hS hl
    replace hP : va_P D vwCl [(q_, .inr (8, [.ref q_joints, .int s_steps, .ref q_from, .ref q_to, .ref q_twin, .ref q_firm, .ref q_first, .ref q_firmEnds, .ref q_reached, .ref q_nextLow, .ref q_nextHigh])), (q_firm, .inl (ky 2, 768, .inl s_firm)), (q_firmEnds, .inl (ky 0, 128, .inl s_firmEnds)), (q_first, .inl (ky 0, 129, .inl s_first)), (q_from, .inl (ky 0, 768, .inl s_from)), (q_joints, .inr (4, [.int s_joints_total, .ref q_joints_x, .ref q_joints_y, .ref q_joints_under])), (q_joints_under, .inl (ky 0, 129, .inl s_joints_under)), (q_joints_x, .inl (ky 0, 129, .inl s_joints_x)), (q_joints_y, .inl (ky 0, 129, .inl s_joints_y)), (q_nextHigh, .inl (ky 1, 128, .inr (.inl v8))), (q_nextLow, .inl (ky 1, 128, .inr (.inl v9))), (q_reached, .inl (ky 2, 128, .inl s_reached)), (q_to, .inl (ky 0, 768, .inl s_to)), (q_twin, .inl (ky 0, 768, .inl s_twin)), (q_a1, .inr (1, [.int s_a1_width, .int s_a1_height, .int s_a1_lines, .ref q_a1_x, .ref q_a1_y, .ref q_a1_u, .ref q_a1_v])), (q_a1_u, .inl (ky 0, 18, .inl s_a1_u)), (q_a1_v, .inl (ky 0, 18, .inl s_a1_v)), (q_a1_x, .inl (ky 0, 18, .inl s_a1_x)), (q_a1_y, .inl (ky 0, 18, .inl s_a1_y))] H := hP
    replace hD : va_D A [(q_, .inr (8, [.ref q_joints, .int s_steps, .ref q_from, .ref q_to, .ref q_twin, .ref q_firm, .ref q_first, .ref q_firmEnds, .ref q_reached, .ref q_nextLow, .ref q_nextHigh])), (q_firm, .inl (ky 2, 768, .inl s_firm)), (q_firmEnds, .inl (ky 0, 128, .inl s_firmEnds)), (q_first, .inl (ky 0, 129, .inl s_first)), (q_from, .inl (ky 0, 768, .inl s_from)), (q_joints, .inr (4, [.int s_joints_total, .ref q_joints_x, .ref q_joints_y, .ref q_joints_under])), (q_joints_under, .inl (ky 0, 129, .inl s_joints_under)), (q_joints_x, .inl (ky 0, 129, .inl s_joints_x)), (q_joints_y, .inl (ky 0, 129, .inl s_joints_y)), (q_nextHigh, .inl (ky 1, 128, .inr (.inl v8))), (q_nextLow, .inl (ky 1, 128, .inr (.inl v9))), (q_reached, .inl (ky 2, 128, .inl s_reached)), (q_to, .inl (ky 0, 768, .inl s_to)), (q_twin, .inl (ky 0, 768, .inl s_twin)), (q_a1, .inr (1, [.int s_a1_width, .int s_a1_height, .int s_a1_lines, .ref q_a1_x, .ref q_a1_y, .ref q_a1_u, .ref q_a1_v])), (q_a1_u, .inl (ky 0, 18, .inl s_a1_u)), (q_a1_v, .inl (ky 0, 18, .inl s_a1_v)), (q_a1_x, .inl (ky 0, 18, .inl s_a1_x)), (q_a1_y, .inl (ky 0, 18, .inl s_a1_y))] := hD
    replace hl : lv_has ls 3 [(0, .ref q_), (1, .ref q_a1), (2, .int v7)] := hl
    refine W.eq (g2 := F0 m 33 ls []) rfl ?_
    refine lv_iconst (v := 0) hx hb dX8_part_33 (by decide) ?_
    refine lv_istore_n (lv' := [(2, .int (0 : Int32)), (0, .ref q_), (1, .ref q_a1)]) hx hb dX8_part_34 rfl hl (by decide) rfl (fun ls hl => ?_)
    obtain ⟨⟨k, t⟩, hi, h⟩ := ob_of h
    refine iter_rule (P := fun (k : Nat) (t : Int32 × (Nat → Int64) × (Nat → Int64)) => ∀ (H : Heap) (locs : List Loc) (ls : Array Slot), va_P D vwCl [(q_, .inr (8, [.ref q_joints, .int s_steps, .ref q_from, .ref q_to, .ref q_twin, .ref q_firm, .ref q_first, .ref q_firmEnds, .ref q_reached, .ref q_nextLow, .ref q_nextHigh])), (q_firm, .inl (ky 2, 768, .inl s_firm)), (q_firmEnds, .inl (ky 0, 128, .inl s_firmEnds)), (q_first, .inl (ky 0, 129, .inl s_first)), (q_from, .inl (ky 0, 768, .inl s_from)), (q_joints, .inr (4, [.int s_joints_total, .ref q_joints_x, .ref q_joints_y, .ref q_joints_under])), (q_joints_under, .inl (ky 0, 129, .inl s_joints_under)), (q_joints_x, .inl (ky 0, 129, .inl s_joints_x)), (q_joints_y, .inl (ky 0, 129, .inl s_joints_y)), (q_nextHigh, .inl (ky 1, 128, .inr (.inl t.2.1))), (q_nextLow, .inl (ky 1, 128, .inr (.inl t.2.2))), (q_reached, .inl (ky 2, 128, .inl s_reached)), (q_to, .inl (ky 0, 768, .inl s_to)), (q_twin, .inl (ky 0, 768, .inl s_twin)), (q_a1, .inr (1, [.int s_a1_width, .int s_a1_height, .int s_a1_lines, .ref q_a1_x, .ref q_a1_y, .ref q_a1_u, .ref q_a1_v])), (q_a1_u, .inl (ky 0, 18, .inl s_a1_u)), (q_a1_v, .inl (ky 0, 18, .inl s_a1_v)), (q_a1_x, .inl (ky 0, 18, .inl s_a1_x)), (q_a1_y, .inl (ky 0, 18, .inl s_a1_y))] H → va_D A [(q_, .inr (8, [.ref q_joints, .int s_steps, .ref q_from, .ref q_to, .ref q_twin, .ref q_firm, .ref q_first, .ref q_firmEnds, .ref q_reached, .ref q_nextLow, .ref q_nextHigh])), (q_firm, .inl (ky 2, 768, .inl s_firm)), (q_firmEnds, .inl (ky 0, 128, .inl s_firmEnds)), (q_first, .inl (ky 0, 129, .inl s_first)), (q_from, .inl (ky 0, 768, .inl s_from)), (q_joints, .inr (4, [.int s_joints_total, .ref q_joints_x, .ref q_joints_y, .ref q_joints_under])), (q_joints_under, .inl (ky 0, 129, .inl s_joints_under)), (q_joints_x, .inl (ky 0, 129, .inl s_joints_x)), (q_joints_y, .inl (ky 0, 129, .inl s_joints_y)), (q_nextHigh, .inl (ky 1, 128, .inr (.inl t.2.1))), (q_nextLow, .inl (ky 1, 128, .inr (.inl t.2.2))), (q_reached, .inl (ky 2, 128, .inl s_reached)), (q_to, .inl (ky 0, 768, .inl s_to)), (q_twin, .inl (ky 0, 768, .inl s_twin)), (q_a1, .inr (1, [.int s_a1_width, .int s_a1_height, .int s_a1_lines, .ref q_a1_x, .ref q_a1_y, .ref q_a1_u, .ref q_a1_v])), (q_a1_u, .inl (ky 0, 18, .inl s_a1_u)), (q_a1_v, .inl (ky 0, 18, .inl s_a1_v)), (q_a1_x, .inl (ky 0, 18, .inl s_a1_x)), (q_a1_y, .inl (ky 0, 18, .inl s_a1_y))] → va_S A s.heap H locs → lv_has ls 3 [(0, .ref q_), (1, .ref q_a1), (2, .int t.1)] → W p l e rmX8_part s m args below meth c H locs 0 0 Q (F0 m ([35, 55].getD k 0) ls [])) ?_ _ _ _ _ hi ?_ H locs ls hP hD hS (lv_sub hl [1, 2, 0] rfl)
    · clear h hi hP hD hS hl
      intro t k t' h K
      obtain ⟨v10, v11, v12⟩ := t
      intro H locs ls hP hD hS hl
      replace h := dm3_of h
      replace hP : va_P D vwCl [(q_, .inr (8, [.ref q_joints, .int s_steps, .ref q_from, .ref q_to, .ref q_twin, .ref q_firm, .ref q_first, .ref q_firmEnds, .ref q_reached, .ref q_nextLow, .ref q_nextHigh])), (q_firm, .inl (ky 2, 768, .inl s_firm)), (q_firmEnds, .inl (ky 0, 128, .inl s_firmEnds)), (q_first, .inl (ky 0, 129, .inl s_first)), (q_from, .inl (ky 0, 768, .inl s_from)), (q_joints, .inr (4, [.int s_joints_total, .ref q_joints_x, .ref q_joints_y, .ref q_joints_under])), (q_joints_under, .inl (ky 0, 129, .inl s_joints_under)), (q_joints_x, .inl (ky 0, 129, .inl s_joints_x)), (q_joints_y, .inl (ky 0, 129, .inl s_joints_y)), (q_nextHigh, .inl (ky 1, 128, .inr (.inl v11))), (q_nextLow, .inl (ky 1, 128, .inr (.inl v12))), (q_reached, .inl (ky 2, 128, .inl s_reached)), (q_to, .inl (ky 0, 768, .inl s_to)), (q_twin, .inl (ky 0, 768, .inl s_twin)), (q_a1, .inr (1, [.int s_a1_width, .int s_a1_height, .int s_a1_lines, .ref q_a1_x, .ref q_a1_y, .ref q_a1_u, .ref q_a1_v])), (q_a1_u, .inl (ky 0, 18, .inl s_a1_u)), (q_a1_v, .inl (ky 0, 18, .inl s_a1_v)), (q_a1_x, .inl (ky 0, 18, .inl s_a1_x)), (q_a1_y, .inl (ky 0, 18, .inl s_a1_y))] H := hP
      replace hD : va_D A [(q_, .inr (8, [.ref q_joints, .int s_steps, .ref q_from, .ref q_to, .ref q_twin, .ref q_firm, .ref q_first, .ref q_firmEnds, .ref q_reached, .ref q_nextLow, .ref q_nextHigh])), (q_firm, .inl (ky 2, 768, .inl s_firm)), (q_firmEnds, .inl (ky 0, 128, .inl s_firmEnds)), (q_first, .inl (ky 0, 129, .inl s_first)), (q_from, .inl (ky 0, 768, .inl s_from)), (q_joints, .inr (4, [.int s_joints_total, .ref q_joints_x, .ref q_joints_y, .ref q_joints_under])), (q_joints_under, .inl (ky 0, 129, .inl s_joints_under)), (q_joints_x, .inl (ky 0, 129, .inl s_joints_x)), (q_joints_y, .inl (ky 0, 129, .inl s_joints_y)), (q_nextHigh, .inl (ky 1, 128, .inr (.inl v11))), (q_nextLow, .inl (ky 1, 128, .inr (.inl v12))), (q_reached, .inl (ky 2, 128, .inl s_reached)), (q_to, .inl (ky 0, 768, .inl s_to)), (q_twin, .inl (ky 0, 768, .inl s_twin)), (q_a1, .inr (1, [.int s_a1_width, .int s_a1_height, .int s_a1_lines, .ref q_a1_x, .ref q_a1_y, .ref q_a1_u, .ref q_a1_v])), (q_a1_u, .inl (ky 0, 18, .inl s_a1_u)), (q_a1_v, .inl (ky 0, 18, .inl s_a1_v)), (q_a1_x, .inl (ky 0, 18, .inl s_a1_x)), (q_a1_y, .inl (ky 0, 18, .inl s_a1_y))] := hD
      replace hl : lv_has ls 3 [(0, .ref q_), (1, .ref q_a1), (2, .int v10)] := hl
      refine lv_iload_n hx hb dX8_part_35 rfl (lv_at hl 2 rfl) ?_
      refine lv_aload_n hx hb dX8_part_36 rfl (lv_at hl 1 rfl) ?_
      refine va_get (D := D) (ci := 1) (v := .int s_a1_lines) (C := RX1) (T := TX1) (N := 7) hx hb hts hi_X1 hown hK.1 hP 14 rfl rfl 2 (by decide) hf_51 (fun _ h9 => h9) rfl dX8_part_37 ?_
      refine lv_icmp_ge (tgt := 55) hx hb dX8_part_40 (by decide) (fun hc => ?_) (fun hc => ?_)
      · replace h := if_t hc h
        cases h
        exact K _ _ _ hP hD hS (lv_sub hl [0, 1, 2] rfl)
      · replace h := if_f hc h
        refine lv_aload_n hx hb dX8_part_43 rfl (lv_at hl 0 rfl) ?_
        refine lv_aload_n hx hb dX8_part_44 rfl (lv_at hl 1 rfl) ?_
        refine lv_iload_n hx hb dX8_part_45 rfl (lv_at hl 2 rfl) ?_
        obtain ⟨⟨o13, o14⟩, hc, h⟩ := ob_of h
        replace h := dm2_of h
        refine cv_v (As := [.ref q_a1, .int v10]) (rest := []) (wr := [(q_firm, .inl (ky 2, 768, .inl s_firm)), (q_firmEnds, .inl (ky 0, 128, .inl s_firmEnds)), (q_first, .inl (ky 0, 129, .inl s_first)), (q_from, .inl (ky 0, 768, .inl s_from)), (q_reached, .inl (ky 2, 128, .inl s_reached)), (q_to, .inl (ky 0, 768, .inl s_to)), (q_twin, .inl (ky 0, 768, .inl s_twin))]) (wn := [(q_, .inr (8, [.ref q_joints, .int s_steps, .ref q_from, .ref q_to, .ref q_twin, .ref q_firm, .ref q_first, .ref q_firmEnds, .ref q_reached, .ref q_nextLow, .ref q_nextHigh])), (q_firm, .inl (ky 2, 768, .inl s_firm)), (q_firmEnds, .inl (ky 0, 128, .inl s_firmEnds)), (q_first, .inl (ky 0, 129, .inl s_first)), (q_from, .inl (ky 0, 768, .inl s_from)), (q_joints, .inr (4, [.int s_joints_total, .ref q_joints_x, .ref q_joints_y, .ref q_joints_under])), (q_joints_under, .inl (ky 0, 129, .inl s_joints_under)), (q_joints_x, .inl (ky 0, 129, .inl s_joints_x)), (q_joints_y, .inl (ky 0, 129, .inl s_joints_y)), (q_nextHigh, .inl (ky 1, 128, .inr (.inl o13))), (q_nextLow, .inl (ky 1, 128, .inr (.inl o14))), (q_reached, .inl (ky 2, 128, .inl s_reached)), (q_to, .inl (ky 0, 768, .inl s_to)), (q_twin, .inl (ky 0, 768, .inl s_twin)), (q_a1, .inr (1, [.int s_a1_width, .int s_a1_height, .int s_a1_lines, .ref q_a1_x, .ref q_a1_y, .ref q_a1_u, .ref q_a1_v])), (q_a1_u, .inl (ky 0, 18, .inl s_a1_u)), (q_a1_v, .inl (ky 0, 18, .inl s_a1_v)), (q_a1_x, .inl (ky 0, 18, .inl s_a1_x)), (q_a1_y, .inl (ky 0, 18, .inl s_a1_y))]) ⟨hx, hb, hml, hown, hts⟩ (c_X8_joinAlong l D ky q_ q_joints q_from q_to q_twin q_firm q_first q_firmEnds q_reached q_nextLow q_nextHigh q_joints_x q_joints_y q_joints_under q_a1 q_a1_x q_a1_y q_a1_u q_a1_v v10 s_steps s_joints_total s_joints_under s_joints_x s_joints_y v11 v12 s_a1_width s_a1_height s_a1_lines s_a1_u s_a1_v s_a1_x s_a1_y hc) (cwV 2 hts gX8_part_X8_joinAlong rfl rfl rfl (by decide +kernel) ⟨Nat.le_of_ble_eq_true rfl, Nat.le_of_ble_eq_true rfl⟩) (rcv hK.1 hP (q0 := 0) rfl rfl) hP hD hK hS hA [0, 5, 6, 7, 8, 9, 10, 14, 15, 16, 17, 18] [1, 2, 3, 4, 11, 12, 13] [7, 0, 1, 2, 3, 8, 9, 10, 11, 12, 13, 4, 5, 6, 14, 15, 16, 17, 18] rfl (by decide +kernel) rfl (by decide +kernel) (by decide +kernel) (by decide +kernel) rfl rfl rfl hl.1 (Nat.le_of_ble_eq_true rfl) dX8_part_46 ⟨Nat.le_of_ble_eq_true rfl, Nat.le_of_ble_eq_true rfl⟩ (fun H locs hP hD hS => ?_)
        obtain ⟨x15, ex15⟩ : ∃ z : Int32, z = v10 + 1 := ⟨_, rfl⟩
        replace h := lt_at ex15 h
        refine lv_iinc (v := x15) (lv' := [(2, .int x15), (0, .ref q_), (1, .ref q_a1)]) hx hb dX8_part_49 hl (k := 2) rfl (by rw [ex15]; rfl) (by decide) rfl (fun ls hl => ?_)
        refine lv_goto (tgt := 35) hx hb dX8_part_52 (by decide) ?_
        cases h
        exact K _ _ _ hP hD hS (lv_sub hl [1, 2, 0] rfl)
    · have h1 := ex1_of h
      clear h hi
      rcases h1 with ⟨rfl, h⟩
      obtain ⟨v16, v17, v18⟩ := t
      replace h := dm3_of h
      intro H locs ls hP hD hS hl
      replace hP : va_P D vwCl [(q_, .inr (8, [.ref q_joints, .int s_steps, .ref q_from, .ref q_to, .ref q_twin, .ref q_firm, .ref q_first, .ref q_firmEnds, .ref q_reached, .ref q_nextLow, .ref q_nextHigh])), (q_firm, .inl (ky 2, 768, .inl s_firm)), (q_firmEnds, .inl (ky 0, 128, .inl s_firmEnds)), (q_first, .inl (ky 0, 129, .inl s_first)), (q_from, .inl (ky 0, 768, .inl s_from)), (q_joints, .inr (4, [.int s_joints_total, .ref q_joints_x, .ref q_joints_y, .ref q_joints_under])), (q_joints_under, .inl (ky 0, 129, .inl s_joints_under)), (q_joints_x, .inl (ky 0, 129, .inl s_joints_x)), (q_joints_y, .inl (ky 0, 129, .inl s_joints_y)), (q_nextHigh, .inl (ky 1, 128, .inr (.inl v17))), (q_nextLow, .inl (ky 1, 128, .inr (.inl v18))), (q_reached, .inl (ky 2, 128, .inl s_reached)), (q_to, .inl (ky 0, 768, .inl s_to)), (q_twin, .inl (ky 0, 768, .inl s_twin)), (q_a1, .inr (1, [.int s_a1_width, .int s_a1_height, .int s_a1_lines, .ref q_a1_x, .ref q_a1_y, .ref q_a1_u, .ref q_a1_v])), (q_a1_u, .inl (ky 0, 18, .inl s_a1_u)), (q_a1_v, .inl (ky 0, 18, .inl s_a1_v)), (q_a1_x, .inl (ky 0, 18, .inl s_a1_x)), (q_a1_y, .inl (ky 0, 18, .inl s_a1_y))] H := hP
      replace hD : va_D A [(q_, .inr (8, [.ref q_joints, .int s_steps, .ref q_from, .ref q_to, .ref q_twin, .ref q_firm, .ref q_first, .ref q_firmEnds, .ref q_reached, .ref q_nextLow, .ref q_nextHigh])), (q_firm, .inl (ky 2, 768, .inl s_firm)), (q_firmEnds, .inl (ky 0, 128, .inl s_firmEnds)), (q_first, .inl (ky 0, 129, .inl s_first)), (q_from, .inl (ky 0, 768, .inl s_from)), (q_joints, .inr (4, [.int s_joints_total, .ref q_joints_x, .ref q_joints_y, .ref q_joints_under])), (q_joints_under, .inl (ky 0, 129, .inl s_joints_under)), (q_joints_x, .inl (ky 0, 129, .inl s_joints_x)), (q_joints_y, .inl (ky 0, 129, .inl s_joints_y)), (q_nextHigh, .inl (ky 1, 128, .inr (.inl v17))), (q_nextLow, .inl (ky 1, 128, .inr (.inl v18))), (q_reached, .inl (ky 2, 128, .inl s_reached)), (q_to, .inl (ky 0, 768, .inl s_to)), (q_twin, .inl (ky 0, 768, .inl s_twin)), (q_a1, .inr (1, [.int s_a1_width, .int s_a1_height, .int s_a1_lines, .ref q_a1_x, .ref q_a1_y, .ref q_a1_u, .ref q_a1_v])), (q_a1_u, .inl (ky 0, 18, .inl s_a1_u)), (q_a1_v, .inl (ky 0, 18, .inl s_a1_v)), (q_a1_x, .inl (ky 0, 18, .inl s_a1_x)), (q_a1_y, .inl (ky 0, 18, .inl s_a1_y))] := hD
      replace hl : lv_has ls 3 [(0, .ref q_), (1, .ref q_a1), (2, .int v16)] := hl
      refine W.eq (g2 := F0 m 55 ls []) rfl ?_
      refine lv_aload_n hx hb dX8_part_55 rfl (lv_at hl 0 rfl) ?_
      obtain ⟨⟨o19, o20, o21, o22⟩, hc, h⟩ := ob_of h
      replace h := dm4_of h
      refine cv_v (As := []) (rest := []) (wr := [(q_firm, .inl (ky 2, 768, .inl s_firm)), (q_firmEnds, .inl (ky 0, 128, .inl s_firmEnds)), (q_joints_under, .inl (ky 0, 129, .inl s_joints_under)), (q_joints_x, .inl (ky 0, 129, .inl s_joints_x)), (q_joints_y, .inl (ky 0, 129, .inl s_joints_y)), (q_reached, .inl (ky 2, 128, .inl s_reached)), (q_twin, .inl (ky 0, 768, .inl s_twin)), (q_a1, .inr (1, [.int s_a1_width, .int s_a1_height, .int s_a1_lines, .ref q_a1_x, .ref q_a1_y, .ref q_a1_u, .ref q_a1_v])), (q_a1_u, .inl (ky 0, 18, .inl s_a1_u)), (q_a1_v, .inl (ky 0, 18, .inl s_a1_v)), (q_a1_x, .inl (ky 0, 18, .inl s_a1_x)), (q_a1_y, .inl (ky 0, 18, .inl s_a1_y))]) (wn := [(q_, .inr (8, [.ref q_joints, .int o19, .ref q_from, .ref q_to, .ref q_twin, .ref q_firm, .ref q_first, .ref q_firmEnds, .ref q_reached, .ref q_nextLow, .ref q_nextHigh])), (q_firm, .inl (ky 2, 768, .inl s_firm)), (q_firmEnds, .inl (ky 0, 128, .inl s_firmEnds)), (q_first, .inl (ky 0, 129, .inl o20)), (q_from, .inl (ky 0, 768, .inl o21)), (q_joints, .inr (4, [.int s_joints_total, .ref q_joints_x, .ref q_joints_y, .ref q_joints_under])), (q_joints_under, .inl (ky 0, 129, .inl s_joints_under)), (q_joints_x, .inl (ky 0, 129, .inl s_joints_x)), (q_joints_y, .inl (ky 0, 129, .inl s_joints_y)), (q_nextHigh, .inl (ky 1, 128, .inr (.inl v17))), (q_nextLow, .inl (ky 1, 128, .inr (.inl v18))), (q_reached, .inl (ky 2, 128, .inl s_reached)), (q_to, .inl (ky 0, 768, .inl o22)), (q_twin, .inl (ky 0, 768, .inl s_twin)), (q_a1, .inr (1, [.int s_a1_width, .int s_a1_height, .int s_a1_lines, .ref q_a1_x, .ref q_a1_y, .ref q_a1_u, .ref q_a1_v])), (q_a1_u, .inl (ky 0, 18, .inl s_a1_u)), (q_a1_v, .inl (ky 0, 18, .inl s_a1_v)), (q_a1_x, .inl (ky 0, 18, .inl s_a1_x)), (q_a1_y, .inl (ky 0, 18, .inl s_a1_y))]) ⟨hx, hb, hml, hown, hts⟩ (c_X8_listSteps l D ky q_ q_joints q_from q_to q_twin q_firm q_first q_firmEnds q_reached q_nextLow q_nextHigh q_joints_x q_joints_y q_joints_under s_steps s_first s_from s_joints_total v17 v18 s_to hc) (cwV 0 hts gX8_part_X8_listSteps rfl rfl rfl (by decide +kernel) ⟨Nat.le_of_ble_eq_true rfl, Nat.le_of_ble_eq_true rfl⟩) (rcv hK.1 hP (q0 := 0) rfl rfl) hP hD hK hS hA [0, 3, 4, 5, 9, 10, 12] [1, 2, 6, 7, 8, 11, 13, 14, 15, 16, 17, 18] [12, 0, 1, 13, 14, 15, 2, 3, 4, 16, 17, 5, 18, 6, 7, 8, 9, 10, 11] rfl (by decide +kernel) rfl (by decide +kernel) (by decide +kernel) (by decide +kernel) rfl rfl rfl hl.1 (Nat.le_of_ble_eq_true rfl) dX8_part_56 ⟨Nat.le_of_ble_eq_true rfl, Nat.le_of_ble_eq_true rfl⟩ (fun H locs hP hD hS => ?_)
      refine lv_aload_n hx hb dX8_part_59 rfl (lv_at hl 0 rfl) ?_
      obtain ⟨o23, hc, h⟩ := ob_of h
      replace h := dm1_of h
      refine cv_v (As := []) (rest := []) (wr := [(q_firm, .inl (ky 2, 768, .inl s_firm)), (q_firmEnds, .inl (ky 0, 128, .inl s_firmEnds)), (q_joints, .inr (4, [.int s_joints_total, .ref q_joints_x, .ref q_joints_y, .ref q_joints_under])), (q_joints_under, .inl (ky 0, 129, .inl s_joints_under)), (q_joints_x, .inl (ky 0, 129, .inl s_joints_x)), (q_joints_y, .inl (ky 0, 129, .inl s_joints_y)), (q_nextHigh, .inl (ky 1, 128, .inr (.inl v17))), (q_nextLow, .inl (ky 1, 128, .inr (.inl v18))), (q_reached, .inl (ky 2, 128, .inl s_reached)), (q_a1, .inr (1, [.int s_a1_width, .int s_a1_height, .int s_a1_lines, .ref q_a1_x, .ref q_a1_y, .ref q_a1_u, .ref q_a1_v])), (q_a1_u, .inl (ky 0, 18, .inl s_a1_u)), (q_a1_v, .inl (ky 0, 18, .inl s_a1_v)), (q_a1_x, .inl (ky 0, 18, .inl s_a1_x)), (q_a1_y, .inl (ky 0, 18, .inl s_a1_y))]) (wn := [(q_, .inr (8, [.ref q_joints, .int o19, .ref q_from, .ref q_to, .ref q_twin, .ref q_firm, .ref q_first, .ref q_firmEnds, .ref q_reached, .ref q_nextLow, .ref q_nextHigh])), (q_firm, .inl (ky 2, 768, .inl s_firm)), (q_firmEnds, .inl (ky 0, 128, .inl s_firmEnds)), (q_first, .inl (ky 0, 129, .inl o20)), (q_from, .inl (ky 0, 768, .inl o21)), (q_joints, .inr (4, [.int s_joints_total, .ref q_joints_x, .ref q_joints_y, .ref q_joints_under])), (q_joints_under, .inl (ky 0, 129, .inl s_joints_under)), (q_joints_x, .inl (ky 0, 129, .inl s_joints_x)), (q_joints_y, .inl (ky 0, 129, .inl s_joints_y)), (q_nextHigh, .inl (ky 1, 128, .inr (.inl v17))), (q_nextLow, .inl (ky 1, 128, .inr (.inl v18))), (q_reached, .inl (ky 2, 128, .inl s_reached)), (q_to, .inl (ky 0, 768, .inl o22)), (q_twin, .inl (ky 0, 768, .inl o23)), (q_a1, .inr (1, [.int s_a1_width, .int s_a1_height, .int s_a1_lines, .ref q_a1_x, .ref q_a1_y, .ref q_a1_u, .ref q_a1_v])), (q_a1_u, .inl (ky 0, 18, .inl s_a1_u)), (q_a1_v, .inl (ky 0, 18, .inl s_a1_v)), (q_a1_x, .inl (ky 0, 18, .inl s_a1_x)), (q_a1_y, .inl (ky 0, 18, .inl s_a1_y))]) ⟨hx, hb, hml, hown, hts⟩ (c_X8_pairSteps l D ky q_ q_joints q_from q_to q_twin q_firm q_first q_firmEnds q_reached q_nextLow q_nextHigh o19 o20 o21 o22 s_twin hc) (cwV 0 hts gX8_part_X8_pairSteps rfl rfl rfl (by decide +kernel) ⟨Nat.le_of_ble_eq_true rfl, Nat.le_of_ble_eq_true rfl⟩) (rcv hK.1 hP (q0 := 0) rfl rfl) hP hD hK hS hA [0, 3, 4, 12, 13] [1, 2, 5, 6, 7, 8, 9, 10, 11, 14, 15, 16, 17, 18] [14, 0, 1, 15, 16, 2, 3, 4, 5, 6, 7, 8, 17, 18, 9, 10, 11, 12, 13] rfl (by decide +kernel) rfl (by decide +kernel) (by decide +kernel) (by decide +kernel) rfl rfl rfl hl.1 (Nat.le_of_ble_eq_true rfl) dX8_part_60 ⟨Nat.le_of_ble_eq_true rfl, Nat.le_of_ble_eq_true rfl⟩ (fun H locs hP hD hS => ?_)
      refine lv_aload_n hx hb dX8_part_63 rfl (lv_at hl 0 rfl) ?_
      obtain ⟨o24, hc, h⟩ := ob_of h
      replace h := dm1_of h
      refine cv_v (As := []) (rest := []) (wr := [(q_firm, .inl (ky 2, 768, .inl s_firm)), (q_firmEnds, .inl (ky 0, 128, .inl s_firmEnds)), (q_first, .inl (ky 0, 129, .inl o20)), (q_joints_under, .inl (ky 0, 129, .inl s_joints_under)), (q_joints_x, .inl (ky 0, 129, .inl s_joints_x)), (q_joints_y, .inl (ky 0, 129, .inl s_joints_y)), (q_nextHigh, .inl (ky 1, 128, .inr (.inl v17))), (q_nextLow, .inl (ky 1, 128, .inr (.inl v18))), (q_twin, .inl (ky 0, 768, .inl o23)), (q_a1, .inr (1, [.int s_a1_width, .int s_a1_height, .int s_a1_lines, .ref q_a1_x, .ref q_a1_y, .ref q_a1_u, .ref q_a1_v])), (q_a1_u, .inl (ky 0, 18, .inl s_a1_u)), (q_a1_v, .inl (ky 0, 18, .inl s_a1_v)), (q_a1_x, .inl (ky 0, 18, .inl s_a1_x)), (q_a1_y, .inl (ky 0, 18, .inl s_a1_y))]) (wn := [(q_, .inr (8, [.ref q_joints, .int o19, .ref q_from, .ref q_to, .ref q_twin, .ref q_firm, .ref q_first, .ref q_firmEnds, .ref q_reached, .ref q_nextLow, .ref q_nextHigh])), (q_firm, .inl (ky 2, 768, .inl s_firm)), (q_firmEnds, .inl (ky 0, 128, .inl s_firmEnds)), (q_first, .inl (ky 0, 129, .inl o20)), (q_from, .inl (ky 0, 768, .inl o21)), (q_joints, .inr (4, [.int s_joints_total, .ref q_joints_x, .ref q_joints_y, .ref q_joints_under])), (q_joints_under, .inl (ky 0, 129, .inl s_joints_under)), (q_joints_x, .inl (ky 0, 129, .inl s_joints_x)), (q_joints_y, .inl (ky 0, 129, .inl s_joints_y)), (q_nextHigh, .inl (ky 1, 128, .inr (.inl v17))), (q_nextLow, .inl (ky 1, 128, .inr (.inl v18))), (q_reached, .inl (ky 2, 128, .inl o24)), (q_to, .inl (ky 0, 768, .inl o22)), (q_twin, .inl (ky 0, 768, .inl o23)), (q_a1, .inr (1, [.int s_a1_width, .int s_a1_height, .int s_a1_lines, .ref q_a1_x, .ref q_a1_y, .ref q_a1_u, .ref q_a1_v])), (q_a1_u, .inl (ky 0, 18, .inl s_a1_u)), (q_a1_v, .inl (ky 0, 18, .inl s_a1_v)), (q_a1_x, .inl (ky 0, 18, .inl s_a1_x)), (q_a1_y, .inl (ky 0, 18, .inl s_a1_y))]) ⟨hx, hb, hml, hown, hts⟩ (c_X8_reachFromSides l D ky q_ q_joints q_from q_to q_twin q_firm q_first q_firmEnds q_reached q_nextLow q_nextHigh q_joints_x q_joints_y q_joints_under o19 o21 s_joints_total s_reached o22 hc) (cwV 0 hts gX8_part_X8_reachFromSides rfl rfl rfl (by decide +kernel) ⟨Nat.le_of_ble_eq_true rfl, Nat.le_of_ble_eq_true rfl⟩) (rcv hK.1 hP (q0 := 0) rfl rfl) hP hD hK hS hA [0, 4, 5, 11, 12] [1, 2, 3, 6, 7, 8, 9, 10, 13, 14, 15, 16, 17, 18] [14, 0, 1, 2, 15, 16, 3, 4, 5, 6, 7, 17, 18, 8, 9, 10, 11, 12, 13] rfl (by decide +kernel) rfl (by decide +kernel) (by decide +kernel) (by decide +kernel) rfl rfl rfl hl.1 (Nat.le_of_ble_eq_true rfl) dX8_part_64 ⟨Nat.le_of_ble_eq_true rfl, Nat.le_of_ble_eq_true rfl⟩ (fun H locs hP hD hS => ?_)
      refine lv_aload_n hx hb dX8_part_67 rfl (lv_at hl 0 rfl) ?_
      obtain ⟨⟨o25, o26⟩, hc, h⟩ := ob_of h
      replace h := dm2_of h
      refine cv_v (As := []) (rest := []) (wr := [(q_joints_under, .inl (ky 0, 129, .inl s_joints_under)), (q_joints_x, .inl (ky 0, 129, .inl s_joints_x)), (q_joints_y, .inl (ky 0, 129, .inl s_joints_y)), (q_nextHigh, .inl (ky 1, 128, .inr (.inl v17))), (q_nextLow, .inl (ky 1, 128, .inr (.inl v18))), (q_to, .inl (ky 0, 768, .inl o22)), (q_twin, .inl (ky 0, 768, .inl o23)), (q_a1, .inr (1, [.int s_a1_width, .int s_a1_height, .int s_a1_lines, .ref q_a1_x, .ref q_a1_y, .ref q_a1_u, .ref q_a1_v])), (q_a1_u, .inl (ky 0, 18, .inl s_a1_u)), (q_a1_v, .inl (ky 0, 18, .inl s_a1_v)), (q_a1_x, .inl (ky 0, 18, .inl s_a1_x)), (q_a1_y, .inl (ky 0, 18, .inl s_a1_y))]) (wn := [(q_, .inr (8, [.ref q_joints, .int o19, .ref q_from, .ref q_to, .ref q_twin, .ref q_firm, .ref q_first, .ref q_firmEnds, .ref q_reached, .ref q_nextLow, .ref q_nextHigh])), (q_firm, .inl (ky 2, 768, .inl o25)), (q_firmEnds, .inl (ky 0, 128, .inl o26)), (q_first, .inl (ky 0, 129, .inl o20)), (q_from, .inl (ky 0, 768, .inl o21)), (q_joints, .inr (4, [.int s_joints_total, .ref q_joints_x, .ref q_joints_y, .ref q_joints_under])), (q_joints_under, .inl (ky 0, 129, .inl s_joints_under)), (q_joints_x, .inl (ky 0, 129, .inl s_joints_x)), (q_joints_y, .inl (ky 0, 129, .inl s_joints_y)), (q_nextHigh, .inl (ky 1, 128, .inr (.inl v17))), (q_nextLow, .inl (ky 1, 128, .inr (.inl v18))), (q_reached, .inl (ky 2, 128, .inl o24)), (q_to, .inl (ky 0, 768, .inl o22)), (q_twin, .inl (ky 0, 768, .inl o23)), (q_a1, .inr (1, [.int s_a1_width, .int s_a1_height, .int s_a1_lines, .ref q_a1_x, .ref q_a1_y, .ref q_a1_u, .ref q_a1_v])), (q_a1_u, .inl (ky 0, 18, .inl s_a1_u)), (q_a1_v, .inl (ky 0, 18, .inl s_a1_v)), (q_a1_x, .inl (ky 0, 18, .inl s_a1_x)), (q_a1_y, .inl (ky 0, 18, .inl s_a1_y))]) ⟨hx, hb, hml, hown, hts⟩ (c_X8_firmWhatIsReached l D ky q_ q_joints q_from q_to q_twin q_firm q_first q_firmEnds q_reached q_nextLow q_nextHigh q_joints_x q_joints_y q_joints_under o19 s_firm s_firmEnds o20 o21 s_joints_total o24 hc) (cwV 0 hts gX8_part_X8_firmWhatIsReached rfl rfl rfl (by decide +kernel) ⟨Nat.le_of_ble_eq_true rfl, Nat.le_of_ble_eq_true rfl⟩) (rcv hK.1 hP (q0 := 0) rfl rfl) hP hD hK hS hA [0, 1, 2, 3, 4, 5, 11] [6, 7, 8, 9, 10, 12, 13, 14, 15, 16, 17, 18] [12, 13, 14, 15, 16, 17, 0, 1, 2, 3, 4, 18, 5, 6, 7, 8, 9, 10, 11] rfl (by decide +kernel) rfl (by decide +kernel) (by decide +kernel) (by decide +kernel) rfl rfl rfl hl.1 (Nat.le_of_ble_eq_true rfl) dX8_part_68 ⟨Nat.le_of_ble_eq_true rfl, Nat.le_of_ble_eq_true rfl⟩ (fun H locs hP hD hS => ?_)
      refine lv_aload_n hx hb dX8_part_71 rfl (lv_at hl 0 rfl) ?_
      obtain ⟨⟨o27, o28⟩, hc, h⟩ := ob_of h
      replace h := dm2_of h
      refine cv_v (As := []) (rest := []) (wr := [(q_first, .inl (ky 0, 129, .inl o20)), (q_joints, .inr (4, [.int s_joints_total, .ref q_joints_x, .ref q_joints_y, .ref q_joints_under])), (q_joints_under, .inl (ky 0, 129, .inl s_joints_under)), (q_joints_x, .inl (ky 0, 129, .inl s_joints_x)), (q_joints_y, .inl (ky 0, 129, .inl s_joints_y)), (q_nextHigh, .inl (ky 1, 128, .inr (.inl v17))), (q_nextLow, .inl (ky 1, 128, .inr (.inl v18))), (q_reached, .inl (ky 2, 128, .inl o24)), (q_a1, .inr (1, [.int s_a1_width, .int s_a1_height, .int s_a1_lines, .ref q_a1_x, .ref q_a1_y, .ref q_a1_u, .ref q_a1_v])), (q_a1_u, .inl (ky 0, 18, .inl s_a1_u)), (q_a1_v, .inl (ky 0, 18, .inl s_a1_v)), (q_a1_x, .inl (ky 0, 18, .inl s_a1_x)), (q_a1_y, .inl (ky 0, 18, .inl s_a1_y))]) (wn := [(q_, .inr (8, [.ref q_joints, .int o19, .ref q_from, .ref q_to, .ref q_twin, .ref q_firm, .ref q_first, .ref q_firmEnds, .ref q_reached, .ref q_nextLow, .ref q_nextHigh])), (q_firm, .inl (ky 2, 768, .inl o27)), (q_firmEnds, .inl (ky 0, 128, .inl o28)), (q_first, .inl (ky 0, 129, .inl o20)), (q_from, .inl (ky 0, 768, .inl o21)), (q_joints, .inr (4, [.int s_joints_total, .ref q_joints_x, .ref q_joints_y, .ref q_joints_under])), (q_joints_under, .inl (ky 0, 129, .inl s_joints_under)), (q_joints_x, .inl (ky 0, 129, .inl s_joints_x)), (q_joints_y, .inl (ky 0, 129, .inl s_joints_y)), (q_nextHigh, .inl (ky 1, 128, .inr (.inl v17))), (q_nextLow, .inl (ky 1, 128, .inr (.inl v18))), (q_reached, .inl (ky 2, 128, .inl o24)), (q_to, .inl (ky 0, 768, .inl o22)), (q_twin, .inl (ky 0, 768, .inl o23)), (q_a1, .inr (1, [.int s_a1_width, .int s_a1_height, .int s_a1_lines, .ref q_a1_x, .ref q_a1_y, .ref q_a1_u, .ref q_a1_v])), (q_a1_u, .inl (ky 0, 18, .inl s_a1_u)), (q_a1_v, .inl (ky 0, 18, .inl s_a1_v)), (q_a1_x, .inl (ky 0, 18, .inl s_a1_x)), (q_a1_y, .inl (ky 0, 18, .inl s_a1_y))]) ⟨hx, hb, hml, hown, hts⟩ (c_X8_loosenDeadEnds l D ky q_ q_joints q_from q_to q_twin q_firm q_first q_firmEnds q_reached q_nextLow q_nextHigh o19 o25 o26 o21 o22 o23 hc) (cwV 0 hts gX8_part_X8_loosenDeadEnds rfl rfl rfl (by decide +kernel) ⟨Nat.le_of_ble_eq_true rfl, Nat.le_of_ble_eq_true rfl⟩) (rcv hK.1 hP (q0 := 0) rfl rfl) hP hD hK hS hA [0, 1, 2, 4, 12, 13] [3, 5, 6, 7, 8, 9, 10, 11, 14, 15, 16, 17, 18] [13, 14, 15, 0, 16, 1, 2, 3, 4, 5, 6, 7, 17, 18, 8, 9, 10, 11, 12] rfl (by decide +kernel) rfl (by decide +kernel) (by decide +kernel) (by decide +kernel) rfl rfl rfl hl.1 (Nat.le_of_ble_eq_true rfl) dX8_part_72 ⟨Nat.le_of_ble_eq_true rfl, Nat.le_of_ble_eq_true rfl⟩ (fun H locs hP hD hS => ?_)
      exact rt _ h _ _ _ _ dX8_part_75 hP hD hS

def sX8_firmEndsAt (a1 : Int32) (s_firmEnds : Nat → Int32) : Option (Int32) := gd (¬ (a1 < 0 ∨ 128 ≤ a1.toNatClampNeg)) (some (s_firmEnds a1.toNatClampNeg))
abbrev rmX8_firmEndsAt : Room := { frames := 0, cells := 0, slots := 0, locals := 0 }
set_option maxHeartbeats 4000000 in
set_option maxRecDepth 100000 in
theorem c_X8_firmEndsAt (l : Launch) (D : va_G) (ky : Nat → ClassId) (q_ q_joints q_from q_to q_twin q_firm q_first q_firmEnds q_reached q_nextLow q_nextHigh : Nat) (a1 : Int32) (s_steps : Int32) (s_firmEnds : Nat → Int32) {o_r : Int32} (h : sX8_firmEndsAt a1 s_firmEnds = some o_r) : MtI l D ky yX8_firmEndsAt wsX8_firmEndsAt rmX8_firmEndsAt [.ref q_, .int a1] [(q_, .inr (8, [.ref q_joints, .int s_steps, .ref q_from, .ref q_to, .ref q_twin, .ref q_firm, .ref q_first, .ref q_firmEnds, .ref q_reached, .ref q_nextLow, .ref q_nextHigh])), (q_firmEnds, .inl (ky 0, 128, .inl s_firmEnds))] [(q_, .inr (8, [.ref q_joints, .int s_steps, .ref q_from, .ref q_to, .ref q_twin, .ref q_firm, .ref q_first, .ref q_firmEnds, .ref q_reached, .ref q_nextLow, .ref q_nextHigh])), (q_firmEnds, .inl (ky 0, 128, .inl s_firmEnds))] o_r 0 0 := by
  refine MtI.of (cc := cX8_firmEndsAt) (maxL := 2) (by decide +kernel) rfl (Nat.le_of_ble_eq_true rfl) ?_
  intro p e R s m args below meth c A Q ls hR hx hb hts hown hnm hml hP hK hD hA ret hl
  subst hR
  obtain ⟨H, hH⟩ : ∃ H, H = s.heap := ⟨_, rfl⟩
  obtain ⟨locs, hlocs⟩ : ∃ locs : List Loc, locs = [] := ⟨_, rfl⟩
  have hS : va_S A s.heap H locs := by rw [hH, hlocs]; exact va_S.rf
  rw [← hH] at hP
  suffices hgo : W p l e rmX8_firmEndsAt s m args below meth c H locs 0 0 Q (F0 m 0 ls []) by rw [hH, hlocs] at hgo; exact hgo
  clear hH hlocs
  replace hl : lv_has ls 2 [(0, .ref q_), (1, .int a1)] := hl
  replace hown : s.vm.findClass RX8 = some m.cls := hown
  have hi_X8 : ∀ w ∈ u_ws RX8 TX8 11, w ∈ wsX8_firmEndsAt := fun _ h9 => List.mem_cons_of_mem _ (List.mem_append_right _ h9)
  have hf_32 := hts (.fieldLink RX8 32 "GlazierBench$Pieces" "firmEnds" "[I") (by decide +kernel)
  unfold sX8_firmEndsAt at h
  refine lv_aload_n hx hb dX8_firmEndsAt_0 rfl (lv_at hl 0 rfl) ?_
  refine va_get (D := D) (ci := 8) (v := .ref q_firmEnds) (C := RX8) (T := TX8) (N := 11) hx hb hts hi_X8 hown hK.1 hP 0 rfl rfl 7 (by decide) hf_32 (fun _ h9 => h9) rfl dX8_firmEndsAt_1 ?_
  refine lv_iload_n hx hb dX8_firmEndsAt_4 rfl (lv_at hl 1 rfl) ?_
  obtain ⟨hg, h⟩ := gd_of h
  refine va_iald hx hb hK.1 hP 1 0 rfl rfl hg dX8_firmEndsAt_5 ?_
  cases h
  exact ret _ _ _ _ dX8_firmEndsAt_6 hP hD hS

def bX8_looseSteps_4 (s_steps : Int32) (s_firm : Nat → Int32) (t : Int32 × Int32) : Option (Nat × (Int32 × Int32)) := dm2 t (fun (v1 : Int32) (v2 : Int32) => if s_steps ≤ v2 then some (1, (v1, v2)) else gd (¬ (v2 < 0 ∨ 768 ≤ v2.toNatClampNeg)) (ob (if ¬ (s_firm v2.toNatClampNeg) = 0 then some v1 else lt (v1 + 1) (fun x5 => some x5)) (fun t => dm1 t (fun (v3 : Int32) => lt (v2 + 1) (fun x4 => some (0, (v3, x4)))))))
def sX8_looseSteps  (s_steps : Int32) (s_firm : Nat → Int32) : Option (Int32) := ob (iter (bX8_looseSteps_4 s_steps s_firm) FU ((0 : Int32), (0 : Int32))) (fun kt => ex1 kt (fun t => dm2 t (fun (v6 : Int32) (v7 : Int32) => some v6)))
abbrev rmX8_looseSteps : Room := { frames := 0, cells := 0, slots := 0, locals := 0 }
set_option maxHeartbeats 4000000 in
set_option maxRecDepth 100000 in
theorem c_X8_looseSteps (l : Launch) (D : va_G) (ky : Nat → ClassId) (q_ q_joints q_from q_to q_twin q_firm q_first q_firmEnds q_reached q_nextLow q_nextHigh : Nat) (s_steps : Int32) (s_firm : Nat → Int32) {o_r : Int32} (h : sX8_looseSteps s_steps s_firm = some o_r) : MtI l D ky yX8_looseSteps wsX8_looseSteps rmX8_looseSteps [.ref q_] [(q_, .inr (8, [.ref q_joints, .int s_steps, .ref q_from, .ref q_to, .ref q_twin, .ref q_firm, .ref q_first, .ref q_firmEnds, .ref q_reached, .ref q_nextLow, .ref q_nextHigh])), (q_firm, .inl (ky 2, 768, .inl s_firm))] [(q_, .inr (8, [.ref q_joints, .int s_steps, .ref q_from, .ref q_to, .ref q_twin, .ref q_firm, .ref q_first, .ref q_firmEnds, .ref q_reached, .ref q_nextLow, .ref q_nextHigh])), (q_firm, .inl (ky 2, 768, .inl s_firm))] o_r 0 0 := by
  refine MtI.of (cc := cX8_looseSteps) (maxL := 3) (by decide +kernel) rfl (Nat.le_of_ble_eq_true rfl) ?_
  intro p e R s m args below meth c A Q ls hR hx hb hts hown hnm hml hP hK hD hA ret hl
  subst hR
  obtain ⟨H, hH⟩ : ∃ H, H = s.heap := ⟨_, rfl⟩
  obtain ⟨locs, hlocs⟩ : ∃ locs : List Loc, locs = [] := ⟨_, rfl⟩
  have hS : va_S A s.heap H locs := by rw [hH, hlocs]; exact va_S.rf
  rw [← hH] at hP
  suffices hgo : W p l e rmX8_looseSteps s m args below meth c H locs 0 0 Q (F0 m 0 ls []) by rw [hH, hlocs] at hgo; exact hgo
  clear hH hlocs
  replace hl : lv_has ls 3 [(0, .ref q_)] := hl
  replace hown : s.vm.findClass RX8 = some m.cls := hown
  have hi_X8 : ∀ w ∈ u_ws RX8 TX8 11, w ∈ wsX8_looseSteps := fun _ h9 => List.mem_cons_of_mem _ (List.mem_append_right _ h9)
  have hf_83 := hts (.fieldLink RX8 83 "GlazierBench$Pieces" "steps" "I") (by decide +kernel)
  have hf_25 := hts (.fieldLink RX8 25 "GlazierBench$Pieces" "firm" "[Z") (by decide +kernel)
  unfold sX8_looseSteps at h
  refine lv_iconst (v := 0) hx hb dX8_looseSteps_0 (by decide) ?_
  refine lv_istore_n (lv' := [(1, .int (0 : Int32)), (0, .ref q_)]) hx hb dX8_looseSteps_1 rfl hl (by decide) rfl (fun ls hl => ?_)
  refine lv_iconst (v := 0) hx hb dX8_looseSteps_2 (by decide) ?_
  refine lv_istore_n (lv' := [(2, .int (0 : Int32)), (1, .int (0 : Int32)), (0, .ref q_)]) hx hb dX8_looseSteps_3 rfl hl (by decide) rfl (fun ls hl => ?_)
  obtain ⟨⟨k, t⟩, hi, h⟩ := ob_of h
  refine iter_rule (P := fun (k : Nat) (t : Int32 × Int32) => ∀ (H : Heap) (locs : List Loc) (ls : Array Slot), va_P D vwCl [(q_, .inr (8, [.ref q_joints, .int s_steps, .ref q_from, .ref q_to, .ref q_twin, .ref q_firm, .ref q_first, .ref q_firmEnds, .ref q_reached, .ref q_nextLow, .ref q_nextHigh])), (q_firm, .inl (ky 2, 768, .inl s_firm))] H → va_D A [(q_, .inr (8, [.ref q_joints, .int s_steps, .ref q_from, .ref q_to, .ref q_twin, .ref q_firm, .ref q_first, .ref q_firmEnds, .ref q_reached, .ref q_nextLow, .ref q_nextHigh])), (q_firm, .inl (ky 2, 768, .inl s_firm))] → va_S A s.heap H locs → lv_has ls 3 [(0, .ref q_), (1, .int t.1), (2, .int t.2)] → W p l e rmX8_looseSteps s m args below meth c H locs 0 0 Q (F0 m ([4, 30].getD k 0) ls [])) ?_ _ _ _ _ hi ?_ H locs ls hP hD hS (lv_sub hl [2, 1, 0] rfl)
  · clear h hi hP hD hS hl
    intro t k t' h K
    obtain ⟨v1, v2⟩ := t
    intro H locs ls hP hD hS hl
    replace h := dm2_of h
    replace hP : va_P D vwCl [(q_, .inr (8, [.ref q_joints, .int s_steps, .ref q_from, .ref q_to, .ref q_twin, .ref q_firm, .ref q_first, .ref q_firmEnds, .ref q_reached, .ref q_nextLow, .ref q_nextHigh])), (q_firm, .inl (ky 2, 768, .inl s_firm))] H := hP
    replace hD : va_D A [(q_, .inr (8, [.ref q_joints, .int s_steps, .ref q_from, .ref q_to, .ref q_twin, .ref q_firm, .ref q_first, .ref q_firmEnds, .ref q_reached, .ref q_nextLow, .ref q_nextHigh])), (q_firm, .inl (ky 2, 768, .inl s_firm))] := hD
    replace hl : lv_has ls 3 [(0, .ref q_), (1, .int v1), (2, .int v2)] := hl
    refine lv_iload_n hx hb dX8_looseSteps_4 rfl (lv_at hl 2 rfl) ?_
    refine lv_aload_n hx hb dX8_looseSteps_5 rfl (lv_at hl 0 rfl) ?_
    refine va_get (D := D) (ci := 8) (v := .int s_steps) (C := RX8) (T := TX8) (N := 11) hx hb hts hi_X8 hown hK.1 hP 0 rfl rfl 1 (by decide) hf_83 (fun _ h9 => h9) rfl dX8_looseSteps_6 ?_
    refine lv_icmp_ge (tgt := 30) hx hb dX8_looseSteps_9 (by decide) (fun hc => ?_) (fun hc => ?_)
    · replace h := if_t hc h
      cases h
      exact K _ _ _ hP hD hS (lv_sub hl [0, 1, 2] rfl)
    · replace h := if_f hc h
      refine lv_aload_n hx hb dX8_looseSteps_12 rfl (lv_at hl 0 rfl) ?_
      refine va_get (D := D) (ci := 8) (v := .ref q_firm) (C := RX8) (T := TX8) (N := 11) hx hb hts hi_X8 hown hK.1 hP 0 rfl rfl 5 (by decide) hf_25 (fun _ h9 => h9) rfl dX8_looseSteps_13 ?_
      refine lv_iload_n hx hb dX8_looseSteps_16 rfl (lv_at hl 2 rfl) ?_
      obtain ⟨hg, h⟩ := gd_of h
      refine va_zald hx hb hK.1 hP 1 2 rfl rfl hg dX8_looseSteps_17 ?_
      obtain ⟨t, hd, h⟩ := ob_of h
      have K : ∀ (H : Heap) (locs : List Loc) (ls : Array Slot), va_P D vwCl [(q_, .inr (8, [.ref q_joints, .int s_steps, .ref q_from, .ref q_to, .ref q_twin, .ref q_firm, .ref q_first, .ref q_firmEnds, .ref q_reached, .ref q_nextLow, .ref q_nextHigh])), (q_firm, .inl (ky 2, 768, .inl s_firm))] H → va_D A [(q_, .inr (8, [.ref q_joints, .int s_steps, .ref q_from, .ref q_to, .ref q_twin, .ref q_firm, .ref q_first, .ref q_firmEnds, .ref q_reached, .ref q_nextLow, .ref q_nextHigh])), (q_firm, .inl (ky 2, 768, .inl s_firm))] → va_S A s.heap H locs → lv_has ls 3 [(0, .ref q_), (1, .int t), (2, .int v2)] → W p l e rmX8_looseSteps s m args below meth c H locs 0 0 Q (F0 m 24 ls []) := by
        clear hd hP hD hS hl
        obtain ⟨v3, rfl⟩ : ∃ z, z = t := ⟨_, rfl⟩
        replace h := dm1_of h
        intro H locs ls hP hD hS hl
        replace hP : va_P D vwCl [(q_, .inr (8, [.ref q_joints, .int s_steps, .ref q_from, .ref q_to, .ref q_twin, .ref q_firm, .ref q_first, .ref q_firmEnds, .ref q_reached, .ref q_nextLow, .ref q_nextHigh])), (q_firm, .inl (ky 2, 768, .inl s_firm))] H := hP
        replace hD : va_D A [(q_, .inr (8, [.ref q_joints, .int s_steps, .ref q_from, .ref q_to, .ref q_twin, .ref q_firm, .ref q_first, .ref q_firmEnds, .ref q_reached, .ref q_nextLow, .ref q_nextHigh])), (q_firm, .inl (ky 2, 768, .inl s_firm))] := hD
        replace hl : lv_has ls 3 [(0, .ref q_), (1, .int v3), (2, .int v2)] := hl
        refine W.eq (g2 := F0 m 24 ls []) rfl ?_
        obtain ⟨x4, ex4⟩ : ∃ z : Int32, z = v2 + 1 := ⟨_, rfl⟩
        replace h := lt_at ex4 h
        refine lv_iinc (v := x4) (lv' := [(2, .int x4), (0, .ref q_), (1, .int v3)]) hx hb dX8_looseSteps_24 hl (k := 2) rfl (by rw [ex4]; rfl) (by decide) rfl (fun ls hl => ?_)
        refine lv_goto (tgt := 4) hx hb dX8_looseSteps_27 (by decide) ?_
        cases h
        exact K _ _ _ hP hD hS (lv_sub hl [1, 2, 0] rfl)
      replace h := hd
      clear hd
      refine lv_if_ne (tgt := 24) hx hb dX8_looseSteps_18 (by decide) (fun hc => ?_) (fun hc => ?_)
      · replace h := if_t hc h
        cases h
        exact K _ _ _ hP hD hS (lv_sub hl [0, 1, 2] rfl)
      · replace h := if_f (fun z => z hc) h
        obtain ⟨x5, ex5⟩ : ∃ z : Int32, z = v1 + 1 := ⟨_, rfl⟩
        replace h := lt_at ex5 h
        refine lv_iinc (v := x5) (lv' := [(1, .int x5), (0, .ref q_), (2, .int v2)]) hx hb dX8_looseSteps_21 hl (k := 1) rfl (by rw [ex5]; rfl) (by decide) rfl (fun ls hl => ?_)
        cases h
        exact K _ _ _ hP hD hS (lv_sub hl [1, 0, 2] rfl)
  · have h1 := ex1_of h
    clear h hi
    rcases h1 with ⟨rfl, h⟩
    obtain ⟨v6, v7⟩ := t
    replace h := dm2_of h
    intro H locs ls hP hD hS hl
    replace hP : va_P D vwCl [(q_, .inr (8, [.ref q_joints, .int s_steps, .ref q_from, .ref q_to, .ref q_twin, .ref q_firm, .ref q_first, .ref q_firmEnds, .ref q_reached, .ref q_nextLow, .ref q_nextHigh])), (q_firm, .inl (ky 2, 768, .inl s_firm))] H := hP
    replace hD : va_D A [(q_, .inr (8, [.ref q_joints, .int s_steps, .ref q_from, .ref q_to, .ref q_twin, .ref q_firm, .ref q_first, .ref q_firmEnds, .ref q_reached, .ref q_nextLow, .ref q_nextHigh])), (q_firm, .inl (ky 2, 768, .inl s_firm))] := hD
    replace hl : lv_has ls 3 [(0, .ref q_), (1, .int v6), (2, .int v7)] := hl
    refine W.eq (g2 := F0 m 30 ls []) rfl ?_
    refine lv_iload_n hx hb dX8_looseSteps_30 rfl (lv_at hl 1 rfl) ?_
    cases h
    exact ret _ _ _ _ dX8_looseSteps_31 hP hD hS

def sX8_comesSooner (a1 : Int32) (a2 : Int32) (a3 : Int32) (s_from : Nat → Int32) (s_joints_under : Nat → Int32) (s_joints_x : Nat → Int32) (s_joints_y : Nat → Int32) (s_to : Nat → Int32) : Option (Int32) := gd (¬ (a1 < 0 ∨ 768 ≤ a1.toNatClampNeg)) (gd (¬ (a1 < 0 ∨ 768 ≤ a1.toNatClampNeg)) (gd (¬ (a2 < 0 ∨ 768 ≤ a2.toNatClampNeg)) (ob (sX4_side (s_from a1.toNatClampNeg) (s_to a1.toNatClampNeg) (s_to a2.toNatClampNeg) s_joints_under s_joints_x s_joints_y) (fun o => dm1 o (fun (r1 : Int64) => ob (sJ13_signum_95d88 r1) (fun o => dm1 o (fun (r2 : Int32) => gd (¬ (a1 < 0 ∨ 768 ≤ a1.toNatClampNeg)) (gd (¬ (a1 < 0 ∨ 768 ≤ a1.toNatClampNeg)) (gd (¬ (a3 < 0 ∨ 768 ≤ a3.toNatClampNeg)) (ob (sX4_side (s_from a1.toNatClampNeg) (s_to a1.toNatClampNeg) (s_to a3.toNatClampNeg) s_joints_under s_joints_x s_joints_y) (fun o => dm1 o (fun (r3 : Int64) => ob (sJ13_signum_95d88 r3) (fun o => dm1 o (fun (r4 : Int32) => if r2 = r4 then gd (¬ (a2 < 0 ∨ 768 ≤ a2.toNatClampNeg)) (gd (¬ (a2 < 0 ∨ 768 ≤ a2.toNatClampNeg)) (gd (¬ (a3 < 0 ∨ 768 ≤ a3.toNatClampNeg)) (ob (sX4_side (s_from a2.toNatClampNeg) (s_to a2.toNatClampNeg) (s_to a3.toNatClampNeg) s_joints_under s_joints_x s_joints_y) (fun o => dm1 o (fun (r5 : Int64) => if 0 ≤ (lg_cmp r5 (0 : Int64)) then some (0 : Int32) else some (1 : Int32)))))) else if r4 ≤ r2 then some (0 : Int32) else some (1 : Int32)))))))))))))))
abbrev rmX8_comesSooner : Room := { frames := 1, cells := 0, slots := 0, locals := 23 }
set_option maxHeartbeats 4000000 in
set_option maxRecDepth 100000 in
theorem c_X8_comesSooner (l : Launch) (D : va_G) (ky : Nat → ClassId) (q_ q_joints q_from q_to q_twin q_firm q_first q_firmEnds q_reached q_nextLow q_nextHigh q_joints_x q_joints_y q_joints_under : Nat) (a1 : Int32) (a2 : Int32) (a3 : Int32) (s_steps : Int32) (s_from : Nat → Int32) (s_joints_total : Int32) (s_joints_under : Nat → Int32) (s_joints_x : Nat → Int32) (s_joints_y : Nat → Int32) (s_to : Nat → Int32) {o_r : Int32} (h : sX8_comesSooner a1 a2 a3 s_from s_joints_under s_joints_x s_joints_y s_to = some o_r) : MtI l D ky yX8_comesSooner wsX8_comesSooner rmX8_comesSooner [.ref q_, .int a1, .int a2, .int a3] [(q_, .inr (8, [.ref q_joints, .int s_steps, .ref q_from, .ref q_to, .ref q_twin, .ref q_firm, .ref q_first, .ref q_firmEnds, .ref q_reached, .ref q_nextLow, .ref q_nextHigh])), (q_from, .inl (ky 0, 768, .inl s_from)), (q_joints, .inr (4, [.int s_joints_total, .ref q_joints_x, .ref q_joints_y, .ref q_joints_under])), (q_joints_under, .inl (ky 0, 129, .inl s_joints_under)), (q_joints_x, .inl (ky 0, 129, .inl s_joints_x)), (q_joints_y, .inl (ky 0, 129, .inl s_joints_y)), (q_to, .inl (ky 0, 768, .inl s_to))] [(q_, .inr (8, [.ref q_joints, .int s_steps, .ref q_from, .ref q_to, .ref q_twin, .ref q_firm, .ref q_first, .ref q_firmEnds, .ref q_reached, .ref q_nextLow, .ref q_nextHigh])), (q_from, .inl (ky 0, 768, .inl s_from)), (q_joints, .inr (4, [.int s_joints_total, .ref q_joints_x, .ref q_joints_y, .ref q_joints_under])), (q_joints_under, .inl (ky 0, 129, .inl s_joints_under)), (q_joints_x, .inl (ky 0, 129, .inl s_joints_x)), (q_joints_y, .inl (ky 0, 129, .inl s_joints_y)), (q_to, .inl (ky 0, 768, .inl s_to))] o_r 0 0 := by
  refine MtI.ofB (cc := cX8_comesSooner) (maxL := 6) (by decide +kernel) rfl (Nat.le_of_ble_eq_true rfl) ?_
  intro p e R s m args below meth c A Q ls hR hx hb hts hown hnm hml hP hK hD hA ret hl
  subst hR
  obtain ⟨H, hH⟩ : ∃ H, H = s.heap := ⟨_, rfl⟩
  obtain ⟨locs, hlocs⟩ : ∃ locs : List Loc, locs = [] := ⟨_, rfl⟩
  have hS : va_S A s.heap H locs := by rw [hH, hlocs]; exact va_S.rf
  rw [← hH] at hP
  suffices hgo : W p l e rmX8_comesSooner s m args below meth c H locs 0 0 Q (F0 m 0 ls []) by rw [hH, hlocs] at hgo; exact hgo
  clear hH hlocs
  replace hl : lv_has ls 6 [(0, .ref q_), (1, .int a1), (2, .int a2), (3, .int a3)] := hl
  replace hown : s.vm.findClass RX8 = some m.cls := hown
  have hi_X8 : ∀ w ∈ u_ws RX8 TX8 11, w ∈ wsX8_comesSooner := fun _ h9 => List.mem_cons_of_mem _ (List.mem_append_left _ (List.mem_append_right _ h9))
  have hf_9 := hts (.fieldLink RX8 9 "GlazierBench$Pieces" "joints" "LGlazierBench$Joints;") (by decide +kernel)
  have hf_15 := hts (.fieldLink RX8 15 "GlazierBench$Pieces" "from" "[I") (by decide +kernel)
  have hf_19 := hts (.fieldLink RX8 19 "GlazierBench$Pieces" "to" "[I") (by decide +kernel)
  unfold sX8_comesSooner at h
  refine lv_aload_n hx hb dX8_comesSooner_0 rfl (lv_at hl 0 rfl) ?_
  refine va_get (D := D) (ci := 8) (v := .ref q_joints) (C := RX8) (T := TX8) (N := 11) hx hb hts hi_X8 hown hK.1 hP 0 rfl rfl 0 (by decide) hf_9 (fun _ h9 => h9) rfl dX8_comesSooner_1 ?_
  refine lv_aload_n hx hb dX8_comesSooner_4 rfl (lv_at hl 0 rfl) ?_
  refine va_get (D := D) (ci := 8) (v := .ref q_from) (C := RX8) (T := TX8) (N := 11) hx hb hts hi_X8 hown hK.1 hP 0 rfl rfl 2 (by decide) hf_15 (fun _ h9 => h9) rfl dX8_comesSooner_5 ?_
  refine lv_iload_n hx hb dX8_comesSooner_8 rfl (lv_at hl 1 rfl) ?_
  obtain ⟨hg, h⟩ := gd_of h
  refine va_iald hx hb hK.1 hP 1 0 rfl rfl hg dX8_comesSooner_9 ?_
  refine lv_aload_n hx hb dX8_comesSooner_10 rfl (lv_at hl 0 rfl) ?_
  refine va_get (D := D) (ci := 8) (v := .ref q_to) (C := RX8) (T := TX8) (N := 11) hx hb hts hi_X8 hown hK.1 hP 0 rfl rfl 3 (by decide) hf_19 (fun _ h9 => h9) rfl dX8_comesSooner_11 ?_
  refine lv_iload_n hx hb dX8_comesSooner_14 rfl (lv_at hl 1 rfl) ?_
  obtain ⟨hg, h⟩ := gd_of h
  refine va_iald hx hb hK.1 hP 6 0 rfl rfl hg dX8_comesSooner_15 ?_
  refine lv_aload_n hx hb dX8_comesSooner_16 rfl (lv_at hl 0 rfl) ?_
  refine va_get (D := D) (ci := 8) (v := .ref q_to) (C := RX8) (T := TX8) (N := 11) hx hb hts hi_X8 hown hK.1 hP 0 rfl rfl 3 (by decide) hf_19 (fun _ h9 => h9) rfl dX8_comesSooner_17 ?_
  refine lv_iload_n hx hb dX8_comesSooner_20 rfl (lv_at hl 2 rfl) ?_
  obtain ⟨hg, h⟩ := gd_of h
  refine va_iald hx hb hK.1 hP 6 0 rfl rfl hg dX8_comesSooner_21 ?_
  obtain ⟨r1, hc, h⟩ := ob_of h
  replace h := dm1_of h
  refine cv_l (As := [.int (s_from a1.toNatClampNeg), .int (s_to a1.toNatClampNeg), .int (s_to a2.toNatClampNeg)]) (rest := []) (wr := [(q_, .inr (8, [.ref q_joints, .int s_steps, .ref q_from, .ref q_to, .ref q_twin, .ref q_firm, .ref q_first, .ref q_firmEnds, .ref q_reached, .ref q_nextLow, .ref q_nextHigh])), (q_from, .inl (ky 0, 768, .inl s_from)), (q_to, .inl (ky 0, 768, .inl s_to))]) (wn := [(q_, .inr (8, [.ref q_joints, .int s_steps, .ref q_from, .ref q_to, .ref q_twin, .ref q_firm, .ref q_first, .ref q_firmEnds, .ref q_reached, .ref q_nextLow, .ref q_nextHigh])), (q_from, .inl (ky 0, 768, .inl s_from)), (q_joints, .inr (4, [.int s_joints_total, .ref q_joints_x, .ref q_joints_y, .ref q_joints_under])), (q_joints_under, .inl (ky 0, 129, .inl s_joints_under)), (q_joints_x, .inl (ky 0, 129, .inl s_joints_x)), (q_joints_y, .inl (ky 0, 129, .inl s_joints_y)), (q_to, .inl (ky 0, 768, .inl s_to))]) ⟨hx, hb, hml, hown, hts⟩ (c_X4_side l D ky q_joints q_joints_x q_joints_y q_joints_under (s_from a1.toNatClampNeg) (s_to a1.toNatClampNeg) (s_to a2.toNatClampNeg) s_joints_total s_joints_under s_joints_x s_joints_y hc) (cwV 3 hts gX8_comesSooner_X4_side rfl rfl rfl (by decide +kernel) ⟨Nat.le_of_ble_eq_true rfl, Nat.le_of_ble_eq_true rfl⟩) (rcv hK.1 hP (q0 := 2) rfl rfl) hP hD hK hS hA [2, 3, 4, 5] [0, 1, 6] [0, 1, 3, 4, 5, 6, 2] rfl (by decide +kernel) rfl (by decide +kernel) (by decide +kernel) (by decide +kernel) rfl rfl rfl hl.1 (Nat.le_of_ble_eq_true rfl) dX8_comesSooner_22 ⟨Nat.le_of_ble_eq_true rfl, Nat.le_of_ble_eq_true rfl⟩ (fun H locs hP hD hS => ?_)
  obtain ⟨r2, hc, h⟩ := ob_of h
  replace h := dm1_of h
  refine cs_i (As := [.long r1]) (rest := []) (wr := [(q_, .inr (8, [.ref q_joints, .int s_steps, .ref q_from, .ref q_to, .ref q_twin, .ref q_firm, .ref q_first, .ref q_firmEnds, .ref q_reached, .ref q_nextLow, .ref q_nextHigh])), (q_from, .inl (ky 0, 768, .inl s_from)), (q_joints, .inr (4, [.int s_joints_total, .ref q_joints_x, .ref q_joints_y, .ref q_joints_under])), (q_joints_under, .inl (ky 0, 129, .inl s_joints_under)), (q_joints_x, .inl (ky 0, 129, .inl s_joints_x)), (q_joints_y, .inl (ky 0, 129, .inl s_joints_y)), (q_to, .inl (ky 0, 768, .inl s_to))]) (wn := [(q_, .inr (8, [.ref q_joints, .int s_steps, .ref q_from, .ref q_to, .ref q_twin, .ref q_firm, .ref q_first, .ref q_firmEnds, .ref q_reached, .ref q_nextLow, .ref q_nextHigh])), (q_from, .inl (ky 0, 768, .inl s_from)), (q_joints, .inr (4, [.int s_joints_total, .ref q_joints_x, .ref q_joints_y, .ref q_joints_under])), (q_joints_under, .inl (ky 0, 129, .inl s_joints_under)), (q_joints_x, .inl (ky 0, 129, .inl s_joints_x)), (q_joints_y, .inl (ky 0, 129, .inl s_joints_y)), (q_to, .inl (ky 0, 768, .inl s_to))]) ⟨hx, hb, hml, hown, hts⟩ (c_J13_signum_95d88 l D ky r1 hc) (va_cwS 1 hts gX8_comesSooner_J13_signum_95d88 rfl rfl rfl (by decide +kernel) ⟨Nat.le_of_ble_eq_true rfl, Nat.le_of_ble_eq_true rfl⟩) hP hD hK hS hA [] [0, 1, 2, 3, 4, 5, 6] [0, 1, 2, 3, 4, 5, 6] rfl (by decide +kernel) rfl (by decide +kernel) (by decide +kernel) (by decide +kernel) rfl rfl rfl hl.1 (Nat.le_of_ble_eq_true rfl) dX8_comesSooner_25 ⟨Nat.le_of_ble_eq_true rfl, Nat.le_of_ble_eq_true rfl⟩ (fun H locs hP hD hS => ?_)
  refine lv_istore (lv' := [(4, .int r2), (0, .ref q_), (1, .int a1), (2, .int a2), (3, .int a3)]) hx hb dX8_comesSooner_28 hl (by decide) rfl (fun ls hl => ?_)
  refine lv_aload_n hx hb dX8_comesSooner_30 rfl (lv_at hl 1 rfl) ?_
  refine va_get (D := D) (ci := 8) (v := .ref q_joints) (C := RX8) (T := TX8) (N := 11) hx hb hts hi_X8 hown hK.1 hP 0 rfl rfl 0 (by decide) hf_9 (fun _ h9 => h9) rfl dX8_comesSooner_31 ?_
  refine lv_aload_n hx hb dX8_comesSooner_34 rfl (lv_at hl 1 rfl) ?_
  refine va_get (D := D) (ci := 8) (v := .ref q_from) (C := RX8) (T := TX8) (N := 11) hx hb hts hi_X8 hown hK.1 hP 0 rfl rfl 2 (by decide) hf_15 (fun _ h9 => h9) rfl dX8_comesSooner_35 ?_
  refine lv_iload_n hx hb dX8_comesSooner_38 rfl (lv_at hl 2 rfl) ?_
  obtain ⟨hg, h⟩ := gd_of h
  refine va_iald hx hb hK.1 hP 1 0 rfl rfl hg dX8_comesSooner_39 ?_
  refine lv_aload_n hx hb dX8_comesSooner_40 rfl (lv_at hl 1 rfl) ?_
  refine va_get (D := D) (ci := 8) (v := .ref q_to) (C := RX8) (T := TX8) (N := 11) hx hb hts hi_X8 hown hK.1 hP 0 rfl rfl 3 (by decide) hf_19 (fun _ h9 => h9) rfl dX8_comesSooner_41 ?_
  refine lv_iload_n hx hb dX8_comesSooner_44 rfl (lv_at hl 2 rfl) ?_
  obtain ⟨hg, h⟩ := gd_of h
  refine va_iald hx hb hK.1 hP 6 0 rfl rfl hg dX8_comesSooner_45 ?_
  refine lv_aload_n hx hb dX8_comesSooner_46 rfl (lv_at hl 1 rfl) ?_
  refine va_get (D := D) (ci := 8) (v := .ref q_to) (C := RX8) (T := TX8) (N := 11) hx hb hts hi_X8 hown hK.1 hP 0 rfl rfl 3 (by decide) hf_19 (fun _ h9 => h9) rfl dX8_comesSooner_47 ?_
  refine lv_iload_n hx hb dX8_comesSooner_50 rfl (lv_at hl 4 rfl) ?_
  obtain ⟨hg, h⟩ := gd_of h
  refine va_iald hx hb hK.1 hP 6 0 rfl rfl hg dX8_comesSooner_51 ?_
  obtain ⟨r3, hc, h⟩ := ob_of h
  replace h := dm1_of h
  refine cv_l (As := [.int (s_from a1.toNatClampNeg), .int (s_to a1.toNatClampNeg), .int (s_to a3.toNatClampNeg)]) (rest := []) (wr := [(q_, .inr (8, [.ref q_joints, .int s_steps, .ref q_from, .ref q_to, .ref q_twin, .ref q_firm, .ref q_first, .ref q_firmEnds, .ref q_reached, .ref q_nextLow, .ref q_nextHigh])), (q_from, .inl (ky 0, 768, .inl s_from)), (q_to, .inl (ky 0, 768, .inl s_to))]) (wn := [(q_, .inr (8, [.ref q_joints, .int s_steps, .ref q_from, .ref q_to, .ref q_twin, .ref q_firm, .ref q_first, .ref q_firmEnds, .ref q_reached, .ref q_nextLow, .ref q_nextHigh])), (q_from, .inl (ky 0, 768, .inl s_from)), (q_joints, .inr (4, [.int s_joints_total, .ref q_joints_x, .ref q_joints_y, .ref q_joints_under])), (q_joints_under, .inl (ky 0, 129, .inl s_joints_under)), (q_joints_x, .inl (ky 0, 129, .inl s_joints_x)), (q_joints_y, .inl (ky 0, 129, .inl s_joints_y)), (q_to, .inl (ky 0, 768, .inl s_to))]) ⟨hx, hb, hml, hown, hts⟩ (c_X4_side l D ky q_joints q_joints_x q_joints_y q_joints_under (s_from a1.toNatClampNeg) (s_to a1.toNatClampNeg) (s_to a3.toNatClampNeg) s_joints_total s_joints_under s_joints_x s_joints_y hc) (cwV 3 hts gX8_comesSooner_X4_side rfl rfl rfl (by decide +kernel) ⟨Nat.le_of_ble_eq_true rfl, Nat.le_of_ble_eq_true rfl⟩) (rcv hK.1 hP (q0 := 2) rfl rfl) hP hD hK hS hA [2, 3, 4, 5] [0, 1, 6] [0, 1, 3, 4, 5, 6, 2] rfl (by decide +kernel) rfl (by decide +kernel) (by decide +kernel) (by decide +kernel) rfl rfl rfl hl.1 (Nat.le_of_ble_eq_true rfl) dX8_comesSooner_52 ⟨Nat.le_of_ble_eq_true rfl, Nat.le_of_ble_eq_true rfl⟩ (fun H locs hP hD hS => ?_)
  obtain ⟨r4, hc, h⟩ := ob_of h
  replace h := dm1_of h
  refine cs_i (As := [.long r3]) (rest := []) (wr := [(q_, .inr (8, [.ref q_joints, .int s_steps, .ref q_from, .ref q_to, .ref q_twin, .ref q_firm, .ref q_first, .ref q_firmEnds, .ref q_reached, .ref q_nextLow, .ref q_nextHigh])), (q_from, .inl (ky 0, 768, .inl s_from)), (q_joints, .inr (4, [.int s_joints_total, .ref q_joints_x, .ref q_joints_y, .ref q_joints_under])), (q_joints_under, .inl (ky 0, 129, .inl s_joints_under)), (q_joints_x, .inl (ky 0, 129, .inl s_joints_x)), (q_joints_y, .inl (ky 0, 129, .inl s_joints_y)), (q_to, .inl (ky 0, 768, .inl s_to))]) (wn := [(q_, .inr (8, [.ref q_joints, .int s_steps, .ref q_from, .ref q_to, .ref q_twin, .ref q_firm, .ref q_first, .ref q_firmEnds, .ref q_reached, .ref q_nextLow, .ref q_nextHigh])), (q_from, .inl (ky 0, 768, .inl s_from)), (q_joints, .inr (4, [.int s_joints_total, .ref q_joints_x, .ref q_joints_y, .ref q_joints_under])), (q_joints_under, .inl (ky 0, 129, .inl s_joints_under)), (q_joints_x, .inl (ky 0, 129, .inl s_joints_x)), (q_joints_y, .inl (ky 0, 129, .inl s_joints_y)), (q_to, .inl (ky 0, 768, .inl s_to))]) ⟨hx, hb, hml, hown, hts⟩ (c_J13_signum_95d88 l D ky r3 hc) (va_cwS 1 hts gX8_comesSooner_J13_signum_95d88 rfl rfl rfl (by decide +kernel) ⟨Nat.le_of_ble_eq_true rfl, Nat.le_of_ble_eq_true rfl⟩) hP hD hK hS hA [] [0, 1, 2, 3, 4, 5, 6] [0, 1, 2, 3, 4, 5, 6] rfl (by decide +kernel) rfl (by decide +kernel) (by decide +kernel) (by decide +kernel) rfl rfl rfl hl.1 (Nat.le_of_ble_eq_true rfl) dX8_comesSooner_55 ⟨Nat.le_of_ble_eq_true rfl, Nat.le_of_ble_eq_true rfl⟩ (fun H locs hP hD hS => ?_)
  refine lv_istore (lv' := [(5, .int r4), (4, .int r2), (0, .ref q_), (1, .int a1), (2, .int a2), (3, .int a3)]) hx hb dX8_comesSooner_58 hl (by decide) rfl (fun ls hl => ?_)
  refine lv_iload hx hb dX8_comesSooner_60 (lv_at hl 1 rfl) ?_
  refine lv_iload hx hb dX8_comesSooner_62 (lv_at hl 0 rfl) ?_
  refine lv_icmp_eq (tgt := 80) hx hb dX8_comesSooner_64 (by decide) (fun hc => ?_) (fun hc => ?_)
  · replace h := if_t hc h
    refine lv_aload_n hx hb dX8_comesSooner_80 rfl (lv_at hl 2 rfl) ?_
    refine va_get (D := D) (ci := 8) (v := .ref q_joints) (C := RX8) (T := TX8) (N := 11) hx hb hts hi_X8 hown hK.1 hP 0 rfl rfl 0 (by decide) hf_9 (fun _ h9 => h9) rfl dX8_comesSooner_81 ?_
    refine lv_aload_n hx hb dX8_comesSooner_84 rfl (lv_at hl 2 rfl) ?_
    refine va_get (D := D) (ci := 8) (v := .ref q_from) (C := RX8) (T := TX8) (N := 11) hx hb hts hi_X8 hown hK.1 hP 0 rfl rfl 2 (by decide) hf_15 (fun _ h9 => h9) rfl dX8_comesSooner_85 ?_
    refine lv_iload_n hx hb dX8_comesSooner_88 rfl (lv_at hl 4 rfl) ?_
    obtain ⟨hg, h⟩ := gd_of h
    refine va_iald hx hb hK.1 hP 1 0 rfl rfl hg dX8_comesSooner_89 ?_
    refine lv_aload_n hx hb dX8_comesSooner_90 rfl (lv_at hl 2 rfl) ?_
    refine va_get (D := D) (ci := 8) (v := .ref q_to) (C := RX8) (T := TX8) (N := 11) hx hb hts hi_X8 hown hK.1 hP 0 rfl rfl 3 (by decide) hf_19 (fun _ h9 => h9) rfl dX8_comesSooner_91 ?_
    refine lv_iload_n hx hb dX8_comesSooner_94 rfl (lv_at hl 4 rfl) ?_
    obtain ⟨hg, h⟩ := gd_of h
    refine va_iald hx hb hK.1 hP 6 0 rfl rfl hg dX8_comesSooner_95 ?_
    refine lv_aload_n hx hb dX8_comesSooner_96 rfl (lv_at hl 2 rfl) ?_
    refine va_get (D := D) (ci := 8) (v := .ref q_to) (C := RX8) (T := TX8) (N := 11) hx hb hts hi_X8 hown hK.1 hP 0 rfl rfl 3 (by decide) hf_19 (fun _ h9 => h9) rfl dX8_comesSooner_97 ?_
    refine lv_iload_n hx hb dX8_comesSooner_100 rfl (lv_at hl 5 rfl) ?_
    obtain ⟨hg, h⟩ := gd_of h
    refine va_iald hx hb hK.1 hP 6 0 rfl rfl hg dX8_comesSooner_101 ?_
    obtain ⟨r5, hc, h⟩ := ob_of h
    replace h := dm1_of h
    refine cv_l (As := [.int (s_from a2.toNatClampNeg), .int (s_to a2.toNatClampNeg), .int (s_to a3.toNatClampNeg)]) (rest := []) (wr := [(q_, .inr (8, [.ref q_joints, .int s_steps, .ref q_from, .ref q_to, .ref q_twin, .ref q_firm, .ref q_first, .ref q_firmEnds, .ref q_reached, .ref q_nextLow, .ref q_nextHigh])), (q_from, .inl (ky 0, 768, .inl s_from)), (q_to, .inl (ky 0, 768, .inl s_to))]) (wn := [(q_, .inr (8, [.ref q_joints, .int s_steps, .ref q_from, .ref q_to, .ref q_twin, .ref q_firm, .ref q_first, .ref q_firmEnds, .ref q_reached, .ref q_nextLow, .ref q_nextHigh])), (q_from, .inl (ky 0, 768, .inl s_from)), (q_joints, .inr (4, [.int s_joints_total, .ref q_joints_x, .ref q_joints_y, .ref q_joints_under])), (q_joints_under, .inl (ky 0, 129, .inl s_joints_under)), (q_joints_x, .inl (ky 0, 129, .inl s_joints_x)), (q_joints_y, .inl (ky 0, 129, .inl s_joints_y)), (q_to, .inl (ky 0, 768, .inl s_to))]) ⟨hx, hb, hml, hown, hts⟩ (c_X4_side l D ky q_joints q_joints_x q_joints_y q_joints_under (s_from a2.toNatClampNeg) (s_to a2.toNatClampNeg) (s_to a3.toNatClampNeg) s_joints_total s_joints_under s_joints_x s_joints_y hc) (cwV 3 hts gX8_comesSooner_X4_side rfl rfl rfl (by decide +kernel) ⟨Nat.le_of_ble_eq_true rfl, Nat.le_of_ble_eq_true rfl⟩) (rcv hK.1 hP (q0 := 2) rfl rfl) hP hD hK hS hA [2, 3, 4, 5] [0, 1, 6] [0, 1, 3, 4, 5, 6, 2] rfl (by decide +kernel) rfl (by decide +kernel) (by decide +kernel) (by decide +kernel) rfl rfl rfl hl.1 (Nat.le_of_ble_eq_true rfl) dX8_comesSooner_102 ⟨Nat.le_of_ble_eq_true rfl, Nat.le_of_ble_eq_true rfl⟩ (fun H locs hP hD hS => ?_)
    refine lv_lconst (v := 0) hx hb dX8_comesSooner_105 (by decide) ?_
    refine W.lcmp hx hb dX8_comesSooner_106 ?_
    refine lv_if_ge (tgt := 114) hx hb dX8_comesSooner_107 (by decide) (fun hc => ?_) (fun hc => ?_)
    · replace h := if_t hc h
      refine lv_iconst (v := 0) hx hb dX8_comesSooner_114 (by decide) ?_
      cases h
      exact ret _ _ _ _ (Or.inl rfl) dX8_comesSooner_115 hP hD hS
    · replace h := if_f hc h
      refine lv_iconst (v := 1) hx hb dX8_comesSooner_110 (by decide) ?_
      refine lv_goto (tgt := 115) hx hb dX8_comesSooner_111 (by decide) ?_
      cases h
      exact ret _ _ _ _ (Or.inr rfl) dX8_comesSooner_115 hP hD hS
  · replace h := if_f hc h
    refine lv_iload hx hb dX8_comesSooner_67 (lv_at hl 1 rfl) ?_
    refine lv_iload hx hb dX8_comesSooner_69 (lv_at hl 0 rfl) ?_
    refine lv_icmp_ge (tgt := 78) hx hb dX8_comesSooner_71 (by decide) (fun hc => ?_) (fun hc => ?_)
    · replace h := if_t hc h
      refine lv_iconst (v := 0) hx hb dX8_comesSooner_78 (by decide) ?_
      cases h
      exact ret _ _ _ _ (Or.inl rfl) dX8_comesSooner_79 hP hD hS
    · replace h := if_f hc h
      refine lv_iconst (v := 1) hx hb dX8_comesSooner_74 (by decide) ?_
      refine lv_goto (tgt := 79) hx hb dX8_comesSooner_75 (by decide) ?_
      cases h
      exact ret _ _ _ _ (Or.inr rfl) dX8_comesSooner_79 hP hD hS

def bX8_after_25 (s_firm : Nat → Int32) (s_first : Nat → Int32) (s_from : Nat → Int32) (s_joints_under : Nat → Int32) (s_joints_x : Nat → Int32) (s_joints_y : Nat → Int32) (s_to : Nat → Int32) (x1 : Int32) (x2 : Int32) (t : Int32 × Int32) : Option (Nat × (Int32 × Int32)) := dm2 t (fun (v4 : Int32) (v5 : Int32) => gd (¬ ((x2 + (1 : Int32)) < 0 ∨ 129 ≤ (x2 + (1 : Int32)).toNatClampNeg)) (if (s_first (x2 + (1 : Int32)).toNatClampNeg) ≤ v5 then some (1, (v4, v5)) else gd (¬ (v5 < 0 ∨ 768 ≤ v5.toNatClampNeg)) (ob (if (s_firm v5.toNatClampNeg) = 0 then some v4 else if v5 = x1 then some v4 else if v4 = x1 then some v5 else ob (sX8_comesSooner x1 v5 v4 s_from s_joints_under s_joints_x s_joints_y s_to) (fun o => dm1 o (fun (r8 : Int32) => if r8 = 0 then some v4 else some v5))) (fun t => dm1 t (fun (v6 : Int32) => lt (v5 + 1) (fun x7 => some (0, (v6, x7))))))))
def sX8_after (a1 : Int32) (s_firm : Nat → Int32) (s_first : Nat → Int32) (s_from : Nat → Int32) (s_joints_under : Nat → Int32) (s_joints_x : Nat → Int32) (s_joints_y : Nat → Int32) (s_to : Nat → Int32) (s_twin : Nat → Int32) : Option (Int32) := gd (¬ (a1 < 0 ∨ 768 ≤ a1.toNatClampNeg)) (lt (s_twin a1.toNatClampNeg) (fun x1 => gd (¬ (a1 < 0 ∨ 768 ≤ a1.toNatClampNeg)) (lt (s_to a1.toNatClampNeg) (fun x2 => gd (¬ (x2 < 0 ∨ 129 ≤ x2.toNatClampNeg)) (lt (s_first x2.toNatClampNeg) (fun x3 => ob (iter (bX8_after_25 s_firm s_first s_from s_joints_under s_joints_x s_joints_y s_to x1 x2) FU (x1, x3)) (fun kt => ex1 kt (fun t => dm2 t (fun (v9 : Int32) (v10 : Int32) => some v9)))))))))
abbrev rmX8_after : Room := { frames := 2, cells := 0, slots := 0, locals := 48 }
set_option maxHeartbeats 4000000 in
set_option maxRecDepth 100000 in
theorem c_X8_after (l : Launch) (D : va_G) (ky : Nat → ClassId) (q_ q_joints q_from q_to q_twin q_firm q_first q_firmEnds q_reached q_nextLow q_nextHigh q_joints_x q_joints_y q_joints_under : Nat) (a1 : Int32) (s_steps : Int32) (s_firm : Nat → Int32) (s_first : Nat → Int32) (s_from : Nat → Int32) (s_joints_total : Int32) (s_joints_under : Nat → Int32) (s_joints_x : Nat → Int32) (s_joints_y : Nat → Int32) (s_to : Nat → Int32) (s_twin : Nat → Int32) {o_r : Int32} (h : sX8_after a1 s_firm s_first s_from s_joints_under s_joints_x s_joints_y s_to s_twin = some o_r) : MtI l D ky yX8_after wsX8_after rmX8_after [.ref q_, .int a1] [(q_, .inr (8, [.ref q_joints, .int s_steps, .ref q_from, .ref q_to, .ref q_twin, .ref q_firm, .ref q_first, .ref q_firmEnds, .ref q_reached, .ref q_nextLow, .ref q_nextHigh])), (q_firm, .inl (ky 2, 768, .inl s_firm)), (q_first, .inl (ky 0, 129, .inl s_first)), (q_from, .inl (ky 0, 768, .inl s_from)), (q_joints, .inr (4, [.int s_joints_total, .ref q_joints_x, .ref q_joints_y, .ref q_joints_under])), (q_joints_under, .inl (ky 0, 129, .inl s_joints_under)), (q_joints_x, .inl (ky 0, 129, .inl s_joints_x)), (q_joints_y, .inl (ky 0, 129, .inl s_joints_y)), (q_to, .inl (ky 0, 768, .inl s_to)), (q_twin, .inl (ky 0, 768, .inl s_twin))] [(q_, .inr (8, [.ref q_joints, .int s_steps, .ref q_from, .ref q_to, .ref q_twin, .ref q_firm, .ref q_first, .ref q_firmEnds, .ref q_reached, .ref q_nextLow, .ref q_nextHigh])), (q_firm, .inl (ky 2, 768, .inl s_firm)), (q_first, .inl (ky 0, 129, .inl s_first)), (q_from, .inl (ky 0, 768, .inl s_from)), (q_joints, .inr (4, [.int s_joints_total, .ref q_joints_x, .ref q_joints_y, .ref q_joints_under])), (q_joints_under, .inl (ky 0, 129, .inl s_joints_under)), (q_joints_x, .inl (ky 0, 129, .inl s_joints_x)), (q_joints_y, .inl (ky 0, 129, .inl s_joints_y)), (q_to, .inl (ky 0, 768, .inl s_to)), (q_twin, .inl (ky 0, 768, .inl s_twin))] o_r 0 0 := by
  refine MtI.of (cc := cX8_after) (maxL := 6) (by decide +kernel) rfl (Nat.le_of_ble_eq_true rfl) ?_
  intro p e R s m args below meth c A Q ls hR hx hb hts hown hnm hml hP hK hD hA ret hl
  subst hR
  obtain ⟨H, hH⟩ : ∃ H, H = s.heap := ⟨_, rfl⟩
  obtain ⟨locs, hlocs⟩ : ∃ locs : List Loc, locs = [] := ⟨_, rfl⟩
  have hS : va_S A s.heap H locs := by rw [hH, hlocs]; exact va_S.rf
  rw [← hH] at hP
  suffices hgo : W p l e rmX8_after s m args below meth c H locs 0 0 Q (F0 m 0 ls []) by rw [hH, hlocs] at hgo; exact hgo
  clear hH hlocs
  replace hl : lv_has ls 6 [(0, .ref q_), (1, .int a1)] := hl
  replace hown : s.vm.findClass RX8 = some m.cls := hown
  have hi_X8 : ∀ w ∈ u_ws RX8 TX8 11, w ∈ wsX8_after := fun _ h9 => List.mem_cons_of_mem _ (List.mem_append_left _ (List.mem_append_right _ h9))
  have hf_22 := hts (.fieldLink RX8 22 "GlazierBench$Pieces" "twin" "[I") (by decide +kernel)
  have hf_19 := hts (.fieldLink RX8 19 "GlazierBench$Pieces" "to" "[I") (by decide +kernel)
  have hf_29 := hts (.fieldLink RX8 29 "GlazierBench$Pieces" "first" "[I") (by decide +kernel)
  have hf_25 := hts (.fieldLink RX8 25 "GlazierBench$Pieces" "firm" "[Z") (by decide +kernel)
  unfold sX8_after at h
  refine lv_aload_n hx hb dX8_after_0 rfl (lv_at hl 0 rfl) ?_
  refine va_get (D := D) (ci := 8) (v := .ref q_twin) (C := RX8) (T := TX8) (N := 11) hx hb hts hi_X8 hown hK.1 hP 0 rfl rfl 4 (by decide) hf_22 (fun _ h9 => h9) rfl dX8_after_1 ?_
  refine lv_iload_n hx hb dX8_after_4 rfl (lv_at hl 1 rfl) ?_
  obtain ⟨hg, h⟩ := gd_of h
  refine va_iald hx hb hK.1 hP 9 0 rfl rfl hg dX8_after_5 ?_
  refine lv_topi (fun x1 ex1 => ?_)
  replace h := lt_at ex1 h
  refine lv_istore_n (lv' := [(2, .int x1), (0, .ref q_), (1, .int a1)]) hx hb dX8_after_6 rfl hl (by decide) rfl (fun ls hl => ?_)
  refine lv_aload_n hx hb dX8_after_7 rfl (lv_at hl 1 rfl) ?_
  refine va_get (D := D) (ci := 8) (v := .ref q_to) (C := RX8) (T := TX8) (N := 11) hx hb hts hi_X8 hown hK.1 hP 0 rfl rfl 3 (by decide) hf_19 (fun _ h9 => h9) rfl dX8_after_8 ?_
  refine lv_iload_n hx hb dX8_after_11 rfl (lv_at hl 2 rfl) ?_
  obtain ⟨hg, h⟩ := gd_of h
  refine va_iald hx hb hK.1 hP 8 0 rfl rfl hg dX8_after_12 ?_
  refine lv_topi (fun x2 ex2 => ?_)
  replace h := lt_at ex2 h
  refine lv_istore_n (lv' := [(3, .int x2), (2, .int x1), (0, .ref q_), (1, .int a1)]) hx hb dX8_after_13 rfl hl (by decide) rfl (fun ls hl => ?_)
  refine lv_iload_n hx hb dX8_after_14 rfl (lv_at hl 1 rfl) ?_
  refine lv_istore (lv' := [(4, .int x1), (3, .int x2), (2, .int x1), (0, .ref q_), (1, .int a1)]) hx hb dX8_after_15 hl (by decide) rfl (fun ls hl => ?_)
  refine lv_aload_n hx hb dX8_after_17 rfl (lv_at hl 3 rfl) ?_
  refine va_get (D := D) (ci := 8) (v := .ref q_first) (C := RX8) (T := TX8) (N := 11) hx hb hts hi_X8 hown hK.1 hP 0 rfl rfl 6 (by decide) hf_29 (fun _ h9 => h9) rfl dX8_after_18 ?_
  refine lv_iload_n hx hb dX8_after_21 rfl (lv_at hl 1 rfl) ?_
  obtain ⟨hg, h⟩ := gd_of h
  refine va_iald hx hb hK.1 hP 2 0 rfl rfl hg dX8_after_22 ?_
  refine lv_topi (fun x3 ex3 => ?_)
  replace h := lt_at ex3 h
  refine lv_istore (lv' := [(5, .int x3), (4, .int x1), (3, .int x2), (2, .int x1), (0, .ref q_), (1, .int a1)]) hx hb dX8_after_23 hl (by decide) rfl (fun ls hl => ?_)
  obtain ⟨⟨k, t⟩, hi, h⟩ := ob_of h
  refine iter_rule (P := fun (k : Nat) (t : Int32 × Int32) => ∀ (H : Heap) (locs : List Loc) (ls : Array Slot), va_P D vwCl [(q_, .inr (8, [.ref q_joints, .int s_steps, .ref q_from, .ref q_to, .ref q_twin, .ref q_firm, .ref q_first, .ref q_firmEnds, .ref q_reached, .ref q_nextLow, .ref q_nextHigh])), (q_firm, .inl (ky 2, 768, .inl s_firm)), (q_first, .inl (ky 0, 129, .inl s_first)), (q_from, .inl (ky 0, 768, .inl s_from)), (q_joints, .inr (4, [.int s_joints_total, .ref q_joints_x, .ref q_joints_y, .ref q_joints_under])), (q_joints_under, .inl (ky 0, 129, .inl s_joints_under)), (q_joints_x, .inl (ky 0, 129, .inl s_joints_x)), (q_joints_y, .inl (ky 0, 129, .inl s_joints_y)), (q_to, .inl (ky 0, 768, .inl s_to)), (q_twin, .inl (ky 0, 768, .inl s_twin))] H → va_D A [(q_, .inr (8, [.ref q_joints, .int s_steps, .ref q_from, .ref q_to, .ref q_twin, .ref q_firm, .ref q_first, .ref q_firmEnds, .ref q_reached, .ref q_nextLow, .ref q_nextHigh])), (q_firm, .inl (ky 2, 768, .inl s_firm)), (q_first, .inl (ky 0, 129, .inl s_first)), (q_from, .inl (ky 0, 768, .inl s_from)), (q_joints, .inr (4, [.int s_joints_total, .ref q_joints_x, .ref q_joints_y, .ref q_joints_under])), (q_joints_under, .inl (ky 0, 129, .inl s_joints_under)), (q_joints_x, .inl (ky 0, 129, .inl s_joints_x)), (q_joints_y, .inl (ky 0, 129, .inl s_joints_y)), (q_to, .inl (ky 0, 768, .inl s_to)), (q_twin, .inl (ky 0, 768, .inl s_twin))] → va_S A s.heap H locs → lv_has ls 6 [(0, .ref q_), (2, .int x1), (3, .int x2), (4, .int t.1), (5, .int t.2)] → W p l e rmX8_after s m args below meth c H locs 0 0 Q (F0 m ([25, 82].getD k 0) ls [])) ?_ _ _ _ _ hi ?_ H locs ls hP hD hS (lv_sub hl [4, 3, 2, 1, 0] rfl)
  · clear h hi hP hD hS hl
    intro t k t' h K
    obtain ⟨v4, v5⟩ := t
    intro H locs ls hP hD hS hl
    replace h := dm2_of h
    replace hP : va_P D vwCl [(q_, .inr (8, [.ref q_joints, .int s_steps, .ref q_from, .ref q_to, .ref q_twin, .ref q_firm, .ref q_first, .ref q_firmEnds, .ref q_reached, .ref q_nextLow, .ref q_nextHigh])), (q_firm, .inl (ky 2, 768, .inl s_firm)), (q_first, .inl (ky 0, 129, .inl s_first)), (q_from, .inl (ky 0, 768, .inl s_from)), (q_joints, .inr (4, [.int s_joints_total, .ref q_joints_x, .ref q_joints_y, .ref q_joints_under])), (q_joints_under, .inl (ky 0, 129, .inl s_joints_under)), (q_joints_x, .inl (ky 0, 129, .inl s_joints_x)), (q_joints_y, .inl (ky 0, 129, .inl s_joints_y)), (q_to, .inl (ky 0, 768, .inl s_to)), (q_twin, .inl (ky 0, 768, .inl s_twin))] H := hP
    replace hD : va_D A [(q_, .inr (8, [.ref q_joints, .int s_steps, .ref q_from, .ref q_to, .ref q_twin, .ref q_firm, .ref q_first, .ref q_firmEnds, .ref q_reached, .ref q_nextLow, .ref q_nextHigh])), (q_firm, .inl (ky 2, 768, .inl s_firm)), (q_first, .inl (ky 0, 129, .inl s_first)), (q_from, .inl (ky 0, 768, .inl s_from)), (q_joints, .inr (4, [.int s_joints_total, .ref q_joints_x, .ref q_joints_y, .ref q_joints_under])), (q_joints_under, .inl (ky 0, 129, .inl s_joints_under)), (q_joints_x, .inl (ky 0, 129, .inl s_joints_x)), (q_joints_y, .inl (ky 0, 129, .inl s_joints_y)), (q_to, .inl (ky 0, 768, .inl s_to)), (q_twin, .inl (ky 0, 768, .inl s_twin))] := hD
    replace hl : lv_has ls 6 [(0, .ref q_), (2, .int x1), (3, .int x2), (4, .int v4), (5, .int v5)] := hl
    refine lv_iload hx hb dX8_after_25 (lv_at hl 4 rfl) ?_
    refine lv_aload_n hx hb dX8_after_27 rfl (lv_at hl 0 rfl) ?_
    refine va_get (D := D) (ci := 8) (v := .ref q_first) (C := RX8) (T := TX8) (N := 11) hx hb hts hi_X8 hown hK.1 hP 0 rfl rfl 6 (by decide) hf_29 (fun _ h9 => h9) rfl dX8_after_28 ?_
    refine lv_iload_n hx hb dX8_after_31 rfl (lv_at hl 2 rfl) ?_
    refine lv_iconst (v := 1) hx hb dX8_after_32 (by decide) ?_
    refine lv_iadd hx hb dX8_after_33 ?_
    obtain ⟨hg, h⟩ := gd_of h
    refine va_iald hx hb hK.1 hP 2 0 rfl rfl hg dX8_after_34 ?_
    refine lv_icmp_ge (tgt := 82) hx hb dX8_after_35 (by decide) (fun hc => ?_) (fun hc => ?_)
    · replace h := if_t hc h
      cases h
      exact K _ _ _ hP hD hS (lv_sub hl [0, 1, 2, 3, 4] rfl)
    · replace h := if_f hc h
      refine lv_aload_n hx hb dX8_after_38 rfl (lv_at hl 0 rfl) ?_
      refine va_get (D := D) (ci := 8) (v := .ref q_firm) (C := RX8) (T := TX8) (N := 11) hx hb hts hi_X8 hown hK.1 hP 0 rfl rfl 5 (by decide) hf_25 (fun _ h9 => h9) rfl dX8_after_39 ?_
      refine lv_iload hx hb dX8_after_42 (lv_at hl 4 rfl) ?_
      obtain ⟨hg, h⟩ := gd_of h
      refine va_zald hx hb hK.1 hP 1 2 rfl rfl hg dX8_after_44 ?_
      obtain ⟨t, hd, h⟩ := ob_of h
      have K : ∀ (H : Heap) (locs : List Loc) (ls : Array Slot), va_P D vwCl [(q_, .inr (8, [.ref q_joints, .int s_steps, .ref q_from, .ref q_to, .ref q_twin, .ref q_firm, .ref q_first, .ref q_firmEnds, .ref q_reached, .ref q_nextLow, .ref q_nextHigh])), (q_firm, .inl (ky 2, 768, .inl s_firm)), (q_first, .inl (ky 0, 129, .inl s_first)), (q_from, .inl (ky 0, 768, .inl s_from)), (q_joints, .inr (4, [.int s_joints_total, .ref q_joints_x, .ref q_joints_y, .ref q_joints_under])), (q_joints_under, .inl (ky 0, 129, .inl s_joints_under)), (q_joints_x, .inl (ky 0, 129, .inl s_joints_x)), (q_joints_y, .inl (ky 0, 129, .inl s_joints_y)), (q_to, .inl (ky 0, 768, .inl s_to)), (q_twin, .inl (ky 0, 768, .inl s_twin))] H → va_D A [(q_, .inr (8, [.ref q_joints, .int s_steps, .ref q_from, .ref q_to, .ref q_twin, .ref q_firm, .ref q_first, .ref q_firmEnds, .ref q_reached, .ref q_nextLow, .ref q_nextHigh])), (q_firm, .inl (ky 2, 768, .inl s_firm)), (q_first, .inl (ky 0, 129, .inl s_first)), (q_from, .inl (ky 0, 768, .inl s_from)), (q_joints, .inr (4, [.int s_joints_total, .ref q_joints_x, .ref q_joints_y, .ref q_joints_under])), (q_joints_under, .inl (ky 0, 129, .inl s_joints_under)), (q_joints_x, .inl (ky 0, 129, .inl s_joints_x)), (q_joints_y, .inl (ky 0, 129, .inl s_joints_y)), (q_to, .inl (ky 0, 768, .inl s_to)), (q_twin, .inl (ky 0, 768, .inl s_twin))] → va_S A s.heap H locs → lv_has ls 6 [(0, .ref q_), (2, .int x1), (3, .int x2), (4, .int t), (5, .int v5)] → W p l e rmX8_after s m args below meth c H locs 0 0 Q (F0 m 76 ls []) := by
        clear hd hP hD hS hl
        obtain ⟨v6, rfl⟩ : ∃ z, z = t := ⟨_, rfl⟩
        replace h := dm1_of h
        intro H locs ls hP hD hS hl
        replace hP : va_P D vwCl [(q_, .inr (8, [.ref q_joints, .int s_steps, .ref q_from, .ref q_to, .ref q_twin, .ref q_firm, .ref q_first, .ref q_firmEnds, .ref q_reached, .ref q_nextLow, .ref q_nextHigh])), (q_firm, .inl (ky 2, 768, .inl s_firm)), (q_first, .inl (ky 0, 129, .inl s_first)), (q_from, .inl (ky 0, 768, .inl s_from)), (q_joints, .inr (4, [.int s_joints_total, .ref q_joints_x, .ref q_joints_y, .ref q_joints_under])), (q_joints_under, .inl (ky 0, 129, .inl s_joints_under)), (q_joints_x, .inl (ky 0, 129, .inl s_joints_x)), (q_joints_y, .inl (ky 0, 129, .inl s_joints_y)), (q_to, .inl (ky 0, 768, .inl s_to)), (q_twin, .inl (ky 0, 768, .inl s_twin))] H := hP
        replace hD : va_D A [(q_, .inr (8, [.ref q_joints, .int s_steps, .ref q_from, .ref q_to, .ref q_twin, .ref q_firm, .ref q_first, .ref q_firmEnds, .ref q_reached, .ref q_nextLow, .ref q_nextHigh])), (q_firm, .inl (ky 2, 768, .inl s_firm)), (q_first, .inl (ky 0, 129, .inl s_first)), (q_from, .inl (ky 0, 768, .inl s_from)), (q_joints, .inr (4, [.int s_joints_total, .ref q_joints_x, .ref q_joints_y, .ref q_joints_under])), (q_joints_under, .inl (ky 0, 129, .inl s_joints_under)), (q_joints_x, .inl (ky 0, 129, .inl s_joints_x)), (q_joints_y, .inl (ky 0, 129, .inl s_joints_y)), (q_to, .inl (ky 0, 768, .inl s_to)), (q_twin, .inl (ky 0, 768, .inl s_twin))] := hD
        replace hl : lv_has ls 6 [(0, .ref q_), (2, .int x1), (3, .int x2), (4, .int v6), (5, .int v5)] := hl
        refine W.eq (g2 := F0 m 76 ls []) rfl ?_
        obtain ⟨x7, ex7⟩ : ∃ z : Int32, z = v5 + 1 := ⟨_, rfl⟩
        replace h := lt_at ex7 h
        refine lv_iinc (v := x7) (lv' := [(5, .int x7), (0, .ref q_), (2, .int x1), (3, .int x2), (4, .int v6)]) hx hb dX8_after_76 hl (k := 4) rfl (by rw [ex7]; rfl) (by decide) rfl (fun ls hl => ?_)
        refine lv_goto (tgt := 25) hx hb dX8_after_79 (by decide) ?_
        cases h
        exact K _ _ _ hP hD hS (lv_sub hl [1, 2, 3, 4, 0] rfl)
      replace h := hd
      clear hd
      refine lv_if_eq (tgt := 76) hx hb dX8_after_45 (by decide) (fun hc => ?_) (fun hc => ?_)
      · replace h := if_t hc h
        cases h
        exact K _ _ _ hP hD hS (lv_sub hl [0, 1, 2, 3, 4] rfl)
      · replace h := if_f hc h
        refine lv_iload hx hb dX8_after_48 (lv_at hl 4 rfl) ?_
        refine lv_iload_n hx hb dX8_after_50 rfl (lv_at hl 1 rfl) ?_
        refine lv_icmp_eq (tgt := 76) hx hb dX8_after_51 (by decide) (fun hc => ?_) (fun hc => ?_)
        · replace h := if_t hc h
          cases h
          exact K _ _ _ hP hD hS (lv_sub hl [0, 1, 2, 3, 4] rfl)
        · replace h := if_f hc h
          refine lv_iload hx hb dX8_after_54 (lv_at hl 3 rfl) ?_
          refine lv_iload_n hx hb dX8_after_56 rfl (lv_at hl 1 rfl) ?_
          refine lv_icmp_eq (tgt := 72) hx hb dX8_after_57 (by decide) (fun hc => ?_) (fun hc => ?_)
          · replace h := if_t hc h
            refine lv_iload hx hb dX8_after_72 (lv_at hl 4 rfl) ?_
            refine lv_istore (lv' := [(4, .int v5), (0, .ref q_), (2, .int x1), (3, .int x2), (5, .int v5)]) hx hb dX8_after_74 hl (by decide) rfl (fun ls hl => ?_)
            cases h
            exact K _ _ _ hP hD hS (lv_sub hl [1, 2, 3, 0, 4] rfl)
          · replace h := if_f hc h
            refine lv_aload_n hx hb dX8_after_60 rfl (lv_at hl 0 rfl) ?_
            refine lv_iload_n hx hb dX8_after_61 rfl (lv_at hl 1 rfl) ?_
            refine lv_iload hx hb dX8_after_62 (lv_at hl 4 rfl) ?_
            refine lv_iload hx hb dX8_after_64 (lv_at hl 3 rfl) ?_
            obtain ⟨r8, hc, h⟩ := ob_of h
            replace h := dm1_of h
            refine cv_i (As := [.int x1, .int v5, .int v4]) (rest := []) (wr := [(q_firm, .inl (ky 2, 768, .inl s_firm)), (q_first, .inl (ky 0, 129, .inl s_first)), (q_twin, .inl (ky 0, 768, .inl s_twin))]) (wn := [(q_, .inr (8, [.ref q_joints, .int s_steps, .ref q_from, .ref q_to, .ref q_twin, .ref q_firm, .ref q_first, .ref q_firmEnds, .ref q_reached, .ref q_nextLow, .ref q_nextHigh])), (q_firm, .inl (ky 2, 768, .inl s_firm)), (q_first, .inl (ky 0, 129, .inl s_first)), (q_from, .inl (ky 0, 768, .inl s_from)), (q_joints, .inr (4, [.int s_joints_total, .ref q_joints_x, .ref q_joints_y, .ref q_joints_under])), (q_joints_under, .inl (ky 0, 129, .inl s_joints_under)), (q_joints_x, .inl (ky 0, 129, .inl s_joints_x)), (q_joints_y, .inl (ky 0, 129, .inl s_joints_y)), (q_to, .inl (ky 0, 768, .inl s_to)), (q_twin, .inl (ky 0, 768, .inl s_twin))]) ⟨hx, hb, hml, hown, hts⟩ (c_X8_comesSooner l D ky q_ q_joints q_from q_to q_twin q_firm q_first q_firmEnds q_reached q_nextLow q_nextHigh q_joints_x q_joints_y q_joints_under x1 v5 v4 s_steps s_from s_joints_total s_joints_under s_joints_x s_joints_y s_to hc) (cwV 3 hts gX8_after_X8_comesSooner rfl rfl rfl (by decide +kernel) ⟨Nat.le_of_ble_eq_true rfl, Nat.le_of_ble_eq_true rfl⟩) (rcv hK.1 hP (q0 := 0) rfl rfl) hP hD hK hS hA [0, 3, 4, 5, 6, 7, 8] [1, 2, 9] [3, 0, 1, 4, 5, 6, 7, 8, 9, 2] rfl (by decide +kernel) rfl (by decide +kernel) (by decide +kernel) (by decide +kernel) rfl rfl rfl hl.1 (Nat.le_of_ble_eq_true rfl) dX8_after_66 ⟨Nat.le_of_ble_eq_true rfl, Nat.le_of_ble_eq_true rfl⟩ (fun H locs hP hD hS => ?_)
            refine lv_if_eq (tgt := 76) hx hb dX8_after_69 (by decide) (fun hc => ?_) (fun hc => ?_)
            · replace h := if_t hc h
              cases h
              exact K _ _ _ hP hD hS (lv_sub hl [0, 1, 2, 3, 4] rfl)
            · replace h := if_f hc h
              refine lv_iload hx hb dX8_after_72 (lv_at hl 4 rfl) ?_
              refine lv_istore (lv' := [(4, .int v5), (0, .ref q_), (2, .int x1), (3, .int x2), (5, .int v5)]) hx hb dX8_after_74 hl (by decide) rfl (fun ls hl => ?_)
              cases h
              exact K _ _ _ hP hD hS (lv_sub hl [1, 2, 3, 0, 4] rfl)
  · have h1 := ex1_of h
    clear h hi
    rcases h1 with ⟨rfl, h⟩
    obtain ⟨v9, v10⟩ := t
    replace h := dm2_of h
    intro H locs ls hP hD hS hl
    replace hP : va_P D vwCl [(q_, .inr (8, [.ref q_joints, .int s_steps, .ref q_from, .ref q_to, .ref q_twin, .ref q_firm, .ref q_first, .ref q_firmEnds, .ref q_reached, .ref q_nextLow, .ref q_nextHigh])), (q_firm, .inl (ky 2, 768, .inl s_firm)), (q_first, .inl (ky 0, 129, .inl s_first)), (q_from, .inl (ky 0, 768, .inl s_from)), (q_joints, .inr (4, [.int s_joints_total, .ref q_joints_x, .ref q_joints_y, .ref q_joints_under])), (q_joints_under, .inl (ky 0, 129, .inl s_joints_under)), (q_joints_x, .inl (ky 0, 129, .inl s_joints_x)), (q_joints_y, .inl (ky 0, 129, .inl s_joints_y)), (q_to, .inl (ky 0, 768, .inl s_to)), (q_twin, .inl (ky 0, 768, .inl s_twin))] H := hP
    replace hD : va_D A [(q_, .inr (8, [.ref q_joints, .int s_steps, .ref q_from, .ref q_to, .ref q_twin, .ref q_firm, .ref q_first, .ref q_firmEnds, .ref q_reached, .ref q_nextLow, .ref q_nextHigh])), (q_firm, .inl (ky 2, 768, .inl s_firm)), (q_first, .inl (ky 0, 129, .inl s_first)), (q_from, .inl (ky 0, 768, .inl s_from)), (q_joints, .inr (4, [.int s_joints_total, .ref q_joints_x, .ref q_joints_y, .ref q_joints_under])), (q_joints_under, .inl (ky 0, 129, .inl s_joints_under)), (q_joints_x, .inl (ky 0, 129, .inl s_joints_x)), (q_joints_y, .inl (ky 0, 129, .inl s_joints_y)), (q_to, .inl (ky 0, 768, .inl s_to)), (q_twin, .inl (ky 0, 768, .inl s_twin))] := hD
    replace hl : lv_has ls 6 [(0, .ref q_), (2, .int x1), (3, .int x2), (4, .int v9), (5, .int v10)] := hl
    refine W.eq (g2 := F0 m 82 ls []) rfl ?_
    refine lv_iload hx hb dX8_after_82 (lv_at hl 3 rfl) ?_
    cases h
    exact ret _ _ _ _ dX8_after_84 hP hD hS

