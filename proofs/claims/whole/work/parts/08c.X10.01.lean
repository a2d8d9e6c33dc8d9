def sX10_line (a1 : Int32) (a2 : Int32) (a3 : Int32) (a4 : Int32) (a5 : Int32) (s_ax : Nat → Int32) (s_ay : Nat → Int32) (s_bx : Nat → Int32) (s_by : Nat → Int32) : Option ((Nat → Int32) × (Nat → Int32) × (Nat → Int32) × (Nat → Int32)) := gd (¬ (a1 < 0 ∨ 18 ≤ a1.toNatClampNeg)) (lt (upd s_ax a1.toNatClampNeg a2) (fun f1 => gd (¬ (a1 < 0 ∨ 18 ≤ a1.toNatClampNeg)) (lt (upd s_ay a1.toNatClampNeg a3) (fun f2 => gd (¬ (a1 < 0 ∨ 18 ≤ a1.toNatClampNeg)) (lt (upd s_bx a1.toNatClampNeg a4) (fun f3 => gd (¬ (a1 < 0 ∨ 18 ≤ a1.toNatClampNeg)) (lt (upd s_by a1.toNatClampNeg a5) (fun f4 => some (f1, f2, f3, f4)))))))))
abbrev rmX10_line : Room := { frames := 0, cells := 0, slots := 0, locals := 0 }
set_option maxHeartbeats 4000000 in
set_option maxRecDepth 100000 in
theorem c_X10_line (l : Launch) (D : va_G) (ky : Nat → ClassId) (q_ q_ax q_ay q_bx q_by q_x q_y q_d q_from q_to q_firm : Nat) (a1 : Int32) (a2 : Int32) (a3 : Int32) (a4 : Int32) (a5 : Int32) (s_w : Int32) (s_h : Int32) (s_leads : Int32) (s_lines : Int32) (s_joints : Int32) (s_pieces : Int32) (s_ax : Nat → Int32) (s_ay : Nat → Int32) (s_bx : Nat → Int32) (s_by : Nat → Int32) {o_ax : Nat → Int32} {o_ay : Nat → Int32} {o_bx : Nat → Int32} {o_by : Nat → Int32} (h : sX10_line a1 a2 a3 a4 a5 s_ax s_ay s_bx s_by = some (o_ax, o_ay, o_bx, o_by)) : MtV l D ky yX10_line wsX10_line rmX10_line [.ref q_, .int a1, .int a2, .int a3, .int a4, .int a5] [(q_, .inr (10, [.int s_w, .int s_h, .int s_leads, .int s_lines, .ref q_ax, .ref q_ay, .ref q_bx, .ref q_by, .int s_joints, .ref q_x, .ref q_y, .ref q_d, .int s_pieces, .ref q_from, .ref q_to, .ref q_firm])), (q_ax, .inl (ky 0, 18, .inl s_ax)), (q_ay, .inl (ky 0, 18, .inl s_ay)), (q_bx, .inl (ky 0, 18, .inl s_bx)), (q_by, .inl (ky 0, 18, .inl s_by))] [(q_, .inr (10, [.int s_w, .int s_h, .int s_leads, .int s_lines, .ref q_ax, .ref q_ay, .ref q_bx, .ref q_by, .int s_joints, .ref q_x, .ref q_y, .ref q_d, .int s_pieces, .ref q_from, .ref q_to, .ref q_firm])), (q_ax, .inl (ky 0, 18, .inl o_ax)), (q_ay, .inl (ky 0, 18, .inl o_ay)), (q_bx, .inl (ky 0, 18, .inl o_bx)), (q_by, .inl (ky 0, 18, .inl o_by))] 0 0 := by
  refine MtV.of (cc := cX10_line) (maxL := 6) (by decide +kernel) rfl (Nat.le_of_ble_eq_true rfl) ?_
  intro p e R s m args below meth c A Q ls hR hx hb hts hown hnm hml hP hK hD hA ret hl
  have rt := rtV (dc := fun pc => decode cX10_line pc = .ok (.return_, 1)) (o_ax, o_ay, o_bx, o_by) (fun t => [(q_, .inr (10, [.int s_w, .int s_h, .int s_leads, .int s_lines, .ref q_ax, .ref q_ay, .ref q_bx, .ref q_by, .int s_joints, .ref q_x, .ref q_y, .ref q_d, .int s_pieces, .ref q_from, .ref q_to, .ref q_firm])), (q_ax, .inl (ky 0, 18, .inl t.1)), (q_ay, .inl (ky 0, 18, .inl t.2.1)), (q_bx, .inl (ky 0, 18, .inl t.2.2.1)), (q_by, .inl (ky 0, 18, .inl t.2.2.2))]) ret
  subst hR
  obtain ⟨H, hH⟩ : ∃ H, H = s.heap := ⟨_, rfl⟩
  obtain ⟨locs, hlocs⟩ : ∃ locs : List Loc, locs = [] := ⟨_, rfl⟩
  have hS : va_S A s.heap H locs := by rw [hH, hlocs]; exact va_S.rf
  rw [← hH] at hP
  suffices hgo : W p l e rmX10_line s m args below meth c H locs 0 0 Q (F0 m 0 ls []) by rw [hH, hlocs] at hgo; exact hgo
  clear hH hlocs
  replace hl : lv_has ls 6 [(0, .ref q_), (1, .int a1), (2, .int a2), (3, .int a3), (4, .int a4), (5, .int a5)] := hl
  replace hown : s.vm.findClass RX10 = some m.cls := hown
  have hi_X10 : ∀ w ∈ u_ws RX10 TX10 16, w ∈ wsX10_line := fun _ h9 => List.mem_cons_of_mem _ (List.mem_append_right _ h9)
  have hf_9 := hts (.fieldLink RX10 9 "GlazierBenchModel$Drawing" "ax" "[I") (by decide +kernel)
  have hf_15 := hts (.fieldLink RX10 15 "GlazierBenchModel$Drawing" "ay" "[I") (by decide +kernel)
  have hf_18 := hts (.fieldLink RX10 18 "GlazierBenchModel$Drawing" "bx" "[I") (by decide +kernel)
  have hf_21 := hts (.fieldLink RX10 21 "GlazierBenchModel$Drawing" "by" "[I") (by decide +kernel)
  unfold sX10_line at h
  refine lv_aload_n hx hb dX10_line_0 rfl (lv_at hl 0 rfl) ?_
  refine va_get (D := D) (ci := 10) (v := .ref q_ax) (C := RX10) (T := TX10) (N := 16) hx hb hts hi_X10 hown hK.1 hP 0 rfl rfl 4 (by decide) hf_9 (fun _ h9 => h9) rfl dX10_line_1 ?_
  refine lv_iload_n hx hb dX10_line_4 rfl (lv_at hl 1 rfl) ?_
  refine lv_iload_n hx hb dX10_line_5 rfl (lv_at hl 2 rfl) ?_
  obtain ⟨hg, h⟩ := gd_of h
  refine r_iast hx hb hK.1 hP hD hS 1 0 rfl rfl hg dX10_line_6 (fun f1 ef1 H locs hP hD hS => ?_)
  replace h := lt_at ef1 h
  replace hP : va_P D vwCl [(q_, .inr (10, [.int s_w, .int s_h, .int s_leads, .int s_lines, .ref q_ax, .ref q_ay, .ref q_bx, .ref q_by, .int s_joints, .ref q_x, .ref q_y, .ref q_d, .int s_pieces, .ref q_from, .ref q_to, .ref q_firm])), (q_ax, .inl (ky 0, 18, .inl f1)), (q_ay, .inl (ky 0, 18, .inl s_ay)), (q_bx, .inl (ky 0, 18, .inl s_bx)), (q_by, .inl (ky 0, 18, .inl s_by))] H := hP
  replace hD : va_D A [(q_, .inr (10, [.int s_w, .int s_h, .int s_leads, .int s_lines, .ref q_ax, .ref q_ay, .ref q_bx, .ref q_by, .int s_joints, .ref q_x, .ref q_y, .ref q_d, .int s_pieces, .ref q_from, .ref q_to, .ref q_firm])), (q_ax, .inl (ky 0, 18, .inl f1)), (q_ay, .inl (ky 0, 18, .inl s_ay)), (q_bx, .inl (ky 0, 18, .inl s_bx)), (q_by, .inl (ky 0, 18, .inl s_by))] := hD
  refine lv_aload_n hx hb dX10_line_7 rfl (lv_at hl 0 rfl) ?_
  refine va_get (D := D) (ci := 10) (v := .ref q_ay) (C := RX10) (T := TX10) (N := 16) hx hb hts hi_X10 hown hK.1 hP 0 rfl rfl 5 (by decide) hf_15 (fun _ h9 => h9) rfl dX10_line_8 ?_
  refine lv_iload_n hx hb dX10_line_11 rfl (lv_at hl 1 rfl) ?_
  refine lv_iload_n hx hb dX10_line_12 rfl (lv_at hl 3 rfl) ?_
  obtain ⟨hg, h⟩ := gd_of h
  refine r_iast hx hb hK.1 hP hD hS 2 0 rfl rfl hg dX10_line_13 (fun f2 ef2 H locs hP hD hS => ?_)
  replace h := lt_at ef2 h
  replace hP : va_P D vwCl [(q_, .inr (10, [.int s_w, .int s_h, .int s_leads, .int s_lines, .ref q_ax, .ref q_ay, .ref q_bx, .ref q_by, .int s_joints, .ref q_x, .ref q_y, .ref q_d, .int s_pieces, .ref q_from, .ref q_to, .ref q_firm])), (q_ax, .inl (ky 0, 18, .inl f1)), (q_ay, .inl (ky 0, 18, .inl f2)), (q_bx, .inl (ky 0, 18, .inl s_bx)), (q_by, .inl (ky 0, 18, .inl s_by))] H := hP
  replace hD : va_D A [(q_, .inr (10, [.int s_w, .int s_h, .int s_leads, .int s_lines, .ref q_ax, .ref q_ay, .ref q_bx, .ref q_by, .int s_joints, .ref q_x, .ref q_y, .ref q_d, .int s_pieces, .ref q_from, .ref q_to, .ref q_firm])), (q_ax, .inl (ky 0, 18, .inl f1)), (q_ay, .inl (ky 0, 18, .inl f2)), (q_bx, .inl (ky 0, 18, .inl s_bx)), (q_by, .inl (ky 0, 18, .inl s_by))] := hD
  refine lv_aload_n hx hb dX10_line_14 rfl (lv_at hl 0 rfl) ?_
  refine va_get (D := D) (ci := 10) (v := .ref q_bx) (C := RX10) (T := TX10) (N := 16) hx hb hts hi_X10 hown hK.1 hP 0 rfl rfl 6 (by decide) hf_18 (fun _ h9 => h9) rfl dX10_line_15 ?_
  refine lv_iload_n hx hb dX10_line_18 rfl (lv_at hl 1 rfl) ?_
  refine lv_iload hx hb dX10_line_19 (lv_at hl 4 rfl) ?_
  obtain ⟨hg, h⟩ := gd_of h
  refine r_iast hx hb hK.1 hP hD hS 3 0 rfl rfl hg dX10_line_21 (fun f3 ef3 H locs hP hD hS => ?_)
  replace h := lt_at ef3 h
  replace hP : va_P D vwCl [(q_, .inr (10, [.int s_w, .int s_h, .int s_leads, .int s_lines, .ref q_ax, .ref q_ay, .ref q_bx, .ref q_by, .int s_joints, .ref q_x, .ref q_y, .ref q_d, .int s_pieces, .ref q_from, .ref q_to, .ref q_firm])), (q_ax, .inl (ky 0, 18, .inl f1)), (q_ay, .inl (ky 0, 18, .inl f2)), (q_bx, .inl (ky 0, 18, .inl f3)), (q_by, .inl (ky 0, 18, .inl s_by))] H := hP
  replace hD : va_D A [(q_, .inr (10, [.int s_w, .int s_h, .int s_leads, .int s_lines, .ref q_ax, .ref q_ay, .ref q_bx, .ref q_by, .int s_joints, .ref q_x, .ref q_y, .ref q_d, .int s_pieces, .ref q_from, .ref q_to, .ref q_firm])), (q_ax, .inl (ky 0, 18, .inl f1)), (q_ay, .inl (ky 0, 18, .inl f2)), (q_bx, .inl (ky 0, 18, .inl f3)), (q_by, .inl (ky 0, 18, .inl s_by))] := hD
  refine lv_aload_n hx hb dX10_line_22 rfl (lv_at hl 0 rfl) ?_
  refine va_get (D := D) (ci := 10) (v := .ref q_by) (C := RX10) (T := TX10) (N := 16) hx hb hts hi_X10 hown hK.1 hP 0 rfl rfl 7 (by decide) hf_21 (fun _ h9 => h9) rfl dX10_line_23 ?_
  refine lv_iload_n hx hb dX10_line_26 rfl (lv_at hl 1 rfl) ?_
  refine lv_iload hx hb dX10_line_27 (lv_at hl 5 rfl) ?_
  obtain ⟨hg, h⟩ := gd_of h
  refine r_iast hx hb hK.1 hP hD hS 4 0 rfl rfl hg dX10_line_29 (fun f4 ef4 H locs hP hD hS => ?_)
  replace h := lt_at ef4 h
  replace hP : va_P D vwCl [(q_, .inr (10, [.int s_w, .int s_h, .int s_leads, .int s_lines, .ref q_ax, .ref q_ay, .ref q_bx, .ref q_by, .int s_joints, .ref q_x, .ref q_y, .ref q_d, .int s_pieces, .ref q_from, .ref q_to, .ref q_firm])), (q_ax, .inl (ky 0, 18, .inl f1)), (q_ay, .inl (ky 0, 18, .inl f2)), (q_bx, .inl (ky 0, 18, .inl f3)), (q_by, .inl (ky 0, 18, .inl f4))] H := hP
  replace hD : va_D A [(q_, .inr (10, [.int s_w, .int s_h, .int s_leads, .int s_lines, .ref q_ax, .ref q_ay, .ref q_bx, .ref q_by, .int s_joints, .ref q_x, .ref q_y, .ref q_d, .int s_pieces, .ref q_from, .ref q_to, .ref q_firm])), (q_ax, .inl (ky 0, 18, .inl f1)), (q_ay, .inl (ky 0, 18, .inl f2)), (q_bx, .inl (ky 0, 18, .inl f3)), (q_by, .inl (ky 0, 18, .inl f4))] := hD
  exact rt _ h _ _ _ _ dX10_line_30 hP hD hS

def bX10_take_26 (s_a1_leads : Int32) (s_a1_ax : Nat → Int32) (s_a1_ay : Nat → Int32) (s_a1_bx : Nat → Int32) (s_a1_by : Nat → Int32) (t : Int32 × (Nat → Int32) × (Nat → Int32) × (Nat → Int32) × (Nat → Int32)) : Option (Nat × (Int32 × (Nat → Int32) × (Nat → Int32) × (Nat → Int32) × (Nat → Int32))) := dm5 t (fun (v1 : Int32) (v2 : Nat → Int32) (v3 : Nat → Int32) (v4 : Nat → Int32) (v5 : Nat → Int32) => if s_a1_leads ≤ v1 then some (1, (v1, v2, v3, v4, v5)) else gd (¬ (v1 < 0 ∨ 18 ≤ v1.toNatClampNeg)) (gd (¬ (v1 < 0 ∨ 18 ≤ v1.toNatClampNeg)) (gd (¬ (v1 < 0 ∨ 18 ≤ v1.toNatClampNeg)) (gd (¬ (v1 < 0 ∨ 18 ≤ v1.toNatClampNeg)) (ob (sX10_line v1 (s_a1_ax v1.toNatClampNeg) (s_a1_ay v1.toNatClampNeg) (s_a1_bx v1.toNatClampNeg) (s_a1_by v1.toNatClampNeg) v2 v3 v4 v5) (fun o => dm4 o (fun (o6 : Nat → Int32) (o7 : Nat → Int32) (o8 : Nat → Int32) (o9 : Nat → Int32) => lt (v1 + 1) (fun x10 => some (0, (x10, o6, o7, o8, o9))))))))))
def sX10_take  (s_w : Int32) (s_h : Int32) (s_leads : Int32) (s_ax : Nat → Int32) (s_ay : Nat → Int32) (s_bx : Nat → Int32) (s_by : Nat → Int32) (s_a1_w : Int32) (s_a1_h : Int32) (s_a1_leads : Int32) (s_a1_ax : Nat → Int32) (s_a1_ay : Nat → Int32) (s_a1_bx : Nat → Int32) (s_a1_by : Nat → Int32) : Option (Int32 × Int32 × Int32 × (Nat → Int32) × (Nat → Int32) × (Nat → Int32) × (Nat → Int32)) := ob (iter (bX10_take_26 s_a1_leads s_a1_ax s_a1_ay s_a1_bx s_a1_by) FU ((0 : Int32), s_ax, s_ay, s_bx, s_by)) (fun kt => ex1 kt (fun t => dm5 t (fun (v11 : Int32) (v12 : Nat → Int32) (v13 : Nat → Int32) (v14 : Nat → Int32) (v15 : Nat → Int32) => some (s_a1_w, s_a1_h, s_a1_leads, v12, v13, v14, v15))))
abbrev rmX10_take : Room := { frames := 1, cells := 0, slots := 0, locals := 25 }
set_option maxHeartbeats 4000000 in
set_option maxRecDepth 100000 in
theorem c_X10_take (l : Launch) (D : va_G) (ky : Nat → ClassId) (q_ q_ax q_ay q_bx q_by q_x q_y q_d q_from q_to q_firm q_a1 q_a1_ax q_a1_ay q_a1_bx q_a1_by q_a1_x q_a1_y q_a1_d q_a1_from q_a1_to q_a1_firm : Nat) (s_w : Int32) (s_h : Int32) (s_leads : Int32) (s_lines : Int32) (s_joints : Int32) (s_pieces : Int32) (s_ax : Nat → Int32) (s_ay : Nat → Int32) (s_bx : Nat → Int32) (s_by : Nat → Int32) (s_a1_w : Int32) (s_a1_h : Int32) (s_a1_leads : Int32) (s_a1_lines : Int32) (s_a1_joints : Int32) (s_a1_pieces : Int32) (s_a1_ax : Nat → Int32) (s_a1_ay : Nat → Int32) (s_a1_bx : Nat → Int32) (s_a1_by : Nat → Int32) {o_w : Int32} {o_h : Int32} {o_leads : Int32} {o_ax : Nat → Int32} {o_ay : Nat → Int32} {o_bx : Nat → Int32} {o_by : Nat → Int32} (h : sX10_take s_w s_h s_leads s_ax s_ay s_bx s_by s_a1_w s_a1_h s_a1_leads s_a1_ax s_a1_ay s_a1_bx s_a1_by = some (o_w, o_h, o_leads, o_ax, o_ay, o_bx, o_by)) : MtV l D ky yX10_take wsX10_take rmX10_take [.ref q_, .ref q_a1] [(q_, .inr (10, [.int s_w, .int s_h, .int s_leads, .int s_lines, .ref q_ax, .ref q_ay, .ref q_bx, .ref q_by, .int s_joints, .ref q_x, .ref q_y, .ref q_d, .int s_pieces, .ref q_from, .ref q_to, .ref q_firm])), (q_ax, .inl (ky 0, 18, .inl s_ax)), (q_ay, .inl (ky 0, 18, .inl s_ay)), (q_bx, .inl (ky 0, 18, .inl s_bx)), (q_by, .inl (ky 0, 18, .inl s_by)), (q_a1, .inr (10, [.int s_a1_w, .int s_a1_h, .int s_a1_leads, .int s_a1_lines, .ref q_a1_ax, .ref q_a1_ay, .ref q_a1_bx, .ref q_a1_by, .int s_a1_joints, .ref q_a1_x, .ref q_a1_y, .ref q_a1_d, .int s_a1_pieces, .ref q_a1_from, .ref q_a1_to, .ref q_a1_firm])), (q_a1_ax, .inl (ky 0, 18, .inl s_a1_ax)), (q_a1_ay, .inl (ky 0, 18, .inl s_a1_ay)), (q_a1_bx, .inl (ky 0, 18, .inl s_a1_bx)), (q_a1_by, .inl (ky 0, 18, .inl s_a1_by))] [(q_, .inr (10, [.int o_w, .int o_h, .int o_leads, .int s_lines, .ref q_ax, .ref q_ay, .ref q_bx, .ref q_by, .int s_joints, .ref q_x, .ref q_y, .ref q_d, .int s_pieces, .ref q_from, .ref q_to, .ref q_firm])), (q_ax, .inl (ky 0, 18, .inl o_ax)), (q_ay, .inl (ky 0, 18, .inl o_ay)), (q_bx, .inl (ky 0, 18, .inl o_bx)), (q_by, .inl (ky 0, 18, .inl o_by)), (q_a1, .inr (10, [.int s_a1_w, .int s_a1_h, .int s_a1_leads, .int s_a1_lines, .ref q_a1_ax, .ref q_a1_ay, .ref q_a1_bx, .ref q_a1_by, .int s_a1_joints, .ref q_a1_x, .ref q_a1_y, .ref q_a1_d, .int s_a1_pieces, .ref q_a1_from, .ref q_a1_to, .ref q_a1_firm])), (q_a1_ax, .inl (ky 0, 18, .inl s_a1_ax)), (q_a1_ay, .inl (ky 0, 18, .inl s_a1_ay)), (q_a1_bx, .inl (ky 0, 18, .inl s_a1_bx)), (q_a1_by, .inl (ky 0, 18, .inl s_a1_by))] 0 0 := by
  refine MtV.of (cc := cX10_take) (maxL := 3) (by decide +kernel) rfl (Nat.le_of_ble_eq_true rfl) ?_
  intro p e R s m args below meth c A Q ls hR hx hb hts hown hnm hml hP hK hD hA ret hl
  have rt := rtV (dc := fun pc => decode cX10_take pc = .ok (.return_, 1)) (o_w, o_h, o_leads, o_ax, o_ay, o_bx, o_by) (fun t => [(q_, .inr (10, [.int t.1, .int t.2.1, .int t.2.2.1, .int s_lines, .ref q_ax, .ref q_ay, .ref q_bx, .ref q_by, .int s_joints, .ref q_x, .ref q_y, .ref q_d, .int s_pieces, .ref q_from, .ref q_to, .ref q_firm])), (q_ax, .inl (ky 0, 18, .inl t.2.2.2.1)), (q_ay, .inl (ky 0, 18, .inl t.2.2.2.2.1)), (q_bx, .inl (ky 0, 18, .inl t.2.2.2.2.2.1)), (q_by, .inl (ky 0, 18, .inl t.2.2.2.2.2.2)), (q_a1, .inr (10, [.int s_a1_w, .int s_a1_h, .int s_a1_leads, .int s_a1_lines, .ref q_a1_ax, .ref q_a1_ay, .ref q_a1_bx, .ref q_a1_by, .int s_a1_joints, .ref q_a1_x, .ref q_a1_y, .ref q_a1_d, .int s_a1_pieces, .ref q_a1_from, .ref q_a1_to, .ref q_a1_firm])), (q_a1_ax, .inl (ky 0, 18, .inl s_a1_ax)), (q_a1_ay, .inl (ky 0, 18, .inl s_a1_ay)), (q_a1_bx, .inl (ky 0, 18, .inl s_a1_bx)), (q_a1_by, .inl (ky 0, 18, .inl s_a1_by))]) ret
  subst hR
  obtain ⟨H, hH⟩ : ∃ H, H = s.heap := ⟨_, rfl⟩
  obtain ⟨locs, hlocs⟩ : ∃ locs : List Loc, locs = [] := ⟨_, rfl⟩
  have hS : va_S A s.heap H locs := by rw [hH, hlocs]; exact va_S.rf
  rw [← hH] at hP
  suffices hgo : W p l e rmX10_take s m args below meth c H locs 0 0 Q (F0 m 0 ls []) by rw [hH, hlocs] at hgo; exact hgo
  clear hH hlocs
  replace hl : lv_has ls 3 [(0, .ref q_), (1, .ref q_a1)] := hl
  replace hown : s.vm.findClass RX10 = some m.cls := hown
  have hi_X10 : ∀ w ∈ u_ws RX10 TX10 16, w ∈ wsX10_take := fun _ h9 => List.mem_cons_of_mem _ (List.mem_append_right _ h9)
  have hf_44 := hts (.fieldLink RX10 44 "GlazierBenchModel$Drawing" "w" "I") (by decide +kernel)
  have hf_48 := hts (.fieldLink RX10 48 "GlazierBenchModel$Drawing" "h" "I") (by decide +kernel)
  have hf_51 := hts (.fieldLink RX10 51 "GlazierBenchModel$Drawing" "leads" "I") (by decide +kernel)
  have hf_9 := hts (.fieldLink RX10 9 "GlazierBenchModel$Drawing" "ax" "[I") (by decide +kernel)
  have hf_15 := hts (.fieldLink RX10 15 "GlazierBenchModel$Drawing" "ay" "[I") (by decide +kernel)
  have hf_18 := hts (.fieldLink RX10 18 "GlazierBenchModel$Drawing" "bx" "[I") (by decide +kernel)
  have hf_21 := hts (.fieldLink RX10 21 "GlazierBenchModel$Drawing" "by" "[I") (by decide +kernel)
  unfold sX10_take at h
  refine lv_aload_n hx hb dX10_take_0 rfl (lv_at hl 0 rfl) ?_
  refine lv_aload_n hx hb dX10_take_1 rfl (lv_at hl 1 rfl) ?_
  refine va_get (D := D) (ci := 10) (v := .int s_a1_w) (C := RX10) (T := TX10) (N := 16) hx hb hts hi_X10 hown hK.1 hP 5 rfl rfl 0 (by decide) hf_44 (fun _ h9 => h9) rfl dX10_take_2 ?_
  refine va_put (D := D) (ci := 10) (v := .int s_a1_w) (ty := .int) (C := RX10) (T := TX10) (N := 16) hx hb hts hi_X10 tyX10 tyX10_ok nmX10 hown hK.1 hP hD hS 0 rfl rfl 0 (by decide) hf_44 (fun _ h9 => h9) rfl (by decide +kernel) rfl rfl (Nat.le_of_ble_eq_true rfl) dX10_take_5 (fun H locs hP hD hS => ?_)
  replace hP : va_P D vwCl [(q_, .inr (10, [.int s_a1_w, .int s_h, .int s_leads, .int s_lines, .ref q_ax, .ref q_ay, .ref q_bx, .ref q_by, .int s_joints, .ref q_x, .ref q_y, .ref q_d, .int s_pieces, .ref q_from, .ref q_to, .ref q_firm])), (q_ax, .inl (ky 0, 18, .inl s_ax)), (q_ay, .inl (ky 0, 18, .inl s_ay)), (q_bx, .inl (ky 0, 18, .inl s_bx)), (q_by, .inl (ky 0, 18, .inl s_by)), (q_a1, .inr (10, [.int s_a1_w, .int s_a1_h, .int s_a1_leads, .int s_a1_lines, .ref q_a1_ax, .ref q_a1_ay, .ref q_a1_bx, .ref q_a1_by, .int s_a1_joints, .ref q_a1_x, .ref q_a1_y, .ref q_a1_d, .int s_a1_pieces, .ref q_a1_from, .ref q_a1_to, .ref q_a1_firm])), (q_a1_ax, .inl (ky 0, 18, .inl s_a1_ax)), (q_a1_ay, .inl (ky 0, 18, .inl s_a1_ay)), (q_a1_bx, .inl (ky 0, 18, .inl s_a1_bx)), (q_a1_by, .inl (ky 0, 18, .inl s_a1_by))] H := hP
  replace hD : va_D A [(q_, .inr (10, [.int s_a1_w, .int s_h, .int s_leads, .int s_lines, .ref q_ax, .ref q_ay, .ref q_bx, .ref q_by, .int s_joints, .ref q_x, .ref q_y, .ref q_d, .int s_pieces, .ref q_from, .ref q_to, .ref q_firm])), (q_ax, .inl (ky 0, 18, .inl s_ax)), (q_ay, .inl (ky 0, 18, .inl s_ay)), (q_bx, .inl (ky 0, 18, .inl s_bx)), (q_by, .inl (ky 0, 18, .inl s_by)), (q_a1, .inr (10, [.int s_a1_w, .int s_a1_h, .int s_a1_leads, .int s_a1_lines, .ref q_a1_ax, .ref q_a1_ay, .ref q_a1_bx, .ref q_a1_by, .int s_a1_joints, .ref q_a1_x, .ref q_a1_y, .ref q_a1_d, .int s_a1_pieces, .ref q_a1_from, .ref q_a1_to, .ref q_a1_firm])), (q_a1_ax, .inl (ky 0, 18, .inl s_a1_ax)), (q_a1_ay, .inl (ky 0, 18, .inl s_a1_ay)), (q_a1_bx, .inl (ky 0, 18, .inl s_a1_bx)), (q_a1_by, .inl (ky 0, 18, .inl s_a1_by))] := hD
  refine lv_aload_n hx hb dX10_take_8 rfl (lv_at hl 0 rfl) ?_
  refine lv_aload_n hx hb dX10_take_9 rfl (lv_at hl 1 rfl) ?_
  refine va_get (D := D) (ci := 10) (v := .int s_a1_h) (C := RX10) (T := TX10) (N := 16) hx hb hts hi_X10 hown hK.1 hP 5 rfl rfl 1 (by decide) hf_48 (fun _ h9 => h9) rfl dX10_take_10 ?_
  refine va_put (D := D) (ci := 10) (v := .int s_a1_h) (ty := .int) (C := RX10) (T := TX10) (N := 16) hx hb hts hi_X10 tyX10 tyX10_ok nmX10 hown hK.1 hP hD hS 0 rfl rfl 1 (by decide) hf_48 (fun _ h9 => h9) rfl (by decide +kernel) rfl rfl (Nat.le_of_ble_eq_true rfl) dX10_take_13 (fun H locs hP hD hS => ?_)
  replace hP : va_P D vwCl [(q_, .inr (10, [.int s_a1_w, .int s_a1_h, .int s_leads, .int s_lines, .ref q_ax, .ref q_ay, .ref q_bx, .ref q_by, .int s_joints, .ref q_x, .ref q_y, .ref q_d, .int s_pieces, .ref q_from, .ref q_to, .ref q_firm])), (q_ax, .inl (ky 0, 18, .inl s_ax)), (q_ay, .inl (ky 0, 18, .inl s_ay)), (q_bx, .inl (ky 0, 18, .inl s_bx)), (q_by, .inl (ky 0, 18, .inl s_by)), (q_a1, .inr (10, [.int s_a1_w, .int s_a1_h, .int s_a1_leads, .int s_a1_lines, .ref q_a1_ax, .ref q_a1_ay, .ref q_a1_bx, .ref q_a1_by, .int s_a1_joints, .ref q_a1_x, .ref q_a1_y, .ref q_a1_d, .int s_a1_pieces, .ref q_a1_from, .ref q_a1_to, .ref q_a1_firm])), (q_a1_ax, .inl (ky 0, 18, .inl s_a1_ax)), (q_a1_ay, .inl (ky 0, 18, .inl s_a1_ay)), (q_a1_bx, .inl (ky 0, 18, .inl s_a1_bx)), (q_a1_by, .inl (ky 0, 18, .inl s_a1_by))] H := hP
  replace hD : va_D A [(q_, .inr (10, [.int s_a1_w, .int s_a1_h, .int s_leads, .int s_lines, .ref q_ax, .ref q_ay, .ref q_bx, .ref q_by, .int s_joints, .ref q_x, .ref q_y, .ref q_d, .int s_pieces, .ref q_from, .ref q_to, .ref q_firm])), (q_ax, .inl (ky 0, 18, .inl s_ax)), (q_ay, .inl (ky 0, 18, .inl s_ay)), (q_bx, .inl (ky 0, 18, .inl s_bx)), (q_by, .inl (ky 0, 18, .inl s_by)), (q_a1, .inr (10, [.int s_a1_w, .int s_a1_h, .int s_a1_leads, .int s_a1_lines, .ref q_a1_ax, .ref q_a1_ay, .ref q_a1_bx, .ref q_a1_by, .int s_a1_joints, .ref q_a1_x, .ref q_a1_y, .ref q_a1_d, .int s_a1_pieces, .ref q_a1_from, .ref q_a1_to, .ref q_a1_firm])), (q_a1_ax, .inl (ky 0, 18, .inl s_a1_ax)), (q_a1_ay, .inl (ky 0, 18, .inl s_a1_ay)), (q_a1_bx, .inl (ky 0, 18, .inl s_a1_bx)), (q_a1_by, .inl (ky 0, 18, .inl s_a1_by))] := hD
  refine lv_aload_n hx hb dX10_take_16 rfl (lv_at hl 0 rfl) ?_
  refine lv_aload_n hx hb dX10_take_17 rfl (lv_at hl 1 rfl) ?_
  refine va_get (D := D) (ci := 10) (v := .int s_a1_leads) (C := RX10) (T := TX10) (N := 16) hx hb hts hi_X10 hown hK.1 hP 5 rfl rfl 2 (by decide) hf_51 (fun _ h9 => h9) rfl dX10_take_18 ?_
  refine va_put (D := D) (ci := 10) (v := .int s_a1_leads) (ty := .int) (C := RX10) (T := TX10) (N := 16) hx hb hts hi_X10 tyX10 tyX10_ok nmX10 hown hK.1 hP hD hS 0 rfl rfl 2 (by decide) hf_51 (fun _ h9 => h9) rfl (by decide +kernel) rfl rfl (Nat.le_of_ble_eq_true rfl) dX10_take_21 (fun H locs hP hD hS => ?_)
  replace hP : va_P D vwCl [(q_, .inr (10, [.int s_a1_w, .int s_a1_h, .int s_a1_leads, .int s_lines, .ref q_ax, .ref q_ay, .ref q_bx, .ref q_by, .int s_joints, .ref q_x, .ref q_y, .ref q_d, .int s_pieces, .ref q_from, .ref q_to, .ref q_firm])), (q_ax, .inl (ky 0, 18, .inl s_ax)), (q_ay, .inl (ky 0, 18, .inl s_ay)), (q_bx, .inl (ky 0, 18, .inl s_bx)), (q_by, .inl (ky 0, 18, .inl s_by)), (q_a1, .inr (10, [.int s_a1_w, .int s_a1_h, .int s_a1_leads, .int s_a1_lines, .ref q_a1_ax, .ref q_a1_ay, .ref q_a1_bx, .ref q_a1_by, .int s_a1_joints, .ref q_a1_x, .ref q_a1_y, .ref q_a1_d, .int s_a1_pieces, .ref q_a1_from, .ref q_a1_to, .ref q_a1_firm])), (q_a1_ax, .inl (ky 0, 18, .inl s_a1_ax)), (q_a1_ay, .inl (ky 0, 18, .inl s_a1_ay)), (q_a1_bx, .inl (ky 0, 18, .inl s_a1_bx)), (q_a1_by, .inl (ky 0, 18, .inl s_a1_by))] H := hP
  replace hD : va_D A [(q_, .inr (10, [.int s_a1_w, .int s_a1_h, .int s_a1_leads, .int s_lines, .ref q_ax, .ref q_ay, .ref q_bx, .ref q_by, .int s_joints, .ref q_x, .ref q_y, .ref q_d, .int s_pieces, .ref q_from, .ref q_to, .ref q_firm])), (q_ax, .inl (ky 0, 18, .inl s_ax)), (q_ay, .inl (ky 0, 18, .inl s_ay)), (q_bx, .inl (ky 0, 18, .inl s_bx)), (q_by, .inl (ky 0, 18, .inl s_by)), (q_a1, .inr (10, [.int s_a1_w, .int s_a1_h, .int s_a1_leads, .int s_a1_lines, .ref q_a1_ax, .ref q_a1_ay, .ref q_a1_bx, .ref q_a1_by, .int s_a1_joints, .ref q_a1_x, .ref q_a1_y, .ref q_a1_d, .int s_a1_pieces, .ref q_a1_from, .ref q_a1_to, .ref q_a1_firm])), (q_a1_ax, .inl (ky 0, 18, .inl s_a1_ax)), (q_a1_ay, .inl (ky 0, 18, .inl s_a1_ay)), (q_a1_bx, .inl (ky 0, 18, .inl s_a1_bx)), (q_a1_by, .inl (ky 0, 18, .inl s_a1_by))] := hD
  refine lv_iconst (v := 0) hx hb dX10_take_24 (by decide) ?_
  refine lv_istore_n (lv' := [(2, .int (0 : Int32)), (0, .ref q_), (1, .ref q_a1)]) hx hb dX10_take_25 rfl hl (by decide) rfl (fun ls hl => ?_)
  obtain ⟨⟨k, t⟩, hi, h⟩ := ob_of h
  refine iter_rule (P := fun (k : Nat) (t : Int32 × (Nat → Int32) × (Nat → Int32) × (Nat → Int32) × (Nat → Int32)) => ∀ (H : Heap) (locs : List Loc) (ls : Array Slot), va_P D vwCl [(q_, .inr (10, [.int s_a1_w, .int s_a1_h, .int s_a1_leads, .int s_lines, .ref q_ax, .ref q_ay, .ref q_bx, .ref q_by, .int s_joints, .ref q_x, .ref q_y, .ref q_d, .int s_pieces, .ref q_from, .ref q_to, .ref q_firm])), (q_ax, .inl (ky 0, 18, .inl t.2.1)), (q_ay, .inl (ky 0, 18, .inl t.2.2.1)), (q_bx, .inl (ky 0, 18, .inl t.2.2.2.1)), (q_by, .inl (ky 0, 18, .inl t.2.2.2.2)), (q_a1, .inr (10, [.int s_a1_w, .int s_a1_h, .int s_a1_leads, .int s_a1_lines, .ref q_a1_ax, .ref q_a1_ay, .ref q_a1_bx, .ref q_a1_by, .int s_a1_joints, .ref q_a1_x, .ref q_a1_y, .ref q_a1_d, .int s_a1_pieces, .ref q_a1_from, .ref q_a1_to, .ref q_a1_firm])), (q_a1_ax, .inl (ky 0, 18, .inl s_a1_ax)), (q_a1_ay, .inl (ky 0, 18, .inl s_a1_ay)), (q_a1_bx, .inl (ky 0, 18, .inl s_a1_bx)), (q_a1_by, .inl (ky 0, 18, .inl s_a1_by))] H → va_D A [(q_, .inr (10, [.int s_a1_w, .int s_a1_h, .int s_a1_leads, .int s_lines, .ref q_ax, .ref q_ay, .ref q_bx, .ref q_by, .int s_joints, .ref q_x, .ref q_y, .ref q_d, .int s_pieces, .ref q_from, .ref q_to, .ref q_firm])), (q_ax, .inl (ky 0, 18, .inl t.2.1)), (q_ay, .inl (ky 0, 18, .inl t.2.2.1)), (q_bx, .inl (ky 0, 18, .inl t.2.2.2.1)), (q_by, .inl (ky 0, 18, .inl t.2.2.2.2)), (q_a1, .inr (10, [.int s_a1_w, .int s_a1_h, .int s_a1_leads, .int s_a1_lines, .ref q_a1_ax, .ref q_a1_ay, .ref q_a1_bx, .ref q_a1_by, .int s_a1_joints, .ref q_a1_x, .ref q_a1_y, .ref q_a1_d, .int s_a1_pieces, .ref q_a1_from, .ref q_a1_to, .ref q_a1_firm])), (q_a1_ax, .inl (ky 0, 18, .inl s_a1_ax)), (q_a1_ay, .inl (ky 0, 18, .inl s_a1_ay)), (q_a1_bx, .inl (ky 0, 18, .inl s_a1_bx)), (q_a1_by, .inl (ky 0, 18, .inl s_a1_by))] → va_S A s.heap H locs → lv_has ls 3 [(0, .ref q_), (1, .ref q_a1), (2, .int t.1)] → W p l e rmX10_take s m args below meth c H locs 0 0 Q (F0 m ([26, 69].getD k 0) ls [])) ?_ _ _ _ _ hi ?_ H locs ls hP hD hS (lv_sub hl [1, 2, 0] rfl)
  · clear h hi hP hD hS hl
    intro t k t' h K
    obtain ⟨v1, v2, v3, v4, v5⟩ := t
    intro H locs ls hP hD hS hl
    replace h := dm5_of h
    replace hP : va_P D vwCl [(q_, .inr (10, [.int s_a1_w, .int s_a1_h, .int s_a1_leads, .int s_lines, .ref q_ax, .ref q_ay, .ref q_bx, .ref q_by, .int s_joints, .ref q_x, .ref q_y, .ref q_d, .int s_pieces, .ref q_from, .ref q_to, .ref q_firm])), (q_ax, .inl (ky 0, 18, .inl v2)), (q_ay, .inl (ky 0, 18, .inl v3)), (q_bx, .inl (ky 0, 18, .inl v4)), (q_by, .inl (ky 0, 18, .inl v5)), (q_a1, .inr (10, [.int s_a1_w, .int s_a1_h, .int s_a1_leads, .int s_a1_lines, .ref q_a1_ax, .ref q_a1_ay, .ref q_a1_bx, .ref q_a1_by, .int s_a1_joints, .ref q_a1_x, .ref q_a1_y, .ref q_a1_d, .int s_a1_pieces, .ref q_a1_from, .ref q_a1_to, .ref q_a1_firm])), (q_a1_ax, .inl (ky 0, 18, .inl s_a1_ax)), (q_a1_ay, .inl (ky 0, 18, .inl s_a1_ay)), (q_a1_bx, .inl (ky 0, 18, .inl s_a1_bx)), (q_a1_by, .inl (ky 0, 18, .inl s_a1_by))] H := hP
    replace hD : va_D A [(q_, .inr (10, [.int s_a1_w, .int s_a1_h, .int s_a1_leads, .int s_lines, .ref q_ax, .ref q_ay, .ref q_bx, .ref q_by, .int s_joints, .ref q_x, .ref q_y, .ref q_d, .int s_pieces, .ref q_from, .ref q_to, .ref q_firm])), (q_ax, .inl (ky 0, 18, .inl v2)), (q_ay, .inl (ky 0, 18, .inl v3)), (q_bx, .inl (ky 0, 18, .inl v4)), (q_by, .inl (ky 0, 18, .inl v5)), (q_a1, .inr (10, [.int s_a1_w, .int s_a1_h, .int s_a1_leads, .int s_a1_lines, .ref q_a1_ax, .ref q_a1_ay, .ref q_a1_bx, .ref q_a1_by, .int s_a1_joints, .ref q_a1_x, .ref q_a1_y, .ref q_a1_d, .int s_a1_pieces, .ref q_a1_from, .ref q_a1_to, .ref q_a1_firm])), (q_a1_ax, .inl (ky 0, 18, .inl s_a1_ax)), (q_a1_ay, .inl (ky 0, 18, .inl s_a1_ay)), (q_a1_bx, .inl (ky 0, 18, .inl s_a1_bx)), (q_a1_by, .inl (ky 0, 18, .inl s_a1_by))] := hD
    replace hl : lv_has ls 3 [(0, .ref q_), (1, .ref q_a1), (2, .int v1)] := hl
    refine lv_iload_n hx hb dX10_take_26 rfl (lv_at hl 2 rfl) ?_
    refine lv_aload_n hx hb dX10_take_27 rfl (lv_at hl 0 rfl) ?_
    refine va_get (D := D) (ci := 10) (v := .int s_a1_leads) (C := RX10) (T := TX10) (N := 16) hx hb hts hi_X10 hown hK.1 hP 0 rfl rfl 2 (by decide) hf_51 (fun _ h9 => h9) rfl dX10_take_28 ?_
    refine lv_icmp_ge (tgt := 69) hx hb dX10_take_31 (by decide) (fun hc => ?_) (fun hc => ?_)
    · replace h := if_t hc h
      cases h
      exact K _ _ _ hP hD hS (lv_sub hl [0, 1, 2] rfl)
    · replace h := if_f hc h
      refine lv_aload_n hx hb dX10_take_34 rfl (lv_at hl 0 rfl) ?_
      refine lv_iload_n hx hb dX10_take_35 rfl (lv_at hl 2 rfl) ?_
      refine lv_aload_n hx hb dX10_take_36 rfl (lv_at hl 1 rfl) ?_
      refine va_get (D := D) (ci := 10) (v := .ref q_a1_ax) (C := RX10) (T := TX10) (N := 16) hx hb hts hi_X10 hown hK.1 hP 5 rfl rfl 4 (by decide) hf_9 (fun _ h9 => h9) rfl dX10_take_37 ?_
      refine lv_iload_n hx hb dX10_take_40 rfl (lv_at hl 2 rfl) ?_
      obtain ⟨hg, h⟩ := gd_of h
      refine va_iald hx hb hK.1 hP 6 0 rfl rfl hg dX10_take_41 ?_
      refine lv_aload_n hx hb dX10_take_42 rfl (lv_at hl 1 rfl) ?_
      refine va_get (D := D) (ci := 10) (v := .ref q_a1_ay) (C := RX10) (T := TX10) (N := 16) hx hb hts hi_X10 hown hK.1 hP 5 rfl rfl 5 (by decide) hf_15 (fun _ h9 => h9) rfl dX10_take_43 ?_
      refine lv_iload_n hx hb dX10_take_46 rfl (lv_at hl 2 rfl) ?_
      obtain ⟨hg, h⟩ := gd_of h
      refine va_iald hx hb hK.1 hP 7 0 rfl rfl hg dX10_take_47 ?_
      refine lv_aload_n hx hb dX10_take_48 rfl (lv_at hl 1 rfl) ?_
      refine va_get (D := D) (ci := 10) (v := .ref q_a1_bx) (C := RX10) (T := TX10) (N := 16) hx hb hts hi_X10 hown hK.1 hP 5 rfl rfl 6 (by decide) hf_18 (fun _ h9 => h9) rfl dX10_take_49 ?_
      refine lv_iload_n hx hb dX10_take_52 rfl (lv_at hl 2 rfl) ?_
      obtain ⟨hg, h⟩ := gd_of h
      refine va_iald hx hb hK.1 hP 8 0 rfl rfl hg dX10_take_53 ?_
      refine lv_aload_n hx hb dX10_take_54 rfl (lv_at hl 1 rfl) ?_
      refine va_get (D := D) (ci := 10) (v := .ref q_a1_by) (C := RX10) (T := TX10) (N := 16) hx hb hts hi_X10 hown hK.1 hP 5 rfl rfl 7 (by decide) hf_21 (fun _ h9 => h9) rfl dX10_take_55 ?_
      refine lv_iload_n hx hb dX10_take_58 rfl (lv_at hl 2 rfl) ?_
      obtain ⟨hg, h⟩ := gd_of h
      refine va_iald hx hb hK.1 hP 9 0 rfl rfl hg dX10_take_59 ?_
      obtain ⟨⟨o6, o7, o8, o9⟩, hc, h⟩ := ob_of h
      replace h := dm4_of h
      refine cv_v (As := [.int v1, .int (s_a1_ax v1.toNatClampNeg), .int (s_a1_ay v1.toNatClampNeg), .int (s_a1_bx v1.toNatClampNeg), .int (s_a1_by v1.toNatClampNeg)]) (rest := []) (wr := [(q_a1, .inr (10, [.int s_a1_w, .int s_a1_h, .int s_a1_leads, .int s_a1_lines, .ref q_a1_ax, .ref q_a1_ay, .ref q_a1_bx, .ref q_a1_by, .int s_a1_joints, .ref q_a1_x, .ref q_a1_y, .ref q_a1_d, .int s_a1_pieces, .ref q_a1_from, .ref q_a1_to, .ref q_a1_firm])), (q_a1_ax, .inl (ky 0, 18, .inl s_a1_ax)), (q_a1_ay, .inl (ky 0, 18, .inl s_a1_ay)), (q_a1_bx, .inl (ky 0, 18, .inl s_a1_bx)), (q_a1_by, .inl (ky 0, 18, .inl s_a1_by))]) (wn := [(q_, .inr (10, [.int s_a1_w, .int s_a1_h, .int s_a1_leads, .int s_lines, .ref q_ax, .ref q_ay, .ref q_bx, .ref q_by, .int s_joints, .ref q_x, .ref q_y, .ref q_d, .int s_pieces, .ref q_from, .ref q_to, .ref q_firm])), (q_ax, .inl (ky 0, 18, .inl o6)), (q_ay, .inl (ky 0, 18, .inl o7)), (q_bx, .inl (ky 0, 18, .inl o8)), (q_by, .inl (ky 0, 18, .inl o9)), (q_a1, .inr (10, [.int s_a1_w, .int s_a1_h, .int s_a1_leads, .int s_a1_lines, .ref q_a1_ax, .ref q_a1_ay, .ref q_a1_bx, .ref q_a1_by, .int s_a1_joints, .ref q_a1_x, .ref q_a1_y, .ref q_a1_d, .int s_a1_pieces, .ref q_a1_from, .ref q_a1_to, .ref q_a1_firm])), (q_a1_ax, .inl (ky 0, 18, .inl s_a1_ax)), (q_a1_ay, .inl (ky 0, 18, .inl s_a1_ay)), (q_a1_bx, .inl (ky 0, 18, .inl s_a1_bx)), (q_a1_by, .inl (ky 0, 18, .inl s_a1_by))]) ⟨hx, hb, hml, hown, hts⟩ (c_X10_line l D ky q_ q_ax q_ay q_bx q_by q_x q_y q_d q_from q_to q_firm v1 (s_a1_ax v1.toNatClampNeg) (s_a1_ay v1.toNatClampNeg) (s_a1_bx v1.toNatClampNeg) (s_a1_by v1.toNatClampNeg) s_a1_w s_a1_h s_a1_leads s_lines s_joints s_pieces v2 v3 v4 v5 hc) (cwV 5 hts gX10_take_X10_line rfl rfl rfl (by decide +kernel) ⟨Nat.le_of_ble_eq_true rfl, Nat.le_of_ble_eq_true rfl⟩) (rcv hK.1 hP (q0 := 0) rfl rfl) hP hD hK hS hA [0, 1, 2, 3, 4] [5, 6, 7, 8, 9] [5, 6, 7, 8, 9, 0, 1, 2, 3, 4] rfl (by decide +kernel) rfl (by decide +kernel) (by decide +kernel) (by decide +kernel) rfl rfl rfl hl.1 (Nat.le_of_ble_eq_true rfl) dX10_take_60 ⟨Nat.le_of_ble_eq_true rfl, Nat.le_of_ble_eq_true rfl⟩ (fun H locs hP hD hS => ?_)
      obtain ⟨x10, ex10⟩ : ∃ z : Int32, z = v1 + 1 := ⟨_, rfl⟩
      replace h := lt_at ex10 h
      refine lv_iinc (v := x10) (lv' := [(2, .int x10), (0, .ref q_), (1, .ref q_a1)]) hx hb dX10_take_63 hl (k := 2) rfl (by rw [ex10]; rfl) (by decide) rfl (fun ls hl => ?_)
      refine lv_goto (tgt := 26) hx hb dX10_take_66 (by decide) ?_
      cases h
      exact K _ _ _ hP hD hS (lv_sub hl [1, 2, 0] rfl)
  · have h1 := ex1_of h
    clear h hi
    rcases h1 with ⟨rfl, h⟩
    obtain ⟨v11, v12, v13, v14, v15⟩ := t
    replace h := dm5_of h
    intro H locs ls hP hD hS hl
    replace hP : va_P D vwCl [(q_, .inr (10, [.int s_a1_w, .int s_a1_h, .int s_a1_leads, .int s_lines, .ref q_ax, .ref q_ay, .ref q_bx, .ref q_by, .int s_joints, .ref q_x, .ref q_y, .ref q_d, .int s_pieces, .ref q_from, .ref q_to, .ref q_firm])), (q_ax, .inl (ky 0, 18, .inl v12)), (q_ay, .inl (ky 0, 18, .inl v13)), (q_bx, .inl (ky 0, 18, .inl v14)), (q_by, .inl (ky 0, 18, .inl v15)), (q_a1, .inr (10, [.int s_a1_w, .int s_a1_h, .int s_a1_leads, .int s_a1_lines, .ref q_a1_ax, .ref q_a1_ay, .ref q_a1_bx, .ref q_a1_by, .int s_a1_joints, .ref q_a1_x, .ref q_a1_y, .ref q_a1_d, .int s_a1_pieces, .ref q_a1_from, .ref q_a1_to, .ref q_a1_firm])), (q_a1_ax, .inl (ky 0, 18, .inl s_a1_ax)), (q_a1_ay, .inl (ky 0, 18, .inl s_a1_ay)), (q_a1_bx, .inl (ky 0, 18, .inl s_a1_bx)), (q_a1_by, .inl (ky 0, 18, .inl s_a1_by))] H := hP
    replace hD : va_D A [(q_, .inr (10, [.int s_a1_w, .int s_a1_h, .int s_a1_leads, .int s_lines, .ref q_ax, .ref q_ay, .ref q_bx, .ref q_by, .int s_joints, .ref q_x, .ref q_y, .ref q_d, .int s_pieces, .ref q_from, .ref q_to, .ref q_firm])), (q_ax, .inl (ky 0, 18, .inl v12)), (q_ay, .inl (ky 0, 18, .inl v13)), (q_bx, .inl (ky 0, 18, .inl v14)), (q_by, .inl (ky 0, 18, .inl v15)), (q_a1, .inr (10, [.int s_a1_w, .int s_a1_h, .int s_a1_leads, .int s_a1_lines, .ref q_a1_ax, .ref q_a1_ay, .ref q_a1_bx, .ref q_a1_by, .int s_a1_joints, .ref q_a1_x, .ref q_a1_y, .ref q_a1_d, .int s_a1_pieces, .ref q_a1_from, .ref q_a1_to, .ref q_a1_firm])), (q_a1_ax, .inl (ky 0, 18, .inl s_a1_ax)), (q_a1_ay, .inl (ky 0, 18, .inl s_a1_ay)), (q_a1_bx, .inl (ky 0, 18, .inl s_a1_bx)), (q_a1_by, .inl (ky 0, 18, .inl s_a1_by))] := hD
    replace hl : lv_has ls 3 [(0, .ref q_), (1, .ref q_a1), (2, .int v11)] := hl
    refine W.eq (g2 := F0 m 69 ls []) rfl ?_
    exact rt _ h _ _ _ _ dX10_take_69 hP hD hS

def bX12_gcd_12  (t : Int64 × Int64) : Option (Nat × (Int64 × Int64)) := dm2 t (fun (v3 : Int64) (v4 : Int64) => if (lg_cmp v4 (0 : Int64)) = 0 then some (1, (v3, v4)) else gd (¬ v4 = 0) (lt (v3 - v3 / v4 * v4) (fun x5 => some (0, (v4, x5)))))
def sX12_gcd (a0 : Int64) (a2 : Int64)  : Option (Int64) := lt (if 0 < a0 then a0 else -a0) (fun x1 => lt (if 0 < a2 then a2 else -a2) (fun x2 => ob (iter (bX12_gcd_12 ) FU (x1, x2)) (fun kt => ex1 kt (fun t => dm2 t (fun (v6 : Int64) (v7 : Int64) => some v6)))))
abbrev rmX12_gcd : Room := { frames := 1, cells := 0, slots := 0, locals := 40 }
set_option maxHeartbeats 4000000 in
set_option maxRecDepth 100000 in
theorem c_X12_gcd (l : Launch) (D : va_G) (ky : Nat → ClassId) (a0 : Int64) (a2 : Int64) {o_r : Int64} (h : sX12_gcd a0 a2 = some o_r) : MtL l D ky yX12_gcd wsX12_gcd rmX12_gcd [.long a0, .long a2] [] [] o_r 0 0 := by
  refine MtL.of (cc := cX12_gcd) (maxL := 10) (by decide +kernel) rfl (Nat.le_of_ble_eq_true rfl) ?_
  intro p e R s m args below meth c A Q ls hR hx hb hts hown hnm hml hP hK hD hA ret hl
  subst hR
  obtain ⟨H, hH⟩ : ∃ H, H = s.heap := ⟨_, rfl⟩
  obtain ⟨locs, hlocs⟩ : ∃ locs : List Loc, locs = [] := ⟨_, rfl⟩
  have hS : va_S A s.heap H locs := by rw [hH, hlocs]; exact va_S.rf
  rw [← hH] at hP
  suffices hgo : W p l e rmX12_gcd s m args below meth c H locs 0 0 Q (F0 m 0 ls []) by rw [hH, hlocs] at hgo; exact hgo
  clear hH hlocs
  replace hl : lv_has ls 10 [(0, .long a0), (2, .long a2)] := hl
  replace hown : s.vm.findClass RX12 = some m.cls := hown
  have hm_1 := hts (.methodLink RX12 1 Lib.MathLoose.abs_long.x) (by decide +kernel)
  have hs_mabs_long := hts (.static Lib.MathLoose.abs_long.x) (by decide +kernel)
  have hini_Math := hts (.initialized "java/lang/Math") (by decide +kernel)
  have hco_mabs_long := hts (.code Lib.MathLoose.abs_long.x Lib.MathLoose.abs_long.code 2 (some .long)) (by decide +kernel)
  unfold sX12_gcd at h
  refine lv_lload_n hx hb dX12_gcd_0 rfl (lv_at hl 0 rfl) ?_
  refine va_mabs_long hx hb (hml.trans hl.1.symm) hown hm_1 hs_mabs_long hini_Math hco_mabs_long (Nat.le_of_ble_eq_true rfl) (Nat.le_of_ble_eq_true rfl) (Nat.le_of_ble_eq_true rfl) (Nat.le_of_ble_eq_true rfl) dX12_gcd_1 ?_
  refine lv_topl (fun x1 ex1 => ?_)
  replace h := lt_at ex1 h
  refine lv_lstore (lv' := [(4, .long x1), (0, .long a0), (2, .long a2)]) hx hb dX12_gcd_4 hl (by decide) rfl (fun ls hl => ?_)
  refine lv_lload_n hx hb dX12_gcd_6 rfl (lv_at hl 2 rfl) ?_
  refine va_mabs_long hx hb (hml.trans hl.1.symm) hown hm_1 hs_mabs_long hini_Math hco_mabs_long (Nat.le_of_ble_eq_true rfl) (Nat.le_of_ble_eq_true rfl) (Nat.le_of_ble_eq_true rfl) (Nat.le_of_ble_eq_true rfl) dX12_gcd_7 ?_
  refine lv_topl (fun x2 ex2 => ?_)
  replace h := lt_at ex2 h
  refine lv_lstore (lv' := [(6, .long x2), (4, .long x1), (0, .long a0), (2, .long a2)]) hx hb dX12_gcd_10 hl (by decide) rfl (fun ls hl => ?_)
  obtain ⟨⟨k, t⟩, hi, h⟩ := ob_of h
  refine iter_rule (P := fun (k : Nat) (t : Int64 × Int64) => ∀ (H : Heap) (locs : List Loc) (ls : Array Slot), va_P D vwCl [] H → va_D A [] → va_S A s.heap H locs → lv_has ls 10 [(4, .long t.1), (6, .long t.2)] → W p l e rmX12_gcd s m args below meth c H locs 0 0 Q (F0 m ([12, 37].getD k 0) ls [])) ?_ _ _ _ _ hi ?_ H locs ls hP hD hS (lv_sub hl [1, 0] rfl)
  · clear h hi hP hD hS hl
    intro t k t' h K
    obtain ⟨v3, v4⟩ := t
    intro H locs ls hP hD hS hl
    replace h := dm2_of h
    replace hP : va_P D vwCl [] H := hP
    replace hD : va_D A [] := hD
    replace hl : lv_has ls 10 [(4, .long v3), (6, .long v4)] := hl
    refine lv_lload hx hb dX12_gcd_12 (lv_at hl 1 rfl) ?_
    refine lv_lconst (v := 0) hx hb dX12_gcd_14 (by decide) ?_
    refine W.lcmp hx hb dX12_gcd_15 ?_
    refine lv_if_eq (tgt := 37) hx hb dX12_gcd_16 (by decide) (fun hc => ?_) (fun hc => ?_)
    · replace h := if_t hc h
      cases h
      exact K _ _ _ hP hD hS (lv_sub hl [0, 1] rfl)
    · replace h := if_f hc h
      refine lv_lload hx hb dX12_gcd_19 (lv_at hl 0 rfl) ?_
      refine lv_lload hx hb dX12_gcd_21 (lv_at hl 1 rfl) ?_
      obtain ⟨hg, h⟩ := gd_of h
      refine lv_lrem hx hb dX12_gcd_23 hg ?_
      refine lv_topl (fun x5 ex5 => ?_)
      replace h := lt_at ex5 h
      refine lv_lstore (lv' := [(8, .long x5), (4, .long v3), (6, .long v4)]) hx hb dX12_gcd_24 hl (by decide) rfl (fun ls hl => ?_)
      refine lv_lload hx hb dX12_gcd_26 (lv_at hl 2 rfl) ?_
      refine lv_lstore (lv' := [(4, .long v4), (8, .long x5), (6, .long v4)]) hx hb dX12_gcd_28 hl (by decide) rfl (fun ls hl => ?_)
      refine lv_lload hx hb dX12_gcd_30 (lv_at hl 1 rfl) ?_
      refine lv_lstore (lv' := [(6, .long x5), (4, .long v4), (8, .long x5)]) hx hb dX12_gcd_32 hl (by decide) rfl (fun ls hl => ?_)
      refine lv_goto (tgt := 12) hx hb dX12_gcd_34 (by decide) ?_
      cases h
      exact K _ _ _ hP hD hS (lv_sub hl [1, 0] rfl)
  · have h1 := ex1_of h
    clear h hi
    rcases h1 with ⟨rfl, h⟩
    obtain ⟨v6, v7⟩ := t
    replace h := dm2_of h
    intro H locs ls hP hD hS hl
    replace hP : va_P D vwCl [] H := hP
    replace hD : va_D A [] := hD
    replace hl : lv_has ls 10 [(4, .long v6), (6, .long v7)] := hl
    refine W.eq (g2 := F0 m 37 ls []) rfl ?_
    refine lv_lload hx hb dX12_gcd_37 (lv_at hl 0 rfl) ?_
    cases h
    exact ret _ _ _ _ dX12_gcd_39 hP hD hS

def sX10_order (a1 : Int64) (a3 : Int64) (a5 : Int64) (a7 : Int32) (s_d : Nat → Int64) (s_x : Nat → Int64) (s_y : Nat → Int64) : Option (Int32) := gd (¬ (a7 < 0 ∨ 240 ≤ a7.toNatClampNeg)) (gd (¬ (a7 < 0 ∨ 240 ≤ a7.toNatClampNeg)) (ob (sJ13_compare_74951 (a3 * (s_d a7.toNatClampNeg)) ((s_y a7.toNatClampNeg) * a5)) (fun o => dm1 o (fun (r1 : Int32) => if r1 = 0 then gd (¬ (a7 < 0 ∨ 240 ≤ a7.toNatClampNeg)) (gd (¬ (a7 < 0 ∨ 240 ≤ a7.toNatClampNeg)) (ob (sJ13_compare_74951 (a1 * (s_d a7.toNatClampNeg)) ((s_x a7.toNatClampNeg) * a5)) (fun o => dm1 o (fun (r2 : Int32) => some r2)))) else some r1))))
abbrev rmX10_order : Room := { frames := 1, cells := 0, slots := 0, locals := 23 }
set_option maxHeartbeats 4000000 in
set_option maxRecDepth 100000 in
theorem c_X10_order (l : Launch) (D : va_G) (ky : Nat → ClassId) (q_ q_ax q_ay q_bx q_by q_x q_y q_d q_from q_to q_firm : Nat) (a1 : Int64) (a3 : Int64) (a5 : Int64) (a7 : Int32) (s_w : Int32) (s_h : Int32) (s_leads : Int32) (s_lines : Int32) (s_joints : Int32) (s_pieces : Int32) (s_d : Nat → Int64) (s_x : Nat → Int64) (s_y : Nat → Int64) {o_r : Int32} (h : sX10_order a1 a3 a5 a7 s_d s_x s_y = some o_r) : MtI l D ky yX10_order wsX10_order rmX10_order [.ref q_, .long a1, .long a3, .long a5, .int a7] [(q_, .inr (10, [.int s_w, .int s_h, .int s_leads, .int s_lines, .ref q_ax, .ref q_ay, .ref q_bx, .ref q_by, .int s_joints, .ref q_x, .ref q_y, .ref q_d, .int s_pieces, .ref q_from, .ref q_to, .ref q_firm])), (q_d, .inl (ky 1, 240, .inr (.inl s_d))), (q_x, .inl (ky 1, 240, .inr (.inl s_x))), (q_y, .inl (ky 1, 240, .inr (.inl s_y)))] [(q_, .inr (10, [.int s_w, .int s_h, .int s_leads, .int s_lines, .ref q_ax, .ref q_ay, .ref q_bx, .ref q_by, .int s_joints, .ref q_x, .ref q_y, .ref q_d, .int s_pieces, .ref q_from, .ref q_to, .ref q_firm])), (q_d, .inl (ky 1, 240, .inr (.inl s_d))), (q_x, .inl (ky 1, 240, .inr (.inl s_x))), (q_y, .inl (ky 1, 240, .inr (.inl s_y)))] o_r 0 0 := by
  refine MtI.of (cc := cX10_order) (maxL := 9) (by decide +kernel) rfl (Nat.le_of_ble_eq_true rfl) ?_
  intro p e R s m args below meth c A Q ls hR hx hb hts hown hnm hml hP hK hD hA ret hl
  subst hR
  obtain ⟨H, hH⟩ : ∃ H, H = s.heap := ⟨_, rfl⟩
  obtain ⟨locs, hlocs⟩ : ∃ locs : List Loc, locs = [] := ⟨_, rfl⟩
  have hS : va_S A s.heap H locs := by rw [hH, hlocs]; exact va_S.rf
  rw [← hH] at hP
  suffices hgo : W p l e rmX10_order s m args below meth c H locs 0 0 Q (F0 m 0 ls []) by rw [hH, hlocs] at hgo; exact hgo
  clear hH hlocs
  replace hl : lv_has ls 9 [(0, .ref q_), (1, .long a1), (3, .long a3), (5, .long a5), (7, .int a7)] := hl
  replace hown : s.vm.findClass RX10 = some m.cls := hown
  have hi_X10 : ∀ w ∈ u_ws RX10 TX10 16, w ∈ wsX10_order := fun _ h9 => List.mem_cons_of_mem _ (List.mem_append_right _ h9)
  have hf_31 := hts (.fieldLink RX10 31 "GlazierBenchModel$Drawing" "d" "[J") (by decide +kernel)
  have hf_28 := hts (.fieldLink RX10 28 "GlazierBenchModel$Drawing" "y" "[J") (by decide +kernel)
  have hf_24 := hts (.fieldLink RX10 24 "GlazierBenchModel$Drawing" "x" "[J") (by decide +kernel)
  unfold sX10_order at h
  refine lv_lload_n hx hb dX10_order_0 rfl (lv_at hl 2 rfl) ?_
  refine lv_aload_n hx hb dX10_order_1 rfl (lv_at hl 0 rfl) ?_
  refine va_get (D := D) (ci := 10) (v := .ref q_d) (C := RX10) (T := TX10) (N := 16) hx hb hts hi_X10 hown hK.1 hP 0 rfl rfl 11 (by decide) hf_31 (fun _ h9 => h9) rfl dX10_order_2 ?_
  refine lv_iload hx hb dX10_order_5 (lv_at hl 4 rfl) ?_
  obtain ⟨hg, h⟩ := gd_of h
  refine va_lald hx hb hK.1 hP 1 1 rfl rfl hg dX10_order_7 ?_
  refine lv_lmul hx hb dX10_order_8 ?_
  refine lv_aload_n hx hb dX10_order_9 rfl (lv_at hl 0 rfl) ?_
  refine va_get (D := D) (ci := 10) (v := .ref q_y) (C := RX10) (T := TX10) (N := 16) hx hb hts hi_X10 hown hK.1 hP 0 rfl rfl 10 (by decide) hf_28 (fun _ h9 => h9) rfl dX10_order_10 ?_
  refine lv_iload hx hb dX10_order_13 (lv_at hl 4 rfl) ?_
  obtain ⟨hg, h⟩ := gd_of h
  refine va_lald hx hb hK.1 hP 3 1 rfl rfl hg dX10_order_15 ?_
  refine lv_lload hx hb dX10_order_16 (lv_at hl 3 rfl) ?_
  refine lv_lmul hx hb dX10_order_18 ?_
  obtain ⟨r1, hc, h⟩ := ob_of h
  replace h := dm1_of h
  refine cs_i (As := [.long (a3 * (s_d a7.toNatClampNeg)), .long ((s_y a7.toNatClampNeg) * a5)]) (rest := []) (wr := [(q_, .inr (10, [.int s_w, .int s_h, .int s_leads, .int s_lines, .ref q_ax, .ref q_ay, .ref q_bx, .ref q_by, .int s_joints, .ref q_x, .ref q_y, .ref q_d, .int s_pieces, .ref q_from, .ref q_to, .ref q_firm])), (q_d, .inl (ky 1, 240, .inr (.inl s_d))), (q_x, .inl (ky 1, 240, .inr (.inl s_x))), (q_y, .inl (ky 1, 240, .inr (.inl s_y)))]) (wn := [(q_, .inr (10, [.int s_w, .int s_h, .int s_leads, .int s_lines, .ref q_ax, .ref q_ay, .ref q_bx, .ref q_by, .int s_joints, .ref q_x, .ref q_y, .ref q_d, .int s_pieces, .ref q_from, .ref q_to, .ref q_firm])), (q_d, .inl (ky 1, 240, .inr (.inl s_d))), (q_x, .inl (ky 1, 240, .inr (.inl s_x))), (q_y, .inl (ky 1, 240, .inr (.inl s_y)))]) ⟨hx, hb, hml, hown, hts⟩ (c_J13_compare_74951 l D ky (a3 * (s_d a7.toNatClampNeg)) ((s_y a7.toNatClampNeg) * a5) hc) (va_cwS 2 hts gX10_order_J13_compare_74951 rfl rfl rfl (by decide +kernel) ⟨Nat.le_of_ble_eq_true rfl, Nat.le_of_ble_eq_true rfl⟩) hP hD hK hS hA [] [0, 1, 2, 3] [0, 1, 2, 3] rfl (by decide +kernel) rfl (by decide +kernel) (by decide +kernel) (by decide +kernel) rfl rfl rfl hl.1 (Nat.le_of_ble_eq_true rfl) dX10_order_19 ⟨Nat.le_of_ble_eq_true rfl, Nat.le_of_ble_eq_true rfl⟩ (fun H locs hP hD hS => ?_)
  refine lv_istore (lv' := [(8, .int r1), (0, .ref q_), (1, .long a1), (3, .long a3), (5, .long a5), (7, .int a7)]) hx hb dX10_order_22 hl (by decide) rfl (fun ls hl => ?_)
  refine lv_iload hx hb dX10_order_24 (lv_at hl 0 rfl) ?_
  refine lv_if_eq (tgt := 34) hx hb dX10_order_26 (by decide) (fun hc => ?_) (fun hc => ?_)
  · replace h := if_t hc h
    refine lv_lload_n hx hb dX10_order_34 rfl (lv_at hl 2 rfl) ?_
    refine lv_aload_n hx hb dX10_order_35 rfl (lv_at hl 1 rfl) ?_
    refine va_get (D := D) (ci := 10) (v := .ref q_d) (C := RX10) (T := TX10) (N := 16) hx hb hts hi_X10 hown hK.1 hP 0 rfl rfl 11 (by decide) hf_31 (fun _ h9 => h9) rfl dX10_order_36 ?_
    refine lv_iload hx hb dX10_order_39 (lv_at hl 5 rfl) ?_
    obtain ⟨hg, h⟩ := gd_of h
    refine va_lald hx hb hK.1 hP 1 1 rfl rfl hg dX10_order_41 ?_
    refine lv_lmul hx hb dX10_order_42 ?_
    refine lv_aload_n hx hb dX10_order_43 rfl (lv_at hl 1 rfl) ?_
    refine va_get (D := D) (ci := 10) (v := .ref q_x) (C := RX10) (T := TX10) (N := 16) hx hb hts hi_X10 hown hK.1 hP 0 rfl rfl 9 (by decide) hf_24 (fun _ h9 => h9) rfl dX10_order_44 ?_
    refine lv_iload hx hb dX10_order_47 (lv_at hl 5 rfl) ?_
    obtain ⟨hg, h⟩ := gd_of h
    refine va_lald hx hb hK.1 hP 2 1 rfl rfl hg dX10_order_49 ?_
    refine lv_lload hx hb dX10_order_50 (lv_at hl 4 rfl) ?_
    refine lv_lmul hx hb dX10_order_52 ?_
    obtain ⟨r2, hc, h⟩ := ob_of h
    replace h := dm1_of h
    refine cs_i (As := [.long (a1 * (s_d a7.toNatClampNeg)), .long ((s_x a7.toNatClampNeg) * a5)]) (rest := []) (wr := [(q_, .inr (10, [.int s_w, .int s_h, .int s_leads, .int s_lines, .ref q_ax, .ref q_ay, .ref q_bx, .ref q_by, .int s_joints, .ref q_x, .ref q_y, .ref q_d, .int s_pieces, .ref q_from, .ref q_to, .ref q_firm])), (q_d, .inl (ky 1, 240, .inr (.inl s_d))), (q_x, .inl (ky 1, 240, .inr (.inl s_x))), (q_y, .inl (ky 1, 240, .inr (.inl s_y)))]) (wn := [(q_, .inr (10, [.int s_w, .int s_h, .int s_leads, .int s_lines, .ref q_ax, .ref q_ay, .ref q_bx, .ref q_by, .int s_joints, .ref q_x, .ref q_y, .ref q_d, .int s_pieces, .ref q_from, .ref q_to, .ref q_firm])), (q_d, .inl (ky 1, 240, .inr (.inl s_d))), (q_x, .inl (ky 1, 240, .inr (.inl s_x))), (q_y, .inl (ky 1, 240, .inr (.inl s_y)))]) ⟨hx, hb, hml, hown, hts⟩ (c_J13_compare_74951 l D ky (a1 * (s_d a7.toNatClampNeg)) ((s_x a7.toNatClampNeg) * a5) hc) (va_cwS 2 hts gX10_order_J13_compare_74951 rfl rfl rfl (by decide +kernel) ⟨Nat.le_of_ble_eq_true rfl, Nat.le_of_ble_eq_true rfl⟩) hP hD hK hS hA [] [0, 1, 2, 3] [0, 1, 2, 3] rfl (by decide +kernel) rfl (by decide +kernel) (by decide +kernel) (by decide +kernel) rfl rfl rfl hl.1 (Nat.le_of_ble_eq_true rfl) dX10_order_53 ⟨Nat.le_of_ble_eq_true rfl, Nat.le_of_ble_eq_true rfl⟩ (fun H locs hP hD hS => ?_)
    cases h
    exact ret _ _ _ _ dX10_order_56 hP hD hS
  · replace h := if_f hc h
    refine lv_iload hx hb dX10_order_29 (lv_at hl 0 rfl) ?_
    refine lv_goto (tgt := 56) hx hb dX10_order_31 (by decide) ?_
    cases h
    exact ret _ _ _ _ dX10_order_56 hP hD hS

def bX10_joint_52 (s_d : Nat → Int64) (s_x : Nat → Int64) (s_y : Nat → Int64) (x5 : Int64) (x6 : Int64) (x7 : Int64) (t : Int32) : Option (Nat × (Int32)) := dm1 t (fun (v8 : Int32) => if v8 ≤ 0 then some (2, v8) else ob (sX10_order x5 x6 x7 (v8 - (1 : Int32)) s_d s_x s_y) (fun o => dm1 o (fun (r9 : Int32) => if 0 < r9 then some (2, v8) else ob (sX10_order x5 x6 x7 (v8 - (1 : Int32)) s_d s_x s_y) (fun o => dm1 o (fun (r10 : Int32) => if ¬ r10 = 0 then lt (v8 + (-1)) (fun x11 => some (0, x11)) else some (1, v8))))))
def bX10_joint_104 (v13 : Int32) (t : Int32 × (Nat → Int64) × (Nat → Int64) × (Nat → Int64)) : Option (Nat × (Int32 × (Nat → Int64) × (Nat → Int64) × (Nat → Int64))) := dm4 t (fun (v14 : Int32) (v15 : Nat → Int64) (v16 : Nat → Int64) (v17 : Nat → Int64) => if v14 ≤ v13 then some (1, (v14, v15, v16, v17)) else gd (¬ ((v14 - (1 : Int32)) < 0 ∨ 240 ≤ (v14 - (1 : Int32)).toNatClampNeg)) (gd (¬ (v14 < 0 ∨ 240 ≤ v14.toNatClampNeg)) (lt (vp_updL v16 v14.toNatClampNeg (v16 (v14 - (1 : Int32)).toNatClampNeg)) (fun f18 => gd (¬ ((v14 - (1 : Int32)) < 0 ∨ 240 ≤ (v14 - (1 : Int32)).toNatClampNeg)) (gd (¬ (v14 < 0 ∨ 240 ≤ v14.toNatClampNeg)) (lt (vp_updL v17 v14.toNatClampNeg (v17 (v14 - (1 : Int32)).toNatClampNeg)) (fun f19 => gd (¬ ((v14 - (1 : Int32)) < 0 ∨ 240 ≤ (v14 - (1 : Int32)).toNatClampNeg)) (gd (¬ (v14 < 0 ∨ 240 ≤ v14.toNatClampNeg)) (lt (vp_updL v15 v14.toNatClampNeg (v15 (v14 - (1 : Int32)).toNatClampNeg)) (fun f20 => lt (v14 + (-1)) (fun x21 => some (0, (x21, f20, f18, f19)))))))))))))
def sX10_joint (a1 : Int64) (a3 : Int64) (a5 : Int64) (s_joints : Int32) (s_d : Nat → Int64) (s_x : Nat → Int64) (s_y : Nat → Int64) : Option (Int32 × (Nat → Int64) × (Nat → Int64) × (Nat → Int64)) := ob (sX12_gcd a1 a3) (fun o => dm1 o (fun (r1 : Int64) => ob (sX12_gcd r1 a5) (fun o => dm1 o (fun (r2 : Int64) => ob (if 0 ≤ (lg_cmp a5 (0 : Int64)) then some (1 : Int64) else some (-1 : Int64)) (fun t => dm1 t (fun (v3 : Int64) => lt (r2 * v3) (fun x4 => gd (¬ x4 = 0) (lt (a1 / x4) (fun x5 => gd (¬ x4 = 0) (lt (a3 / x4) (fun x6 => gd (¬ x4 = 0) (lt (a5 / x4) (fun x7 => ob (iter (bX10_joint_52 s_d s_x s_y x5 x6 x7) FU s_joints) (fun kt => ex2 kt (fun t => dm1 t (fun (v12 : Int32) => some (s_joints, s_d, s_x, s_y))) (fun t => dm1 t (fun (v13 : Int32) => ob (iter (bX10_joint_104 v13) FU (s_joints, s_d, s_x, s_y)) (fun kt => ex1 kt (fun t => dm4 t (fun (v22 : Int32) (v23 : Nat → Int64) (v24 : Nat → Int64) (v25 : Nat → Int64) => gd (¬ (v13 < 0 ∨ 240 ≤ v13.toNatClampNeg)) (lt (vp_updL v24 v13.toNatClampNeg x5) (fun f26 => gd (¬ (v13 < 0 ∨ 240 ≤ v13.toNatClampNeg)) (lt (vp_updL v25 v13.toNatClampNeg x6) (fun f27 => gd (¬ (v13 < 0 ∨ 240 ≤ v13.toNatClampNeg)) (lt (vp_updL v23 v13.toNatClampNeg x7) (fun f28 => lt (s_joints + (1 : Int32)) (fun x29 => some (x29, f28, f26, f27)))))))))))))))))))))))))))
abbrev rmX10_joint : Room := { frames := 2, cells := 0, slots := 0, locals := 69 }
set_option maxHeartbeats 4000000 in
set_option maxRecDepth 100000 in
theorem c_X10_joint (l : Launch) (D : va_G) (ky : Nat → ClassId) (q_ q_ax q_ay q_bx q_by q_x q_y q_d q_from q_to q_firm : Nat) (a1 : Int64) (a3 : Int64) (a5 : Int64) (s_w : Int32) (s_h : Int32) (s_leads : Int32) (s_lines : Int32) (s_joints : Int32) (s_pieces : Int32) (s_d : Nat → Int64) (s_x : Nat → Int64) (s_y : Nat → Int64) {o_joints : Int32} {o_d : Nat → Int64} {o_x : Nat → Int64} {o_y : Nat → Int64} (h : sX10_joint a1 a3 a5 s_joints s_d s_x s_y = some (o_joints, o_d, o_x, o_y)) : MtV l D ky yX10_joint wsX10_joint rmX10_joint [.ref q_, .long a1, .long a3, .long a5] [(q_, .inr (10, [.int s_w, .int s_h, .int s_leads, .int s_lines, .ref q_ax, .ref q_ay, .ref q_bx, .ref q_by, .int s_joints, .ref q_x, .ref q_y, .ref q_d, .int s_pieces, .ref q_from, .ref q_to, .ref q_firm])), (q_d, .inl (ky 1, 240, .inr (.inl s_d))), (q_x, .inl (ky 1, 240, .inr (.inl s_x))), (q_y, .inl (ky 1, 240, .inr (.inl s_y)))] [(q_, .inr (10, [.int s_w, .int s_h, .int s_leads, .int s_lines, .ref q_ax, .ref q_ay, .ref q_bx, .ref q_by, .int o_joints, .ref q_x, .ref q_y, .ref q_d, .int s_pieces, .ref q_from, .ref q_to, .ref q_firm])), (q_d, .inl (ky 1, 240, .inr (.inl o_d))), (q_x, .inl (ky 1, 240, .inr (.inl o_x))), (q_y, .inl (ky 1, 240, .inr (.inl o_y)))] 0 0 := by
  refine MtV.of (cc := cX10_joint) (maxL := 17) (by decide +kernel) rfl (Nat.le_of_ble_eq_true rfl) ?_
  intro p e R s m args below meth c A Q ls hR hx hb hts hown hnm hml hP hK hD hA ret hl
  have rt := rtV (dc := fun pc => decode cX10_joint pc = .ok (.return_, 1)) (o_joints, o_d, o_x, o_y) (fun t => [(q_, .inr (10, [.int s_w, .int s_h, .int s_leads, .int s_lines, .ref q_ax, .ref q_ay, .ref q_bx, .ref q_by, .int t.1, .ref q_x, .ref q_y, .ref q_d, .int s_pieces, .ref q_from, .ref q_to, .ref q_firm])), (q_d, .inl (ky 1, 240, .inr (.inl t.2.1))), (q_x, .inl (ky 1, 240, .inr (.inl t.2.2.1))), (q_y, .inl (ky 1, 240, .inr (.inl t.2.2.2)))]) ret
  subst hR
  obtain ⟨H, hH⟩ : ∃ H, H = s.heap := ⟨_, rfl⟩
  obtain ⟨locs, hlocs⟩ : ∃ locs : List Loc, locs = [] := ⟨_, rfl⟩
  have hS : va_S A s.heap H locs := by rw [hH, hlocs]; exact va_S.rf
  rw [← hH] at hP
  suffices hgo : W p l e rmX10_joint s m args below meth c H locs 0 0 Q (F0 m 0 ls []) by rw [hH, hlocs] at hgo; exact hgo
  clear hH hlocs
  replace hl : lv_has ls 17 [(0, .ref q_), (1, .long a1), (3, .long a3), (5, .long a5)] := hl
  replace hown : s.vm.findClass RX10 = some m.cls := hown
  have hn_82 := hK.2 (.methodLinkNest RX10 82 yX12_gcd RX12) (by decide +kernel)
  have hini_X12 := hts (.initialized RX12) (by decide +kernel)
  have hst_X12_gcd := hts (.static yX12_gcd) (by decide +kernel)
  have hi_X10 : ∀ w ∈ u_ws RX10 TX10 16, w ∈ wsX10_joint := fun _ h9 => List.mem_cons_of_mem _ (List.mem_append_right _ h9)
  have hf_61 := hts (.fieldLink RX10 61 "GlazierBenchModel$Drawing" "joints" "I") (by decide +kernel)
  have hf_24 := hts (.fieldLink RX10 24 "GlazierBenchModel$Drawing" "x" "[J") (by decide +kernel)
  have hf_28 := hts (.fieldLink RX10 28 "GlazierBenchModel$Drawing" "y" "[J") (by decide +kernel)
  have hf_31 := hts (.fieldLink RX10 31 "GlazierBenchModel$Drawing" "d" "[J") (by decide +kernel)
  have hk_86 := hts (.constantLong RX10 86 (-1)) (by decide +kernel)
  unfold sX10_joint at h
  refine lv_lload_n hx hb dX10_joint_0 rfl (lv_at hl 1 rfl) ?_
  refine lv_lload_n hx hb dX10_joint_1 rfl (lv_at hl 2 rfl) ?_
  obtain ⟨r1, hc, h⟩ := ob_of h
  replace h := dm1_of h
  refine cn_l (As := [.long a1, .long a3]) (rest := []) (wr := [(q_, .inr (10, [.int s_w, .int s_h, .int s_leads, .int s_lines, .ref q_ax, .ref q_ay, .ref q_bx, .ref q_by, .int s_joints, .ref q_x, .ref q_y, .ref q_d, .int s_pieces, .ref q_from, .ref q_to, .ref q_firm])), (q_d, .inl (ky 1, 240, .inr (.inl s_d))), (q_x, .inl (ky 1, 240, .inr (.inl s_x))), (q_y, .inl (ky 1, 240, .inr (.inl s_y)))]) (wn := [(q_, .inr (10, [.int s_w, .int s_h, .int s_leads, .int s_lines, .ref q_ax, .ref q_ay, .ref q_bx, .ref q_by, .int s_joints, .ref q_x, .ref q_y, .ref q_d, .int s_pieces, .ref q_from, .ref q_to, .ref q_firm])), (q_d, .inl (ky 1, 240, .inr (.inl s_d))), (q_x, .inl (ky 1, 240, .inr (.inl s_x))), (q_y, .inl (ky 1, 240, .inr (.inl s_y)))]) ⟨hx, hb, hml, hown, hts⟩ (c_X12_gcd l D ky a1 a3 hc) ⟨va_cnB 2 hts gX10_joint_X12_gcd_n82 rfl rfl rfl hn_82 hini_X12 (by decide +kernel) ⟨Nat.le_of_ble_eq_true rfl, Nat.le_of_ble_eq_true rfl⟩, hst_X12_gcd, trivial⟩ hP hD hK hS hA [] [0, 1, 2, 3] [0, 1, 2, 3] rfl (by decide +kernel) rfl (by decide +kernel) (by decide +kernel) (by decide +kernel) rfl rfl rfl hl.1 (Nat.le_of_ble_eq_true rfl) dX10_joint_2 ⟨Nat.le_of_ble_eq_true rfl, Nat.le_of_ble_eq_true rfl⟩ (fun H locs hP hD hS => ?_)
  refine lv_lload hx hb dX10_joint_5 (lv_at hl 3 rfl) ?_
  obtain ⟨r2, hc, h⟩ := ob_of h
  replace h := dm1_of h
  refine cn_l (As := [.long r1, .long a5]) (rest := []) (wr := [(q_, .inr (10, [.int s_w, .int s_h, .int s_leads, .int s_lines, .ref q_ax, .ref q_ay, .ref q_bx, .ref q_by, .int s_joints, .ref q_x, .ref q_y, .ref q_d, .int s_pieces, .ref q_from, .ref q_to, .ref q_firm])), (q_d, .inl (ky 1, 240, .inr (.inl s_d))), (q_x, .inl (ky 1, 240, .inr (.inl s_x))), (q_y, .inl (ky 1, 240, .inr (.inl s_y)))]) (wn := [(q_, .inr (10, [.int s_w, .int s_h, .int s_leads, .int s_lines, .ref q_ax, .ref q_ay, .ref q_bx, .ref q_by, .int s_joints, .ref q_x, .ref q_y, .ref q_d, .int s_pieces, .ref q_from, .ref q_to, .ref q_firm])), (q_d, .inl (ky 1, 240, .inr (.inl s_d))), (q_x, .inl (ky 1, 240, .inr (.inl s_x))), (q_y, .inl (ky 1, 240, .inr (.inl s_y)))]) ⟨hx, hb, hml, hown, hts⟩ (c_X12_gcd l D ky r1 a5 hc) ⟨va_cnB 2 hts gX10_joint_X12_gcd_n82 rfl rfl rfl hn_82 hini_X12 (by decide +kernel) ⟨Nat.le_of_ble_eq_true rfl, Nat.le_of_ble_eq_true rfl⟩, hst_X12_gcd, trivial⟩ hP hD hK hS hA [] [0, 1, 2, 3] [0, 1, 2, 3] rfl (by decide +kernel) rfl (by decide +kernel) (by decide +kernel) (by decide +kernel) rfl rfl rfl hl.1 (Nat.le_of_ble_eq_true rfl) dX10_joint_7 ⟨Nat.le_of_ble_eq_true rfl, Nat.le_of_ble_eq_true rfl⟩ (fun H locs hP hD hS => ?_)
  refine lv_lload hx hb dX10_joint_10 (lv_at hl 3 rfl) ?_
  refine lv_lconst (v := 0) hx hb dX10_joint_12 (by decide) ?_
  refine W.lcmp hx hb dX10_joint_13 ?_
  obtain ⟨t, hd, h⟩ := ob_of h
  have K : ∀ (H : Heap) (locs : List Loc) (ls : Array Slot), va_P D vwCl [(q_, .inr (10, [.int s_w, .int s_h, .int s_leads, .int s_lines, .ref q_ax, .ref q_ay, .ref q_bx, .ref q_by, .int s_joints, .ref q_x, .ref q_y, .ref q_d, .int s_pieces, .ref q_from, .ref q_to, .ref q_firm])), (q_d, .inl (ky 1, 240, .inr (.inl s_d))), (q_x, .inl (ky 1, 240, .inr (.inl s_x))), (q_y, .inl (ky 1, 240, .inr (.inl s_y)))] H → va_D A [(q_, .inr (10, [.int s_w, .int s_h, .int s_leads, .int s_lines, .ref q_ax, .ref q_ay, .ref q_bx, .ref q_by, .int s_joints, .ref q_x, .ref q_y, .ref q_d, .int s_pieces, .ref q_from, .ref q_to, .ref q_firm])), (q_d, .inl (ky 1, 240, .inr (.inl s_d))), (q_x, .inl (ky 1, 240, .inr (.inl s_x))), (q_y, .inl (ky 1, 240, .inr (.inl s_y)))] → va_S A s.heap H locs → lv_has ls 17 [(0, .ref q_), (1, .long a1), (3, .long a3), (5, .long a5)] → W p l e rmX10_joint s m args below meth c H locs 0 0 Q (F0 m 24 ls [.long t, .long r2]) := by
    clear hd hP hD hS hl
    obtain ⟨v3, rfl⟩ : ∃ z, z = t := ⟨_, rfl⟩
    replace h := dm1_of h
    intro H locs ls hP hD hS hl
    replace hP : va_P D vwCl [(q_, .inr (10, [.int s_w, .int s_h, .int s_leads, .int s_lines, .ref q_ax, .ref q_ay, .ref q_bx, .ref q_by, .int s_joints, .ref q_x, .ref q_y, .ref q_d, .int s_pieces, .ref q_from, .ref q_to, .ref q_firm])), (q_d, .inl (ky 1, 240, .inr (.inl s_d))), (q_x, .inl (ky 1, 240, .inr (.inl s_x))), (q_y, .inl (ky 1, 240, .inr (.inl s_y)))] H := hP
    replace hD : va_D A [(q_, .inr (10, [.int s_w, .int s_h, .int s_leads, .int s_lines, .ref q_ax, .ref q_ay, .ref q_bx, .ref q_by, .int s_joints, .ref q_x, .ref q_y, .ref q_d, .int s_pieces, .ref q_from, .ref q_to, .ref q_firm])), (q_d, .inl (ky 1, 240, .inr (.inl s_d))), (q_x, .inl (ky 1, 240, .inr (.inl s_x))), (q_y, .inl (ky 1, 240, .inr (.inl s_y)))] := hD
    replace hl : lv_has ls 17 [(0, .ref q_), (1, .long a1), (3, .long a3), (5, .long a5)] := hl
    refine W.eq (g2 := F0 m 24 ls [.long v3, .long r2]) rfl ?_
    refine lv_lmul hx hb dX10_joint_24 ?_
    refine lv_topl (fun x4 ex4 => ?_)
    replace h := lt_at ex4 h
    refine lv_lstore (lv' := [(7, .long x4), (0, .ref q_), (1, .long a1), (3, .long a3), (5, .long a5)]) hx hb dX10_joint_25 hl (by decide) rfl (fun ls hl => ?_)
    refine lv_lload_n hx hb dX10_joint_27 rfl (lv_at hl 2 rfl) ?_
    refine lv_lload hx hb dX10_joint_28 (lv_at hl 0 rfl) ?_
    obtain ⟨hg, h⟩ := gd_of h
    refine lv_ldiv hx hb dX10_joint_30 hg ?_
    refine lv_topl (fun x5 ex5 => ?_)
    replace h := lt_at ex5 h
    refine lv_lstore (lv' := [(9, .long x5), (7, .long x4), (0, .ref q_), (1, .long a1), (3, .long a3), (5, .long a5)]) hx hb dX10_joint_31 hl (by decide) rfl (fun ls hl => ?_)
    refine lv_lload_n hx hb dX10_joint_33 rfl (lv_at hl 4 rfl) ?_
    refine lv_lload hx hb dX10_joint_34 (lv_at hl 1 rfl) ?_
    obtain ⟨hg, h⟩ := gd_of h
    refine lv_ldiv hx hb dX10_joint_36 hg ?_
    refine lv_topl (fun x6 ex6 => ?_)
    replace h := lt_at ex6 h
    refine lv_lstore (lv' := [(11, .long x6), (9, .long x5), (7, .long x4), (0, .ref q_), (1, .long a1), (3, .long a3), (5, .long a5)]) hx hb dX10_joint_37 hl (by decide) rfl (fun ls hl => ?_)
    refine lv_lload hx hb dX10_joint_39 (lv_at hl 6 rfl) ?_
    refine lv_lload hx hb dX10_joint_41 (lv_at hl 2 rfl) ?_
    obtain ⟨hg, h⟩ := gd_of h
    refine lv_ldiv hx hb dX10_joint_43 hg ?_
    refine lv_topl (fun x7 ex7 => ?_)
    replace h := lt_at ex7 h
    refine lv_lstore (lv' := [(13, .long x7), (11, .long x6), (9, .long x5), (7, .long x4), (0, .ref q_), (1, .long a1), (3, .long a3), (5, .long a5)]) hx hb dX10_joint_44 hl (by decide) rfl (fun ls hl => ?_)
    refine lv_aload_n hx hb dX10_joint_46 rfl (lv_at hl 4 rfl) ?_
    refine va_get (D := D) (ci := 10) (v := .int s_joints) (C := RX10) (T := TX10) (N := 16) hx hb hts hi_X10 hown hK.1 hP 0 rfl rfl 8 (by decide) hf_61 (fun _ h9 => h9) rfl dX10_joint_47 ?_
    refine lv_istore (lv' := [(15, .int s_joints), (13, .long x7), (11, .long x6), (9, .long x5), (7, .long x4), (0, .ref q_), (1, .long a1), (3, .long a3), (5, .long a5)]) hx hb dX10_joint_50 hl (by decide) rfl (fun ls hl => ?_)
    obtain ⟨⟨k, t⟩, hi, h⟩ := ob_of h
    refine iter_rule (P := fun (k : Nat) (t : Int32) => ∀ (H : Heap) (locs : List Loc) (ls : Array Slot), va_P D vwCl [(q_, .inr (10, [.int s_w, .int s_h, .int s_leads, .int s_lines, .ref q_ax, .ref q_ay, .ref q_bx, .ref q_by, .int s_joints, .ref q_x, .ref q_y, .ref q_d, .int s_pieces, .ref q_from, .ref q_to, .ref q_firm])), (q_d, .inl (ky 1, 240, .inr (.inl s_d))), (q_x, .inl (ky 1, 240, .inr (.inl s_x))), (q_y, .inl (ky 1, 240, .inr (.inl s_y)))] H → va_D A [(q_, .inr (10, [.int s_w, .int s_h, .int s_leads, .int s_lines, .ref q_ax, .ref q_ay, .ref q_bx, .ref q_by, .int s_joints, .ref q_x, .ref q_y, .ref q_d, .int s_pieces, .ref q_from, .ref q_to, .ref q_firm])), (q_d, .inl (ky 1, 240, .inr (.inl s_d))), (q_x, .inl (ky 1, 240, .inr (.inl s_x))), (q_y, .inl (ky 1, 240, .inr (.inl s_y)))] → va_S A s.heap H locs → lv_has ls 17 [(0, .ref q_), (9, .long x5), (11, .long x6), (13, .long x7), (15, .int t)] → W p l e rmX10_joint s m args below meth c H locs 0 0 Q (F0 m ([52, 91, 98].getD k 0) ls [])) ?_ _ _ _ _ hi ?_ H locs ls hP hD hS (lv_sub hl [5, 3, 2, 1, 0] rfl)
    · clear h hi hP hD hS hl
      intro t k t' h K
      obtain ⟨v8, rfl⟩ : ∃ z, z = t := ⟨_, rfl⟩
      intro H locs ls hP hD hS hl
      replace h := dm1_of h
      replace hP : va_P D vwCl [(q_, .inr (10, [.int s_w, .int s_h, .int s_leads, .int s_lines, .ref q_ax, .ref q_ay, .ref q_bx, .ref q_by, .int s_joints, .ref q_x, .ref q_y, .ref q_d, .int s_pieces, .ref q_from, .ref q_to, .ref q_firm])), (q_d, .inl (ky 1, 240, .inr (.inl s_d))), (q_x, .inl (ky 1, 240, .inr (.inl s_x))), (q_y, .inl (ky 1, 240, .inr (.inl s_y)))] H := hP
      replace hD : va_D A [(q_, .inr (10, [.int s_w, .int s_h, .int s_leads, .int s_lines, .ref q_ax, .ref q_ay, .ref q_bx, .ref q_by, .int s_joints, .ref q_x, .ref q_y, .ref q_d, .int s_pieces, .ref q_from, .ref q_to, .ref q_firm])), (q_d, .inl (ky 1, 240, .inr (.inl s_d))), (q_x, .inl (ky 1, 240, .inr (.inl s_x))), (q_y, .inl (ky 1, 240, .inr (.inl s_y)))] := hD
      replace hl : lv_has ls 17 [(0, .ref q_), (9, .long x5), (11, .long x6), (13, .long x7), (15, .int v8)] := hl
      refine lv_iload hx hb dX10_joint_52 (lv_at hl 4 rfl) ?_
      refine lv_if_le (tgt := 98) hx hb dX10_joint_54 (by decide) (fun hc => ?_) (fun hc => ?_)
      · replace h := if_t hc h
        cases h
        exact K _ _ _ hP hD hS (lv_sub hl [0, 1, 2, 3, 4] rfl)
      · replace h := if_f hc h
        refine lv_aload_n hx hb dX10_joint_57 rfl (lv_at hl 0 rfl) ?_
        refine lv_lload hx hb dX10_joint_58 (lv_at hl 1 rfl) ?_
        refine lv_lload hx hb dX10_joint_60 (lv_at hl 2 rfl) ?_
        refine lv_lload hx hb dX10_joint_62 (lv_at hl 3 rfl) ?_
        refine lv_iload hx hb dX10_joint_64 (lv_at hl 4 rfl) ?_
        refine lv_iconst (v := 1) hx hb dX10_joint_66 (by decide) ?_
        refine lv_isub hx hb dX10_joint_67 ?_
        obtain ⟨r9, hc, h⟩ := ob_of h
        replace h := dm1_of h
        refine cv_i (As := [.long x5, .long x6, .long x7, .int (v8 - (1 : Int32))]) (rest := []) (wr := []) (wn := [(q_, .inr (10, [.int s_w, .int s_h, .int s_leads, .int s_lines, .ref q_ax, .ref q_ay, .ref q_bx, .ref q_by, .int s_joints, .ref q_x, .ref q_y, .ref q_d, .int s_pieces, .ref q_from, .ref q_to, .ref q_firm])), (q_d, .inl (ky 1, 240, .inr (.inl s_d))), (q_x, .inl (ky 1, 240, .inr (.inl s_x))), (q_y, .inl (ky 1, 240, .inr (.inl s_y)))]) ⟨hx, hb, hml, hown, hts⟩ (c_X10_order l D ky q_ q_ax q_ay q_bx q_by q_x q_y q_d q_from q_to q_firm x5 x6 x7 (v8 - (1 : Int32)) s_w s_h s_leads s_lines s_joints s_pieces s_d s_x s_y hc) (cwV 4 hts gX10_joint_X10_order rfl rfl rfl (by decide +kernel) ⟨Nat.le_of_ble_eq_true rfl, Nat.le_of_ble_eq_true rfl⟩) (rcv hK.1 hP (q0 := 0) rfl rfl) hP hD hK hS hA [0, 1, 2, 3] [] [0, 1, 2, 3] rfl (by decide +kernel) rfl (by decide +kernel) (by decide +kernel) (by decide +kernel) rfl rfl rfl hl.1 (Nat.le_of_ble_eq_true rfl) dX10_joint_68 ⟨Nat.le_of_ble_eq_true rfl, Nat.le_of_ble_eq_true rfl⟩ (fun H locs hP hD hS => ?_)
        refine lv_if_gt (tgt := 98) hx hb dX10_joint_71 (by decide) (fun hc => ?_) (fun hc => ?_)
        · replace h := if_t hc h
          cases h
          exact K _ _ _ hP hD hS (lv_sub hl [0, 1, 2, 3, 4] rfl)
        · replace h := if_f hc h
          refine lv_aload_n hx hb dX10_joint_74 rfl (lv_at hl 0 rfl) ?_
          refine lv_lload hx hb dX10_joint_75 (lv_at hl 1 rfl) ?_
          refine lv_lload hx hb dX10_joint_77 (lv_at hl 2 rfl) ?_
          refine lv_lload hx hb dX10_joint_79 (lv_at hl 3 rfl) ?_
          refine lv_iload hx hb dX10_joint_81 (lv_at hl 4 rfl) ?_
          refine lv_iconst (v := 1) hx hb dX10_joint_83 (by decide) ?_
          refine lv_isub hx hb dX10_joint_84 ?_
          obtain ⟨r10, hc, h⟩ := ob_of h
          replace h := dm1_of h
          refine cv_i (As := [.long x5, .long x6, .long x7, .int (v8 - (1 : Int32))]) (rest := []) (wr := []) (wn := [(q_, .inr (10, [.int s_w, .int s_h, .int s_leads, .int s_lines, .ref q_ax, .ref q_ay, .ref q_bx, .ref q_by, .int s_joints, .ref q_x, .ref q_y, .ref q_d, .int s_pieces, .ref q_from, .ref q_to, .ref q_firm])), (q_d, .inl (ky 1, 240, .inr (.inl s_d))), (q_x, .inl (ky 1, 240, .inr (.inl s_x))), (q_y, .inl (ky 1, 240, .inr (.inl s_y)))]) ⟨hx, hb, hml, hown, hts⟩ (c_X10_order l D ky q_ q_ax q_ay q_bx q_by q_x q_y q_d q_from q_to q_firm x5 x6 x7 (v8 - (1 : Int32)) s_w s_h s_leads s_lines s_joints s_pieces s_d s_x s_y hc) (cwV 4 hts gX10_joint_X10_order rfl rfl rfl (by decide +kernel) ⟨Nat.le_of_ble_eq_true rfl, Nat.le_of_ble_eq_true rfl⟩) (rcv hK.1 hP (q0 := 0) rfl rfl) hP hD hK hS hA [0, 1, 2, 3] [] [0, 1, 2, 3] rfl (by decide +kernel) rfl (by decide +kernel) (by decide +kernel) (by decide +kernel) rfl rfl rfl hl.1 (Nat.le_of_ble_eq_true rfl) dX10_joint_85 ⟨Nat.le_of_ble_eq_true rfl, Nat.le_of_ble_eq_true rfl⟩ (fun H locs hP hD hS => ?_)
          refine lv_if_ne (tgt := 92) hx hb dX10_joint_88 (by decide) (fun hc => ?_) (fun hc => ?_)
          · replace h := if_t hc h
            obtain ⟨x11, ex11⟩ : ∃ z : Int32, z = v8 + (-1) := ⟨_, rfl⟩
            replace h := lt_at ex11 h
            refine lv_iinc (v := x11) (lv' := [(15, .int x11), (0, .ref q_), (9, .long x5), (11, .long x6), (13, .long x7)]) hx hb dX10_joint_92 hl (k := 4) rfl (by rw [ex11]; rfl) (by decide) rfl (fun ls hl => ?_)
            refine lv_goto (tgt := 52) hx hb dX10_joint_95 (by decide) ?_
            cases h
            exact K _ _ _ hP hD hS (lv_sub hl [1, 2, 3, 4, 0] rfl)
          · replace h := if_f (fun z => z hc) h
            cases h
            exact K _ _ _ hP hD hS (lv_sub hl [0, 1, 2, 3, 4] rfl)
    · have h1 := ex2_of h
      clear h hi
      rcases h1 with ⟨rfl, h⟩ | ⟨rfl, h⟩
      · skip
        obtain ⟨v12, rfl⟩ : ∃ z, z = t := ⟨_, rfl⟩
        replace h := dm1_of h
        intro H locs ls hP hD hS hl
        replace hP : va_P D vwCl [(q_, .inr (10, [.int s_w, .int s_h, .int s_leads, .int s_lines, .ref q_ax, .ref q_ay, .ref q_bx, .ref q_by, .int s_joints, .ref q_x, .ref q_y, .ref q_d, .int s_pieces, .ref q_from, .ref q_to, .ref q_firm])), (q_d, .inl (ky 1, 240, .inr (.inl s_d))), (q_x, .inl (ky 1, 240, .inr (.inl s_x))), (q_y, .inl (ky 1, 240, .inr (.inl s_y)))] H := hP
        replace hD : va_D A [(q_, .inr (10, [.int s_w, .int s_h, .int s_leads, .int s_lines, .ref q_ax, .ref q_ay, .ref q_bx, .ref q_by, .int s_joints, .ref q_x, .ref q_y, .ref q_d, .int s_pieces, .ref q_from, .ref q_to, .ref q_firm])), (q_d, .inl (ky 1, 240, .inr (.inl s_d))), (q_x, .inl (ky 1, 240, .inr (.inl s_x))), (q_y, .inl (ky 1, 240, .inr (.inl s_y)))] := hD
        replace hl : lv_has ls 17 [(0, .ref q_), (9, .long x5), (11, .long x6), (13, .long x7), (15, .int v12)] := hl
        refine W.eq (g2 := F0 m 91 ls []) rfl ?_
        exact rt _ h _ _ _ _ dX10_joint_91 hP hD hS
      · skip
        obtain ⟨v13, rfl⟩ : ∃ z, z = t := ⟨_, rfl⟩
        replace h := dm1_of h
        intro H locs ls hP hD hS hl
        replace hP : va_P D vwCl [(q_, .inr (10, [.int s_w, .int s_h, .int s_leads, .int s_lines, .ref q_ax, .ref q_ay, .ref q_bx, .ref q_by, .int s_joints, .ref q_x, .ref q_y, .ref q_d, .int s_pieces, .ref q_from, .ref q_to, .ref q_firm])), (q_d, .inl (ky 1, 240, .inr (.inl s_d))), (q_x, .inl (ky 1, 240, .inr (.inl s_x))), (q_y, .inl (ky 1, 240, .inr (.inl s_y)))] H := hP
        replace hD : va_D A [(q_, .inr (10, [.int s_w, .int s_h, .int s_leads, .int s_lines, .ref q_ax, .ref q_ay, .ref q_bx, .ref q_by, .int s_joints, .ref q_x, .ref q_y, .ref q_d, .int s_pieces, .ref q_from, .ref q_to, .ref q_firm])), (q_d, .inl (ky 1, 240, .inr (.inl s_d))), (q_x, .inl (ky 1, 240, .inr (.inl s_x))), (q_y, .inl (ky 1, 240, .inr (.inl s_y)))] := hD
        replace hl : lv_has ls 17 [(0, .ref q_), (9, .long x5), (11, .long x6), (13, .long x7), (15, .int v13)] := hl
        refine W.eq (g2 := F0 m 98 ls []) rfl ?_
        refine lv_aload_n hx hb dX10_joint_98 rfl (lv_at hl 0 rfl) ?_
        refine va_get (D := D) (ci := 10) (v := .int s_joints) (C := RX10) (T := TX10) (N := 16) hx hb hts hi_X10 hown hK.1 hP 0 rfl rfl 8 (by decide) hf_61 (fun _ h9 => h9) rfl dX10_joint_99 ?_
        refine lv_istore (lv' := [(16, .int s_joints), (0, .ref q_), (9, .long x5), (11, .long x6), (13, .long x7), (15, .int v13)]) hx hb dX10_joint_102 hl (by decide) rfl (fun ls hl => ?_)
        obtain ⟨⟨k, t⟩, hi, h⟩ := ob_of h
        refine iter_rule (P := fun (k : Nat) (t : Int32 × (Nat → Int64) × (Nat → Int64) × (Nat → Int64)) => ∀ (H : Heap) (locs : List Loc) (ls : Array Slot), va_P D vwCl [(q_, .inr (10, [.int s_w, .int s_h, .int s_leads, .int s_lines, .ref q_ax, .ref q_ay, .ref q_bx, .ref q_by, .int s_joints, .ref q_x, .ref q_y, .ref q_d, .int s_pieces, .ref q_from, .ref q_to, .ref q_firm])), (q_d, .inl (ky 1, 240, .inr (.inl t.2.1))), (q_x, .inl (ky 1, 240, .inr (.inl t.2.2.1))), (q_y, .inl (ky 1, 240, .inr (.inl t.2.2.2)))] H → va_D A [(q_, .inr (10, [.int s_w, .int s_h, .int s_leads, .int s_lines, .ref q_ax, .ref q_ay, .ref q_bx, .ref q_by, .int s_joints, .ref q_x, .ref q_y, .ref q_d, .int s_pieces, .ref q_from, .ref q_to, .ref q_firm])), (q_d, .inl (ky 1, 240, .inr (.inl t.2.1))), (q_x, .inl (ky 1, 240, .inr (.inl t.2.2.1))), (q_y, .inl (ky 1, 240, .inr (.inl t.2.2.2)))] → va_S A s.heap H locs → lv_has ls 17 [(0, .ref q_), (9, .long x5), (11, .long x6), (13, .long x7), (15, .int v13), (16, .int t.1)] → W p l e rmX10_joint s m args below meth c H locs 0 0 Q (F0 m ([104, 165].getD k 0) ls [])) ?_ _ _ _ _ hi ?_ H locs ls hP hD hS (lv_sub hl [1, 2, 3, 4, 5, 0] rfl)
        · clear h hi hP hD hS hl
          intro t k t' h K
          obtain ⟨v14, v15, v16, v17⟩ := t
          intro H locs ls hP hD hS hl
          replace h := dm4_of h
          replace hP : va_P D vwCl [(q_, .inr (10, [.int s_w, .int s_h, .int s_leads, .int s_lines, .ref q_ax, .ref q_ay, .ref q_bx, .ref q_by, .int s_joints, .ref q_x, .ref q_y, .ref q_d, .int s_pieces, .ref q_from, .ref q_to, .ref q_firm])), (q_d, .inl (ky 1, 240, .inr (.inl v15))), (q_x, .inl (ky 1, 240, .inr (.inl v16))), (q_y, .inl (ky 1, 240, .inr (.inl v17)))] H := hP
          replace hD : va_D A [(q_, .inr (10, [.int s_w, .int s_h, .int s_leads, .int s_lines, .ref q_ax, .ref q_ay, .ref q_bx, .ref q_by, .int s_joints, .ref q_x, .ref q_y, .ref q_d, .int s_pieces, .ref q_from, .ref q_to, .ref q_firm])), (q_d, .inl (ky 1, 240, .inr (.inl v15))), (q_x, .inl (ky 1, 240, .inr (.inl v16))), (q_y, .inl (ky 1, 240, .inr (.inl v17)))] := hD
          replace hl : lv_has ls 17 [(0, .ref q_), (9, .long x5), (11, .long x6), (13, .long x7), (15, .int v13), (16, .int v14)] := hl
          refine lv_iload hx hb dX10_joint_104 (lv_at hl 5 rfl) ?_
          refine lv_iload hx hb dX10_joint_106 (lv_at hl 4 rfl) ?_
          refine lv_icmp_le (tgt := 165) hx hb dX10_joint_108 (by decide) (fun hc => ?_) (fun hc => ?_)
          · replace h := if_t hc h
            cases h
            exact K _ _ _ hP hD hS (lv_sub hl [0, 1, 2, 3, 4, 5] rfl)
          · replace h := if_f hc h
            refine lv_aload_n hx hb dX10_joint_111 rfl (lv_at hl 0 rfl) ?_
            refine va_get (D := D) (ci := 10) (v := .ref q_x) (C := RX10) (T := TX10) (N := 16) hx hb hts hi_X10 hown hK.1 hP 0 rfl rfl 9 (by decide) hf_24 (fun _ h9 => h9) rfl dX10_joint_112 ?_
            refine lv_iload hx hb dX10_joint_115 (lv_at hl 5 rfl) ?_
            refine lv_aload_n hx hb dX10_joint_117 rfl (lv_at hl 0 rfl) ?_
            refine va_get (D := D) (ci := 10) (v := .ref q_x) (C := RX10) (T := TX10) (N := 16) hx hb hts hi_X10 hown hK.1 hP 0 rfl rfl 9 (by decide) hf_24 (fun _ h9 => h9) rfl dX10_joint_118 ?_
            refine lv_iload hx hb dX10_joint_121 (lv_at hl 5 rfl) ?_
            refine lv_iconst (v := 1) hx hb dX10_joint_123 (by decide) ?_
            refine lv_isub hx hb dX10_joint_124 ?_
            obtain ⟨hg, h⟩ := gd_of h
            refine va_lald hx hb hK.1 hP 2 1 rfl rfl hg dX10_joint_125 ?_
            obtain ⟨hg, h⟩ := gd_of h
            refine r_last hx hb hK.1 hP hD hS 2 1 rfl rfl hg dX10_joint_126 (fun f18 ef18 H locs hP hD hS => ?_)
            replace h := lt_at ef18 h
            replace hP : va_P D vwCl [(q_, .inr (10, [.int s_w, .int s_h, .int s_leads, .int s_lines, .ref q_ax, .ref q_ay, .ref q_bx, .ref q_by, .int s_joints, .ref q_x, .ref q_y, .ref q_d, .int s_pieces, .ref q_from, .ref q_to, .ref q_firm])), (q_d, .inl (ky 1, 240, .inr (.inl v15))), (q_x, .inl (ky 1, 240, .inr (.inl f18))), (q_y, .inl (ky 1, 240, .inr (.inl v17)))] H := hP
            replace hD : va_D A [(q_, .inr (10, [.int s_w, .int s_h, .int s_leads, .int s_lines, .ref q_ax, .ref q_ay, .ref q_bx, .ref q_by, .int s_joints, .ref q_x, .ref q_y, .ref q_d, .int s_pieces, .ref q_from, .ref q_to, .ref q_firm])), (q_d, .inl (ky 1, 240, .inr (.inl v15))), (q_x, .inl (ky 1, 240, .inr (.inl f18))), (q_y, .inl (ky 1, 240, .inr (.inl v17)))] := hD
            refine lv_aload_n hx hb dX10_joint_127 rfl (lv_at hl 0 rfl) ?_
            refine va_get (D := D) (ci := 10) (v := .ref q_y) (C := RX10) (T := TX10) (N := 16) hx hb hts hi_X10 hown hK.1 hP 0 rfl rfl 10 (by decide) hf_28 (fun _ h9 => h9) rfl dX10_joint_128 ?_
            refine lv_iload hx hb dX10_joint_131 (lv_at hl 5 rfl) ?_
            refine lv_aload_n hx hb dX10_joint_133 rfl (lv_at hl 0 rfl) ?_
            refine va_get (D := D) (ci := 10) (v := .ref q_y) (C := RX10) (T := TX10) (N := 16) hx hb hts hi_X10 hown hK.1 hP 0 rfl rfl 10 (by decide) hf_28 (fun _ h9 => h9) rfl dX10_joint_134 ?_
            refine lv_iload hx hb dX10_joint_137 (lv_at hl 5 rfl) ?_
            refine lv_iconst (v := 1) hx hb dX10_joint_139 (by decide) ?_
            refine lv_isub hx hb dX10_joint_140 ?_
            obtain ⟨hg, h⟩ := gd_of h
            refine va_lald hx hb hK.1 hP 3 1 rfl rfl hg dX10_joint_141 ?_
            obtain ⟨hg, h⟩ := gd_of h
            refine r_last hx hb hK.1 hP hD hS 3 1 rfl rfl hg dX10_joint_142 (fun f19 ef19 H locs hP hD hS => ?_)
            replace h := lt_at ef19 h
            replace hP : va_P D vwCl [(q_, .inr (10, [.int s_w, .int s_h, .int s_leads, .int s_lines, .ref q_ax, .ref q_ay, .ref q_bx, .ref q_by, .int s_joints, .ref q_x, .ref q_y, .ref q_d, .int s_pieces, .ref q_from, .ref q_to, .ref q_firm])), (q_d, .inl (ky 1, 240, .inr (.inl v15))), (q_x, .inl (ky 1, 240, .inr (.inl f18))), (q_y, .inl (ky 1, 240, .inr (.inl f19)))] H := hP
            replace hD : va_D A [(q_, .inr (10, [.int s_w, .int s_h, .int s_leads, .int s_lines, .ref q_ax, .ref q_ay, .ref q_bx, .ref q_by, .int s_joints, .ref q_x, .ref q_y, .ref q_d, .int s_pieces, .ref q_from, .ref q_to, .ref q_firm])), (q_d, .inl (ky 1, 240, .inr (.inl v15))), (q_x, .inl (ky 1, 240, .inr (.inl f18))), (q_y, .inl (ky 1, 240, .inr (.inl f19)))] := hD
            refine lv_aload_n hx hb dX10_joint_143 rfl (lv_at hl 0 rfl) ?_
            refine va_get (D := D) (ci := 10) (v := .ref q_d) (C := RX10) (T := TX10) (N := 16) hx hb hts hi_X10 hown hK.1 hP 0 rfl rfl 11 (by decide) hf_31 (fun _ h9 => h9) rfl dX10_joint_144 ?_
            refine lv_iload hx hb dX10_joint_147 (lv_at hl 5 rfl) ?_
            refine lv_aload_n hx hb dX10_joint_149 rfl (lv_at hl 0 rfl) ?_
            refine va_get (D := D) (ci := 10) (v := .ref q_d) (C := RX10) (T := TX10) (N := 16) hx hb hts hi_X10 hown hK.1 hP 0 rfl rfl 11 (by decide) hf_31 (fun _ h9 => h9) rfl dX10_joint_150 ?_
            refine lv_iload hx hb dX10_joint_153 (lv_at hl 5 rfl) ?_
            refine lv_iconst (v := 1) hx hb dX10_joint_155 (by decide) ?_
            refine lv_isub hx hb dX10_joint_156 ?_
            obtain ⟨hg, h⟩ := gd_of h
            refine va_lald hx hb hK.1 hP 1 1 rfl rfl hg dX10_joint_157 ?_
            obtain ⟨hg, h⟩ := gd_of h
            refine r_last hx hb hK.1 hP hD hS 1 1 rfl rfl hg dX10_joint_158 (fun f20 ef20 H locs hP hD hS => ?_)
            replace h := lt_at ef20 h
            replace hP : va_P D vwCl [(q_, .inr (10, [.int s_w, .int s_h, .int s_leads, .int s_lines, .ref q_ax, .ref q_ay, .ref q_bx, .ref q_by, .int s_joints, .ref q_x, .ref q_y, .ref q_d, .int s_pieces, .ref q_from, .ref q_to, .ref q_firm])), (q_d, .inl (ky 1, 240, .inr (.inl f20))), (q_x, .inl (ky 1, 240, .inr (.inl f18))), (q_y, .inl (ky 1, 240, .inr (.inl f19)))] H := hP
            replace hD : va_D A [(q_, .inr (10, [.int s_w, .int s_h, .int s_leads, .int s_lines, .ref q_ax, .ref q_ay, .ref q_bx, .ref q_by, .int s_joints, .ref q_x, .ref q_y, .ref q_d, .int s_pieces, .ref q_from, .ref q_to, .ref q_firm])), (q_d, .inl (ky 1, 240, .inr (.inl f20))), (q_x, .inl (ky 1, 240, .inr (.inl f18))), (q_y, .inl (ky 1, 240, .inr (.inl f19)))] := hD
            obtain ⟨x21, ex21⟩ : ∃ z : Int32, z = v14 + (-1) := ⟨_, rfl⟩
            replace h := lt_at ex21 h
            refine lv_iinc (v := x21) (lv' := [(16, .int x21), (0, .ref q_), (9, .long x5), (11, .long x6), (13, .long x7), (15, .int v13)]) hx hb dX10_joint_159 hl (k := 5) rfl (by rw [ex21]; rfl) (by decide) rfl (fun ls hl => ?_)
            refine lv_goto (tgt := 104) hx hb dX10_joint_162 (by decide) ?_
            cases h
            exact K _ _ _ hP hD hS (lv_sub hl [1, 2, 3, 4, 5, 0] rfl)
        · have h1 := ex1_of h
          clear h hi
          rcases h1 with ⟨rfl, h⟩
          obtain ⟨v22, v23, v24, v25⟩ := t
          replace h := dm4_of h
          intro H locs ls hP hD hS hl
          replace hP : va_P D vwCl [(q_, .inr (10, [.int s_w, .int s_h, .int s_leads, .int s_lines, .ref q_ax, .ref q_ay, .ref q_bx, .ref q_by, .int s_joints, .ref q_x, .ref q_y, .ref q_d, .int s_pieces, .ref q_from, .ref q_to, .ref q_firm])), (q_d, .inl (ky 1, 240, .inr (.inl v23))), (q_x, .inl (ky 1, 240, .inr (.inl v24))), (q_y, .inl (ky 1, 240, .inr (.inl v25)))] H := hP
          replace hD : va_D A [(q_, .inr (10, [.int s_w, .int s_h, .int s_leads, .int s_lines, .ref q_ax, .ref q_ay, .ref q_bx, .ref q_by, .int s_joints, .ref q_x, .ref q_y, .ref q_d, .int s_pieces, .ref q_from, .ref q_to, .ref q_firm])), (q_d, .inl (ky 1, 240, .inr (.inl v23))), (q_x, .inl (ky 1, 240, .inr (.inl v24))), (q_y, .inl (ky 1, 240, .inr (.inl v25)))] := hD
          replace hl : lv_has ls 17 [(0, .ref q_), (9, .long x5), (11, .long x6), (13, .long x7), (15, .int v13), (16, .int v22)] := hl
          refine W.eq (g2 := F0 m 165 ls []) rfl ?_
          refine lv_aload_n hx hb dX10_joint_165 rfl (lv_at hl 0 rfl) ?_
          refine va_get (D := D) (ci := 10) (v := .ref q_x) (C := RX10) (T := TX10) (N := 16) hx hb hts hi_X10 hown hK.1 hP 0 rfl rfl 9 (by decide) hf_24 (fun _ h9 => h9) rfl dX10_joint_166 ?_
          refine lv_iload hx hb dX10_joint_169 (lv_at hl 4 rfl) ?_
          refine lv_lload hx hb dX10_joint_171 (lv_at hl 1 rfl) ?_
          obtain ⟨hg, h⟩ := gd_of h
          refine r_last hx hb hK.1 hP hD hS 2 1 rfl rfl hg dX10_joint_173 (fun f26 ef26 H locs hP hD hS => ?_)
          replace h := lt_at ef26 h
          replace hP : va_P D vwCl [(q_, .inr (10, [.int s_w, .int s_h, .int s_leads, .int s_lines, .ref q_ax, .ref q_ay, .ref q_bx, .ref q_by, .int s_joints, .ref q_x, .ref q_y, .ref q_d, .int s_pieces, .ref q_from, .ref q_to, .ref q_firm])), (q_d, .inl (ky 1, 240, .inr (.inl v23))), (q_x, .inl (ky 1, 240, .inr (.inl f26))), (q_y, .inl (ky 1, 240, .inr (.inl v25)))] H := hP
          replace hD : va_D A [(q_, .inr (10, [.int s_w, .int s_h, .int s_leads, .int s_lines, .ref q_ax, .ref q_ay, .ref q_bx, .ref q_by, .int s_joints, .ref q_x, .ref q_y, .ref q_d, .int s_pieces, .ref q_from, .ref q_to, .ref q_firm])), (q_d, .inl (ky 1, 240, .inr (.inl v23))), (q_x, .inl (ky 1, 240, .inr (.inl f26))), (q_y, .inl (ky 1, 240, .inr (.inl v25)))] := hD
          refine lv_aload_n hx hb dX10_joint_174 rfl (lv_at hl 0 rfl) ?_
          refine va_get (D := D) (ci := 10) (v := .ref q_y) (C := RX10) (T := TX10) (N := 16) hx hb hts hi_X10 hown hK.1 hP 0 rfl rfl 10 (by decide) hf_28 (fun _ h9 => h9) rfl dX10_joint_175 ?_
          refine lv_iload hx hb dX10_joint_178 (lv_at hl 4 rfl) ?_
          refine lv_lload hx hb dX10_joint_180 (lv_at hl 2 rfl) ?_
          obtain ⟨hg, h⟩ := gd_of h
          refine r_last hx hb hK.1 hP hD hS 3 1 rfl rfl hg dX10_joint_182 (fun f27 ef27 H locs hP hD hS => ?_)
          replace h := lt_at ef27 h
          replace hP : va_P D vwCl [(q_, .inr (10, [.int s_w, .int s_h, .int s_leads, .int s_lines, .ref q_ax, .ref q_ay, .ref q_bx, .ref q_by, .int s_joints, .ref q_x, .ref q_y, .ref q_d, .int s_pieces, .ref q_from, .ref q_to, .ref q_firm])), (q_d, .inl (ky 1, 240, .inr (.inl v23))), (q_x, .inl (ky 1, 240, .inr (.inl f26))), (q_y, .inl (ky 1, 240, .inr (.inl f27)))] H := hP
          replace hD : va_D A [(q_, .inr (10, [.int s_w, .int s_h, .int s_leads, .int s_lines, .ref q_ax, .ref q_ay, .ref q_bx, .ref q_by, .int s_joints, .ref q_x, .ref q_y, .ref q_d, .int s_pieces, .ref q_from, .ref q_to, .ref q_firm])), (q_d, .inl (ky 1, 240, .inr (.inl v23))), (q_x, .inl (ky 1, 240, .inr (.inl f26))), (q_y, .inl (ky 1, 240, .inr (.inl f27)))] := hD
          refine lv_aload_n hx hb dX10_joint_183 rfl (lv_at hl 0 rfl) ?_
          refine va_get (D := D) (ci := 10) (v := .ref q_d) (C := RX10) (T := TX10) (N := 16) hx hb hts hi_X10 hown hK.1 hP 0 rfl rfl 11 (by decide) hf_31 (fun _ h9 => h9) rfl dX10_joint_184 ?_
          refine lv_iload hx hb dX10_joint_187 (lv_at hl 4 rfl) ?_
          refine lv_lload hx hb dX10_joint_189 (lv_at hl 3 rfl) ?_
          obtain ⟨hg, h⟩ := gd_of h
          refine r_last hx hb hK.1 hP hD hS 1 1 rfl rfl hg dX10_joint_191 (fun f28 ef28 H locs hP hD hS => ?_)
          replace h := lt_at ef28 h
          replace hP : va_P D vwCl [(q_, .inr (10, [.int s_w, .int s_h, .int s_leads, .int s_lines, .ref q_ax, .ref q_ay, .ref q_bx, .ref q_by, .int s_joints, .ref q_x, .ref q_y, .ref q_d, .int s_pieces, .ref q_from, .ref q_to, .ref q_firm])), (q_d, .inl (ky 1, 240, .inr (.inl f28))), (q_x, .inl (ky 1, 240, .inr (.inl f26))), (q_y, .inl (ky 1, 240, .inr (.inl f27)))] H := hP
          replace hD : va_D A [(q_, .inr (10, [.int s_w, .int s_h, .int s_leads, .int s_lines, .ref q_ax, .ref q_ay, .ref q_bx, .ref q_by, .int s_joints, .ref q_x, .ref q_y, .ref q_d, .int s_pieces, .ref q_from, .ref q_to, .ref q_firm])), (q_d, .inl (ky 1, 240, .inr (.inl f28))), (q_x, .inl (ky 1, 240, .inr (.inl f26))), (q_y, .inl (ky 1, 240, .inr (.inl f27)))] := hD
          refine lv_aload_n hx hb dX10_joint_192 rfl (lv_at hl 0 rfl) ?_
          refine lv_dup hx hb dX10_joint_193 rfl ?_
          refine va_get (D := D) (ci := 10) (v := .int s_joints) (C := RX10) (T := TX10) (N := 16) hx hb hts hi_X10 hown hK.1 hP 0 rfl rfl 8 (by decide) hf_61 (fun _ h9 => h9) rfl dX10_joint_194 ?_
          refine lv_iconst (v := 1) hx hb dX10_joint_197 (by decide) ?_
          refine lv_iadd hx hb dX10_joint_198 ?_
          refine lv_topi (fun x29 ex29 => ?_)
          replace h := lt_at ex29 h
          refine va_put (D := D) (ci := 10) (v := .int x29) (ty := .int) (C := RX10) (T := TX10) (N := 16) hx hb hts hi_X10 tyX10 tyX10_ok nmX10 hown hK.1 hP hD hS 0 rfl rfl 8 (by decide) hf_61 (fun _ h9 => h9) rfl (by decide +kernel) rfl rfl (Nat.le_of_ble_eq_true rfl) dX10_joint_199 (fun H locs hP hD hS => ?_)
          replace hP : va_P D vwCl [(q_, .inr (10, [.int s_w, .int s_h, .int s_leads, .int s_lines, .ref q_ax, .ref q_ay, .ref q_bx, .ref q_by, .int x29, .ref q_x, .ref q_y, .ref q_d, .int s_pieces, .ref q_from, .ref q_to, .ref q_firm])), (q_d, .inl (ky 1, 240, .inr (.inl f28))), (q_x, .inl (ky 1, 240, .inr (.inl f26))), (q_y, .inl (ky 1, 240, .inr (.inl f27)))] H := hP
          replace hD : va_D A [(q_, .inr (10, [.int s_w, .int s_h, .int s_leads, .int s_lines, .ref q_ax, .ref q_ay, .ref q_bx, .ref q_by, .int x29, .ref q_x, .ref q_y, .ref q_d, .int s_pieces, .ref q_from, .ref q_to, .ref q_firm])), (q_d, .inl (ky 1, 240, .inr (.inl f28))), (q_x, .inl (ky 1, 240, .inr (.inl f26))), (q_y, .inl (ky 1, 240, .inr (.inl f27)))] := hD
          exact rt _ h _ _ _ _ dX10_joint_202 hP hD hS
  replace h := hd
  clear hd
  refine lv_if_ge (tgt := 23) hx hb dX10_joint_14 (by decide) (fun hc => ?_) (fun hc => ?_)
  · replace h := if_t hc h
    refine lv_lconst (v := 1) hx hb dX10_joint_23 (by decide) ?_
    cases h
    exact K _ _ _ hP hD hS (lv_sub hl [0, 1, 2, 3] rfl)
  · replace h := if_f hc h
    refine lv_ldc2 hx hb hown hk_86 dX10_joint_17 ?_
    refine lv_goto (tgt := 24) hx hb dX10_joint_20 (by decide) ?_
    cases h
    exact K _ _ _ hP hD hS (lv_sub hl [0, 1, 2, 3] rfl)

def sX10_cross (a1 : Int32) (a2 : Int32) (s_joints : Int32) (s_ax : Nat → Int32) (s_ay : Nat → Int32) (s_bx : Nat → Int32) (s_by : Nat → Int32) (s_d : Nat → Int64) (s_x : Nat → Int64) (s_y : Nat → Int64) : Option (Int32 × (Nat → Int64) × (Nat → Int64) × (Nat → Int64)) := gd (¬ (a1 < 0 ∨ 18 ≤ a1.toNatClampNeg)) (gd (¬ (a1 < 0 ∨ 18 ≤ a1.toNatClampNeg)) (lt (((s_bx a1.toNatClampNeg) - (s_ax a1.toNatClampNeg)).toInt64) (fun x1 => gd (¬ (a1 < 0 ∨ 18 ≤ a1.toNatClampNeg)) (gd (¬ (a1 < 0 ∨ 18 ≤ a1.toNatClampNeg)) (lt (((s_by a1.toNatClampNeg) - (s_ay a1.toNatClampNeg)).toInt64) (fun x2 => gd (¬ (a2 < 0 ∨ 18 ≤ a2.toNatClampNeg)) (gd (¬ (a2 < 0 ∨ 18 ≤ a2.toNatClampNeg)) (lt (((s_bx a2.toNatClampNeg) - (s_ax a2.toNatClampNeg)).toInt64) (fun x3 => gd (¬ (a2 < 0 ∨ 18 ≤ a2.toNatClampNeg)) (gd (¬ (a2 < 0 ∨ 18 ≤ a2.toNatClampNeg)) (lt (((s_by a2.toNatClampNeg) - (s_ay a2.toNatClampNeg)).toInt64) (fun x4 => lt ((x1 * x4) - (x2 * x3)) (fun x5 => if ¬ (lg_cmp x5 (0 : Int64)) = 0 then gd (¬ (a2 < 0 ∨ 18 ≤ a2.toNatClampNeg)) (gd (¬ (a1 < 0 ∨ 18 ≤ a1.toNatClampNeg)) (lt (((s_ax a2.toNatClampNeg) - (s_ax a1.toNatClampNeg)).toInt64) (fun x6 => gd (¬ (a2 < 0 ∨ 18 ≤ a2.toNatClampNeg)) (gd (¬ (a1 < 0 ∨ 18 ≤ a1.toNatClampNeg)) (lt (((s_ay a2.toNatClampNeg) - (s_ay a1.toNatClampNeg)).toInt64) (fun x7 => lt ((x6 * x4) - (x7 * x3)) (fun x8 => lt ((x6 * x2) - (x7 * x1)) (fun x9 => ob (if 0 ≤ (lg_cmp x5 (0 : Int64)) then some (x5, x8, x9) else lt (-x5) (fun x17 => lt (-x8) (fun x18 => lt (-x9) (fun x19 => some (x17, x18, x19))))) (fun t => dm3 t (fun (v10 : Int64) (v11 : Int64) (v12 : Int64) => if (lg_cmp v11 (0 : Int64)) < 0 then some (s_joints, s_d, s_x, s_y) else if 0 < (lg_cmp v11 v10) then some (s_joints, s_d, s_x, s_y) else if (lg_cmp v12 (0 : Int64)) < 0 then some (s_joints, s_d, s_x, s_y) else if 0 < (lg_cmp v12 v10) then some (s_joints, s_d, s_x, s_y) else gd (¬ (a1 < 0 ∨ 18 ≤ a1.toNatClampNeg)) (gd (¬ (a1 < 0 ∨ 18 ≤ a1.toNatClampNeg)) (ob (sX10_joint ((((s_ax a1.toNatClampNeg).toInt64) * v10) + (v11 * x1)) ((((s_ay a1.toNatClampNeg).toInt64) * v10) + (v11 * x2)) v10 s_joints s_d s_x s_y) (fun o => dm4 o (fun (o13 : Int32) (o14 : Nat → Int64) (o15 : Nat → Int64) (o16 : Nat → Int64) => some (o13, o14, o15, o16))))))))))))))) else some (s_joints, s_d, s_x, s_y))))))))))))))
abbrev rmX10_cross : Room := { frames := 3, cells := 0, slots := 0, locals := 105 }
set_option maxHeartbeats 4000000 in
set_option maxRecDepth 100000 in
theorem c_X10_cross (l : Launch) (D : va_G) (ky : Nat → ClassId) (q_ q_ax q_ay q_bx q_by q_x q_y q_d q_from q_to q_firm : Nat) (a1 : Int32) (a2 : Int32) (s_w : Int32) (s_h : Int32) (s_leads : Int32) (s_lines : Int32) (s_joints : Int32) (s_pieces : Int32) (s_ax : Nat → Int32) (s_ay : Nat → Int32) (s_bx : Nat → Int32) (s_by : Nat → Int32) (s_d : Nat → Int64) (s_x : Nat → Int64) (s_y : Nat → Int64) {o_joints : Int32} {o_d : Nat → Int64} {o_x : Nat → Int64} {o_y : Nat → Int64} (h : sX10_cross a1 a2 s_joints s_ax s_ay s_bx s_by s_d s_x s_y = some (o_joints, o_d, o_x, o_y)) : MtV l D ky yX10_cross wsX10_cross rmX10_cross [.ref q_, .int a1, .int a2] [(q_, .inr (10, [.int s_w, .int s_h, .int s_leads, .int s_lines, .ref q_ax, .ref q_ay, .ref q_bx, .ref q_by, .int s_joints, .ref q_x, .ref q_y, .ref q_d, .int s_pieces, .ref q_from, .ref q_to, .ref q_firm])), (q_ax, .inl (ky 0, 18, .inl s_ax)), (q_ay, .inl (ky 0, 18, .inl s_ay)), (q_bx, .inl (ky 0, 18, .inl s_bx)), (q_by, .inl (ky 0, 18, .inl s_by)), (q_d, .inl (ky 1, 240, .inr (.inl s_d))), (q_x, .inl (ky 1, 240, .inr (.inl s_x))), (q_y, .inl (ky 1, 240, .inr (.inl s_y)))] [(q_, .inr (10, [.int s_w, .int s_h, .int s_leads, .int s_lines, .ref q_ax, .ref q_ay, .ref q_bx, .ref q_by, .int o_joints, .ref q_x, .ref q_y, .ref q_d, .int s_pieces, .ref q_from, .ref q_to, .ref q_firm])), (q_ax, .inl (ky 0, 18, .inl s_ax)), (q_ay, .inl (ky 0, 18, .inl s_ay)), (q_bx, .inl (ky 0, 18, .inl s_bx)), (q_by, .inl (ky 0, 18, .inl s_by)), (q_d, .inl (ky 1, 240, .inr (.inl o_d))), (q_x, .inl (ky 1, 240, .inr (.inl o_x))), (q_y, .inl (ky 1, 240, .inr (.inl o_y)))] 0 0 := by
  refine MtV.of (cc := cX10_cross) (maxL := 21) (by decide +kernel) rfl (Nat.le_of_ble_eq_true rfl) ?_
  intro p e R s m args below meth c A Q ls hR hx hb hts hown hnm hml hP hK hD hA ret hl
  have rt := rtV (dc := fun pc => decode cX10_cross pc = .ok (.return_, 1)) (o_joints, o_d, o_x, o_y) (fun t => [(q_, .inr (10, [.int s_w, .int s_h, .int s_leads, .int s_lines, .ref q_ax, .ref q_ay, .ref q_bx, .ref q_by, .int t.1, .ref q_x, .ref q_y, .ref q_d, .int s_pieces, .ref q_from, .ref q_to, .ref q_firm])), (q_ax, .inl (ky 0, 18, .inl s_ax)), (q_ay, .inl (ky 0, 18, .inl s_ay)), (q_bx, .inl (ky 0, 18, .inl s_bx)), (q_by, .inl (ky 0, 18, .inl s_by)), (q_d, .inl (ky 1, 240, .inr (.inl t.2.1))), (q_x, .inl (ky 1, 240, .inr (.inl t.2.2.1))), (q_y, .inl (ky 1, 240, .inr (.inl t.2.2.2)))]) ret
  subst hR
  obtain ⟨H, hH⟩ : ∃ H, H = s.heap := ⟨_, rfl⟩
  obtain ⟨locs, hlocs⟩ : ∃ locs : List Loc, locs = [] := ⟨_, rfl⟩
  have hS : va_S A s.heap H locs := by rw [hH, hlocs]; exact va_S.rf
  rw [← hH] at hP
  suffices hgo : W p l e rmX10_cross s m args below meth c H locs 0 0 Q (F0 m 0 ls []) by rw [hH, hlocs] at hgo; exact hgo
  clear hH hlocs
  replace hl : lv_has ls 21 [(0, .ref q_), (1, .int a1), (2, .int a2)] := hl
  replace hown : s.vm.findClass RX10 = some m.cls := hown
  have hi_X10 : ∀ w ∈ u_ws RX10 TX10 16, w ∈ wsX10_cross := fun _ h9 => List.mem_cons_of_mem _ (List.mem_append_right _ h9)
  have hf_18 := hts (.fieldLink RX10 18 "GlazierBenchModel$Drawing" "bx" "[I") (by decide +kernel)
  have hf_9 := hts (.fieldLink RX10 9 "GlazierBenchModel$Drawing" "ax" "[I") (by decide +kernel)
  have hf_21 := hts (.fieldLink RX10 21 "GlazierBenchModel$Drawing" "by" "[I") (by decide +kernel)
  have hf_15 := hts (.fieldLink RX10 15 "GlazierBenchModel$Drawing" "ay" "[I") (by decide +kernel)
  unfold sX10_cross at h
  refine lv_aload_n hx hb dX10_cross_0 rfl (lv_at hl 0 rfl) ?_
  refine va_get (D := D) (ci := 10) (v := .ref q_bx) (C := RX10) (T := TX10) (N := 16) hx hb hts hi_X10 hown hK.1 hP 0 rfl rfl 6 (by decide) hf_18 (fun _ h9 => h9) rfl dX10_cross_1 ?_
  refine lv_iload_n hx hb dX10_cross_4 rfl (lv_at hl 1 rfl) ?_
  obtain ⟨hg, h⟩ := gd_of h
  refine va_iald hx hb hK.1 hP 3 0 rfl rfl hg dX10_cross_5 ?_
  refine lv_aload_n hx hb dX10_cross_6 rfl (lv_at hl 0 rfl) ?_
  refine va_get (D := D) (ci := 10) (v := .ref q_ax) (C := RX10) (T := TX10) (N := 16) hx hb hts hi_X10 hown hK.1 hP 0 rfl rfl 4 (by decide) hf_9 (fun _ h9 => h9) rfl dX10_cross_7 ?_
  refine lv_iload_n hx hb dX10_cross_10 rfl (lv_at hl 1 rfl) ?_
  obtain ⟨hg, h⟩ := gd_of h
  refine va_iald hx hb hK.1 hP 1 0 rfl rfl hg dX10_cross_11 ?_
  refine lv_isub hx hb dX10_cross_12 ?_
  refine lv_i2l (v := ((s_bx a1.toNatClampNeg) - (s_ax a1.toNatClampNeg)).toInt64) hx hb dX10_cross_13 rfl ?_
  refine lv_topl (fun x1 ex1 => ?_)
  replace h := lt_at ex1 h
  refine lv_lstore_n (lv' := [(3, .long x1), (0, .ref q_), (1, .int a1), (2, .int a2)]) hx hb dX10_cross_14 rfl hl (by decide) rfl (fun ls hl => ?_)
  refine lv_aload_n hx hb dX10_cross_15 rfl (lv_at hl 1 rfl) ?_
  refine va_get (D := D) (ci := 10) (v := .ref q_by) (C := RX10) (T := TX10) (N := 16) hx hb hts hi_X10 hown hK.1 hP 0 rfl rfl 7 (by decide) hf_21 (fun _ h9 => h9) rfl dX10_cross_16 ?_
  refine lv_iload_n hx hb dX10_cross_19 rfl (lv_at hl 2 rfl) ?_
  obtain ⟨hg, h⟩ := gd_of h
  refine va_iald hx hb hK.1 hP 4 0 rfl rfl hg dX10_cross_20 ?_
  refine lv_aload_n hx hb dX10_cross_21 rfl (lv_at hl 1 rfl) ?_
  refine va_get (D := D) (ci := 10) (v := .ref q_ay) (C := RX10) (T := TX10) (N := 16) hx hb hts hi_X10 hown hK.1 hP 0 rfl rfl 5 (by decide) hf_15 (fun _ h9 => h9) rfl dX10_cross_22 ?_
  refine lv_iload_n hx hb dX10_cross_25 rfl (lv_at hl 2 rfl) ?_
  obtain ⟨hg, h⟩ := gd_of h
  refine va_iald hx hb hK.1 hP 2 0 rfl rfl hg dX10_cross_26 ?_
  refine lv_isub hx hb dX10_cross_27 ?_
  refine lv_i2l (v := ((s_by a1.toNatClampNeg) - (s_ay a1.toNatClampNeg)).toInt64) hx hb dX10_cross_28 rfl ?_
  refine lv_topl (fun x2 ex2 => ?_)
  replace h := lt_at ex2 h
  refine lv_lstore (lv' := [(5, .long x2), (3, .long x1), (0, .ref q_), (1, .int a1), (2, .int a2)]) hx hb dX10_cross_29 hl (by decide) rfl (fun ls hl => ?_)
  refine lv_aload_n hx hb dX10_cross_31 rfl (lv_at hl 2 rfl) ?_
  refine va_get (D := D) (ci := 10) (v := .ref q_bx) (C := RX10) (T := TX10) (N := 16) hx hb hts hi_X10 hown hK.1 hP 0 rfl rfl 6 (by decide) hf_18 (fun _ h9 => h9) rfl dX10_cross_32 ?_
  refine lv_iload_n hx hb dX10_cross_35 rfl (lv_at hl 4 rfl) ?_
  obtain ⟨hg, h⟩ := gd_of h
  refine va_iald hx hb hK.1 hP 3 0 rfl rfl hg dX10_cross_36 ?_
  refine lv_aload_n hx hb dX10_cross_37 rfl (lv_at hl 2 rfl) ?_
  refine va_get (D := D) (ci := 10) (v := .ref q_ax) (C := RX10) (T := TX10) (N := 16) hx hb hts hi_X10 hown hK.1 hP 0 rfl rfl 4 (by decide) hf_9 (fun _ h9 => h9) rfl dX10_cross_38 ?_
  refine lv_iload_n hx hb dX10_cross_41 rfl (lv_at hl 4 rfl) ?_
  obtain ⟨hg, h⟩ := gd_of h
  refine va_iald hx hb hK.1 hP 1 0 rfl rfl hg dX10_cross_42 ?_
  refine lv_isub hx hb dX10_cross_43 ?_
  refine lv_i2l (v := ((s_bx a2.toNatClampNeg) - (s_ax a2.toNatClampNeg)).toInt64) hx hb dX10_cross_44 rfl ?_
  refine lv_topl (fun x3 ex3 => ?_)
  replace h := lt_at ex3 h
  refine lv_lstore (lv' := [(7, .long x3), (5, .long x2), (3, .long x1), (0, .ref q_), (1, .int a1), (2, .int a2)]) hx hb dX10_cross_45 hl (by decide) rfl (fun ls hl => ?_)
  refine lv_aload_n hx hb dX10_cross_47 rfl (lv_at hl 3 rfl) ?_
  refine va_get (D := D) (ci := 10) (v := .ref q_by) (C := RX10) (T := TX10) (N := 16) hx hb hts hi_X10 hown hK.1 hP 0 rfl rfl 7 (by decide) hf_21 (fun _ h9 => h9) rfl dX10_cross_48 ?_
  refine lv_iload_n hx hb dX10_cross_51 rfl (lv_at hl 5 rfl) ?_
  obtain ⟨hg, h⟩ := gd_of h
  refine va_iald hx hb hK.1 hP 4 0 rfl rfl hg dX10_cross_52 ?_
  refine lv_aload_n hx hb dX10_cross_53 rfl (lv_at hl 3 rfl) ?_
  refine va_get (D := D) (ci := 10) (v := .ref q_ay) (C := RX10) (T := TX10) (N := 16) hx hb hts hi_X10 hown hK.1 hP 0 rfl rfl 5 (by decide) hf_15 (fun _ h9 => h9) rfl dX10_cross_54 ?_
  refine lv_iload_n hx hb dX10_cross_57 rfl (lv_at hl 5 rfl) ?_
  obtain ⟨hg, h⟩ := gd_of h
  refine va_iald hx hb hK.1 hP 2 0 rfl rfl hg dX10_cross_58 ?_
  refine lv_isub hx hb dX10_cross_59 ?_
  refine lv_i2l (v := ((s_by a2.toNatClampNeg) - (s_ay a2.toNatClampNeg)).toInt64) hx hb dX10_cross_60 rfl ?_
  refine lv_topl (fun x4 ex4 => ?_)
  replace h := lt_at ex4 h
  refine lv_lstore (lv' := [(9, .long x4), (7, .long x3), (5, .long x2), (3, .long x1), (0, .ref q_), (1, .int a1), (2, .int a2)]) hx hb dX10_cross_61 hl (by decide) rfl (fun ls hl => ?_)
  refine lv_lload_n hx hb dX10_cross_63 rfl (lv_at hl 3 rfl) ?_
  refine lv_lload hx hb dX10_cross_64 (lv_at hl 0 rfl) ?_
  refine lv_lmul hx hb dX10_cross_66 ?_
  refine lv_lload hx hb dX10_cross_67 (lv_at hl 2 rfl) ?_
  refine lv_lload hx hb dX10_cross_69 (lv_at hl 1 rfl) ?_
  refine lv_lmul hx hb dX10_cross_71 ?_
  refine lv_lsub hx hb dX10_cross_72 ?_
  refine lv_topl (fun x5 ex5 => ?_)
  replace h := lt_at ex5 h
  refine lv_lstore (lv' := [(11, .long x5), (9, .long x4), (7, .long x3), (5, .long x2), (3, .long x1), (0, .ref q_), (1, .int a1), (2, .int a2)]) hx hb dX10_cross_73 hl (by decide) rfl (fun ls hl => ?_)
  refine lv_lload hx hb dX10_cross_75 (lv_at hl 0 rfl) ?_
  refine lv_lconst (v := 0) hx hb dX10_cross_77 (by decide) ?_
  refine W.lcmp hx hb dX10_cross_78 ?_
  refine lv_if_ne (tgt := 83) hx hb dX10_cross_79 (by decide) (fun hc => ?_) (fun hc => ?_)
  · replace h := if_t hc h
    refine lv_aload_n hx hb dX10_cross_83 rfl (lv_at hl 5 rfl) ?_
    refine va_get (D := D) (ci := 10) (v := .ref q_ax) (C := RX10) (T := TX10) (N := 16) hx hb hts hi_X10 hown hK.1 hP 0 rfl rfl 4 (by decide) hf_9 (fun _ h9 => h9) rfl dX10_cross_84 ?_
    refine lv_iload_n hx hb dX10_cross_87 rfl (lv_at hl 7 rfl) ?_
    obtain ⟨hg, h⟩ := gd_of h
    refine va_iald hx hb hK.1 hP 1 0 rfl rfl hg dX10_cross_88 ?_
    refine lv_aload_n hx hb dX10_cross_89 rfl (lv_at hl 5 rfl) ?_
    refine va_get (D := D) (ci := 10) (v := .ref q_ax) (C := RX10) (T := TX10) (N := 16) hx hb hts hi_X10 hown hK.1 hP 0 rfl rfl 4 (by decide) hf_9 (fun _ h9 => h9) rfl dX10_cross_90 ?_
    refine lv_iload_n hx hb dX10_cross_93 rfl (lv_at hl 6 rfl) ?_
    obtain ⟨hg, h⟩ := gd_of h
    refine va_iald hx hb hK.1 hP 1 0 rfl rfl hg dX10_cross_94 ?_
    refine lv_isub hx hb dX10_cross_95 ?_
    refine lv_i2l (v := ((s_ax a2.toNatClampNeg) - (s_ax a1.toNatClampNeg)).toInt64) hx hb dX10_cross_96 rfl ?_
    refine lv_topl (fun x6 ex6 => ?_)
    replace h := lt_at ex6 h
    refine lv_lstore (lv' := [(13, .long x6), (11, .long x5), (9, .long x4), (7, .long x3), (5, .long x2), (3, .long x1), (0, .ref q_), (1, .int a1), (2, .int a2)]) hx hb dX10_cross_97 hl (by decide) rfl (fun ls hl => ?_)
    refine lv_aload_n hx hb dX10_cross_99 rfl (lv_at hl 6 rfl) ?_
    refine va_get (D := D) (ci := 10) (v := .ref q_ay) (C := RX10) (T := TX10) (N := 16) hx hb hts hi_X10 hown hK.1 hP 0 rfl rfl 5 (by decide) hf_15 (fun _ h9 => h9) rfl dX10_cross_100 ?_
    refine lv_iload_n hx hb dX10_cross_103 rfl (lv_at hl 8 rfl) ?_
    obtain ⟨hg, h⟩ := gd_of h
    refine va_iald hx hb hK.1 hP 2 0 rfl rfl hg dX10_cross_104 ?_
    refine lv_aload_n hx hb dX10_cross_105 rfl (lv_at hl 6 rfl) ?_
    refine va_get (D := D) (ci := 10) (v := .ref q_ay) (C := RX10) (T := TX10) (N := 16) hx hb hts hi_X10 hown hK.1 hP 0 rfl rfl 5 (by decide) hf_15 (fun _ h9 => h9) rfl dX10_cross_106 ?_
    refine lv_iload_n hx hb dX10_cross_109 rfl (lv_at hl 7 rfl) ?_
    obtain ⟨hg, h⟩ := gd_of h
    refine va_iald hx hb hK.1 hP 2 0 rfl rfl hg dX10_cross_110 ?_
    refine lv_isub hx hb dX10_cross_111 ?_
    refine lv_i2l (v := ((s_ay a2.toNatClampNeg) - (s_ay a1.toNatClampNeg)).toInt64) hx hb dX10_cross_112 rfl ?_
    refine lv_topl (fun x7 ex7 => ?_)
    replace h := lt_at ex7 h
    refine lv_lstore (lv' := [(15, .long x7), (13, .long x6), (11, .long x5), (9, .long x4), (7, .long x3), (5, .long x2), (3, .long x1), (0, .ref q_), (1, .int a1), (2, .int a2)]) hx hb dX10_cross_113 hl (by decide) rfl (fun ls hl => ?_)
    refine lv_lload hx hb dX10_cross_115 (lv_at hl 1 rfl) ?_
    refine lv_lload hx hb dX10_cross_117 (lv_at hl 3 rfl) ?_
    refine lv_lmul hx hb dX10_cross_119 ?_
    refine lv_lload hx hb dX10_cross_120 (lv_at hl 0 rfl) ?_
    refine lv_lload hx hb dX10_cross_122 (lv_at hl 4 rfl) ?_
    refine lv_lmul hx hb dX10_cross_124 ?_
    refine lv_lsub hx hb dX10_cross_125 ?_
    refine lv_topl (fun x8 ex8 => ?_)
    replace h := lt_at ex8 h
    refine lv_lstore (lv' := [(17, .long x8), (15, .long x7), (13, .long x6), (11, .long x5), (9, .long x4), (7, .long x3), (5, .long x2), (3, .long x1), (0, .ref q_), (1, .int a1), (2, .int a2)]) hx hb dX10_cross_126 hl (by decide) rfl (fun ls hl => ?_)
    refine lv_lload hx hb dX10_cross_128 (lv_at hl 2 rfl) ?_
    refine lv_lload hx hb dX10_cross_130 (lv_at hl 6 rfl) ?_
    refine lv_lmul hx hb dX10_cross_132 ?_
    refine lv_lload hx hb dX10_cross_133 (lv_at hl 1 rfl) ?_
    refine lv_lload_n hx hb dX10_cross_135 rfl (lv_at hl 7 rfl) ?_
    refine lv_lmul hx hb dX10_cross_136 ?_
    refine lv_lsub hx hb dX10_cross_137 ?_
    refine lv_topl (fun x9 ex9 => ?_)
    replace h := lt_at ex9 h
    refine lv_lstore (lv' := [(19, .long x9), (17, .long x8), (15, .long x7), (13, .long x6), (11, .long x5), (9, .long x4), (7, .long x3), (5, .long x2), (3, .long x1), (0, .ref q_), (1, .int a1), (2, .int a2)]) hx hb dX10_cross_138 hl (by decide) rfl (fun ls hl => ?_)
    refine lv_lload hx hb dX10_cross_140 (lv_at hl 4 rfl) ?_
    refine lv_lconst (v := 0) hx hb dX10_cross_142 (by decide) ?_
    refine W.lcmp hx hb dX10_cross_143 ?_
    obtain ⟨t, hd, h⟩ := ob_of h
    have K : ∀ (H : Heap) (locs : List Loc) (ls : Array Slot), va_P D vwCl [(q_, .inr (10, [.int s_w, .int s_h, .int s_leads, .int s_lines, .ref q_ax, .ref q_ay, .ref q_bx, .ref q_by, .int s_joints, .ref q_x, .ref q_y, .ref q_d, .int s_pieces, .ref q_from, .ref q_to, .ref q_firm])), (q_ax, .inl (ky 0, 18, .inl s_ax)), (q_ay, .inl (ky 0, 18, .inl s_ay)), (q_bx, .inl (ky 0, 18, .inl s_bx)), (q_by, .inl (ky 0, 18, .inl s_by)), (q_d, .inl (ky 1, 240, .inr (.inl s_d))), (q_x, .inl (ky 1, 240, .inr (.inl s_x))), (q_y, .inl (ky 1, 240, .inr (.inl s_y)))] H → va_D A [(q_, .inr (10, [.int s_w, .int s_h, .int s_leads, .int s_lines, .ref q_ax, .ref q_ay, .ref q_bx, .ref q_by, .int s_joints, .ref q_x, .ref q_y, .ref q_d, .int s_pieces, .ref q_from, .ref q_to, .ref q_firm])), (q_ax, .inl (ky 0, 18, .inl s_ax)), (q_ay, .inl (ky 0, 18, .inl s_ay)), (q_bx, .inl (ky 0, 18, .inl s_bx)), (q_by, .inl (ky 0, 18, .inl s_by)), (q_d, .inl (ky 1, 240, .inr (.inl s_d))), (q_x, .inl (ky 1, 240, .inr (.inl s_x))), (q_y, .inl (ky 1, 240, .inr (.inl s_y)))] → va_S A s.heap H locs → lv_has ls 21 [(0, .ref q_), (1, .int a1), (3, .long x1), (5, .long x2), (11, .long t.1), (17, .long t.2.1), (19, .long t.2.2)] → W p l e rmX10_cross s m args below meth c H locs 0 0 Q (F0 m 162 ls []) := by
      clear hd hP hD hS hl
      obtain ⟨v10, v11, v12⟩ := t
      replace h := dm3_of h
      intro H locs ls hP hD hS hl
      replace hP : va_P D vwCl [(q_, .inr (10, [.int s_w, .int s_h, .int s_leads, .int s_lines, .ref q_ax, .ref q_ay, .ref q_bx, .ref q_by, .int s_joints, .ref q_x, .ref q_y, .ref q_d, .int s_pieces, .ref q_from, .ref q_to, .ref q_firm])), (q_ax, .inl (ky 0, 18, .inl s_ax)), (q_ay, .inl (ky 0, 18, .inl s_ay)), (q_bx, .inl (ky 0, 18, .inl s_bx)), (q_by, .inl (ky 0, 18, .inl s_by)), (q_d, .inl (ky 1, 240, .inr (.inl s_d))), (q_x, .inl (ky 1, 240, .inr (.inl s_x))), (q_y, .inl (ky 1, 240, .inr (.inl s_y)))] H := hP
      replace hD : va_D A [(q_, .inr (10, [.int s_w, .int s_h, .int s_leads, .int s_lines, .ref q_ax, .ref q_ay, .ref q_bx, .ref q_by, .int s_joints, .ref q_x, .ref q_y, .ref q_d, .int s_pieces, .ref q_from, .ref q_to, .ref q_firm])), (q_ax, .inl (ky 0, 18, .inl s_ax)), (q_ay, .inl (ky 0, 18, .inl s_ay)), (q_bx, .inl (ky 0, 18, .inl s_bx)), (q_by, .inl (ky 0, 18, .inl s_by)), (q_d, .inl (ky 1, 240, .inr (.inl s_d))), (q_x, .inl (ky 1, 240, .inr (.inl s_x))), (q_y, .inl (ky 1, 240, .inr (.inl s_y)))] := hD
      replace hl : lv_has ls 21 [(0, .ref q_), (1, .int a1), (3, .long x1), (5, .long x2), (11, .long v10), (17, .long v11), (19, .long v12)] := hl
      refine W.eq (g2 := F0 m 162 ls []) rfl ?_
      refine lv_lload hx hb dX10_cross_162 (lv_at hl 5 rfl) ?_
      refine lv_lconst (v := 0) hx hb dX10_cross_164 (by decide) ?_
      refine W.lcmp hx hb dX10_cross_165 ?_
      refine lv_if_lt (tgt := 229) hx hb dX10_cross_166 (by decide) (fun hc => ?_) (fun hc => ?_)
      · replace h := if_t hc h
        exact rt _ h _ _ _ _ dX10_cross_229 hP hD hS
      · replace h := if_f hc h
        refine lv_lload hx hb dX10_cross_169 (lv_at hl 5 rfl) ?_
        refine lv_lload hx hb dX10_cross_171 (lv_at hl 4 rfl) ?_
        refine W.lcmp hx hb dX10_cross_173 ?_
        refine lv_if_gt (tgt := 229) hx hb dX10_cross_174 (by decide) (fun hc => ?_) (fun hc => ?_)
        · replace h := if_t hc h
          exact rt _ h _ _ _ _ dX10_cross_229 hP hD hS
        · replace h := if_f hc h
          refine lv_lload hx hb dX10_cross_177 (lv_at hl 6 rfl) ?_
          refine lv_lconst (v := 0) hx hb dX10_cross_179 (by decide) ?_
          refine W.lcmp hx hb dX10_cross_180 ?_
          refine lv_if_lt (tgt := 229) hx hb dX10_cross_181 (by decide) (fun hc => ?_) (fun hc => ?_)
          · replace h := if_t hc h
            exact rt _ h _ _ _ _ dX10_cross_229 hP hD hS
          · replace h := if_f hc h
            refine lv_lload hx hb dX10_cross_184 (lv_at hl 6 rfl) ?_
            refine lv_lload hx hb dX10_cross_186 (lv_at hl 4 rfl) ?_
            refine W.lcmp hx hb dX10_cross_188 ?_
            refine lv_if_gt (tgt := 229) hx hb dX10_cross_189 (by decide) (fun hc => ?_) (fun hc => ?_)
            · replace h := if_t hc h
              exact rt _ h _ _ _ _ dX10_cross_229 hP hD hS
            · replace h := if_f hc h
              refine lv_aload_n hx hb dX10_cross_192 rfl (lv_at hl 0 rfl) ?_
              refine lv_aload_n hx hb dX10_cross_193 rfl (lv_at hl 0 rfl) ?_
              refine va_get (D := D) (ci := 10) (v := .ref q_ax) (C := RX10) (T := TX10) (N := 16) hx hb hts hi_X10 hown hK.1 hP 0 rfl rfl 4 (by decide) hf_9 (fun _ h9 => h9) rfl dX10_cross_194 ?_
              refine lv_iload_n hx hb dX10_cross_197 rfl (lv_at hl 1 rfl) ?_
              obtain ⟨hg, h⟩ := gd_of h
              refine va_iald hx hb hK.1 hP 1 0 rfl rfl hg dX10_cross_198 ?_
              refine lv_i2l (v := (s_ax a1.toNatClampNeg).toInt64) hx hb dX10_cross_199 rfl ?_
              refine lv_lload hx hb dX10_cross_200 (lv_at hl 4 rfl) ?_
              refine lv_lmul hx hb dX10_cross_202 ?_
              refine lv_lload hx hb dX10_cross_203 (lv_at hl 5 rfl) ?_
              refine lv_lload_n hx hb dX10_cross_205 rfl (lv_at hl 2 rfl) ?_
              refine lv_lmul hx hb dX10_cross_206 ?_
              refine lv_ladd hx hb dX10_cross_207 ?_
              refine lv_aload_n hx hb dX10_cross_208 rfl (lv_at hl 0 rfl) ?_
              refine va_get (D := D) (ci := 10) (v := .ref q_ay) (C := RX10) (T := TX10) (N := 16) hx hb hts hi_X10 hown hK.1 hP 0 rfl rfl 5 (by decide) hf_15 (fun _ h9 => h9) rfl dX10_cross_209 ?_
              refine lv_iload_n hx hb dX10_cross_212 rfl (lv_at hl 1 rfl) ?_
              obtain ⟨hg, h⟩ := gd_of h
              refine va_iald hx hb hK.1 hP 2 0 rfl rfl hg dX10_cross_213 ?_
              refine lv_i2l (v := (s_ay a1.toNatClampNeg).toInt64) hx hb dX10_cross_214 rfl ?_
              refine lv_lload hx hb dX10_cross_215 (lv_at hl 4 rfl) ?_
              refine lv_lmul hx hb dX10_cross_217 ?_
              refine lv_lload hx hb dX10_cross_218 (lv_at hl 5 rfl) ?_
              refine lv_lload hx hb dX10_cross_220 (lv_at hl 3 rfl) ?_
              refine lv_lmul hx hb dX10_cross_222 ?_
              refine lv_ladd hx hb dX10_cross_223 ?_
              refine lv_lload hx hb dX10_cross_224 (lv_at hl 4 rfl) ?_
              obtain ⟨⟨o13, o14, o15, o16⟩, hc, h⟩ := ob_of h
              replace h := dm4_of h
              refine cv_v (As := [.long ((((s_ax a1.toNatClampNeg).toInt64) * v10) + (v11 * x1)), .long ((((s_ay a1.toNatClampNeg).toInt64) * v10) + (v11 * x2)), .long v10]) (rest := []) (wr := [(q_ax, .inl (ky 0, 18, .inl s_ax)), (q_ay, .inl (ky 0, 18, .inl s_ay)), (q_bx, .inl (ky 0, 18, .inl s_bx)), (q_by, .inl (ky 0, 18, .inl s_by))]) (wn := [(q_, .inr (10, [.int s_w, .int s_h, .int s_leads, .int s_lines, .ref q_ax, .ref q_ay, .ref q_bx, .ref q_by, .int o13, .ref q_x, .ref q_y, .ref q_d, .int s_pieces, .ref q_from, .ref q_to, .ref q_firm])), (q_ax, .inl (ky 0, 18, .inl s_ax)), (q_ay, .inl (ky 0, 18, .inl s_ay)), (q_bx, .inl (ky 0, 18, .inl s_bx)), (q_by, .inl (ky 0, 18, .inl s_by)), (q_d, .inl (ky 1, 240, .inr (.inl o14))), (q_x, .inl (ky 1, 240, .inr (.inl o15))), (q_y, .inl (ky 1, 240, .inr (.inl o16)))]) ⟨hx, hb, hml, hown, hts⟩ (c_X10_joint l D ky q_ q_ax q_ay q_bx q_by q_x q_y q_d q_from q_to q_firm ((((s_ax a1.toNatClampNeg).toInt64) * v10) + (v11 * x1)) ((((s_ay a1.toNatClampNeg).toInt64) * v10) + (v11 * x2)) v10 s_w s_h s_leads s_lines s_joints s_pieces s_d s_x s_y hc) (cwV 3 hts gX10_cross_X10_joint rfl rfl rfl (by decide +kernel) ⟨Nat.le_of_ble_eq_true rfl, Nat.le_of_ble_eq_true rfl⟩) (rcv hK.1 hP (q0 := 0) rfl rfl) hP hD hK hS hA [0, 5, 6, 7] [1, 2, 3, 4] [4, 0, 1, 2, 3, 5, 6, 7] rfl (by decide +kernel) rfl (by decide +kernel) (by decide +kernel) (by decide +kernel) rfl rfl rfl hl.1 (Nat.le_of_ble_eq_true rfl) dX10_cross_226 ⟨Nat.le_of_ble_eq_true rfl, Nat.le_of_ble_eq_true rfl⟩ (fun H locs hP hD hS => ?_)
              exact rt _ h _ _ _ _ dX10_cross_229 hP hD hS
    replace h := hd
    clear hd
    refine lv_if_ge (tgt := 162) hx hb dX10_cross_144 (by decide) (fun hc => ?_) (fun hc => ?_)
    · replace h := if_t hc h
      cases h
      exact K _ _ _ hP hD hS (lv_sub hl [9, 10, 8, 7, 4, 1, 0] rfl)
    · replace h := if_f hc h
      refine lv_lload hx hb dX10_cross_147 (lv_at hl 4 rfl) ?_
      refine lv_lneg hx hb dX10_cross_149 ?_
      refine lv_topl (fun x17 ex17 => ?_)
      replace h := lt_at ex17 h
      refine lv_lstore (lv' := [(11, .long x17), (19, .long x9), (17, .long x8), (15, .long x7), (13, .long x6), (9, .long x4), (7, .long x3), (5, .long x2), (3, .long x1), (0, .ref q_), (1, .int a1), (2, .int a2)]) hx hb dX10_cross_150 hl (by decide) rfl (fun ls hl => ?_)
      refine lv_lload hx hb dX10_cross_152 (lv_at hl 2 rfl) ?_
      refine lv_lneg hx hb dX10_cross_154 ?_
      refine lv_topl (fun x18 ex18 => ?_)
      replace h := lt_at ex18 h
      refine lv_lstore (lv' := [(17, .long x18), (11, .long x17), (19, .long x9), (15, .long x7), (13, .long x6), (9, .long x4), (7, .long x3), (5, .long x2), (3, .long x1), (0, .ref q_), (1, .int a1), (2, .int a2)]) hx hb dX10_cross_155 hl (by decide) rfl (fun ls hl => ?_)
      refine lv_lload hx hb dX10_cross_157 (lv_at hl 2 rfl) ?_
      refine lv_lneg hx hb dX10_cross_159 ?_
      refine lv_topl (fun x19 ex19 => ?_)
      replace h := lt_at ex19 h
      refine lv_lstore (lv' := [(19, .long x19), (17, .long x18), (11, .long x17), (15, .long x7), (13, .long x6), (9, .long x4), (7, .long x3), (5, .long x2), (3, .long x1), (0, .ref q_), (1, .int a1), (2, .int a2)]) hx hb dX10_cross_160 hl (by decide) rfl (fun ls hl => ?_)
      cases h
      exact K _ _ _ hP hD hS (lv_sub hl [9, 10, 8, 7, 2, 1, 0] rfl)
  · replace h := if_f (fun z => z hc) h
    exact rt _ h _ _ _ _ dX10_cross_82 hP hD hS

def sX10_isOn (a1 : Int32) (a2 : Int32) (s_ax : Nat → Int32) (s_ay : Nat → Int32) (s_bx : Nat → Int32) (s_by : Nat → Int32) (s_d : Nat → Int64) (s_x : Nat → Int64) (s_y : Nat → Int64) : Option (Int32) := gd (¬ (a2 < 0 ∨ 240 ≤ a2.toNatClampNeg)) (gd (¬ (a1 < 0 ∨ 18 ≤ a1.toNatClampNeg)) (gd (¬ (a2 < 0 ∨ 240 ≤ a2.toNatClampNeg)) (lt ((s_x a2.toNatClampNeg) - (((s_ax a1.toNatClampNeg).toInt64) * (s_d a2.toNatClampNeg))) (fun x1 => gd (¬ (a2 < 0 ∨ 240 ≤ a2.toNatClampNeg)) (gd (¬ (a1 < 0 ∨ 18 ≤ a1.toNatClampNeg)) (gd (¬ (a2 < 0 ∨ 240 ≤ a2.toNatClampNeg)) (lt ((s_y a2.toNatClampNeg) - (((s_ay a1.toNatClampNeg).toInt64) * (s_d a2.toNatClampNeg))) (fun x2 => gd (¬ (a1 < 0 ∨ 18 ≤ a1.toNatClampNeg)) (gd (¬ (a1 < 0 ∨ 18 ≤ a1.toNatClampNeg)) (lt (((s_bx a1.toNatClampNeg) - (s_ax a1.toNatClampNeg)).toInt64) (fun x3 => gd (¬ (a1 < 0 ∨ 18 ≤ a1.toNatClampNeg)) (gd (¬ (a1 < 0 ∨ 18 ≤ a1.toNatClampNeg)) (lt (((s_by a1.toNatClampNeg) - (s_ay a1.toNatClampNeg)).toInt64) (fun x4 => lt ((x1 * x3) + (x2 * x4)) (fun x5 => if ¬ (lg_cmp (x1 * x4) (x2 * x3)) = 0 then some (0 : Int32) else if (lg_cmp x5 (0 : Int64)) < 0 then some (0 : Int32) else gd (¬ (a2 < 0 ∨ 240 ≤ a2.toNatClampNeg)) (if 0 < (lg_cmp x5 (((x3 * x3) + (x4 * x4)) * (s_d a2.toNatClampNeg))) then some (0 : Int32) else some (1 : Int32)))))))))))))))))
abbrev rmX10_isOn : Room := { frames := 0, cells := 0, slots := 0, locals := 0 }
set_option maxHeartbeats 4000000 in
set_option maxRecDepth 100000 in
theorem c_X10_isOn (l : Launch) (D : va_G) (ky : Nat → ClassId) (q_ q_ax q_ay q_bx q_by q_x q_y q_d q_from q_to q_firm : Nat) (a1 : Int32) (a2 : Int32) (s_w : Int32) (s_h : Int32) (s_leads : Int32) (s_lines : Int32) (s_joints : Int32) (s_pieces : Int32) (s_ax : Nat → Int32) (s_ay : Nat → Int32) (s_bx : Nat → Int32) (s_by : Nat → Int32) (s_d : Nat → Int64) (s_x : Nat → Int64) (s_y : Nat → Int64) {o_r : Int32} (h : sX10_isOn a1 a2 s_ax s_ay s_bx s_by s_d s_x s_y = some o_r) : MtI l D ky yX10_isOn wsX10_isOn rmX10_isOn [.ref q_, .int a1, .int a2] [(q_, .inr (10, [.int s_w, .int s_h, .int s_leads, .int s_lines, .ref q_ax, .ref q_ay, .ref q_bx, .ref q_by, .int s_joints, .ref q_x, .ref q_y, .ref q_d, .int s_pieces, .ref q_from, .ref q_to, .ref q_firm])), (q_ax, .inl (ky 0, 18, .inl s_ax)), (q_ay, .inl (ky 0, 18, .inl s_ay)), (q_bx, .inl (ky 0, 18, .inl s_bx)), (q_by, .inl (ky 0, 18, .inl s_by)), (q_d, .inl (ky 1, 240, .inr (.inl s_d))), (q_x, .inl (ky 1, 240, .inr (.inl s_x))), (q_y, .inl (ky 1, 240, .inr (.inl s_y)))] [(q_, .inr (10, [.int s_w, .int s_h, .int s_leads, .int s_lines, .ref q_ax, .ref q_ay, .ref q_bx, .ref q_by, .int s_joints, .ref q_x, .ref q_y, .ref q_d, .int s_pieces, .ref q_from, .ref q_to, .ref q_firm])), (q_ax, .inl (ky 0, 18, .inl s_ax)), (q_ay, .inl (ky 0, 18, .inl s_ay)), (q_bx, .inl (ky 0, 18, .inl s_bx)), (q_by, .inl (ky 0, 18, .inl s_by)), (q_d, .inl (ky 1, 240, .inr (.inl s_d))), (q_x, .inl (ky 1, 240, .inr (.inl s_x))), (q_y, .inl (ky 1, 240, .inr (.inl s_y)))] o_r 0 0 := by
  refine MtI.ofB (cc := cX10_isOn) (maxL := 13) (by decide +kernel) rfl (Nat.le_of_ble_eq_true rfl) ?_
  intro p e R s m args below meth c A Q ls hR hx hb hts hown hnm hml hP hK hD hA ret hl
  subst hR
  obtain ⟨H, hH⟩ : ∃ H, H = s.heap := ⟨_, rfl⟩
  obtain ⟨locs, hlocs⟩ : ∃ locs : List Loc, locs = [] := ⟨_, rfl⟩
  have hS : va_S A s.heap H locs := by rw [hH, hlocs]; exact va_S.rf
  rw [← hH] at hP
  suffices hgo : W p l e rmX10_isOn s m args below meth c H locs 0 0 Q (F0 m 0 ls []) by rw [hH, hlocs] at hgo; exact hgo
  clear hH hlocs
  replace hl : lv_has ls 13 [(0, .ref q_), (1, .int a1), (2, .int a2)] := hl
  replace hown : s.vm.findClass RX10 = some m.cls := hown
  have hi_X10 : ∀ w ∈ u_ws RX10 TX10 16, w ∈ wsX10_isOn := fun _ h9 => List.mem_cons_of_mem _ (List.mem_append_right _ h9)
  have hf_24 := hts (.fieldLink RX10 24 "GlazierBenchModel$Drawing" "x" "[J") (by decide +kernel)
  have hf_9 := hts (.fieldLink RX10 9 "GlazierBenchModel$Drawing" "ax" "[I") (by decide +kernel)
  have hf_31 := hts (.fieldLink RX10 31 "GlazierBenchModel$Drawing" "d" "[J") (by decide +kernel)
  have hf_28 := hts (.fieldLink RX10 28 "GlazierBenchModel$Drawing" "y" "[J") (by decide +kernel)
  have hf_15 := hts (.fieldLink RX10 15 "GlazierBenchModel$Drawing" "ay" "[I") (by decide +kernel)
  have hf_18 := hts (.fieldLink RX10 18 "GlazierBenchModel$Drawing" "bx" "[I") (by decide +kernel)
  have hf_21 := hts (.fieldLink RX10 21 "GlazierBenchModel$Drawing" "by" "[I") (by decide +kernel)
  unfold sX10_isOn at h
  refine lv_aload_n hx hb dX10_isOn_0 rfl (lv_at hl 0 rfl) ?_
  refine va_get (D := D) (ci := 10) (v := .ref q_x) (C := RX10) (T := TX10) (N := 16) hx hb hts hi_X10 hown hK.1 hP 0 rfl rfl 9 (by decide) hf_24 (fun _ h9 => h9) rfl dX10_isOn_1 ?_
  refine lv_iload_n hx hb dX10_isOn_4 rfl (lv_at hl 2 rfl) ?_
  obtain ⟨hg, h⟩ := gd_of h
  refine va_lald hx hb hK.1 hP 6 1 rfl rfl hg dX10_isOn_5 ?_
  refine lv_aload_n hx hb dX10_isOn_6 rfl (lv_at hl 0 rfl) ?_
  refine va_get (D := D) (ci := 10) (v := .ref q_ax) (C := RX10) (T := TX10) (N := 16) hx hb hts hi_X10 hown hK.1 hP 0 rfl rfl 4 (by decide) hf_9 (fun _ h9 => h9) rfl dX10_isOn_7 ?_
  refine lv_iload_n hx hb dX10_isOn_10 rfl (lv_at hl 1 rfl) ?_
  obtain ⟨hg, h⟩ := gd_of h
  refine va_iald hx hb hK.1 hP 1 0 rfl rfl hg dX10_isOn_11 ?_
  refine lv_i2l (v := (s_ax a1.toNatClampNeg).toInt64) hx hb dX10_isOn_12 rfl ?_
  refine lv_aload_n hx hb dX10_isOn_13 rfl (lv_at hl 0 rfl) ?_
  refine va_get (D := D) (ci := 10) (v := .ref q_d) (C := RX10) (T := TX10) (N := 16) hx hb hts hi_X10 hown hK.1 hP 0 rfl rfl 11 (by decide) hf_31 (fun _ h9 => h9) rfl dX10_isOn_14 ?_
  refine lv_iload_n hx hb dX10_isOn_17 rfl (lv_at hl 2 rfl) ?_
  obtain ⟨hg, h⟩ := gd_of h
  refine va_lald hx hb hK.1 hP 5 1 rfl rfl hg dX10_isOn_18 ?_
  refine lv_lmul hx hb dX10_isOn_19 ?_
  refine lv_lsub hx hb dX10_isOn_20 ?_
  refine lv_topl (fun x1 ex1 => ?_)
  replace h := lt_at ex1 h
  refine lv_lstore_n (lv' := [(3, .long x1), (0, .ref q_), (1, .int a1), (2, .int a2)]) hx hb dX10_isOn_21 rfl hl (by decide) rfl (fun ls hl => ?_)
  refine lv_aload_n hx hb dX10_isOn_22 rfl (lv_at hl 1 rfl) ?_
  refine va_get (D := D) (ci := 10) (v := .ref q_y) (C := RX10) (T := TX10) (N := 16) hx hb hts hi_X10 hown hK.1 hP 0 rfl rfl 10 (by decide) hf_28 (fun _ h9 => h9) rfl dX10_isOn_23 ?_
  refine lv_iload_n hx hb dX10_isOn_26 rfl (lv_at hl 3 rfl) ?_
  obtain ⟨hg, h⟩ := gd_of h
  refine va_lald hx hb hK.1 hP 7 1 rfl rfl hg dX10_isOn_27 ?_
  refine lv_aload_n hx hb dX10_isOn_28 rfl (lv_at hl 1 rfl) ?_
  refine va_get (D := D) (ci := 10) (v := .ref q_ay) (C := RX10) (T := TX10) (N := 16) hx hb hts hi_X10 hown hK.1 hP 0 rfl rfl 5 (by decide) hf_15 (fun _ h9 => h9) rfl dX10_isOn_29 ?_
  refine lv_iload_n hx hb dX10_isOn_32 rfl (lv_at hl 2 rfl) ?_
  obtain ⟨hg, h⟩ := gd_of h
  refine va_iald hx hb hK.1 hP 2 0 rfl rfl hg dX10_isOn_33 ?_
  refine lv_i2l (v := (s_ay a1.toNatClampNeg).toInt64) hx hb dX10_isOn_34 rfl ?_
  refine lv_aload_n hx hb dX10_isOn_35 rfl (lv_at hl 1 rfl) ?_
  refine va_get (D := D) (ci := 10) (v := .ref q_d) (C := RX10) (T := TX10) (N := 16) hx hb hts hi_X10 hown hK.1 hP 0 rfl rfl 11 (by decide) hf_31 (fun _ h9 => h9) rfl dX10_isOn_36 ?_
  refine lv_iload_n hx hb dX10_isOn_39 rfl (lv_at hl 3 rfl) ?_
  obtain ⟨hg, h⟩ := gd_of h
  refine va_lald hx hb hK.1 hP 5 1 rfl rfl hg dX10_isOn_40 ?_
  refine lv_lmul hx hb dX10_isOn_41 ?_
  refine lv_lsub hx hb dX10_isOn_42 ?_
  refine lv_topl (fun x2 ex2 => ?_)
  replace h := lt_at ex2 h
  refine lv_lstore (lv' := [(5, .long x2), (3, .long x1), (0, .ref q_), (1, .int a1), (2, .int a2)]) hx hb dX10_isOn_43 hl (by decide) rfl (fun ls hl => ?_)
  refine lv_aload_n hx hb dX10_isOn_45 rfl (lv_at hl 2 rfl) ?_
  refine va_get (D := D) (ci := 10) (v := .ref q_bx) (C := RX10) (T := TX10) (N := 16) hx hb hts hi_X10 hown hK.1 hP 0 rfl rfl 6 (by decide) hf_18 (fun _ h9 => h9) rfl dX10_isOn_46 ?_
  refine lv_iload_n hx hb dX10_isOn_49 rfl (lv_at hl 3 rfl) ?_
  obtain ⟨hg, h⟩ := gd_of h
  refine va_iald hx hb hK.1 hP 3 0 rfl rfl hg dX10_isOn_50 ?_
  refine lv_aload_n hx hb dX10_isOn_51 rfl (lv_at hl 2 rfl) ?_
  refine va_get (D := D) (ci := 10) (v := .ref q_ax) (C := RX10) (T := TX10) (N := 16) hx hb hts hi_X10 hown hK.1 hP 0 rfl rfl 4 (by decide) hf_9 (fun _ h9 => h9) rfl dX10_isOn_52 ?_
  refine lv_iload_n hx hb dX10_isOn_55 rfl (lv_at hl 3 rfl) ?_
  obtain ⟨hg, h⟩ := gd_of h
  refine va_iald hx hb hK.1 hP 1 0 rfl rfl hg dX10_isOn_56 ?_
  refine lv_isub hx hb dX10_isOn_57 ?_
  refine lv_i2l (v := ((s_bx a1.toNatClampNeg) - (s_ax a1.toNatClampNeg)).toInt64) hx hb dX10_isOn_58 rfl ?_
  refine lv_topl (fun x3 ex3 => ?_)
  replace h := lt_at ex3 h
  refine lv_lstore (lv' := [(7, .long x3), (5, .long x2), (3, .long x1), (0, .ref q_), (1, .int a1), (2, .int a2)]) hx hb dX10_isOn_59 hl (by decide) rfl (fun ls hl => ?_)
  refine lv_aload_n hx hb dX10_isOn_61 rfl (lv_at hl 3 rfl) ?_
  refine va_get (D := D) (ci := 10) (v := .ref q_by) (C := RX10) (T := TX10) (N := 16) hx hb hts hi_X10 hown hK.1 hP 0 rfl rfl 7 (by decide) hf_21 (fun _ h9 => h9) rfl dX10_isOn_62 ?_
  refine lv_iload_n hx hb dX10_isOn_65 rfl (lv_at hl 4 rfl) ?_
  obtain ⟨hg, h⟩ := gd_of h
  refine va_iald hx hb hK.1 hP 4 0 rfl rfl hg dX10_isOn_66 ?_
  refine lv_aload_n hx hb dX10_isOn_67 rfl (lv_at hl 3 rfl) ?_
  refine va_get (D := D) (ci := 10) (v := .ref q_ay) (C := RX10) (T := TX10) (N := 16) hx hb hts hi_X10 hown hK.1 hP 0 rfl rfl 5 (by decide) hf_15 (fun _ h9 => h9) rfl dX10_isOn_68 ?_
  refine lv_iload_n hx hb dX10_isOn_71 rfl (lv_at hl 4 rfl) ?_
  obtain ⟨hg, h⟩ := gd_of h
  refine va_iald hx hb hK.1 hP 2 0 rfl rfl hg dX10_isOn_72 ?_
  refine lv_isub hx hb dX10_isOn_73 ?_
  refine lv_i2l (v := ((s_by a1.toNatClampNeg) - (s_ay a1.toNatClampNeg)).toInt64) hx hb dX10_isOn_74 rfl ?_
  refine lv_topl (fun x4 ex4 => ?_)
  replace h := lt_at ex4 h
  refine lv_lstore (lv' := [(9, .long x4), (7, .long x3), (5, .long x2), (3, .long x1), (0, .ref q_), (1, .int a1), (2, .int a2)]) hx hb dX10_isOn_75 hl (by decide) rfl (fun ls hl => ?_)
  refine lv_lload_n hx hb dX10_isOn_77 rfl (lv_at hl 3 rfl) ?_
  refine lv_lload hx hb dX10_isOn_78 (lv_at hl 1 rfl) ?_
  refine lv_lmul hx hb dX10_isOn_80 ?_
  refine lv_lload hx hb dX10_isOn_81 (lv_at hl 2 rfl) ?_
  refine lv_lload hx hb dX10_isOn_83 (lv_at hl 0 rfl) ?_
  refine lv_lmul hx hb dX10_isOn_85 ?_
  refine lv_ladd hx hb dX10_isOn_86 ?_
  refine lv_topl (fun x5 ex5 => ?_)
  replace h := lt_at ex5 h
  refine lv_lstore (lv' := [(11, .long x5), (9, .long x4), (7, .long x3), (5, .long x2), (3, .long x1), (0, .ref q_), (1, .int a1), (2, .int a2)]) hx hb dX10_isOn_87 hl (by decide) rfl (fun ls hl => ?_)
  refine lv_lload_n hx hb dX10_isOn_89 rfl (lv_at hl 4 rfl) ?_
  refine lv_lload hx hb dX10_isOn_90 (lv_at hl 1 rfl) ?_
  refine lv_lmul hx hb dX10_isOn_92 ?_
  refine lv_lload hx hb dX10_isOn_93 (lv_at hl 3 rfl) ?_
  refine lv_lload hx hb dX10_isOn_95 (lv_at hl 2 rfl) ?_
  refine lv_lmul hx hb dX10_isOn_97 ?_
  refine W.lcmp hx hb dX10_isOn_98 ?_
  refine lv_if_ne (tgt := 137) hx hb dX10_isOn_99 (by decide) (fun hc => ?_) (fun hc => ?_)
  · replace h := if_t hc h
    refine lv_iconst (v := 0) hx hb dX10_isOn_137 (by decide) ?_
    cases h
    exact ret _ _ _ _ (Or.inl rfl) dX10_isOn_138 hP hD hS
  · replace h := if_f (fun z => z hc) h
    refine lv_lload hx hb dX10_isOn_102 (lv_at hl 0 rfl) ?_
    refine lv_lconst (v := 0) hx hb dX10_isOn_104 (by decide) ?_
    refine W.lcmp hx hb dX10_isOn_105 ?_
    refine lv_if_lt (tgt := 137) hx hb dX10_isOn_106 (by decide) (fun hc => ?_) (fun hc => ?_)
    · replace h := if_t hc h
      refine lv_iconst (v := 0) hx hb dX10_isOn_137 (by decide) ?_
      cases h
      exact ret _ _ _ _ (Or.inl rfl) dX10_isOn_138 hP hD hS
    · replace h := if_f hc h
      refine lv_lload hx hb dX10_isOn_109 (lv_at hl 0 rfl) ?_
      refine lv_lload hx hb dX10_isOn_111 (lv_at hl 2 rfl) ?_
      refine lv_lload hx hb dX10_isOn_113 (lv_at hl 2 rfl) ?_
      refine lv_lmul hx hb dX10_isOn_115 ?_
      refine lv_lload hx hb dX10_isOn_116 (lv_at hl 1 rfl) ?_
      refine lv_lload hx hb dX10_isOn_118 (lv_at hl 1 rfl) ?_
      refine lv_lmul hx hb dX10_isOn_120 ?_
      refine lv_ladd hx hb dX10_isOn_121 ?_
      refine lv_aload_n hx hb dX10_isOn_122 rfl (lv_at hl 5 rfl) ?_
      refine va_get (D := D) (ci := 10) (v := .ref q_d) (C := RX10) (T := TX10) (N := 16) hx hb hts hi_X10 hown hK.1 hP 0 rfl rfl 11 (by decide) hf_31 (fun _ h9 => h9) rfl dX10_isOn_123 ?_
      refine lv_iload_n hx hb dX10_isOn_126 rfl (lv_at hl 7 rfl) ?_
      obtain ⟨hg, h⟩ := gd_of h
      refine va_lald hx hb hK.1 hP 5 1 rfl rfl hg dX10_isOn_127 ?_
      refine lv_lmul hx hb dX10_isOn_128 ?_
      refine W.lcmp hx hb dX10_isOn_129 ?_
      refine lv_if_gt (tgt := 137) hx hb dX10_isOn_130 (by decide) (fun hc => ?_) (fun hc => ?_)
      · replace h := if_t hc h
        refine lv_iconst (v := 0) hx hb dX10_isOn_137 (by decide) ?_
        cases h
        exact ret _ _ _ _ (Or.inl rfl) dX10_isOn_138 hP hD hS
      · replace h := if_f hc h
        refine lv_iconst (v := 1) hx hb dX10_isOn_133 (by decide) ?_
        refine lv_goto (tgt := 138) hx hb dX10_isOn_134 (by decide) ?_
        cases h
        exact ret _ _ _ _ (Or.inr rfl) dX10_isOn_138 hP hD hS

def bX10_piece_2 (a1 : Int32) (a2 : Int32) (s_pieces : Int32) (s_from : Nat → Int32) (s_to : Nat → Int32) (t : Int32) : Option (Nat × (Int32)) := dm1 t (fun (v1 : Int32) => if s_pieces ≤ v1 then some (2, v1) else gd (¬ (v1 < 0 ∨ 800 ≤ v1.toNatClampNeg)) (if ¬ (s_from v1.toNatClampNeg) = a1 then gd (¬ (v1 < 0 ∨ 800 ≤ v1.toNatClampNeg)) (if ¬ (s_from v1.toNatClampNeg) = a2 then lt (v1 + 1) (fun x2 => some (0, x2)) else gd (¬ (v1 < 0 ∨ 800 ≤ v1.toNatClampNeg)) (if ¬ (s_to v1.toNatClampNeg) = a1 then lt (v1 + 1) (fun x3 => some (0, x3)) else some (1, v1))) else gd (¬ (v1 < 0 ∨ 800 ≤ v1.toNatClampNeg)) (if (s_to v1.toNatClampNeg) = a2 then some (1, v1) else gd (¬ (v1 < 0 ∨ 800 ≤ v1.toNatClampNeg)) (if ¬ (s_from v1.toNatClampNeg) = a2 then lt (v1 + 1) (fun x4 => some (0, x4)) else gd (¬ (v1 < 0 ∨ 800 ≤ v1.toNatClampNeg)) (if ¬ (s_to v1.toNatClampNeg) = a1 then lt (v1 + 1) (fun x5 => some (0, x5)) else some (1, v1))))))
def sX10_piece (a1 : Int32) (a2 : Int32) (s_pieces : Int32) (s_from : Nat → Int32) (s_to : Nat → Int32) : Option (Int32) := ob (iter (bX10_piece_2 a1 a2 s_pieces s_from s_to) FU (0 : Int32)) (fun kt => ex2 kt (fun t => dm1 t (fun (v6 : Int32) => some v6)) (fun t => dm1 t (fun (v7 : Int32) => some (-1 : Int32))))
abbrev rmX10_piece : Room := { frames := 0, cells := 0, slots := 0, locals := 0 }
set_option maxHeartbeats 4000000 in
set_option maxRecDepth 100000 in
theorem c_X10_piece (l : Launch) (D : va_G) (ky : Nat → ClassId) (q_ q_ax q_ay q_bx q_by q_x q_y q_d q_from q_to q_firm : Nat) (a1 : Int32) (a2 : Int32) (s_w : Int32) (s_h : Int32) (s_leads : Int32) (s_lines : Int32) (s_joints : Int32) (s_pieces : Int32) (s_from : Nat → Int32) (s_to : Nat → Int32) {o_r : Int32} (h : sX10_piece a1 a2 s_pieces s_from s_to = some o_r) : MtI l D ky yX10_piece wsX10_piece rmX10_piece [.ref q_, .int a1, .int a2] [(q_, .inr (10, [.int s_w, .int s_h, .int s_leads, .int s_lines, .ref q_ax, .ref q_ay, .ref q_bx, .ref q_by, .int s_joints, .ref q_x, .ref q_y, .ref q_d, .int s_pieces, .ref q_from, .ref q_to, .ref q_firm])), (q_from, .inl (ky 0, 800, .inl s_from)), (q_to, .inl (ky 0, 800, .inl s_to))] [(q_, .inr (10, [.int s_w, .int s_h, .int s_leads, .int s_lines, .ref q_ax, .ref q_ay, .ref q_bx, .ref q_by, .int s_joints, .ref q_x, .ref q_y, .ref q_d, .int s_pieces, .ref q_from, .ref q_to, .ref q_firm])), (q_from, .inl (ky 0, 800, .inl s_from)), (q_to, .inl (ky 0, 800, .inl s_to))] o_r 0 0 := by
  refine MtI.of (cc := cX10_piece) (maxL := 4) (by decide +kernel) rfl (Nat.le_of_ble_eq_true rfl) ?_
  intro p e R s m args below meth c A Q ls hR hx hb hts hown hnm hml hP hK hD hA ret hl
  subst hR
  obtain ⟨H, hH⟩ : ∃ H, H = s.heap := ⟨_, rfl⟩
  obtain ⟨locs, hlocs⟩ : ∃ locs : List Loc, locs = [] := ⟨_, rfl⟩
  have hS : va_S A s.heap H locs := by rw [hH, hlocs]; exact va_S.rf
  rw [← hH] at hP
  suffices hgo : W p l e rmX10_piece s m args below meth c H locs 0 0 Q (F0 m 0 ls []) by rw [hH, hlocs] at hgo; exact hgo
  clear hH hlocs
  replace hl : lv_has ls 4 [(0, .ref q_), (1, .int a1), (2, .int a2)] := hl
  replace hown : s.vm.findClass RX10 = some m.cls := hown
  have hi_X10 : ∀ w ∈ u_ws RX10 TX10 16, w ∈ wsX10_piece := fun _ h9 => List.mem_cons_of_mem _ (List.mem_append_right _ h9)
  have hf_72 := hts (.fieldLink RX10 72 "GlazierBenchModel$Drawing" "pieces" "I") (by decide +kernel)
  have hf_34 := hts (.fieldLink RX10 34 "GlazierBenchModel$Drawing" "from" "[I") (by decide +kernel)
  have hf_37 := hts (.fieldLink RX10 37 "GlazierBenchModel$Drawing" "to" "[I") (by decide +kernel)
  unfold sX10_piece at h
  refine lv_iconst (v := 0) hx hb dX10_piece_0 (by decide) ?_
  refine lv_istore_n (lv' := [(3, .int (0 : Int32)), (0, .ref q_), (1, .int a1), (2, .int a2)]) hx hb dX10_piece_1 rfl hl (by decide) rfl (fun ls hl => ?_)
  obtain ⟨⟨k, t⟩, hi, h⟩ := ob_of h
  refine iter_rule (P := fun (k : Nat) (t : Int32) => ∀ (H : Heap) (locs : List Loc) (ls : Array Slot), va_P D vwCl [(q_, .inr (10, [.int s_w, .int s_h, .int s_leads, .int s_lines, .ref q_ax, .ref q_ay, .ref q_bx, .ref q_by, .int s_joints, .ref q_x, .ref q_y, .ref q_d, .int s_pieces, .ref q_from, .ref q_to, .ref q_firm])), (q_from, .inl (ky 0, 800, .inl s_from)), (q_to, .inl (ky 0, 800, .inl s_to))] H → va_D A [(q_, .inr (10, [.int s_w, .int s_h, .int s_leads, .int s_lines, .ref q_ax, .ref q_ay, .ref q_bx, .ref q_by, .int s_joints, .ref q_x, .ref q_y, .ref q_d, .int s_pieces, .ref q_from, .ref q_to, .ref q_firm])), (q_from, .inl (ky 0, 800, .inl s_from)), (q_to, .inl (ky 0, 800, .inl s_to))] → va_S A s.heap H locs → lv_has ls 4 [(0, .ref q_), (1, .int a1), (2, .int a2), (3, .int t)] → W p l e rmX10_piece s m args below meth c H locs 0 0 Q (F0 m ([2, 50, 58].getD k 0) ls [])) ?_ _ _ _ _ hi ?_ H locs ls hP hD hS (lv_sub hl [1, 2, 3, 0] rfl)
  · clear h hi hP hD hS hl
    intro t k t' h K
    obtain ⟨v1, rfl⟩ : ∃ z, z = t := ⟨_, rfl⟩
    intro H locs ls hP hD hS hl
    replace h := dm1_of h
    replace hP : va_P D vwCl [(q_, .inr (10, [.int s_w, .int s_h, .int s_leads, .int s_lines, .ref q_ax, .ref q_ay, .ref q_bx, .ref q_by, .int s_joints, .ref q_x, .ref q_y, .ref q_d, .int s_pieces, .ref q_from, .ref q_to, .ref q_firm])), (q_from, .inl (ky 0, 800, .inl s_from)), (q_to, .inl (ky 0, 800, .inl s_to))] H := hP
    replace hD : va_D A [(q_, .inr (10, [.int s_w, .int s_h, .int s_leads, .int s_lines, .ref q_ax, .ref q_ay, .ref q_bx, .ref q_by, .int s_joints, .ref q_x, .ref q_y, .ref q_d, .int s_pieces, .ref q_from, .ref q_to, .ref q_firm])), (q_from, .inl (ky 0, 800, .inl s_from)), (q_to, .inl (ky 0, 800, .inl s_to))] := hD
    replace hl : lv_has ls 4 [(0, .ref q_), (1, .int a1), (2, .int a2), (3, .int v1)] := hl
    refine lv_iload_n hx hb dX10_piece_2 rfl (lv_at hl 3 rfl) ?_
    refine lv_aload_n hx hb dX10_piece_3 rfl (lv_at hl 0 rfl) ?_
    refine va_get (D := D) (ci := 10) (v := .int s_pieces) (C := RX10) (T := TX10) (N := 16) hx hb hts hi_X10 hown hK.1 hP 0 rfl rfl 12 (by decide) hf_72 (fun _ h9 => h9) rfl dX10_piece_4 ?_
    refine lv_icmp_ge (tgt := 58) hx hb dX10_piece_7 (by decide) (fun hc => ?_) (fun hc => ?_)
    · replace h := if_t hc h
      cases h
      exact K _ _ _ hP hD hS (lv_sub hl [0, 1, 2, 3] rfl)
    · replace h := if_f hc h
      refine lv_aload_n hx hb dX10_piece_10 rfl (lv_at hl 0 rfl) ?_
      refine va_get (D := D) (ci := 10) (v := .ref q_from) (C := RX10) (T := TX10) (N := 16) hx hb hts hi_X10 hown hK.1 hP 0 rfl rfl 13 (by decide) hf_34 (fun _ h9 => h9) rfl dX10_piece_11 ?_
      refine lv_iload_n hx hb dX10_piece_14 rfl (lv_at hl 3 rfl) ?_
      obtain ⟨hg, h⟩ := gd_of h
      refine va_iald hx hb hK.1 hP 1 0 rfl rfl hg dX10_piece_15 ?_
      refine lv_iload_n hx hb dX10_piece_16 rfl (lv_at hl 1 rfl) ?_
      refine lv_icmp_ne (tgt := 30) hx hb dX10_piece_17 (by decide) (fun hc => ?_) (fun hc => ?_)
      · replace h := if_t hc h
        refine lv_aload_n hx hb dX10_piece_30 rfl (lv_at hl 0 rfl) ?_
        refine va_get (D := D) (ci := 10) (v := .ref q_from) (C := RX10) (T := TX10) (N := 16) hx hb hts hi_X10 hown hK.1 hP 0 rfl rfl 13 (by decide) hf_34 (fun _ h9 => h9) rfl dX10_piece_31 ?_
        refine lv_iload_n hx hb dX10_piece_34 rfl (lv_at hl 3 rfl) ?_
        obtain ⟨hg, h⟩ := gd_of h
        refine va_iald hx hb hK.1 hP 1 0 rfl rfl hg dX10_piece_35 ?_
        refine lv_iload_n hx hb dX10_piece_36 rfl (lv_at hl 2 rfl) ?_
        refine lv_icmp_ne (tgt := 52) hx hb dX10_piece_37 (by decide) (fun hc => ?_) (fun hc => ?_)
        · replace h := if_t hc h
          obtain ⟨x2, ex2⟩ : ∃ z : Int32, z = v1 + 1 := ⟨_, rfl⟩
          replace h := lt_at ex2 h
          refine lv_iinc (v := x2) (lv' := [(3, .int x2), (0, .ref q_), (1, .int a1), (2, .int a2)]) hx hb dX10_piece_52 hl (k := 3) rfl (by rw [ex2]; rfl) (by decide) rfl (fun ls hl => ?_)
          refine lv_goto (tgt := 2) hx hb dX10_piece_55 (by decide) ?_
          cases h
          exact K _ _ _ hP hD hS (lv_sub hl [1, 2, 3, 0] rfl)
        · replace h := if_f (fun z => z hc) h
          refine lv_aload_n hx hb dX10_piece_40 rfl (lv_at hl 0 rfl) ?_
          refine va_get (D := D) (ci := 10) (v := .ref q_to) (C := RX10) (T := TX10) (N := 16) hx hb hts hi_X10 hown hK.1 hP 0 rfl rfl 14 (by decide) hf_37 (fun _ h9 => h9) rfl dX10_piece_41 ?_
          refine lv_iload_n hx hb dX10_piece_44 rfl (lv_at hl 3 rfl) ?_
          obtain ⟨hg, h⟩ := gd_of h
          refine va_iald hx hb hK.1 hP 2 0 rfl rfl hg dX10_piece_45 ?_
          refine lv_iload_n hx hb dX10_piece_46 rfl (lv_at hl 1 rfl) ?_
          refine lv_icmp_ne (tgt := 52) hx hb dX10_piece_47 (by decide) (fun hc => ?_) (fun hc => ?_)
          · replace h := if_t hc h
            obtain ⟨x3, ex3⟩ : ∃ z : Int32, z = v1 + 1 := ⟨_, rfl⟩
            replace h := lt_at ex3 h
            refine lv_iinc (v := x3) (lv' := [(3, .int x3), (0, .ref q_), (1, .int a1), (2, .int a2)]) hx hb dX10_piece_52 hl (k := 3) rfl (by rw [ex3]; rfl) (by decide) rfl (fun ls hl => ?_)
            refine lv_goto (tgt := 2) hx hb dX10_piece_55 (by decide) ?_
            cases h
            exact K _ _ _ hP hD hS (lv_sub hl [1, 2, 3, 0] rfl)
          · replace h := if_f (fun z => z hc) h
            cases h
            exact K _ _ _ hP hD hS (lv_sub hl [0, 1, 2, 3] rfl)
      · replace h := if_f (fun z => z hc) h
        refine lv_aload_n hx hb dX10_piece_20 rfl (lv_at hl 0 rfl) ?_
        refine va_get (D := D) (ci := 10) (v := .ref q_to) (C := RX10) (T := TX10) (N := 16) hx hb hts hi_X10 hown hK.1 hP 0 rfl rfl 14 (by decide) hf_37 (fun _ h9 => h9) rfl dX10_piece_21 ?_
        refine lv_iload_n hx hb dX10_piece_24 rfl (lv_at hl 3 rfl) ?_
        obtain ⟨hg, h⟩ := gd_of h
        refine va_iald hx hb hK.1 hP 2 0 rfl rfl hg dX10_piece_25 ?_
        refine lv_iload_n hx hb dX10_piece_26 rfl (lv_at hl 2 rfl) ?_
        refine lv_icmp_eq (tgt := 50) hx hb dX10_piece_27 (by decide) (fun hc => ?_) (fun hc => ?_)
        · replace h := if_t hc h
          cases h
          exact K _ _ _ hP hD hS (lv_sub hl [0, 1, 2, 3] rfl)
        · replace h := if_f hc h
          refine lv_aload_n hx hb dX10_piece_30 rfl (lv_at hl 0 rfl) ?_
          refine va_get (D := D) (ci := 10) (v := .ref q_from) (C := RX10) (T := TX10) (N := 16) hx hb hts hi_X10 hown hK.1 hP 0 rfl rfl 13 (by decide) hf_34 (fun _ h9 => h9) rfl dX10_piece_31 ?_
          refine lv_iload_n hx hb dX10_piece_34 rfl (lv_at hl 3 rfl) ?_
          obtain ⟨hg, h⟩ := gd_of h
          refine va_iald hx hb hK.1 hP 1 0 rfl rfl hg dX10_piece_35 ?_
          refine lv_iload_n hx hb dX10_piece_36 rfl (lv_at hl 2 rfl) ?_
          refine lv_icmp_ne (tgt := 52) hx hb dX10_piece_37 (by decide) (fun hc => ?_) (fun hc => ?_)
          · replace h := if_t hc h
            obtain ⟨x4, ex4⟩ : ∃ z : Int32, z = v1 + 1 := ⟨_, rfl⟩
            replace h := lt_at ex4 h
            refine lv_iinc (v := x4) (lv' := [(3, .int x4), (0, .ref q_), (1, .int a1), (2, .int a2)]) hx hb dX10_piece_52 hl (k := 3) rfl (by rw [ex4]; rfl) (by decide) rfl (fun ls hl => ?_)
            refine lv_goto (tgt := 2) hx hb dX10_piece_55 (by decide) ?_
            cases h
            exact K _ _ _ hP hD hS (lv_sub hl [1, 2, 3, 0] rfl)
          · replace h := if_f (fun z => z hc) h
            refine lv_aload_n hx hb dX10_piece_40 rfl (lv_at hl 0 rfl) ?_
            refine va_get (D := D) (ci := 10) (v := .ref q_to) (C := RX10) (T := TX10) (N := 16) hx hb hts hi_X10 hown hK.1 hP 0 rfl rfl 14 (by decide) hf_37 (fun _ h9 => h9) rfl dX10_piece_41 ?_
            refine lv_iload_n hx hb dX10_piece_44 rfl (lv_at hl 3 rfl) ?_
            obtain ⟨hg, h⟩ := gd_of h
            refine va_iald hx hb hK.1 hP 2 0 rfl rfl hg dX10_piece_45 ?_
            refine lv_iload_n hx hb dX10_piece_46 rfl (lv_at hl 1 rfl) ?_
            refine lv_icmp_ne (tgt := 52) hx hb dX10_piece_47 (by decide) (fun hc => ?_) (fun hc => ?_)
            · replace h := if_t hc h
              obtain ⟨x5, ex5⟩ : ∃ z : Int32, z = v1 + 1 := ⟨_, rfl⟩
              replace h := lt_at ex5 h
              refine lv_iinc (v := x5) (lv' := [(3, .int x5), (0, .ref q_), (1, .int a1), (2, .int a2)]) hx hb dX10_piece_52 hl (k := 3) rfl (by rw [ex5]; rfl) (by decide) rfl (fun ls hl => ?_)
              refine lv_goto (tgt := 2) hx hb dX10_piece_55 (by decide) ?_
              cases h
              exact K _ _ _ hP hD hS (lv_sub hl [1, 2, 3, 0] rfl)
            · replace h := if_f (fun z => z hc) h
              cases h
              exact K _ _ _ hP hD hS (lv_sub hl [0, 1, 2, 3] rfl)
  · have h1 := ex2_of h
    clear h hi
    rcases h1 with ⟨rfl, h⟩ | ⟨rfl, h⟩
    · skip
      obtain ⟨v6, rfl⟩ : ∃ z, z = t := ⟨_, rfl⟩
      replace h := dm1_of h
      intro H locs ls hP hD hS hl
      replace hP : va_P D vwCl [(q_, .inr (10, [.int s_w, .int s_h, .int s_leads, .int s_lines, .ref q_ax, .ref q_ay, .ref q_bx, .ref q_by, .int s_joints, .ref q_x, .ref q_y, .ref q_d, .int s_pieces, .ref q_from, .ref q_to, .ref q_firm])), (q_from, .inl (ky 0, 800, .inl s_from)), (q_to, .inl (ky 0, 800, .inl s_to))] H := hP
      replace hD : va_D A [(q_, .inr (10, [.int s_w, .int s_h, .int s_leads, .int s_lines, .ref q_ax, .ref q_ay, .ref q_bx, .ref q_by, .int s_joints, .ref q_x, .ref q_y, .ref q_d, .int s_pieces, .ref q_from, .ref q_to, .ref q_firm])), (q_from, .inl (ky 0, 800, .inl s_from)), (q_to, .inl (ky 0, 800, .inl s_to))] := hD
      replace hl : lv_has ls 4 [(0, .ref q_), (1, .int a1), (2, .int a2), (3, .int v6)] := hl
      refine W.eq (g2 := F0 m 50 ls []) rfl ?_
      refine lv_iload_n hx hb dX10_piece_50 rfl (lv_at hl 3 rfl) ?_
      cases h
      exact ret _ _ _ _ dX10_piece_51 hP hD hS
    · skip
      obtain ⟨v7, rfl⟩ : ∃ z, z = t := ⟨_, rfl⟩
      replace h := dm1_of h
      intro H locs ls hP hD hS hl
      replace hP : va_P D vwCl [(q_, .inr (10, [.int s_w, .int s_h, .int s_leads, .int s_lines, .ref q_ax, .ref q_ay, .ref q_bx, .ref q_by, .int s_joints, .ref q_x, .ref q_y, .ref q_d, .int s_pieces, .ref q_from, .ref q_to, .ref q_firm])), (q_from, .inl (ky 0, 800, .inl s_from)), (q_to, .inl (ky 0, 800, .inl s_to))] H := hP
      replace hD : va_D A [(q_, .inr (10, [.int s_w, .int s_h, .int s_leads, .int s_lines, .ref q_ax, .ref q_ay, .ref q_bx, .ref q_by, .int s_joints, .ref q_x, .ref q_y, .ref q_d, .int s_pieces, .ref q_from, .ref q_to, .ref q_firm])), (q_from, .inl (ky 0, 800, .inl s_from)), (q_to, .inl (ky 0, 800, .inl s_to))] := hD
      replace hl : lv_has ls 4 [(0, .ref q_), (1, .int a1), (2, .int a2), (3, .int v7)] := hl
      refine W.eq (g2 := F0 m 58 ls []) rfl ?_
      refine lv_iconst (v := (-1)) hx hb dX10_piece_58 (by decide) ?_
      cases h
      exact ret _ _ _ _ dX10_piece_59 hP hD hS

def bX10_part_4 (a1 : Int32) (s_joints : Int32) (s_ax : Nat → Int32) (s_ay : Nat → Int32) (s_bx : Nat → Int32) (s_by : Nat → Int32) (s_d : Nat → Int64) (s_x : Nat → Int64) (s_y : Nat → Int64) (t : Int32 × Int32 × Int32 × (Nat → Int32) × (Nat → Int32)) : Option (Nat × (Int32 × Int32 × Int32 × (Nat → Int32) × (Nat → Int32))) := dm5 t (fun (v1 : Int32) (v2 : Int32) (v3 : Int32) (v4 : Nat → Int32) (v5 : Nat → Int32) => if s_joints ≤ v2 then some (1, (v1, v2, v3, v4, v5)) else ob (sX10_isOn a1 v2 s_ax s_ay s_bx s_by s_d s_x s_y) (fun o => dm1 o (fun (r6 : Int32) => ob (if ¬ r6 = 0 then if v1 < 0 then some (v2, v3, v4, v5) else ob (sX10_piece v1 v2 v3 v4 v5) (fun o => dm1 o (fun (r12 : Int32) => if 0 ≤ r12 then some (v2, v3, v4, v5) else gd (¬ (v3 < 0 ∨ 800 ≤ v3.toNatClampNeg)) (lt (upd v4 v3.toNatClampNeg v1) (fun f13 => gd (¬ (v3 < 0 ∨ 800 ≤ v3.toNatClampNeg)) (lt (upd v5 v3.toNatClampNeg v2) (fun f14 => lt (v3 + (1 : Int32)) (fun x15 => some (v2, x15, f13, f14)))))))) else some (v1, v3, v4, v5)) (fun t => dm4 t (fun (v7 : Int32) (v8 : Int32) (v9 : Nat → Int32) (v10 : Nat → Int32) => lt (v2 + 1) (fun x11 => some (0, (v7, x11, v8, v9, v10))))))))
def sX10_part (a1 : Int32) (s_joints : Int32) (s_pieces : Int32) (s_ax : Nat → Int32) (s_ay : Nat → Int32) (s_bx : Nat → Int32) (s_by : Nat → Int32) (s_d : Nat → Int64) (s_from : Nat → Int32) (s_to : Nat → Int32) (s_x : Nat → Int64) (s_y : Nat → Int64) : Option (Int32 × (Nat → Int32) × (Nat → Int32)) := ob (iter (bX10_part_4 a1 s_joints s_ax s_ay s_bx s_by s_d s_x s_y) FU ((-1 : Int32), (0 : Int32), s_pieces, s_from, s_to)) (fun kt => ex1 kt (fun t => dm5 t (fun (v16 : Int32) (v17 : Int32) (v18 : Int32) (v19 : Nat → Int32) (v20 : Nat → Int32) => some (v18, v19, v20))))
abbrev rmX10_part : Room := { frames := 1, cells := 0, slots := 0, locals := 32 }
set_option maxHeartbeats 4000000 in
set_option maxRecDepth 100000 in
theorem c_X10_part (l : Launch) (D : va_G) (ky : Nat → ClassId) (q_ q_ax q_ay q_bx q_by q_x q_y q_d q_from q_to q_firm : Nat) (a1 : Int32) (s_w : Int32) (s_h : Int32) (s_leads : Int32) (s_lines : Int32) (s_joints : Int32) (s_pieces : Int32) (s_ax : Nat → Int32) (s_ay : Nat → Int32) (s_bx : Nat → Int32) (s_by : Nat → Int32) (s_d : Nat → Int64) (s_from : Nat → Int32) (s_to : Nat → Int32) (s_x : Nat → Int64) (s_y : Nat → Int64) {o_pieces : Int32} {o_from : Nat → Int32} {o_to : Nat → Int32} (h : sX10_part a1 s_joints s_pieces s_ax s_ay s_bx s_by s_d s_from s_to s_x s_y = some (o_pieces, o_from, o_to)) : MtV l D ky yX10_part wsX10_part rmX10_part [.ref q_, .int a1] [(q_, .inr (10, [.int s_w, .int s_h, .int s_leads, .int s_lines, .ref q_ax, .ref q_ay, .ref q_bx, .ref q_by, .int s_joints, .ref q_x, .ref q_y, .ref q_d, .int s_pieces, .ref q_from, .ref q_to, .ref q_firm])), (q_ax, .inl (ky 0, 18, .inl s_ax)), (q_ay, .inl (ky 0, 18, .inl s_ay)), (q_bx, .inl (ky 0, 18, .inl s_bx)), (q_by, .inl (ky 0, 18, .inl s_by)), (q_d, .inl (ky 1, 240, .inr (.inl s_d))), (q_from, .inl (ky 0, 800, .inl s_from)), (q_to, .inl (ky 0, 800, .inl s_to)), (q_x, .inl (ky 1, 240, .inr (.inl s_x))), (q_y, .inl (ky 1, 240, .inr (.inl s_y)))] [(q_, .inr (10, [.int s_w, .int s_h, .int s_leads, .int s_lines, .ref q_ax, .ref q_ay, .ref q_bx, .ref q_by, .int s_joints, .ref q_x, .ref q_y, .ref q_d, .int o_pieces, .ref q_from, .ref q_to, .ref q_firm])), (q_ax, .inl (ky 0, 18, .inl s_ax)), (q_ay, .inl (ky 0, 18, .inl s_ay)), (q_bx, .inl (ky 0, 18, .inl s_bx)), (q_by, .inl (ky 0, 18, .inl s_by)), (q_d, .inl (ky 1, 240, .inr (.inl s_d))), (q_from, .inl (ky 0, 800, .inl o_from)), (q_to, .inl (ky 0, 800, .inl o_to)), (q_x, .inl (ky 1, 240, .inr (.inl s_x))), (q_y, .inl (ky 1, 240, .inr (.inl s_y)))] 0 0 := by
  refine MtV.of (cc := cX10_part) (maxL := 4) (by decide +kernel) rfl (Nat.le_of_ble_eq_true rfl) ?_
  intro p e R s m args below meth c A Q ls hR hx hb hts hown hnm hml hP hK hD hA ret hl
  have rt := rtV (dc := fun pc => decode cX10_part pc = .ok (.return_, 1)) (o_pieces, o_from, o_to) (fun t => [(q_, .inr (10, [.int s_w, .int s_h, .int s_leads, .int s_lines, .ref q_ax, .ref q_ay, .ref q_bx, .ref q_by, .int s_joints, .ref q_x, .ref q_y, .ref q_d, .int t.1, .ref q_from, .ref q_to, .ref q_firm])), (q_ax, .inl (ky 0, 18, .inl s_ax)), (q_ay, .inl (ky 0, 18, .inl s_ay)), (q_bx, .inl (ky 0, 18, .inl s_bx)), (q_by, .inl (ky 0, 18, .inl s_by)), (q_d, .inl (ky 1, 240, .inr (.inl s_d))), (q_from, .inl (ky 0, 800, .inl t.2.1)), (q_to, .inl (ky 0, 800, .inl t.2.2)), (q_x, .inl (ky 1, 240, .inr (.inl s_x))), (q_y, .inl (ky 1, 240, .inr (.inl s_y)))]) ret
  subst hR
  obtain ⟨H, hH⟩ : ∃ H, H = s.heap := ⟨_, rfl⟩
  obtain ⟨locs, hlocs⟩ : ∃ locs : List Loc, locs = [] := ⟨_, rfl⟩
  have hS : va_S A s.heap H locs := by rw [hH, hlocs]; exact va_S.rf
  rw [← hH] at hP
  suffices hgo : W p l e rmX10_part s m args below meth c H locs 0 0 Q (F0 m 0 ls []) by rw [hH, hlocs] at hgo; exact hgo
  clear hH hlocs
  replace hl : lv_has ls 4 [(0, .ref q_), (1, .int a1)] := hl
  replace hown : s.vm.findClass RX10 = some m.cls := hown
  have hi_X10 : ∀ w ∈ u_ws RX10 TX10 16, w ∈ wsX10_part := fun _ h9 => List.mem_cons_of_mem _ (List.mem_append_right _ h9)
  have hf_61 := hts (.fieldLink RX10 61 "GlazierBenchModel$Drawing" "joints" "I") (by decide +kernel)
  have hf_34 := hts (.fieldLink RX10 34 "GlazierBenchModel$Drawing" "from" "[I") (by decide +kernel)
  have hf_72 := hts (.fieldLink RX10 72 "GlazierBenchModel$Drawing" "pieces" "I") (by decide +kernel)
  have hf_37 := hts (.fieldLink RX10 37 "GlazierBenchModel$Drawing" "to" "[I") (by decide +kernel)
  unfold sX10_part at h
  refine lv_iconst (v := (-1)) hx hb dX10_part_0 (by decide) ?_
  refine lv_istore_n (lv' := [(2, .int (-1 : Int32)), (0, .ref q_), (1, .int a1)]) hx hb dX10_part_1 rfl hl (by decide) rfl (fun ls hl => ?_)
  refine lv_iconst (v := 0) hx hb dX10_part_2 (by decide) ?_
  refine lv_istore_n (lv' := [(3, .int (0 : Int32)), (2, .int (-1 : Int32)), (0, .ref q_), (1, .int a1)]) hx hb dX10_part_3 rfl hl (by decide) rfl (fun ls hl => ?_)
  obtain ⟨⟨k, t⟩, hi, h⟩ := ob_of h
  refine iter_rule (P := fun (k : Nat) (t : Int32 × Int32 × Int32 × (Nat → Int32) × (Nat → Int32)) => ∀ (H : Heap) (locs : List Loc) (ls : Array Slot), va_P D vwCl [(q_, .inr (10, [.int s_w, .int s_h, .int s_leads, .int s_lines, .ref q_ax, .ref q_ay, .ref q_bx, .ref q_by, .int s_joints, .ref q_x, .ref q_y, .ref q_d, .int t.2.2.1, .ref q_from, .ref q_to, .ref q_firm])), (q_ax, .inl (ky 0, 18, .inl s_ax)), (q_ay, .inl (ky 0, 18, .inl s_ay)), (q_bx, .inl (ky 0, 18, .inl s_bx)), (q_by, .inl (ky 0, 18, .inl s_by)), (q_d, .inl (ky 1, 240, .inr (.inl s_d))), (q_from, .inl (ky 0, 800, .inl t.2.2.2.1)), (q_to, .inl (ky 0, 800, .inl t.2.2.2.2)), (q_x, .inl (ky 1, 240, .inr (.inl s_x))), (q_y, .inl (ky 1, 240, .inr (.inl s_y)))] H → va_D A [(q_, .inr (10, [.int s_w, .int s_h, .int s_leads, .int s_lines, .ref q_ax, .ref q_ay, .ref q_bx, .ref q_by, .int s_joints, .ref q_x, .ref q_y, .ref q_d, .int t.2.2.1, .ref q_from, .ref q_to, .ref q_firm])), (q_ax, .inl (ky 0, 18, .inl s_ax)), (q_ay, .inl (ky 0, 18, .inl s_ay)), (q_bx, .inl (ky 0, 18, .inl s_bx)), (q_by, .inl (ky 0, 18, .inl s_by)), (q_d, .inl (ky 1, 240, .inr (.inl s_d))), (q_from, .inl (ky 0, 800, .inl t.2.2.2.1)), (q_to, .inl (ky 0, 800, .inl t.2.2.2.2)), (q_x, .inl (ky 1, 240, .inr (.inl s_x))), (q_y, .inl (ky 1, 240, .inr (.inl s_y)))] → va_S A s.heap H locs → lv_has ls 4 [(0, .ref q_), (1, .int a1), (2, .int t.1), (3, .int t.2.1)] → W p l e rmX10_part s m args below meth c H locs 0 0 Q (F0 m ([4, 75].getD k 0) ls [])) ?_ _ _ _ _ hi ?_ H locs ls hP hD hS (lv_sub hl [2, 3, 1, 0] rfl)
  · clear h hi hP hD hS hl
    intro t k t' h K
    obtain ⟨v1, v2, v3, v4, v5⟩ := t
    intro H locs ls hP hD hS hl
    replace h := dm5_of h
    replace hP : va_P D vwCl [(q_, .inr (10, [.int s_w, .int s_h, .int s_leads, .int s_lines, .ref q_ax, .ref q_ay, .ref q_bx, .ref q_by, .int s_joints, .ref q_x, .ref q_y, .ref q_d, .int v3, .ref q_from, .ref q_to, .ref q_firm])), (q_ax, .inl (ky 0, 18, .inl s_ax)), (q_ay, .inl (ky 0, 18, .inl s_ay)), (q_bx, .inl (ky 0, 18, .inl s_bx)), (q_by, .inl (ky 0, 18, .inl s_by)), (q_d, .inl (ky 1, 240, .inr (.inl s_d))), (q_from, .inl (ky 0, 800, .inl v4)), (q_to, .inl (ky 0, 800, .inl v5)), (q_x, .inl (ky 1, 240, .inr (.inl s_x))), (q_y, .inl (ky 1, 240, .inr (.inl s_y)))] H := hP
    replace hD : va_D A [(q_, .inr (10, [.int s_w, .int s_h, .int s_leads, .int s_lines, .ref q_ax, .ref q_ay, .ref q_bx, .ref q_by, .int s_joints, .ref q_x, .ref q_y, .ref q_d, .int v3, .ref q_from, .ref q_to, .ref q_firm])), (q_ax, .inl (ky 0, 18, .inl s_ax)), (q_ay, .inl (ky 0, 18, .inl s_ay)), (q_bx, .inl (ky 0, 18, .inl s_bx)), (q_by, .inl (ky 0, 18, .inl s_by)), (q_d, .inl (ky 1, 240, .inr (.inl s_d))), (q_from, .inl (ky 0, 800, .inl v4)), (q_to, .inl (ky 0, 800, .inl v5)), (q_x, .inl (ky 1, 240, .inr (.inl s_x))), (q_y, .inl (ky 1, 240, .inr (.inl s_y)))] := hD
    replace hl : lv_has ls 4 [(0, .ref q_), (1, .int a1), (2, .int v1), (3, .int v2)] := hl
    refine lv_iload_n hx hb dX10_part_4 rfl (lv_at hl 3 rfl) ?_
    refine lv_aload_n hx hb dX10_part_5 rfl (lv_at hl 0 rfl) ?_
    refine va_get (D := D) (ci := 10) (v := .int s_joints) (C := RX10) (T := TX10) (N := 16) hx hb hts hi_X10 hown hK.1 hP 0 rfl rfl 8 (by decide) hf_61 (fun _ h9 => h9) rfl dX10_part_6 ?_
    refine lv_icmp_ge (tgt := 75) hx hb dX10_part_9 (by decide) (fun hc => ?_) (fun hc => ?_)
    · replace h := if_t hc h
      cases h
      exact K _ _ _ hP hD hS (lv_sub hl [0, 1, 2, 3] rfl)
    · replace h := if_f hc h
      refine lv_aload_n hx hb dX10_part_12 rfl (lv_at hl 0 rfl) ?_
      refine lv_iload_n hx hb dX10_part_13 rfl (lv_at hl 1 rfl) ?_
      refine lv_iload_n hx hb dX10_part_14 rfl (lv_at hl 3 rfl) ?_
      obtain ⟨r6, hc, h⟩ := ob_of h
      replace h := dm1_of h
      refine cv_i (As := [.int a1, .int v2]) (rest := []) (wr := [(q_from, .inl (ky 0, 800, .inl v4)), (q_to, .inl (ky 0, 800, .inl v5))]) (wn := [(q_, .inr (10, [.int s_w, .int s_h, .int s_leads, .int s_lines, .ref q_ax, .ref q_ay, .ref q_bx, .ref q_by, .int s_joints, .ref q_x, .ref q_y, .ref q_d, .int v3, .ref q_from, .ref q_to, .ref q_firm])), (q_ax, .inl (ky 0, 18, .inl s_ax)), (q_ay, .inl (ky 0, 18, .inl s_ay)), (q_bx, .inl (ky 0, 18, .inl s_bx)), (q_by, .inl (ky 0, 18, .inl s_by)), (q_d, .inl (ky 1, 240, .inr (.inl s_d))), (q_from, .inl (ky 0, 800, .inl v4)), (q_to, .inl (ky 0, 800, .inl v5)), (q_x, .inl (ky 1, 240, .inr (.inl s_x))), (q_y, .inl (ky 1, 240, .inr (.inl s_y)))]) ⟨hx, hb, hml, hown, hts⟩ (c_X10_isOn l D ky q_ q_ax q_ay q_bx q_by q_x q_y q_d q_from q_to q_firm a1 v2 s_w s_h s_leads s_lines s_joints v3 s_ax s_ay s_bx s_by s_d s_x s_y hc) (cwV 2 hts gX10_part_X10_isOn rfl rfl rfl (by decide +kernel) ⟨Nat.le_of_ble_eq_true rfl, Nat.le_of_ble_eq_true rfl⟩) (rcv hK.1 hP (q0 := 0) rfl rfl) hP hD hK hS hA [0, 1, 2, 3, 4, 5, 8, 9] [6, 7] [2, 3, 4, 5, 6, 7, 0, 1, 8, 9] rfl (by decide +kernel) rfl (by decide +kernel) (by decide +kernel) (by decide +kernel) rfl rfl rfl hl.1 (Nat.le_of_ble_eq_true rfl) dX10_part_15 ⟨Nat.le_of_ble_eq_true rfl, Nat.le_of_ble_eq_true rfl⟩ (fun H locs hP hD hS => ?_)
      obtain ⟨t, hd, h⟩ := ob_of h
      have K : ∀ (H : Heap) (locs : List Loc) (ls : Array Slot), va_P D vwCl [(q_, .inr (10, [.int s_w, .int s_h, .int s_leads, .int s_lines, .ref q_ax, .ref q_ay, .ref q_bx, .ref q_by, .int s_joints, .ref q_x, .ref q_y, .ref q_d, .int t.2.1, .ref q_from, .ref q_to, .ref q_firm])), (q_ax, .inl (ky 0, 18, .inl s_ax)), (q_ay, .inl (ky 0, 18, .inl s_ay)), (q_bx, .inl (ky 0, 18, .inl s_bx)), (q_by, .inl (ky 0, 18, .inl s_by)), (q_d, .inl (ky 1, 240, .inr (.inl s_d))), (q_from, .inl (ky 0, 800, .inl t.2.2.1)), (q_to, .inl (ky 0, 800, .inl t.2.2.2)), (q_x, .inl (ky 1, 240, .inr (.inl s_x))), (q_y, .inl (ky 1, 240, .inr (.inl s_y)))] H → va_D A [(q_, .inr (10, [.int s_w, .int s_h, .int s_leads, .int s_lines, .ref q_ax, .ref q_ay, .ref q_bx, .ref q_by, .int s_joints, .ref q_x, .ref q_y, .ref q_d, .int t.2.1, .ref q_from, .ref q_to, .ref q_firm])), (q_ax, .inl (ky 0, 18, .inl s_ax)), (q_ay, .inl (ky 0, 18, .inl s_ay)), (q_bx, .inl (ky 0, 18, .inl s_bx)), (q_by, .inl (ky 0, 18, .inl s_by)), (q_d, .inl (ky 1, 240, .inr (.inl s_d))), (q_from, .inl (ky 0, 800, .inl t.2.2.1)), (q_to, .inl (ky 0, 800, .inl t.2.2.2)), (q_x, .inl (ky 1, 240, .inr (.inl s_x))), (q_y, .inl (ky 1, 240, .inr (.inl s_y)))] → va_S A s.heap H locs → lv_has ls 4 [(0, .ref q_), (1, .int a1), (2, .int t.1), (3, .int v2)] → W p l e rmX10_part s m args below meth c H locs 0 0 Q (F0 m 69 ls []) := by
        clear hd hP hD hS hl
        obtain ⟨v7, v8, v9, v10⟩ := t
        replace h := dm4_of h
        intro H locs ls hP hD hS hl
        replace hP : va_P D vwCl [(q_, .inr (10, [.int s_w, .int s_h, .int s_leads, .int s_lines, .ref q_ax, .ref q_ay, .ref q_bx, .ref q_by, .int s_joints, .ref q_x, .ref q_y, .ref q_d, .int v8, .ref q_from, .ref q_to, .ref q_firm])), (q_ax, .inl (ky 0, 18, .inl s_ax)), (q_ay, .inl (ky 0, 18, .inl s_ay)), (q_bx, .inl (ky 0, 18, .inl s_bx)), (q_by, .inl (ky 0, 18, .inl s_by)), (q_d, .inl (ky 1, 240, .inr (.inl s_d))), (q_from, .inl (ky 0, 800, .inl v9)), (q_to, .inl (ky 0, 800, .inl v10)), (q_x, .inl (ky 1, 240, .inr (.inl s_x))), (q_y, .inl (ky 1, 240, .inr (.inl s_y)))] H := hP
        replace hD : va_D A [(q_, .inr (10, [.int s_w, .int s_h, .int s_leads, .int s_lines, .ref q_ax, .ref q_ay, .ref q_bx, .ref q_by, .int s_joints, .ref q_x, .ref q_y, .ref q_d, .int v8, .ref q_from, .ref q_to, .ref q_firm])), (q_ax, .inl (ky 0, 18, .inl s_ax)), (q_ay, .inl (ky 0, 18, .inl s_ay)), (q_bx, .inl (ky 0, 18, .inl s_bx)), (q_by, .inl (ky 0, 18, .inl s_by)), (q_d, .inl (ky 1, 240, .inr (.inl s_d))), (q_from, .inl (ky 0, 800, .inl v9)), (q_to, .inl (ky 0, 800, .inl v10)), (q_x, .inl (ky 1, 240, .inr (.inl s_x))), (q_y, .inl (ky 1, 240, .inr (.inl s_y)))] := hD
        replace hl : lv_has ls 4 [(0, .ref q_), (1, .int a1), (2, .int v7), (3, .int v2)] := hl
        refine W.eq (g2 := F0 m 69 ls []) rfl ?_
        obtain ⟨x11, ex11⟩ : ∃ z : Int32, z = v2 + 1 := ⟨_, rfl⟩
        replace h := lt_at ex11 h
        refine lv_iinc (v := x11) (lv' := [(3, .int x11), (0, .ref q_), (1, .int a1), (2, .int v7)]) hx hb dX10_part_69 hl (k := 3) rfl (by rw [ex11]; rfl) (by decide) rfl (fun ls hl => ?_)
        refine lv_goto (tgt := 4) hx hb dX10_part_72 (by decide) ?_
        cases h
        exact K _ _ _ hP hD hS (lv_sub hl [1, 2, 3, 0] rfl)
      replace h := hd
      clear hd
      refine lv_if_ne (tgt := 24) hx hb dX10_part_18 (by decide) (fun hc => ?_) (fun hc => ?_)
      · replace h := if_t hc h
        refine lv_iload_n hx hb dX10_part_24 rfl (lv_at hl 2 rfl) ?_
        refine lv_if_lt (tgt := 67) hx hb dX10_part_25 (by decide) (fun hc => ?_) (fun hc => ?_)
        · replace h := if_t hc h
          refine lv_iload_n hx hb dX10_part_67 rfl (lv_at hl 3 rfl) ?_
          refine lv_istore_n (lv' := [(2, .int v2), (0, .ref q_), (1, .int a1), (3, .int v2)]) hx hb dX10_part_68 rfl hl (by decide) rfl (fun ls hl => ?_)
          cases h
          exact K _ _ _ hP hD hS (lv_sub hl [1, 2, 0, 3] rfl)
        · replace h := if_f hc h
          refine lv_aload_n hx hb dX10_part_28 rfl (lv_at hl 0 rfl) ?_
          refine lv_iload_n hx hb dX10_part_29 rfl (lv_at hl 2 rfl) ?_
          refine lv_iload_n hx hb dX10_part_30 rfl (lv_at hl 3 rfl) ?_
          obtain ⟨r12, hc, h⟩ := ob_of h
          replace h := dm1_of h
          refine cv_i (As := [.int v1, .int v2]) (rest := []) (wr := [(q_ax, .inl (ky 0, 18, .inl s_ax)), (q_ay, .inl (ky 0, 18, .inl s_ay)), (q_bx, .inl (ky 0, 18, .inl s_bx)), (q_by, .inl (ky 0, 18, .inl s_by)), (q_d, .inl (ky 1, 240, .inr (.inl s_d))), (q_x, .inl (ky 1, 240, .inr (.inl s_x))), (q_y, .inl (ky 1, 240, .inr (.inl s_y)))]) (wn := [(q_, .inr (10, [.int s_w, .int s_h, .int s_leads, .int s_lines, .ref q_ax, .ref q_ay, .ref q_bx, .ref q_by, .int s_joints, .ref q_x, .ref q_y, .ref q_d, .int v3, .ref q_from, .ref q_to, .ref q_firm])), (q_ax, .inl (ky 0, 18, .inl s_ax)), (q_ay, .inl (ky 0, 18, .inl s_ay)), (q_bx, .inl (ky 0, 18, .inl s_bx)), (q_by, .inl (ky 0, 18, .inl s_by)), (q_d, .inl (ky 1, 240, .inr (.inl s_d))), (q_from, .inl (ky 0, 800, .inl v4)), (q_to, .inl (ky 0, 800, .inl v5)), (q_x, .inl (ky 1, 240, .inr (.inl s_x))), (q_y, .inl (ky 1, 240, .inr (.inl s_y)))]) ⟨hx, hb, hml, hown, hts⟩ (c_X10_piece l D ky q_ q_ax q_ay q_bx q_by q_x q_y q_d q_from q_to q_firm v1 v2 s_w s_h s_leads s_lines s_joints v3 v4 v5 hc) (cwV 2 hts gX10_part_X10_piece rfl rfl rfl (by decide +kernel) ⟨Nat.le_of_ble_eq_true rfl, Nat.le_of_ble_eq_true rfl⟩) (rcv hK.1 hP (q0 := 0) rfl rfl) hP hD hK hS hA [0, 6, 7] [1, 2, 3, 4, 5, 8, 9] [7, 0, 1, 2, 3, 4, 8, 9, 5, 6] rfl (by decide +kernel) rfl (by decide +kernel) (by decide +kernel) (by decide +kernel) rfl rfl rfl hl.1 (Nat.le_of_ble_eq_true rfl) dX10_part_31 ⟨Nat.le_of_ble_eq_true rfl, Nat.le_of_ble_eq_true rfl⟩ (fun H locs hP hD hS => ?_)
          refine lv_if_ge (tgt := 67) hx hb dX10_part_34 (by decide) (fun hc => ?_) (fun hc => ?_)
          · replace h := if_t hc h
            refine lv_iload_n hx hb dX10_part_67 rfl (lv_at hl 3 rfl) ?_
            refine lv_istore_n (lv' := [(2, .int v2), (0, .ref q_), (1, .int a1), (3, .int v2)]) hx hb dX10_part_68 rfl hl (by decide) rfl (fun ls hl => ?_)
            cases h
            exact K _ _ _ hP hD hS (lv_sub hl [1, 2, 0, 3] rfl)
          · replace h := if_f hc h
            refine lv_aload_n hx hb dX10_part_37 rfl (lv_at hl 0 rfl) ?_
            refine va_get (D := D) (ci := 10) (v := .ref q_from) (C := RX10) (T := TX10) (N := 16) hx hb hts hi_X10 hown hK.1 hP 0 rfl rfl 13 (by decide) hf_34 (fun _ h9 => h9) rfl dX10_part_38 ?_
            refine lv_aload_n hx hb dX10_part_41 rfl (lv_at hl 0 rfl) ?_
            refine va_get (D := D) (ci := 10) (v := .int v3) (C := RX10) (T := TX10) (N := 16) hx hb hts hi_X10 hown hK.1 hP 0 rfl rfl 12 (by decide) hf_72 (fun _ h9 => h9) rfl dX10_part_42 ?_
            refine lv_iload_n hx hb dX10_part_45 rfl (lv_at hl 2 rfl) ?_
            obtain ⟨hg, h⟩ := gd_of h
            refine r_iast hx hb hK.1 hP hD hS 6 0 rfl rfl hg dX10_part_46 (fun f13 ef13 H locs hP hD hS => ?_)
            replace h := lt_at ef13 h
            replace hP : va_P D vwCl [(q_, .inr (10, [.int s_w, .int s_h, .int s_leads, .int s_lines, .ref q_ax, .ref q_ay, .ref q_bx, .ref q_by, .int s_joints, .ref q_x, .ref q_y, .ref q_d, .int v3, .ref q_from, .ref q_to, .ref q_firm])), (q_ax, .inl (ky 0, 18, .inl s_ax)), (q_ay, .inl (ky 0, 18, .inl s_ay)), (q_bx, .inl (ky 0, 18, .inl s_bx)), (q_by, .inl (ky 0, 18, .inl s_by)), (q_d, .inl (ky 1, 240, .inr (.inl s_d))), (q_from, .inl (ky 0, 800, .inl f13)), (q_to, .inl (ky 0, 800, .inl v5)), (q_x, .inl (ky 1, 240, .inr (.inl s_x))), (q_y, .inl (ky 1, 240, .inr (.inl s_y)))] H := hP
            replace hD : va_D A [(q_, .inr (10, [.int s_w, .int s_h, .int s_leads, .int s_lines, .ref q_ax, .ref q_ay, .ref q_bx, .ref q_by, .int s_joints, .ref q_x, .ref q_y, .ref q_d, .int v3, .ref q_from, .ref q_to, .ref q_firm])), (q_ax, .inl (ky 0, 18, .inl s_ax)), (q_ay, .inl (ky 0, 18, .inl s_ay)), (q_bx, .inl (ky 0, 18, .inl s_bx)), (q_by, .inl (ky 0, 18, .inl s_by)), (q_d, .inl (ky 1, 240, .inr (.inl s_d))), (q_from, .inl (ky 0, 800, .inl f13)), (q_to, .inl (ky 0, 800, .inl v5)), (q_x, .inl (ky 1, 240, .inr (.inl s_x))), (q_y, .inl (ky 1, 240, .inr (.inl s_y)))] := hD
            refine lv_aload_n hx hb dX10_part_47 rfl (lv_at hl 0 rfl) ?_
            refine va_get (D := D) (ci := 10) (v := .ref q_to) (C := RX10) (T := TX10) (N := 16) hx hb hts hi_X10 hown hK.1 hP 0 rfl rfl 14 (by decide) hf_37 (fun _ h9 => h9) rfl dX10_part_48 ?_
            refine lv_aload_n hx hb dX10_part_51 rfl (lv_at hl 0 rfl) ?_
            refine va_get (D := D) (ci := 10) (v := .int v3) (C := RX10) (T := TX10) (N := 16) hx hb hts hi_X10 hown hK.1 hP 0 rfl rfl 12 (by decide) hf_72 (fun _ h9 => h9) rfl dX10_part_52 ?_
            refine lv_iload_n hx hb dX10_part_55 rfl (lv_at hl 3 rfl) ?_
            obtain ⟨hg, h⟩ := gd_of h
            refine r_iast hx hb hK.1 hP hD hS 7 0 rfl rfl hg dX10_part_56 (fun f14 ef14 H locs hP hD hS => ?_)
            replace h := lt_at ef14 h
            replace hP : va_P D vwCl [(q_, .inr (10, [.int s_w, .int s_h, .int s_leads, .int s_lines, .ref q_ax, .ref q_ay, .ref q_bx, .ref q_by, .int s_joints, .ref q_x, .ref q_y, .ref q_d, .int v3, .ref q_from, .ref q_to, .ref q_firm])), (q_ax, .inl (ky 0, 18, .inl s_ax)), (q_ay, .inl (ky 0, 18, .inl s_ay)), (q_bx, .inl (ky 0, 18, .inl s_bx)), (q_by, .inl (ky 0, 18, .inl s_by)), (q_d, .inl (ky 1, 240, .inr (.inl s_d))), (q_from, .inl (ky 0, 800, .inl f13)), (q_to, .inl (ky 0, 800, .inl f14)), (q_x, .inl (ky 1, 240, .inr (.inl s_x))), (q_y, .inl (ky 1, 240, .inr (.inl s_y)))] H := hP
            replace hD : va_D A [(q_, .inr (10, [.int s_w, .int s_h, .int s_leads, .int s_lines, .ref q_ax, .ref q_ay, .ref q_bx, .ref q_by, .int s_joints, .ref q_x, .ref q_y, .ref q_d, .int v3, .ref q_from, .ref q_to, .ref q_firm])), (q_ax, .inl (ky 0, 18, .inl s_ax)), (q_ay, .inl (ky 0, 18, .inl s_ay)), (q_bx, .inl (ky 0, 18, .inl s_bx)), (q_by, .inl (ky 0, 18, .inl s_by)), (q_d, .inl (ky 1, 240, .inr (.inl s_d))), (q_from, .inl (ky 0, 800, .inl f13)), (q_to, .inl (ky 0, 800, .inl f14)), (q_x, .inl (ky 1, 240, .inr (.inl s_x))), (q_y, .inl (ky 1, 240, .inr (.inl s_y)))] := hD
            refine lv_aload_n hx hb dX10_part_57 rfl (lv_at hl 0 rfl) ?_
            refine lv_dup hx hb dX10_part_58 rfl ?_
            refine va_get (D := D) (ci := 10) (v := .int v3) (C := RX10) (T := TX10) (N := 16) hx hb hts hi_X10 hown hK.1 hP 0 rfl rfl 12 (by decide) hf_72 (fun _ h9 => h9) rfl dX10_part_59 ?_
            refine lv_iconst (v := 1) hx hb dX10_part_62 (by decide) ?_
            refine lv_iadd hx hb dX10_part_63 ?_
            refine lv_topi (fun x15 ex15 => ?_)
            replace h := lt_at ex15 h
            refine va_put (D := D) (ci := 10) (v := .int x15) (ty := .int) (C := RX10) (T := TX10) (N := 16) hx hb hts hi_X10 tyX10 tyX10_ok nmX10 hown hK.1 hP hD hS 0 rfl rfl 12 (by decide) hf_72 (fun _ h9 => h9) rfl (by decide +kernel) rfl rfl (Nat.le_of_ble_eq_true rfl) dX10_part_64 (fun H locs hP hD hS => ?_)
            replace hP : va_P D vwCl [(q_, .inr (10, [.int s_w, .int s_h, .int s_leads, .int s_lines, .ref q_ax, .ref q_ay, .ref q_bx, .ref q_by, .int s_joints, .ref q_x, .ref q_y, .ref q_d, .int x15, .ref q_from, .ref q_to, .ref q_firm])), (q_ax, .inl (ky 0, 18, .inl s_ax)), (q_ay, .inl (ky 0, 18, .inl s_ay)), (q_bx, .inl (ky 0, 18, .inl s_bx)), (q_by, .inl (ky 0, 18, .inl s_by)), (q_d, .inl (ky 1, 240, .inr (.inl s_d))), (q_from, .inl (ky 0, 800, .inl f13)), (q_to, .inl (ky 0, 800, .inl f14)), (q_x, .inl (ky 1, 240, .inr (.inl s_x))), (q_y, .inl (ky 1, 240, .inr (.inl s_y)))] H := hP
            replace hD : va_D A [(q_, .inr (10, [.int s_w, .int s_h, .int s_leads, .int s_lines, .ref q_ax, .ref q_ay, .ref q_bx, .ref q_by, .int s_joints, .ref q_x, .ref q_y, .ref q_d, .int x15, .ref q_from, .ref q_to, .ref q_firm])), (q_ax, .inl (ky 0, 18, .inl s_ax)), (q_ay, .inl (ky 0, 18, .inl s_ay)), (q_bx, .inl (ky 0, 18, .inl s_bx)), (q_by, .inl (ky 0, 18, .inl s_by)), (q_d, .inl (ky 1, 240, .inr (.inl s_d))), (q_from, .inl (ky 0, 800, .inl f13)), (q_to, .inl (ky 0, 800, .inl f14)), (q_x, .inl (ky 1, 240, .inr (.inl s_x))), (q_y, .inl (ky 1, 240, .inr (.inl s_y)))] := hD
            refine lv_iload_n hx hb dX10_part_67 rfl (lv_at hl 3 rfl) ?_
            refine lv_istore_n (lv' := [(2, .int v2), (0, .ref q_), (1, .int a1), (3, .int v2)]) hx hb dX10_part_68 rfl hl (by decide) rfl (fun ls hl => ?_)
            cases h
            exact K _ _ _ hP hD hS (lv_sub hl [1, 2, 0, 3] rfl)
      · replace h := if_f (fun z => z hc) h
        refine lv_goto (tgt := 69) hx hb dX10_part_21 (by decide) ?_
        cases h
        exact K _ _ _ hP hD hS (lv_sub hl [0, 1, 2, 3] rfl)
  · have h1 := ex1_of h
    clear h hi
    rcases h1 with ⟨rfl, h⟩
    obtain ⟨v16, v17, v18, v19, v20⟩ := t
    replace h := dm5_of h
    intro H locs ls hP hD hS hl
    replace hP : va_P D vwCl [(q_, .inr (10, [.int s_w, .int s_h, .int s_leads, .int s_lines, .ref q_ax, .ref q_ay, .ref q_bx, .ref q_by, .int s_joints, .ref q_x, .ref q_y, .ref q_d, .int v18, .ref q_from, .ref q_to, .ref q_firm])), (q_ax, .inl (ky 0, 18, .inl s_ax)), (q_ay, .inl (ky 0, 18, .inl s_ay)), (q_bx, .inl (ky 0, 18, .inl s_bx)), (q_by, .inl (ky 0, 18, .inl s_by)), (q_d, .inl (ky 1, 240, .inr (.inl s_d))), (q_from, .inl (ky 0, 800, .inl v19)), (q_to, .inl (ky 0, 800, .inl v20)), (q_x, .inl (ky 1, 240, .inr (.inl s_x))), (q_y, .inl (ky 1, 240, .inr (.inl s_y)))] H := hP
    replace hD : va_D A [(q_, .inr (10, [.int s_w, .int s_h, .int s_leads, .int s_lines, .ref q_ax, .ref q_ay, .ref q_bx, .ref q_by, .int s_joints, .ref q_x, .ref q_y, .ref q_d, .int v18, .ref q_from, .ref q_to, .ref q_firm])), (q_ax, .inl (ky 0, 18, .inl s_ax)), (q_ay, .inl (ky 0, 18, .inl s_ay)), (q_bx, .inl (ky 0, 18, .inl s_bx)), (q_by, .inl (ky 0, 18, .inl s_by)), (q_d, .inl (ky 1, 240, .inr (.inl s_d))), (q_from, .inl (ky 0, 800, .inl v19)), (q_to, .inl (ky 0, 800, .inl v20)), (q_x, .inl (ky 1, 240, .inr (.inl s_x))), (q_y, .inl (ky 1, 240, .inr (.inl s_y)))] := hD
    replace hl : lv_has ls 4 [(0, .ref q_), (1, .int a1), (2, .int v16), (3, .int v17)] := hl
    refine W.eq (g2 := F0 m 75 ls []) rfl ?_
    exact rt _ h _ _ _ _ dX10_part_75 hP hD hS

def sX10_isSide (a1 : Int32) (s_w : Int32) (s_h : Int32) (s_d : Nat → Int64) (s_x : Nat → Int64) (s_y : Nat → Int64) : Option (Int32) := gd (¬ (a1 < 0 ∨ 240 ≤ a1.toNatClampNeg)) (if (lg_cmp (s_x a1.toNatClampNeg) (0 : Int64)) = 0 then some (1 : Int32) else gd (¬ (a1 < 0 ∨ 240 ≤ a1.toNatClampNeg)) (if (lg_cmp (s_y a1.toNatClampNeg) (0 : Int64)) = 0 then some (1 : Int32) else gd (¬ (a1 < 0 ∨ 240 ≤ a1.toNatClampNeg)) (gd (¬ (a1 < 0 ∨ 240 ≤ a1.toNatClampNeg)) (if (lg_cmp (s_x a1.toNatClampNeg) ((s_w.toInt64) * (s_d a1.toNatClampNeg))) = 0 then some (1 : Int32) else gd (¬ (a1 < 0 ∨ 240 ≤ a1.toNatClampNeg)) (gd (¬ (a1 < 0 ∨ 240 ≤ a1.toNatClampNeg)) (if ¬ (lg_cmp (s_y a1.toNatClampNeg) ((s_h.toInt64) * (s_d a1.toNatClampNeg))) = 0 then some (0 : Int32) else some (1 : Int32)))))))
abbrev rmX10_isSide : Room := { frames := 0, cells := 0, slots := 0, locals := 0 }
set_option maxHeartbeats 4000000 in
set_option maxRecDepth 100000 in
theorem c_X10_isSide (l : Launch) (D : va_G) (ky : Nat → ClassId) (q_ q_ax q_ay q_bx q_by q_x q_y q_d q_from q_to q_firm : Nat) (a1 : Int32) (s_w : Int32) (s_h : Int32) (s_leads : Int32) (s_lines : Int32) (s_joints : Int32) (s_pieces : Int32) (s_d : Nat → Int64) (s_x : Nat → Int64) (s_y : Nat → Int64) {o_r : Int32} (h : sX10_isSide a1 s_w s_h s_d s_x s_y = some o_r) : MtI l D ky yX10_isSide wsX10_isSide rmX10_isSide [.ref q_, .int a1] [(q_, .inr (10, [.int s_w, .int s_h, .int s_leads, .int s_lines, .ref q_ax, .ref q_ay, .ref q_bx, .ref q_by, .int s_joints, .ref q_x, .ref q_y, .ref q_d, .int s_pieces, .ref q_from, .ref q_to, .ref q_firm])), (q_d, .inl (ky 1, 240, .inr (.inl s_d))), (q_x, .inl (ky 1, 240, .inr (.inl s_x))), (q_y, .inl (ky 1, 240, .inr (.inl s_y)))] [(q_, .inr (10, [.int s_w, .int s_h, .int s_leads, .int s_lines, .ref q_ax, .ref q_ay, .ref q_bx, .ref q_by, .int s_joints, .ref q_x, .ref q_y, .ref q_d, .int s_pieces, .ref q_from, .ref q_to, .ref q_firm])), (q_d, .inl (ky 1, 240, .inr (.inl s_d))), (q_x, .inl (ky 1, 240, .inr (.inl s_x))), (q_y, .inl (ky 1, 240, .inr (.inl s_y)))] o_r 0 0 := by
  refine MtI.ofB (cc := cX10_isSide) (maxL := 2) (by decide +kernel) rfl (Nat.le_of_ble_eq_true rfl) ?_
  intro p e R s m args below meth c A Q ls hR hx hb hts hown hnm hml hP hK hD hA ret hl
  subst hR
  obtain ⟨H, hH⟩ : ∃ H, H = s.heap := ⟨_, rfl⟩
  obtain ⟨locs, hlocs⟩ : ∃ locs : List Loc, locs = [] := ⟨_, rfl⟩
  have hS : va_S A s.heap H locs := by rw [hH, hlocs]; exact va_S.rf
  rw [← hH] at hP
  suffices hgo : W p l e rmX10_isSide s m args below meth c H locs 0 0 Q (F0 m 0 ls []) by rw [hH, hlocs] at hgo; exact hgo
  clear hH hlocs
  replace hl : lv_has ls 2 [(0, .ref q_), (1, .int a1)] := hl
  replace hown : s.vm.findClass RX10 = some m.cls := hown
  have hi_X10 : ∀ w ∈ u_ws RX10 TX10 16, w ∈ wsX10_isSide := fun _ h9 => List.mem_cons_of_mem _ (List.mem_append_right _ h9)
  have hf_24 := hts (.fieldLink RX10 24 "GlazierBenchModel$Drawing" "x" "[J") (by decide +kernel)
  have hf_28 := hts (.fieldLink RX10 28 "GlazierBenchModel$Drawing" "y" "[J") (by decide +kernel)
  have hf_44 := hts (.fieldLink RX10 44 "GlazierBenchModel$Drawing" "w" "I") (by decide +kernel)
  have hf_31 := hts (.fieldLink RX10 31 "GlazierBenchModel$Drawing" "d" "[J") (by decide +kernel)
  have hf_48 := hts (.fieldLink RX10 48 "GlazierBenchModel$Drawing" "h" "I") (by decide +kernel)
  unfold sX10_isSide at h
  refine lv_aload_n hx hb dX10_isSide_0 rfl (lv_at hl 0 rfl) ?_
  refine va_get (D := D) (ci := 10) (v := .ref q_x) (C := RX10) (T := TX10) (N := 16) hx hb hts hi_X10 hown hK.1 hP 0 rfl rfl 9 (by decide) hf_24 (fun _ h9 => h9) rfl dX10_isSide_1 ?_
  refine lv_iload_n hx hb dX10_isSide_4 rfl (lv_at hl 1 rfl) ?_
  obtain ⟨hg, h⟩ := gd_of h
  refine va_lald hx hb hK.1 hP 2 1 rfl rfl hg dX10_isSide_5 ?_
  refine lv_lconst (v := 0) hx hb dX10_isSide_6 (by decide) ?_
  refine W.lcmp hx hb dX10_isSide_7 ?_
  refine lv_if_eq (tgt := 66) hx hb dX10_isSide_8 (by decide) (fun hc => ?_) (fun hc => ?_)
  · replace h := if_t hc h
    refine lv_iconst (v := 1) hx hb dX10_isSide_66 (by decide) ?_
    refine lv_goto (tgt := 71) hx hb dX10_isSide_67 (by decide) ?_
    cases h
    exact ret _ _ _ _ (Or.inr rfl) dX10_isSide_71 hP hD hS
  · replace h := if_f hc h
    refine lv_aload_n hx hb dX10_isSide_11 rfl (lv_at hl 0 rfl) ?_
    refine va_get (D := D) (ci := 10) (v := .ref q_y) (C := RX10) (T := TX10) (N := 16) hx hb hts hi_X10 hown hK.1 hP 0 rfl rfl 10 (by decide) hf_28 (fun _ h9 => h9) rfl dX10_isSide_12 ?_
    refine lv_iload_n hx hb dX10_isSide_15 rfl (lv_at hl 1 rfl) ?_
    obtain ⟨hg, h⟩ := gd_of h
    refine va_lald hx hb hK.1 hP 3 1 rfl rfl hg dX10_isSide_16 ?_
    refine lv_lconst (v := 0) hx hb dX10_isSide_17 (by decide) ?_
    refine W.lcmp hx hb dX10_isSide_18 ?_
    refine lv_if_eq (tgt := 66) hx hb dX10_isSide_19 (by decide) (fun hc => ?_) (fun hc => ?_)
    · replace h := if_t hc h
      refine lv_iconst (v := 1) hx hb dX10_isSide_66 (by decide) ?_
      refine lv_goto (tgt := 71) hx hb dX10_isSide_67 (by decide) ?_
      cases h
      exact ret _ _ _ _ (Or.inr rfl) dX10_isSide_71 hP hD hS
    · replace h := if_f hc h
      refine lv_aload_n hx hb dX10_isSide_22 rfl (lv_at hl 0 rfl) ?_
      refine va_get (D := D) (ci := 10) (v := .ref q_x) (C := RX10) (T := TX10) (N := 16) hx hb hts hi_X10 hown hK.1 hP 0 rfl rfl 9 (by decide) hf_24 (fun _ h9 => h9) rfl dX10_isSide_23 ?_
      refine lv_iload_n hx hb dX10_isSide_26 rfl (lv_at hl 1 rfl) ?_
      obtain ⟨hg, h⟩ := gd_of h
      refine va_lald hx hb hK.1 hP 2 1 rfl rfl hg dX10_isSide_27 ?_
      refine lv_aload_n hx hb dX10_isSide_28 rfl (lv_at hl 0 rfl) ?_
      refine va_get (D := D) (ci := 10) (v := .int s_w) (C := RX10) (T := TX10) (N := 16) hx hb hts hi_X10 hown hK.1 hP 0 rfl rfl 0 (by decide) hf_44 (fun _ h9 => h9) rfl dX10_isSide_29 ?_
      refine lv_i2l (v := s_w.toInt64) hx hb dX10_isSide_32 rfl ?_
      refine lv_aload_n hx hb dX10_isSide_33 rfl (lv_at hl 0 rfl) ?_
      refine va_get (D := D) (ci := 10) (v := .ref q_d) (C := RX10) (T := TX10) (N := 16) hx hb hts hi_X10 hown hK.1 hP 0 rfl rfl 11 (by decide) hf_31 (fun _ h9 => h9) rfl dX10_isSide_34 ?_
      refine lv_iload_n hx hb dX10_isSide_37 rfl (lv_at hl 1 rfl) ?_
      obtain ⟨hg, h⟩ := gd_of h
      refine va_lald hx hb hK.1 hP 1 1 rfl rfl hg dX10_isSide_38 ?_
      refine lv_lmul hx hb dX10_isSide_39 ?_
      refine W.lcmp hx hb dX10_isSide_40 ?_
      refine lv_if_eq (tgt := 66) hx hb dX10_isSide_41 (by decide) (fun hc => ?_) (fun hc => ?_)
      · replace h := if_t hc h
        refine lv_iconst (v := 1) hx hb dX10_isSide_66 (by decide) ?_
        refine lv_goto (tgt := 71) hx hb dX10_isSide_67 (by decide) ?_
        cases h
        exact ret _ _ _ _ (Or.inr rfl) dX10_isSide_71 hP hD hS
      · replace h := if_f hc h
        refine lv_aload_n hx hb dX10_isSide_44 rfl (lv_at hl 0 rfl) ?_
        refine va_get (D := D) (ci := 10) (v := .ref q_y) (C := RX10) (T := TX10) (N := 16) hx hb hts hi_X10 hown hK.1 hP 0 rfl rfl 10 (by decide) hf_28 (fun _ h9 => h9) rfl dX10_isSide_45 ?_
        refine lv_iload_n hx hb dX10_isSide_48 rfl (lv_at hl 1 rfl) ?_
        obtain ⟨hg, h⟩ := gd_of h
        refine va_lald hx hb hK.1 hP 3 1 rfl rfl hg dX10_isSide_49 ?_
        refine lv_aload_n hx hb dX10_isSide_50 rfl (lv_at hl 0 rfl) ?_
        refine va_get (D := D) (ci := 10) (v := .int s_h) (C := RX10) (T := TX10) (N := 16) hx hb hts hi_X10 hown hK.1 hP 0 rfl rfl 1 (by decide) hf_48 (fun _ h9 => h9) rfl dX10_isSide_51 ?_
        refine lv_i2l (v := s_h.toInt64) hx hb dX10_isSide_54 rfl ?_
        refine lv_aload_n hx hb dX10_isSide_55 rfl (lv_at hl 0 rfl) ?_
        refine va_get (D := D) (ci := 10) (v := .ref q_d) (C := RX10) (T := TX10) (N := 16) hx hb hts hi_X10 hown hK.1 hP 0 rfl rfl 11 (by decide) hf_31 (fun _ h9 => h9) rfl dX10_isSide_56 ?_
        refine lv_iload_n hx hb dX10_isSide_59 rfl (lv_at hl 1 rfl) ?_
        obtain ⟨hg, h⟩ := gd_of h
        refine va_lald hx hb hK.1 hP 1 1 rfl rfl hg dX10_isSide_60 ?_
        refine lv_lmul hx hb dX10_isSide_61 ?_
        refine W.lcmp hx hb dX10_isSide_62 ?_
        refine lv_if_ne (tgt := 70) hx hb dX10_isSide_63 (by decide) (fun hc => ?_) (fun hc => ?_)
        · replace h := if_t hc h
          refine lv_iconst (v := 0) hx hb dX10_isSide_70 (by decide) ?_
          cases h
          exact ret _ _ _ _ (Or.inl rfl) dX10_isSide_71 hP hD hS
        · replace h := if_f (fun z => z hc) h
          refine lv_iconst (v := 1) hx hb dX10_isSide_66 (by decide) ?_
          refine lv_goto (tgt := 71) hx hb dX10_isSide_67 (by decide) ?_
          cases h
          exact ret _ _ _ _ (Or.inr rfl) dX10_isSide_71 hP hD hS

def bX10_ends_5 (a1 : Int32) (a2 : Int32) (s_pieces : Int32) (s_firm : Nat → Int32) (s_from : Nat → Int32) (s_to : Nat → Int32) (t : Int32 × Int32) : Option (Nat × (Int32 × Int32)) := dm2 t (fun (v1 : Int32) (v2 : Int32) => if s_pieces ≤ v2 then some (1, (v1, v2)) else gd (¬ (v2 < 0 ∨ 800 ≤ v2.toNatClampNeg)) (ob (if (s_from v2.toNatClampNeg) = a1 then gd (¬ (v2 < 0 ∨ 800 ≤ v2.toNatClampNeg)) (if ¬ (s_firm v2.toNatClampNeg) = 0 then some (1 : Int32) else if ¬ a2 = 0 then some (0 : Int32) else some (1 : Int32)) else gd (¬ (v2 < 0 ∨ 800 ≤ v2.toNatClampNeg)) (if ¬ (s_to v2.toNatClampNeg) = a1 then some (0 : Int32) else gd (¬ (v2 < 0 ∨ 800 ≤ v2.toNatClampNeg)) (if ¬ (s_firm v2.toNatClampNeg) = 0 then some (1 : Int32) else if ¬ a2 = 0 then some (0 : Int32) else some (1 : Int32)))) (fun t => dm1 t (fun (v3 : Int32) => lt (v1 + v3) (fun x4 => lt (v2 + 1) (fun x5 => some (0, (x4, x5))))))))
def sX10_ends (a1 : Int32) (a2 : Int32) (s_pieces : Int32) (s_firm : Nat → Int32) (s_from : Nat → Int32) (s_to : Nat → Int32) : Option (Int32) := ob (iter (bX10_ends_5 a1 a2 s_pieces s_firm s_from s_to) FU ((0 : Int32), (0 : Int32))) (fun kt => ex1 kt (fun t => dm2 t (fun (v6 : Int32) (v7 : Int32) => some v6)))
abbrev rmX10_ends : Room := { frames := 0, cells := 0, slots := 0, locals := 0 }
set_option maxHeartbeats 4000000 in
set_option maxRecDepth 100000 in
theorem c_X10_ends (l : Launch) (D : va_G) (ky : Nat → ClassId) (q_ q_ax q_ay q_bx q_by q_x q_y q_d q_from q_to q_firm : Nat) (a1 : Int32) (a2 : Int32) (s_w : Int32) (s_h : Int32) (s_leads : Int32) (s_lines : Int32) (s_joints : Int32) (s_pieces : Int32) (s_firm : Nat → Int32) (s_from : Nat → Int32) (s_to : Nat → Int32) {o_r : Int32} (h : sX10_ends a1 a2 s_pieces s_firm s_from s_to = some o_r) : MtI l D ky yX10_ends wsX10_ends rmX10_ends [.ref q_, .int a1, .int a2] [(q_, .inr (10, [.int s_w, .int s_h, .int s_leads, .int s_lines, .ref q_ax, .ref q_ay, .ref q_bx, .ref q_by, .int s_joints, .ref q_x, .ref q_y, .ref q_d, .int s_pieces, .ref q_from, .ref q_to, .ref q_firm])), (q_firm, .inl (ky 2, 800, .inl s_firm)), (q_from, .inl (ky 0, 800, .inl s_from)), (q_to, .inl (ky 0, 800, .inl s_to))] [(q_, .inr (10, [.int s_w, .int s_h, .int s_leads, .int s_lines, .ref q_ax, .ref q_ay, .ref q_bx, .ref q_by, .int s_joints, .ref q_x, .ref q_y, .ref q_d, .int s_pieces, .ref q_from, .ref q_to, .ref q_firm])), (q_firm, .inl (ky 2, 800, .inl s_firm)), (q_from, .inl (ky 0, 800, .inl s_from)), (q_to, .inl (ky 0, 800, .inl s_to))] o_r 0 0 := by
  refine MtI.of (cc := cX10_ends) (maxL := 5) (by decide +kernel) rfl (Nat.le_of_ble_eq_true rfl) ?_
  intro p e R s m args below meth c A Q ls hR hx hb hts hown hnm hml hP hK hD hA ret hl
  subst hR
  obtain ⟨H, hH⟩ : ∃ H, H = s.heap := ⟨_, rfl⟩
  obtain ⟨locs, hlocs⟩ : ∃ locs : List Loc, locs = [] := ⟨_, rfl⟩
  have hS : va_S A s.heap H locs := by rw [hH, hlocs]; exact va_S.rf
  rw [← hH] at hP
  suffices hgo : W p l e rmX10_ends s m args below meth c H locs 0 0 Q (F0 m 0 ls []) by rw [hH, hlocs] at hgo; exact hgo
  clear hH hlocs
  replace hl : lv_has ls 5 [(0, .ref q_), (1, .int a1), (2, .int a2)] := hl
  replace hown : s.vm.findClass RX10 = some m.cls := hown
  have hi_X10 : ∀ w ∈ u_ws RX10 TX10 16, w ∈ wsX10_ends := fun _ h9 => List.mem_cons_of_mem _ (List.mem_append_right _ h9)
  have hf_72 := hts (.fieldLink RX10 72 "GlazierBenchModel$Drawing" "pieces" "I") (by decide +kernel)
  have hf_34 := hts (.fieldLink RX10 34 "GlazierBenchModel$Drawing" "from" "[I") (by decide +kernel)
  have hf_40 := hts (.fieldLink RX10 40 "GlazierBenchModel$Drawing" "firm" "[Z") (by decide +kernel)
  have hf_37 := hts (.fieldLink RX10 37 "GlazierBenchModel$Drawing" "to" "[I") (by decide +kernel)
  unfold sX10_ends at h
  refine lv_iconst (v := 0) hx hb dX10_ends_0 (by decide) ?_
  refine lv_istore_n (lv' := [(3, .int (0 : Int32)), (0, .ref q_), (1, .int a1), (2, .int a2)]) hx hb dX10_ends_1 rfl hl (by decide) rfl (fun ls hl => ?_)
  refine lv_iconst (v := 0) hx hb dX10_ends_2 (by decide) ?_
  refine lv_istore (lv' := [(4, .int (0 : Int32)), (3, .int (0 : Int32)), (0, .ref q_), (1, .int a1), (2, .int a2)]) hx hb dX10_ends_3 hl (by decide) rfl (fun ls hl => ?_)
  obtain ⟨⟨k, t⟩, hi, h⟩ := ob_of h
  refine iter_rule (P := fun (k : Nat) (t : Int32 × Int32) => ∀ (H : Heap) (locs : List Loc) (ls : Array Slot), va_P D vwCl [(q_, .inr (10, [.int s_w, .int s_h, .int s_leads, .int s_lines, .ref q_ax, .ref q_ay, .ref q_bx, .ref q_by, .int s_joints, .ref q_x, .ref q_y, .ref q_d, .int s_pieces, .ref q_from, .ref q_to, .ref q_firm])), (q_firm, .inl (ky 2, 800, .inl s_firm)), (q_from, .inl (ky 0, 800, .inl s_from)), (q_to, .inl (ky 0, 800, .inl s_to))] H → va_D A [(q_, .inr (10, [.int s_w, .int s_h, .int s_leads, .int s_lines, .ref q_ax, .ref q_ay, .ref q_bx, .ref q_by, .int s_joints, .ref q_x, .ref q_y, .ref q_d, .int s_pieces, .ref q_from, .ref q_to, .ref q_firm])), (q_firm, .inl (ky 2, 800, .inl s_firm)), (q_from, .inl (ky 0, 800, .inl s_from)), (q_to, .inl (ky 0, 800, .inl s_to))] → va_S A s.heap H locs → lv_has ls 5 [(0, .ref q_), (1, .int a1), (2, .int a2), (3, .int t.1), (4, .int t.2)] → W p l e rmX10_ends s m args below meth c H locs 0 0 Q (F0 m ([5, 64].getD k 0) ls [])) ?_ _ _ _ _ hi ?_ H locs ls hP hD hS (lv_sub hl [2, 3, 4, 1, 0] rfl)
  · clear h hi hP hD hS hl
    intro t k t' h K
    obtain ⟨v1, v2⟩ := t
    intro H locs ls hP hD hS hl
    replace h := dm2_of h
    replace hP : va_P D vwCl [(q_, .inr (10, [.int s_w, .int s_h, .int s_leads, .int s_lines, .ref q_ax, .ref q_ay, .ref q_bx, .ref q_by, .int s_joints, .ref q_x, .ref q_y, .ref q_d, .int s_pieces, .ref q_from, .ref q_to, .ref q_firm])), (q_firm, .inl (ky 2, 800, .inl s_firm)), (q_from, .inl (ky 0, 800, .inl s_from)), (q_to, .inl (ky 0, 800, .inl s_to))] H := hP
    replace hD : va_D A [(q_, .inr (10, [.int s_w, .int s_h, .int s_leads, .int s_lines, .ref q_ax, .ref q_ay, .ref q_bx, .ref q_by, .int s_joints, .ref q_x, .ref q_y, .ref q_d, .int s_pieces, .ref q_from, .ref q_to, .ref q_firm])), (q_firm, .inl (ky 2, 800, .inl s_firm)), (q_from, .inl (ky 0, 800, .inl s_from)), (q_to, .inl (ky 0, 800, .inl s_to))] := hD
    replace hl : lv_has ls 5 [(0, .ref q_), (1, .int a1), (2, .int a2), (3, .int v1), (4, .int v2)] := hl
    refine lv_iload hx hb dX10_ends_5 (lv_at hl 4 rfl) ?_
    refine lv_aload_n hx hb dX10_ends_7 rfl (lv_at hl 0 rfl) ?_
    refine va_get (D := D) (ci := 10) (v := .int s_pieces) (C := RX10) (T := TX10) (N := 16) hx hb hts hi_X10 hown hK.1 hP 0 rfl rfl 12 (by decide) hf_72 (fun _ h9 => h9) rfl dX10_ends_8 ?_
    refine lv_icmp_ge (tgt := 64) hx hb dX10_ends_11 (by decide) (fun hc => ?_) (fun hc => ?_)
    · replace h := if_t hc h
      cases h
      exact K _ _ _ hP hD hS (lv_sub hl [0, 1, 2, 3, 4] rfl)
    · replace h := if_f hc h
      refine lv_iload_n hx hb dX10_ends_14 rfl (lv_at hl 3 rfl) ?_
      refine lv_aload_n hx hb dX10_ends_15 rfl (lv_at hl 0 rfl) ?_
      refine va_get (D := D) (ci := 10) (v := .ref q_from) (C := RX10) (T := TX10) (N := 16) hx hb hts hi_X10 hown hK.1 hP 0 rfl rfl 13 (by decide) hf_34 (fun _ h9 => h9) rfl dX10_ends_16 ?_
      refine lv_iload hx hb dX10_ends_19 (lv_at hl 4 rfl) ?_
      obtain ⟨hg, h⟩ := gd_of h
      refine va_iald hx hb hK.1 hP 2 0 rfl rfl hg dX10_ends_21 ?_
      refine lv_iload_n hx hb dX10_ends_22 rfl (lv_at hl 1 rfl) ?_
      obtain ⟨t, hd, h⟩ := ob_of h
      have K : ∀ (H : Heap) (locs : List Loc) (ls : Array Slot), va_P D vwCl [(q_, .inr (10, [.int s_w, .int s_h, .int s_leads, .int s_lines, .ref q_ax, .ref q_ay, .ref q_bx, .ref q_by, .int s_joints, .ref q_x, .ref q_y, .ref q_d, .int s_pieces, .ref q_from, .ref q_to, .ref q_firm])), (q_firm, .inl (ky 2, 800, .inl s_firm)), (q_from, .inl (ky 0, 800, .inl s_from)), (q_to, .inl (ky 0, 800, .inl s_to))] H → va_D A [(q_, .inr (10, [.int s_w, .int s_h, .int s_leads, .int s_lines, .ref q_ax, .ref q_ay, .ref q_bx, .ref q_by, .int s_joints, .ref q_x, .ref q_y, .ref q_d, .int s_pieces, .ref q_from, .ref q_to, .ref q_firm])), (q_firm, .inl (ky 2, 800, .inl s_firm)), (q_from, .inl (ky 0, 800, .inl s_from)), (q_to, .inl (ky 0, 800, .inl s_to))] → va_S A s.heap H locs → lv_has ls 5 [(0, .ref q_), (1, .int a1), (2, .int a2), (4, .int v2)] → W p l e rmX10_ends s m args below meth c H locs 0 0 Q (F0 m 56 ls [.int t, .int v1]) := by
        clear hd hP hD hS hl
        obtain ⟨v3, rfl⟩ : ∃ z, z = t := ⟨_, rfl⟩
        replace h := dm1_of h
        intro H locs ls hP hD hS hl
        replace hP : va_P D vwCl [(q_, .inr (10, [.int s_w, .int s_h, .int s_leads, .int s_lines, .ref q_ax, .ref q_ay, .ref q_bx, .ref q_by, .int s_joints, .ref q_x, .ref q_y, .ref q_d, .int s_pieces, .ref q_from, .ref q_to, .ref q_firm])), (q_firm, .inl (ky 2, 800, .inl s_firm)), (q_from, .inl (ky 0, 800, .inl s_from)), (q_to, .inl (ky 0, 800, .inl s_to))] H := hP
        replace hD : va_D A [(q_, .inr (10, [.int s_w, .int s_h, .int s_leads, .int s_lines, .ref q_ax, .ref q_ay, .ref q_bx, .ref q_by, .int s_joints, .ref q_x, .ref q_y, .ref q_d, .int s_pieces, .ref q_from, .ref q_to, .ref q_firm])), (q_firm, .inl (ky 2, 800, .inl s_firm)), (q_from, .inl (ky 0, 800, .inl s_from)), (q_to, .inl (ky 0, 800, .inl s_to))] := hD
        replace hl : lv_has ls 5 [(0, .ref q_), (1, .int a1), (2, .int a2), (4, .int v2)] := hl
        refine W.eq (g2 := F0 m 56 ls [.int v3, .int v1]) rfl ?_
        refine lv_iadd hx hb dX10_ends_56 ?_
        refine lv_topi (fun x4 ex4 => ?_)
        replace h := lt_at ex4 h
        refine lv_istore_n (lv' := [(3, .int x4), (0, .ref q_), (1, .int a1), (2, .int a2), (4, .int v2)]) hx hb dX10_ends_57 rfl hl (by decide) rfl (fun ls hl => ?_)
        obtain ⟨x5, ex5⟩ : ∃ z : Int32, z = v2 + 1 := ⟨_, rfl⟩
        replace h := lt_at ex5 h
        refine lv_iinc (v := x5) (lv' := [(4, .int x5), (3, .int x4), (0, .ref q_), (1, .int a1), (2, .int a2)]) hx hb dX10_ends_58 hl (k := 4) rfl (by rw [ex5]; rfl) (by decide) rfl (fun ls hl => ?_)
        refine lv_goto (tgt := 5) hx hb dX10_ends_61 (by decide) ?_
        cases h
        exact K _ _ _ hP hD hS (lv_sub hl [2, 3, 4, 1, 0] rfl)
      replace h := hd
      clear hd
      refine lv_icmp_eq (tgt := 37) hx hb dX10_ends_23 (by decide) (fun hc => ?_) (fun hc => ?_)
      · replace h := if_t hc h
        refine lv_aload_n hx hb dX10_ends_37 rfl (lv_at hl 0 rfl) ?_
        refine va_get (D := D) (ci := 10) (v := .ref q_firm) (C := RX10) (T := TX10) (N := 16) hx hb hts hi_X10 hown hK.1 hP 0 rfl rfl 15 (by decide) hf_40 (fun _ h9 => h9) rfl dX10_ends_38 ?_
        refine lv_iload hx hb dX10_ends_41 (lv_at hl 4 rfl) ?_
        obtain ⟨hg, h⟩ := gd_of h
        refine va_zald hx hb hK.1 hP 1 2 rfl rfl hg dX10_ends_43 ?_
        refine lv_if_ne (tgt := 51) hx hb dX10_ends_44 (by decide) (fun hc => ?_) (fun hc => ?_)
        · replace h := if_t hc h
          refine lv_iconst (v := 1) hx hb dX10_ends_51 (by decide) ?_
          refine lv_goto (tgt := 56) hx hb dX10_ends_52 (by decide) ?_
          cases h
          exact K _ _ _ hP hD hS (lv_sub hl [0, 1, 2, 4] rfl)
        · replace h := if_f (fun z => z hc) h
          refine lv_iload_n hx hb dX10_ends_47 rfl (lv_at hl 2 rfl) ?_
          refine lv_if_ne (tgt := 55) hx hb dX10_ends_48 (by decide) (fun hc => ?_) (fun hc => ?_)
          · replace h := if_t hc h
            refine lv_iconst (v := 0) hx hb dX10_ends_55 (by decide) ?_
            cases h
            exact K _ _ _ hP hD hS (lv_sub hl [0, 1, 2, 4] rfl)
          · replace h := if_f (fun z => z hc) h
            refine lv_iconst (v := 1) hx hb dX10_ends_51 (by decide) ?_
            refine lv_goto (tgt := 56) hx hb dX10_ends_52 (by decide) ?_
            cases h
            exact K _ _ _ hP hD hS (lv_sub hl [0, 1, 2, 4] rfl)
      · replace h := if_f hc h
        refine lv_aload_n hx hb dX10_ends_26 rfl (lv_at hl 0 rfl) ?_
        refine va_get (D := D) (ci := 10) (v := .ref q_to) (C := RX10) (T := TX10) (N := 16) hx hb hts hi_X10 hown hK.1 hP 0 rfl rfl 14 (by decide) hf_37 (fun _ h9 => h9) rfl dX10_ends_27 ?_
        refine lv_iload hx hb dX10_ends_30 (lv_at hl 4 rfl) ?_
        obtain ⟨hg, h⟩ := gd_of h
        refine va_iald hx hb hK.1 hP 3 0 rfl rfl hg dX10_ends_32 ?_
        refine lv_iload_n hx hb dX10_ends_33 rfl (lv_at hl 1 rfl) ?_
        refine lv_icmp_ne (tgt := 55) hx hb dX10_ends_34 (by decide) (fun hc => ?_) (fun hc => ?_)
        · replace h := if_t hc h
          refine lv_iconst (v := 0) hx hb dX10_ends_55 (by decide) ?_
          cases h
          exact K _ _ _ hP hD hS (lv_sub hl [0, 1, 2, 4] rfl)
        · replace h := if_f (fun z => z hc) h
          refine lv_aload_n hx hb dX10_ends_37 rfl (lv_at hl 0 rfl) ?_
          refine va_get (D := D) (ci := 10) (v := .ref q_firm) (C := RX10) (T := TX10) (N := 16) hx hb hts hi_X10 hown hK.1 hP 0 rfl rfl 15 (by decide) hf_40 (fun _ h9 => h9) rfl dX10_ends_38 ?_
          refine lv_iload hx hb dX10_ends_41 (lv_at hl 4 rfl) ?_
          obtain ⟨hg, h⟩ := gd_of h
          refine va_zald hx hb hK.1 hP 1 2 rfl rfl hg dX10_ends_43 ?_
          refine lv_if_ne (tgt := 51) hx hb dX10_ends_44 (by decide) (fun hc => ?_) (fun hc => ?_)
          · replace h := if_t hc h
            refine lv_iconst (v := 1) hx hb dX10_ends_51 (by decide) ?_
            refine lv_goto (tgt := 56) hx hb dX10_ends_52 (by decide) ?_
            cases h
            exact K _ _ _ hP hD hS (lv_sub hl [0, 1, 2, 4] rfl)
          · replace h := if_f (fun z => z hc) h
            refine lv_iload_n hx hb dX10_ends_47 rfl (lv_at hl 2 rfl) ?_
            refine lv_if_ne (tgt := 55) hx hb dX10_ends_48 (by decide) (fun hc => ?_) (fun hc => ?_)
            · replace h := if_t hc h
              refine lv_iconst (v := 0) hx hb dX10_ends_55 (by decide) ?_
              cases h
              exact K _ _ _ hP hD hS (lv_sub hl [0, 1, 2, 4] rfl)
            · replace h := if_f (fun z => z hc) h
              refine lv_iconst (v := 1) hx hb dX10_ends_51 (by decide) ?_
              refine lv_goto (tgt := 56) hx hb dX10_ends_52 (by decide) ?_
              cases h
              exact K _ _ _ hP hD hS (lv_sub hl [0, 1, 2, 4] rfl)
  · have h1 := ex1_of h
    clear h hi
    rcases h1 with ⟨rfl, h⟩
    obtain ⟨v6, v7⟩ := t
    replace h := dm2_of h
    intro H locs ls hP hD hS hl
    replace hP : va_P D vwCl [(q_, .inr (10, [.int s_w, .int s_h, .int s_leads, .int s_lines, .ref q_ax, .ref q_ay, .ref q_bx, .ref q_by, .int s_joints, .ref q_x, .ref q_y, .ref q_d, .int s_pieces, .ref q_from, .ref q_to, .ref q_firm])), (q_firm, .inl (ky 2, 800, .inl s_firm)), (q_from, .inl (ky 0, 800, .inl s_from)), (q_to, .inl (ky 0, 800, .inl s_to))] H := hP
    replace hD : va_D A [(q_, .inr (10, [.int s_w, .int s_h, .int s_leads, .int s_lines, .ref q_ax, .ref q_ay, .ref q_bx, .ref q_by, .int s_joints, .ref q_x, .ref q_y, .ref q_d, .int s_pieces, .ref q_from, .ref q_to, .ref q_firm])), (q_firm, .inl (ky 2, 800, .inl s_firm)), (q_from, .inl (ky 0, 800, .inl s_from)), (q_to, .inl (ky 0, 800, .inl s_to))] := hD
    replace hl : lv_has ls 5 [(0, .ref q_), (1, .int a1), (2, .int a2), (3, .int v6), (4, .int v7)] := hl
    refine W.eq (g2 := F0 m 64 ls []) rfl ?_
    refine lv_iload_n hx hb dX10_ends_64 rfl (lv_at hl 3 rfl) ?_
    cases h
    exact ret _ _ _ _ dX10_ends_65 hP hD hS

