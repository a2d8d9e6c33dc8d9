def bX10_loosen_9 (s_w : Int32) (s_h : Int32) (s_joints : Int32) (s_d : Nat → Int64) (s_x : Nat → Int64) (s_y : Nat → Int64) (t : Int32 × (Nat → Int32)) : Option (Nat × (Int32 × (Nat → Int32))) := dm2 t (fun (v2 : Int32) (v3 : Nat → Int32) => if s_joints ≤ v2 then some (1, (v2, v3)) else ob (sX10_isSide v2 s_w s_h s_d s_x s_y) (fun o => dm1 o (fun (r4 : Int32) => gd (¬ (v2 < 0 ∨ (s_joints.toNatClampNeg) ≤ v2.toNatClampNeg)) (lt (upd v3 v2.toNatClampNeg (vp_nar .boolean r4)) (fun f5 => lt (v2 + 1) (fun x6 => some (0, (x6, f5))))))))
def bX10_loosen_41 (s_joints : Int32) (s_pieces : Int32) (s_from : Nat → Int32) (s_to : Nat → Int32) (t : Int32 × Int32 × (Nat → Int32)) : Option (Nat × (Int32 × Int32 × (Nat → Int32))) := dm3 t (fun (v11 : Int32) (v12 : Int32) (v13 : Nat → Int32) => if s_pieces ≤ v12 then some (1, (v11, v12, v13)) else gd (¬ (v12 < 0 ∨ 800 ≤ v12.toNatClampNeg)) (gd (¬ ((s_from v12.toNatClampNeg) < 0 ∨ (s_joints.toNatClampNeg) ≤ (s_from v12.toNatClampNeg).toNatClampNeg)) (gd (¬ (v12 < 0 ∨ 800 ≤ v12.toNatClampNeg)) (gd (¬ ((s_to v12.toNatClampNeg) < 0 ∨ (s_joints.toNatClampNeg) ≤ (s_to v12.toNatClampNeg).toNatClampNeg)) (ob (if (v13 (s_from v12.toNatClampNeg).toNatClampNeg) = (v13 (s_to v12.toNatClampNeg).toNatClampNeg) then some (v11, v13) else gd (¬ (v12 < 0 ∨ 800 ≤ v12.toNatClampNeg)) (gd (¬ ((s_from v12.toNatClampNeg) < 0 ∨ (s_joints.toNatClampNeg) ≤ (s_from v12.toNatClampNeg).toNatClampNeg)) (lt (upd v13 (s_from v12.toNatClampNeg).toNatClampNeg (vp_nar .boolean (1 : Int32))) (fun f17 => gd (¬ (v12 < 0 ∨ 800 ≤ v12.toNatClampNeg)) (gd (¬ ((s_to v12.toNatClampNeg) < 0 ∨ (s_joints.toNatClampNeg) ≤ (s_to v12.toNatClampNeg).toNatClampNeg)) (lt (upd f17 (s_to v12.toNatClampNeg).toNatClampNeg (vp_nar .boolean (1 : Int32))) (fun f18 => some ((1 : Int32), f18)))))))) (fun t => dm2 t (fun (v14 : Int32) (v15 : Nat → Int32) => lt (v12 + 1) (fun x16 => some (0, (v14, x16, v15))))))))))
def bX10_loosen_33 (s_joints : Int32) (s_pieces : Int32) (s_from : Nat → Int32) (s_to : Nat → Int32) (t : Int32 × (Nat → Int32)) : Option (Nat × (Int32 × (Nat → Int32))) := dm2 t (fun (v9 : Int32) (v10 : Nat → Int32) => if v9 = 0 then some (1, (v9, v10)) else ob (iter (bX10_loosen_41 s_joints s_pieces s_from s_to) FU ((0 : Int32), (0 : Int32), v10)) (fun kt => ex1 kt (fun t => dm3 t (fun (v19 : Int32) (v20 : Int32) (v21 : Nat → Int32) => some (0, (v19, v21))))))
def bX10_loosen_99 (s_joints : Int32) (s_pieces : Int32) (s_from : Nat → Int32) (v23 : Nat → Int32) (t : Int32 × (Nat → Int32)) : Option (Nat × (Int32 × (Nat → Int32))) := dm2 t (fun (v24 : Int32) (v25 : Nat → Int32) => if s_pieces ≤ v24 then some (1, (v24, v25)) else gd (¬ (v24 < 0 ∨ 800 ≤ v24.toNatClampNeg)) (gd (¬ ((s_from v24.toNatClampNeg) < 0 ∨ (s_joints.toNatClampNeg) ≤ (s_from v24.toNatClampNeg).toNatClampNeg)) (gd (¬ (v24 < 0 ∨ 800 ≤ v24.toNatClampNeg)) (lt (upd v25 v24.toNatClampNeg (vp_nar .boolean (v23 (s_from v24.toNatClampNeg).toNatClampNeg))) (fun f26 => lt (v24 + 1) (fun x27 => some (0, (x27, f26))))))))
def bX10_loosen_137 (s_pieces : Int32) (s_from : Nat → Int32) (s_to : Nat → Int32) (t : Int32 × Int32 × (Nat → Int32)) : Option (Nat × (Int32 × Int32 × (Nat → Int32))) := dm3 t (fun (v32 : Int32) (v33 : Int32) (v34 : Nat → Int32) => if s_pieces ≤ v33 then some (1, (v32, v33, v34)) else gd (¬ (v33 < 0 ∨ 800 ≤ v33.toNatClampNeg)) (ob (if (v34 v33.toNatClampNeg) = 0 then some (v32, v34) else gd (¬ (v33 < 0 ∨ 800 ≤ v33.toNatClampNeg)) (ob (sX10_ends (s_from v33.toNatClampNeg) (1 : Int32) s_pieces v34 s_from s_to) (fun o => dm1 o (fun (r38 : Int32) => if r38 = (1 : Int32) then gd (¬ (v33 < 0 ∨ 800 ≤ v33.toNatClampNeg)) (lt (upd v34 v33.toNatClampNeg (vp_nar .boolean (0 : Int32))) (fun f39 => some ((1 : Int32), f39))) else gd (¬ (v33 < 0 ∨ 800 ≤ v33.toNatClampNeg)) (ob (sX10_ends (s_to v33.toNatClampNeg) (1 : Int32) s_pieces v34 s_from s_to) (fun o => dm1 o (fun (r40 : Int32) => if ¬ r40 = (1 : Int32) then some (v32, v34) else gd (¬ (v33 < 0 ∨ 800 ≤ v33.toNatClampNeg)) (lt (upd v34 v33.toNatClampNeg (vp_nar .boolean (0 : Int32))) (fun f41 => some ((1 : Int32), f41)))))))))) (fun t => dm2 t (fun (v35 : Int32) (v36 : Nat → Int32) => lt (v33 + 1) (fun x37 => some (0, (v35, x37, v36)))))))
def bX10_loosen_129 (s_pieces : Int32) (s_from : Nat → Int32) (s_to : Nat → Int32) (t : Int32 × (Nat → Int32)) : Option (Nat × (Int32 × (Nat → Int32))) := dm2 t (fun (v30 : Int32) (v31 : Nat → Int32) => if v30 = 0 then some (1, (v30, v31)) else ob (iter (bX10_loosen_137 s_pieces s_from s_to) FU ((0 : Int32), (0 : Int32), v31)) (fun kt => ex1 kt (fun t => dm3 t (fun (v42 : Int32) (v43 : Int32) (v44 : Nat → Int32) => some (0, (v42, v44))))))
def sX10_loosen  (s_w : Int32) (s_h : Int32) (s_joints : Int32) (s_pieces : Int32) (s_d : Nat → Int64) (s_firm : Nat → Int32) (s_from : Nat → Int32) (s_to : Nat → Int32) (s_x : Nat → Int64) (s_y : Nat → Int64) : Option ((Nat → Int32)) := gd ((¬ s_joints < 0) ∧ s_joints.toNatClampNeg ≤ 240) (lt (fun _ => 0) (fun (f1 : Nat → Int32) => ob (iter (bX10_loosen_9 s_w s_h s_joints s_d s_x s_y) FU ((0 : Int32), f1)) (fun kt => ex1 kt (fun t => dm2 t (fun (v7 : Int32) (v8 : Nat → Int32) => ob (iter (bX10_loosen_33 s_joints s_pieces s_from s_to) FU ((1 : Int32), v8)) (fun kt => ex1 kt (fun t => dm2 t (fun (v22 : Int32) (v23 : Nat → Int32) => ob (iter (bX10_loosen_99 s_joints s_pieces s_from v23) FU ((0 : Int32), s_firm)) (fun kt => ex1 kt (fun t => dm2 t (fun (v28 : Int32) (v29 : Nat → Int32) => ob (iter (bX10_loosen_129 s_pieces s_from s_to) FU ((1 : Int32), v29)) (fun kt => ex1 kt (fun t => dm2 t (fun (v45 : Int32) (v46 : Nat → Int32) => some v46))))))))))))))
abbrev rmX10_loosen : Room := { frames := 1, cells := 1, slots := 240, locals := 24 }
set_option maxHeartbeats 4000000 in
set_option maxRecDepth 100000 in
theorem c_X10_loosen (l : Launch) (D : va_G) (ky : Nat → ClassId) (q_ q_ax q_ay q_bx q_by q_x q_y q_d q_from q_to q_firm : Nat) (s_w : Int32) (s_h : Int32) (s_leads : Int32) (s_lines : Int32) (s_joints : Int32) (s_pieces : Int32) (s_d : Nat → Int64) (s_firm : Nat → Int32) (s_from : Nat → Int32) (s_to : Nat → Int32) (s_x : Nat → Int64) (s_y : Nat → Int64) {o_firm : Nat → Int32} (h : sX10_loosen s_w s_h s_joints s_pieces s_d s_firm s_from s_to s_x s_y = some o_firm) : MtV l D ky yX10_loosen wsX10_loosen rmX10_loosen [.ref q_] [(q_, .inr (10, [.int s_w, .int s_h, .int s_leads, .int s_lines, .ref q_ax, .ref q_ay, .ref q_bx, .ref q_by, .int s_joints, .ref q_x, .ref q_y, .ref q_d, .int s_pieces, .ref q_from, .ref q_to, .ref q_firm])), (q_d, .inl (ky 1, 240, .inr (.inl s_d))), (q_firm, .inl (ky 2, 800, .inl s_firm)), (q_from, .inl (ky 0, 800, .inl s_from)), (q_to, .inl (ky 0, 800, .inl s_to)), (q_x, .inl (ky 1, 240, .inr (.inl s_x))), (q_y, .inl (ky 1, 240, .inr (.inl s_y)))] [(q_, .inr (10, [.int s_w, .int s_h, .int s_leads, .int s_lines, .ref q_ax, .ref q_ay, .ref q_bx, .ref q_by, .int s_joints, .ref q_x, .ref q_y, .ref q_d, .int s_pieces, .ref q_from, .ref q_to, .ref q_firm])), (q_d, .inl (ky 1, 240, .inr (.inl s_d))), (q_firm, .inl (ky 2, 800, .inl o_firm)), (q_from, .inl (ky 0, 800, .inl s_from)), (q_to, .inl (ky 0, 800, .inl s_to)), (q_x, .inl (ky 1, 240, .inr (.inl s_x))), (q_y, .inl (ky 1, 240, .inr (.inl s_y)))] 1 240 := by
  refine MtV.of (cc := cX10_loosen) (maxL := 4) (by decide +kernel) rfl (Nat.le_of_ble_eq_true rfl) ?_
  intro p e R s m args below meth c A Q ls hR hx hb hts hown hnm hml hP hK hD hA ret hl
  subst hR
  obtain ⟨H, hH⟩ : ∃ H, H = s.heap := ⟨_, rfl⟩
  obtain ⟨locs, hlocs⟩ : ∃ locs : List Loc, locs = [] := ⟨_, rfl⟩
  have hS : va_S A s.heap H locs := by rw [hH, hlocs]; exact va_S.rf
  rw [← hH] at hP
  suffices hgo : W p l e rmX10_loosen s m args below meth c H locs 0 0 Q (F0 m 0 ls []) by rw [hH, hlocs] at hgo; exact hgo
  clear hH hlocs
  replace hl : lv_has ls 4 [(0, .ref q_)] := hl
  replace hown : s.vm.findClass RX10 = some m.cls := hown
  have hi_X10 : ∀ w ∈ u_ws RX10 TX10 16, w ∈ wsX10_loosen := fun _ h9 => List.mem_cons_of_mem _ (List.mem_append_right _ h9)
  have hf_61 := hts (.fieldLink RX10 61 "GlazierBenchModel$Drawing" "joints" "I") (by decide +kernel)
  have har_boolean := hts (.arrayClass .boolean) (by decide +kernel)
  have hf_72 := hts (.fieldLink RX10 72 "GlazierBenchModel$Drawing" "pieces" "I") (by decide +kernel)
  have hf_34 := hts (.fieldLink RX10 34 "GlazierBenchModel$Drawing" "from" "[I") (by decide +kernel)
  have hf_37 := hts (.fieldLink RX10 37 "GlazierBenchModel$Drawing" "to" "[I") (by decide +kernel)
  have hf_40 := hts (.fieldLink RX10 40 "GlazierBenchModel$Drawing" "firm" "[Z") (by decide +kernel)
  unfold sX10_loosen at h
  refine lv_aload_n hx hb dX10_loosen_0 rfl (lv_at hl 0 rfl) ?_
  refine va_get (D := D) (ci := 10) (v := .int s_joints) (C := RX10) (T := TX10) (N := 16) hx hb hts hi_X10 hown hK.1 hP 0 rfl rfl 8 (by decide) hf_61 (fun _ h9 => h9) rfl dX10_loosen_1 ?_
  obtain ⟨hg, h⟩ := gd_of h
  obtain ⟨f1, ef1⟩ : ∃ z : Nat → Int32, z = (fun _ => 0) := ⟨_, rfl⟩
  replace h := lt_at ef1 h
  refine r_newz hx hb har_boolean hK hP hD hS hA ef1 hg.1 rfl (Nat.le_trans (Nat.mul_le_mul_right _ hg.2) (by decide)) (Nat.le_of_ble_eq_true rfl) (Nat.le_trans (Nat.add_le_add_left hg.2 _) (by decide)) dX10_loosen_4 (fun q_n4 H hP hD hS => ?_)
  refine W.widen (k := 1) (n := 240) (Nat.le_of_ble_eq_true rfl) (Nat.add_le_add_left hg.2 _) ?_
  replace hP : va_P D vwCl [(q_, .inr (10, [.int s_w, .int s_h, .int s_leads, .int s_lines, .ref q_ax, .ref q_ay, .ref q_bx, .ref q_by, .int s_joints, .ref q_x, .ref q_y, .ref q_d, .int s_pieces, .ref q_from, .ref q_to, .ref q_firm])), (q_d, .inl (ky 1, 240, .inr (.inl s_d))), (q_firm, .inl (ky 2, 800, .inl s_firm)), (q_from, .inl (ky 0, 800, .inl s_from)), (q_to, .inl (ky 0, 800, .inl s_to)), (q_x, .inl (ky 1, 240, .inr (.inl s_x))), (q_y, .inl (ky 1, 240, .inr (.inl s_y))), (q_n4, .inl (ky 2, (s_joints.toNatClampNeg), .inl f1))] H := hP
  replace hD : va_D A [(q_, .inr (10, [.int s_w, .int s_h, .int s_leads, .int s_lines, .ref q_ax, .ref q_ay, .ref q_bx, .ref q_by, .int s_joints, .ref q_x, .ref q_y, .ref q_d, .int s_pieces, .ref q_from, .ref q_to, .ref q_firm])), (q_d, .inl (ky 1, 240, .inr (.inl s_d))), (q_firm, .inl (ky 2, 800, .inl s_firm)), (q_from, .inl (ky 0, 800, .inl s_from)), (q_to, .inl (ky 0, 800, .inl s_to)), (q_x, .inl (ky 1, 240, .inr (.inl s_x))), (q_y, .inl (ky 1, 240, .inr (.inl s_y))), (q_n4, .inl (ky 2, (s_joints.toNatClampNeg), .inl f1))] := hD
  refine lv_astore_n (lv' := [(1, .ref q_n4), (0, .ref q_)]) hx hb dX10_loosen_6 rfl hl (by decide) rfl (fun ls hl => ?_)
  refine lv_iconst (v := 0) hx hb dX10_loosen_7 (by decide) ?_
  refine lv_istore_n (lv' := [(2, .int (0 : Int32)), (1, .ref q_n4), (0, .ref q_)]) hx hb dX10_loosen_8 rfl hl (by decide) rfl (fun ls hl => ?_)
  obtain ⟨⟨k, t⟩, hi, h⟩ := ob_of h
  refine iter_rule (P := fun (k : Nat) (t : Int32 × (Nat → Int32)) => ∀ (H : Heap) (locs : List Loc) (ls : Array Slot), va_P D vwCl [(q_, .inr (10, [.int s_w, .int s_h, .int s_leads, .int s_lines, .ref q_ax, .ref q_ay, .ref q_bx, .ref q_by, .int s_joints, .ref q_x, .ref q_y, .ref q_d, .int s_pieces, .ref q_from, .ref q_to, .ref q_firm])), (q_d, .inl (ky 1, 240, .inr (.inl s_d))), (q_firm, .inl (ky 2, 800, .inl s_firm)), (q_from, .inl (ky 0, 800, .inl s_from)), (q_to, .inl (ky 0, 800, .inl s_to)), (q_x, .inl (ky 1, 240, .inr (.inl s_x))), (q_y, .inl (ky 1, 240, .inr (.inl s_y))), (q_n4, .inl (ky 2, (s_joints.toNatClampNeg), .inl t.2))] H → va_D A [(q_, .inr (10, [.int s_w, .int s_h, .int s_leads, .int s_lines, .ref q_ax, .ref q_ay, .ref q_bx, .ref q_by, .int s_joints, .ref q_x, .ref q_y, .ref q_d, .int s_pieces, .ref q_from, .ref q_to, .ref q_firm])), (q_d, .inl (ky 1, 240, .inr (.inl s_d))), (q_firm, .inl (ky 2, 800, .inl s_firm)), (q_from, .inl (ky 0, 800, .inl s_from)), (q_to, .inl (ky 0, 800, .inl s_to)), (q_x, .inl (ky 1, 240, .inr (.inl s_x))), (q_y, .inl (ky 1, 240, .inr (.inl s_y))), (q_n4, .inl (ky 2, (s_joints.toNatClampNeg), .inl t.2))] → va_S A s.heap H locs → lv_has ls 4 [(0, .ref q_), (1, .ref q_n4), (2, .int t.1)] → W p l e rmX10_loosen s m args below meth c H locs 1 240 Q (F0 m ([9, 31].getD k 0) ls [])) ?_ _ _ _ _ hi ?_ H locs ls hP hD hS (lv_sub hl [2, 1, 0] rfl)
  · clear h hi hP hD hS hl
    intro t k t' h K
    obtain ⟨v2, v3⟩ := t
    intro H locs ls hP hD hS hl
    replace h := dm2_of h
    replace hP : va_P D vwCl [(q_, .inr (10, [.int s_w, .int s_h, .int s_leads, .int s_lines, .ref q_ax, .ref q_ay, .ref q_bx, .ref q_by, .int s_joints, .ref q_x, .ref q_y, .ref q_d, .int s_pieces, .ref q_from, .ref q_to, .ref q_firm])), (q_d, .inl (ky 1, 240, .inr (.inl s_d))), (q_firm, .inl (ky 2, 800, .inl s_firm)), (q_from, .inl (ky 0, 800, .inl s_from)), (q_to, .inl (ky 0, 800, .inl s_to)), (q_x, .inl (ky 1, 240, .inr (.inl s_x))), (q_y, .inl (ky 1, 240, .inr (.inl s_y))), (q_n4, .inl (ky 2, (s_joints.toNatClampNeg), .inl v3))] H := hP
    replace hD : va_D A [(q_, .inr (10, [.int s_w, .int s_h, .int s_leads, .int s_lines, .ref q_ax, .ref q_ay, .ref q_bx, .ref q_by, .int s_joints, .ref q_x, .ref q_y, .ref q_d, .int s_pieces, .ref q_from, .ref q_to, .ref q_firm])), (q_d, .inl (ky 1, 240, .inr (.inl s_d))), (q_firm, .inl (ky 2, 800, .inl s_firm)), (q_from, .inl (ky 0, 800, .inl s_from)), (q_to, .inl (ky 0, 800, .inl s_to)), (q_x, .inl (ky 1, 240, .inr (.inl s_x))), (q_y, .inl (ky 1, 240, .inr (.inl s_y))), (q_n4, .inl (ky 2, (s_joints.toNatClampNeg), .inl v3))] := hD
    replace hl : lv_has ls 4 [(0, .ref q_), (1, .ref q_n4), (2, .int v2)] := hl
    refine lv_iload_n hx hb dX10_loosen_9 rfl (lv_at hl 2 rfl) ?_
    refine lv_aload_n hx hb dX10_loosen_10 rfl (lv_at hl 0 rfl) ?_
    refine va_get (D := D) (ci := 10) (v := .int s_joints) (C := RX10) (T := TX10) (N := 16) hx hb hts hi_X10 hown hK.1 hP 0 rfl rfl 8 (by decide) hf_61 (fun _ h9 => h9) rfl dX10_loosen_11 ?_
    refine lv_icmp_ge (tgt := 31) hx hb dX10_loosen_14 (by decide) (fun hc => ?_) (fun hc => ?_)
    · replace h := if_t hc h
      cases h
      exact K _ _ _ hP hD hS (lv_sub hl [0, 1, 2] rfl)
    · replace h := if_f hc h
      refine lv_aload_n hx hb dX10_loosen_17 rfl (lv_at hl 1 rfl) ?_
      refine lv_iload_n hx hb dX10_loosen_18 rfl (lv_at hl 2 rfl) ?_
      refine lv_aload_n hx hb dX10_loosen_19 rfl (lv_at hl 0 rfl) ?_
      refine lv_iload_n hx hb dX10_loosen_20 rfl (lv_at hl 2 rfl) ?_
      obtain ⟨r4, hc, h⟩ := ob_of h
      replace h := dm1_of h
      refine cv_i (As := [.int v2]) (rest := [.int v2, .ref q_n4]) (wr := [(q_firm, .inl (ky 2, 800, .inl s_firm)), (q_from, .inl (ky 0, 800, .inl s_from)), (q_to, .inl (ky 0, 800, .inl s_to)), (q_n4, .inl (ky 2, (s_joints.toNatClampNeg), .inl v3))]) (wn := [(q_, .inr (10, [.int s_w, .int s_h, .int s_leads, .int s_lines, .ref q_ax, .ref q_ay, .ref q_bx, .ref q_by, .int s_joints, .ref q_x, .ref q_y, .ref q_d, .int s_pieces, .ref q_from, .ref q_to, .ref q_firm])), (q_d, .inl (ky 1, 240, .inr (.inl s_d))), (q_firm, .inl (ky 2, 800, .inl s_firm)), (q_from, .inl (ky 0, 800, .inl s_from)), (q_to, .inl (ky 0, 800, .inl s_to)), (q_x, .inl (ky 1, 240, .inr (.inl s_x))), (q_y, .inl (ky 1, 240, .inr (.inl s_y))), (q_n4, .inl (ky 2, (s_joints.toNatClampNeg), .inl v3))]) ⟨hx, hb, hml, hown, hts⟩ (c_X10_isSide l D ky q_ q_ax q_ay q_bx q_by q_x q_y q_d q_from q_to q_firm v2 s_w s_h s_leads s_lines s_joints s_pieces s_d s_x s_y hc) (cwV 1 hts gX10_loosen_X10_isSide rfl rfl rfl (by decide +kernel) ⟨Nat.le_of_ble_eq_true rfl, Nat.le_of_ble_eq_true rfl⟩) (rcv hK.1 hP (q0 := 0) rfl rfl) hP hD hK hS hA [0, 1, 5, 6] [2, 3, 4, 7] [4, 5, 0, 1, 2, 6, 7, 3] rfl (by decide +kernel) rfl (by decide +kernel) (by decide +kernel) (by decide +kernel) rfl rfl rfl hl.1 (Nat.le_of_ble_eq_true rfl) dX10_loosen_21 ⟨Nat.le_of_ble_eq_true rfl, Nat.le_of_ble_eq_true rfl⟩ (fun H locs hP hD hS => ?_)
      obtain ⟨hg, h⟩ := gd_of h
      refine r_zast hx hb hK.1 hP hD hS 7 2 rfl rfl hg dX10_loosen_24 (fun f5 ef5 H locs hP hD hS => ?_)
      replace h := lt_at ef5 h
      replace hP : va_P D vwCl [(q_, .inr (10, [.int s_w, .int s_h, .int s_leads, .int s_lines, .ref q_ax, .ref q_ay, .ref q_bx, .ref q_by, .int s_joints, .ref q_x, .ref q_y, .ref q_d, .int s_pieces, .ref q_from, .ref q_to, .ref q_firm])), (q_d, .inl (ky 1, 240, .inr (.inl s_d))), (q_firm, .inl (ky 2, 800, .inl s_firm)), (q_from, .inl (ky 0, 800, .inl s_from)), (q_to, .inl (ky 0, 800, .inl s_to)), (q_x, .inl (ky 1, 240, .inr (.inl s_x))), (q_y, .inl (ky 1, 240, .inr (.inl s_y))), (q_n4, .inl (ky 2, (s_joints.toNatClampNeg), .inl f5))] H := hP
      replace hD : va_D A [(q_, .inr (10, [.int s_w, .int s_h, .int s_leads, .int s_lines, .ref q_ax, .ref q_ay, .ref q_bx, .ref q_by, .int s_joints, .ref q_x, .ref q_y, .ref q_d, .int s_pieces, .ref q_from, .ref q_to, .ref q_firm])), (q_d, .inl (ky 1, 240, .inr (.inl s_d))), (q_firm, .inl (ky 2, 800, .inl s_firm)), (q_from, .inl (ky 0, 800, .inl s_from)), (q_to, .inl (ky 0, 800, .inl s_to)), (q_x, .inl (ky 1, 240, .inr (.inl s_x))), (q_y, .inl (ky 1, 240, .inr (.inl s_y))), (q_n4, .inl (ky 2, (s_joints.toNatClampNeg), .inl f5))] := hD
      obtain ⟨x6, ex6⟩ : ∃ z : Int32, z = v2 + 1 := ⟨_, rfl⟩
      replace h := lt_at ex6 h
      refine lv_iinc (v := x6) (lv' := [(2, .int x6), (0, .ref q_), (1, .ref q_n4)]) hx hb dX10_loosen_25 hl (k := 2) rfl (by rw [ex6]; rfl) (by decide) rfl (fun ls hl => ?_)
      refine lv_goto (tgt := 9) hx hb dX10_loosen_28 (by decide) ?_
      cases h
      exact K _ _ _ hP hD hS (lv_sub hl [1, 2, 0] rfl)
  · have h1 := ex1_of h
    clear h hi
    rcases h1 with ⟨rfl, h⟩
    obtain ⟨v7, v8⟩ := t
    replace h := dm2_of h
    intro H locs ls hP hD hS hl
    replace hP : va_P D vwCl [(q_, .inr (10, [.int s_w, .int s_h, .int s_leads, .int s_lines, .ref q_ax, .ref q_ay, .ref q_bx, .ref q_by, .int s_joints, .ref q_x, .ref q_y, .ref q_d, .int s_pieces, .ref q_from, .ref q_to, .ref q_firm])), (q_d, .inl (ky 1, 240, .inr (.inl s_d))), (q_firm, .inl (ky 2, 800, .inl s_firm)), (q_from, .inl (ky 0, 800, .inl s_from)), (q_to, .inl (ky 0, 800, .inl s_to)), (q_x, .inl (ky 1, 240, .inr (.inl s_x))), (q_y, .inl (ky 1, 240, .inr (.inl s_y))), (q_n4, .inl (ky 2, (s_joints.toNatClampNeg), .inl v8))] H := hP
    replace hD : va_D A [(q_, .inr (10, [.int s_w, .int s_h, .int s_leads, .int s_lines, .ref q_ax, .ref q_ay, .ref q_bx, .ref q_by, .int s_joints, .ref q_x, .ref q_y, .ref q_d, .int s_pieces, .ref q_from, .ref q_to, .ref q_firm])), (q_d, .inl (ky 1, 240, .inr (.inl s_d))), (q_firm, .inl (ky 2, 800, .inl s_firm)), (q_from, .inl (ky 0, 800, .inl s_from)), (q_to, .inl (ky 0, 800, .inl s_to)), (q_x, .inl (ky 1, 240, .inr (.inl s_x))), (q_y, .inl (ky 1, 240, .inr (.inl s_y))), (q_n4, .inl (ky 2, (s_joints.toNatClampNeg), .inl v8))] := hD
    replace hl : lv_has ls 4 [(0, .ref q_), (1, .ref q_n4), (2, .int v7)] := hl
    refine W.eq (g2 := F0 m 31 ls []) rfl ?_
    refine lv_iconst (v := 1) hx hb dX10_loosen_31 (by decide) ?_
    refine lv_istore_n (lv' := [(2, .int (1 : Int32)), (0, .ref q_), (1, .ref q_n4)]) hx hb dX10_loosen_32 rfl hl (by decide) rfl (fun ls hl => ?_)
    obtain ⟨⟨k, t⟩, hi, h⟩ := ob_of h
    refine iter_rule (P := fun (k : Nat) (t : Int32 × (Nat → Int32)) => ∀ (H : Heap) (locs : List Loc) (ls : Array Slot), va_P D vwCl [(q_, .inr (10, [.int s_w, .int s_h, .int s_leads, .int s_lines, .ref q_ax, .ref q_ay, .ref q_bx, .ref q_by, .int s_joints, .ref q_x, .ref q_y, .ref q_d, .int s_pieces, .ref q_from, .ref q_to, .ref q_firm])), (q_d, .inl (ky 1, 240, .inr (.inl s_d))), (q_firm, .inl (ky 2, 800, .inl s_firm)), (q_from, .inl (ky 0, 800, .inl s_from)), (q_to, .inl (ky 0, 800, .inl s_to)), (q_x, .inl (ky 1, 240, .inr (.inl s_x))), (q_y, .inl (ky 1, 240, .inr (.inl s_y))), (q_n4, .inl (ky 2, (s_joints.toNatClampNeg), .inl t.2))] H → va_D A [(q_, .inr (10, [.int s_w, .int s_h, .int s_leads, .int s_lines, .ref q_ax, .ref q_ay, .ref q_bx, .ref q_by, .int s_joints, .ref q_x, .ref q_y, .ref q_d, .int s_pieces, .ref q_from, .ref q_to, .ref q_firm])), (q_d, .inl (ky 1, 240, .inr (.inl s_d))), (q_firm, .inl (ky 2, 800, .inl s_firm)), (q_from, .inl (ky 0, 800, .inl s_from)), (q_to, .inl (ky 0, 800, .inl s_to)), (q_x, .inl (ky 1, 240, .inr (.inl s_x))), (q_y, .inl (ky 1, 240, .inr (.inl s_y))), (q_n4, .inl (ky 2, (s_joints.toNatClampNeg), .inl t.2))] → va_S A s.heap H locs → lv_has ls 4 [(0, .ref q_), (1, .ref q_n4), (2, .int t.1)] → W p l e rmX10_loosen s m args below meth c H locs 1 240 Q (F0 m ([33, 97].getD k 0) ls [])) ?_ _ _ _ _ hi ?_ H locs ls hP hD hS (lv_sub hl [1, 2, 0] rfl)
    · clear h hi hP hD hS hl
      intro t k t' h K
      obtain ⟨v9, v10⟩ := t
      intro H locs ls hP hD hS hl
      replace h := dm2_of h
      replace hP : va_P D vwCl [(q_, .inr (10, [.int s_w, .int s_h, .int s_leads, .int s_lines, .ref q_ax, .ref q_ay, .ref q_bx, .ref q_by, .int s_joints, .ref q_x, .ref q_y, .ref q_d, .int s_pieces, .ref q_from, .ref q_to, .ref q_firm])), (q_d, .inl (ky 1, 240, .inr (.inl s_d))), (q_firm, .inl (ky 2, 800, .inl s_firm)), (q_from, .inl (ky 0, 800, .inl s_from)), (q_to, .inl (ky 0, 800, .inl s_to)), (q_x, .inl (ky 1, 240, .inr (.inl s_x))), (q_y, .inl (ky 1, 240, .inr (.inl s_y))), (q_n4, .inl (ky 2, (s_joints.toNatClampNeg), .inl v10))] H := hP
      replace hD : va_D A [(q_, .inr (10, [.int s_w, .int s_h, .int s_leads, .int s_lines, .ref q_ax, .ref q_ay, .ref q_bx, .ref q_by, .int s_joints, .ref q_x, .ref q_y, .ref q_d, .int s_pieces, .ref q_from, .ref q_to, .ref q_firm])), (q_d, .inl (ky 1, 240, .inr (.inl s_d))), (q_firm, .inl (ky 2, 800, .inl s_firm)), (q_from, .inl (ky 0, 800, .inl s_from)), (q_to, .inl (ky 0, 800, .inl s_to)), (q_x, .inl (ky 1, 240, .inr (.inl s_x))), (q_y, .inl (ky 1, 240, .inr (.inl s_y))), (q_n4, .inl (ky 2, (s_joints.toNatClampNeg), .inl v10))] := hD
      replace hl : lv_has ls 4 [(0, .ref q_), (1, .ref q_n4), (2, .int v9)] := hl
      refine lv_iload_n hx hb dX10_loosen_33 rfl (lv_at hl 2 rfl) ?_
      refine lv_if_eq (tgt := 97) hx hb dX10_loosen_34 (by decide) (fun hc => ?_) (fun hc => ?_)
      · replace h := if_t hc h
        cases h
        exact K _ _ _ hP hD hS (lv_sub hl [0, 1, 2] rfl)
      · replace h := if_f hc h
        refine lv_iconst (v := 0) hx hb dX10_loosen_37 (by decide) ?_
        refine lv_istore_n (lv' := [(2, .int (0 : Int32)), (0, .ref q_), (1, .ref q_n4)]) hx hb dX10_loosen_38 rfl hl (by decide) rfl (fun ls hl => ?_)
        refine lv_iconst (v := 0) hx hb dX10_loosen_39 (by decide) ?_
        refine lv_istore_n (lv' := [(3, .int (0 : Int32)), (2, .int (0 : Int32)), (0, .ref q_), (1, .ref q_n4)]) hx hb dX10_loosen_40 rfl hl (by decide) rfl (fun ls hl => ?_)
        obtain ⟨⟨k, t⟩, hi, h⟩ := ob_of h
        refine iter_rule (P := fun (k : Nat) (t : Int32 × Int32 × (Nat → Int32)) => ∀ (H : Heap) (locs : List Loc) (ls : Array Slot), va_P D vwCl [(q_, .inr (10, [.int s_w, .int s_h, .int s_leads, .int s_lines, .ref q_ax, .ref q_ay, .ref q_bx, .ref q_by, .int s_joints, .ref q_x, .ref q_y, .ref q_d, .int s_pieces, .ref q_from, .ref q_to, .ref q_firm])), (q_d, .inl (ky 1, 240, .inr (.inl s_d))), (q_firm, .inl (ky 2, 800, .inl s_firm)), (q_from, .inl (ky 0, 800, .inl s_from)), (q_to, .inl (ky 0, 800, .inl s_to)), (q_x, .inl (ky 1, 240, .inr (.inl s_x))), (q_y, .inl (ky 1, 240, .inr (.inl s_y))), (q_n4, .inl (ky 2, (s_joints.toNatClampNeg), .inl t.2.2))] H → va_D A [(q_, .inr (10, [.int s_w, .int s_h, .int s_leads, .int s_lines, .ref q_ax, .ref q_ay, .ref q_bx, .ref q_by, .int s_joints, .ref q_x, .ref q_y, .ref q_d, .int s_pieces, .ref q_from, .ref q_to, .ref q_firm])), (q_d, .inl (ky 1, 240, .inr (.inl s_d))), (q_firm, .inl (ky 2, 800, .inl s_firm)), (q_from, .inl (ky 0, 800, .inl s_from)), (q_to, .inl (ky 0, 800, .inl s_to)), (q_x, .inl (ky 1, 240, .inr (.inl s_x))), (q_y, .inl (ky 1, 240, .inr (.inl s_y))), (q_n4, .inl (ky 2, (s_joints.toNatClampNeg), .inl t.2.2))] → va_S A s.heap H locs → lv_has ls 4 [(0, .ref q_), (1, .ref q_n4), (2, .int t.1), (3, .int t.2.1)] → W p l e rmX10_loosen s m args below meth c H locs 1 240 Q (F0 m ([41, 94].getD k 0) ls [])) ?_ _ _ _ _ hi ?_ H locs ls hP hD hS (lv_sub hl [2, 3, 1, 0] rfl)
        · clear h hi hP hD hS hl
          intro t k t' h K
          obtain ⟨v11, v12, v13⟩ := t
          intro H locs ls hP hD hS hl
          replace h := dm3_of h
          replace hP : va_P D vwCl [(q_, .inr (10, [.int s_w, .int s_h, .int s_leads, .int s_lines, .ref q_ax, .ref q_ay, .ref q_bx, .ref q_by, .int s_joints, .ref q_x, .ref q_y, .ref q_d, .int s_pieces, .ref q_from, .ref q_to, .ref q_firm])), (q_d, .inl (ky 1, 240, .inr (.inl s_d))), (q_firm, .inl (ky 2, 800, .inl s_firm)), (q_from, .inl (ky 0, 800, .inl s_from)), (q_to, .inl (ky 0, 800, .inl s_to)), (q_x, .inl (ky 1, 240, .inr (.inl s_x))), (q_y, .inl (ky 1, 240, .inr (.inl s_y))), (q_n4, .inl (ky 2, (s_joints.toNatClampNeg), .inl v13))] H := hP
          replace hD : va_D A [(q_, .inr (10, [.int s_w, .int s_h, .int s_leads, .int s_lines, .ref q_ax, .ref q_ay, .ref q_bx, .ref q_by, .int s_joints, .ref q_x, .ref q_y, .ref q_d, .int s_pieces, .ref q_from, .ref q_to, .ref q_firm])), (q_d, .inl (ky 1, 240, .inr (.inl s_d))), (q_firm, .inl (ky 2, 800, .inl s_firm)), (q_from, .inl (ky 0, 800, .inl s_from)), (q_to, .inl (ky 0, 800, .inl s_to)), (q_x, .inl (ky 1, 240, .inr (.inl s_x))), (q_y, .inl (ky 1, 240, .inr (.inl s_y))), (q_n4, .inl (ky 2, (s_joints.toNatClampNeg), .inl v13))] := hD
          replace hl : lv_has ls 4 [(0, .ref q_), (1, .ref q_n4), (2, .int v11), (3, .int v12)] := hl
          refine lv_iload_n hx hb dX10_loosen_41 rfl (lv_at hl 3 rfl) ?_
          refine lv_aload_n hx hb dX10_loosen_42 rfl (lv_at hl 0 rfl) ?_
          refine va_get (D := D) (ci := 10) (v := .int s_pieces) (C := RX10) (T := TX10) (N := 16) hx hb hts hi_X10 hown hK.1 hP 0 rfl rfl 12 (by decide) hf_72 (fun _ h9 => h9) rfl dX10_loosen_43 ?_
          refine lv_icmp_ge (tgt := 94) hx hb dX10_loosen_46 (by decide) (fun hc => ?_) (fun hc => ?_)
          · replace h := if_t hc h
            cases h
            exact K _ _ _ hP hD hS (lv_sub hl [0, 1, 2, 3] rfl)
          · replace h := if_f hc h
            refine lv_aload_n hx hb dX10_loosen_49 rfl (lv_at hl 1 rfl) ?_
            refine lv_aload_n hx hb dX10_loosen_50 rfl (lv_at hl 0 rfl) ?_
            refine va_get (D := D) (ci := 10) (v := .ref q_from) (C := RX10) (T := TX10) (N := 16) hx hb hts hi_X10 hown hK.1 hP 0 rfl rfl 13 (by decide) hf_34 (fun _ h9 => h9) rfl dX10_loosen_51 ?_
            refine lv_iload_n hx hb dX10_loosen_54 rfl (lv_at hl 3 rfl) ?_
            obtain ⟨hg, h⟩ := gd_of h
            refine va_iald hx hb hK.1 hP 3 0 rfl rfl hg dX10_loosen_55 ?_
            obtain ⟨hg, h⟩ := gd_of h
            refine va_zald hx hb hK.1 hP 7 2 rfl rfl hg dX10_loosen_56 ?_
            refine lv_aload_n hx hb dX10_loosen_57 rfl (lv_at hl 1 rfl) ?_
            refine lv_aload_n hx hb dX10_loosen_58 rfl (lv_at hl 0 rfl) ?_
            refine va_get (D := D) (ci := 10) (v := .ref q_to) (C := RX10) (T := TX10) (N := 16) hx hb hts hi_X10 hown hK.1 hP 0 rfl rfl 14 (by decide) hf_37 (fun _ h9 => h9) rfl dX10_loosen_59 ?_
            refine lv_iload_n hx hb dX10_loosen_62 rfl (lv_at hl 3 rfl) ?_
            obtain ⟨hg, h⟩ := gd_of h
            refine va_iald hx hb hK.1 hP 4 0 rfl rfl hg dX10_loosen_63 ?_
            obtain ⟨hg, h⟩ := gd_of h
            refine va_zald hx hb hK.1 hP 7 2 rfl rfl hg dX10_loosen_64 ?_
            obtain ⟨t, hd, h⟩ := ob_of h
            have K : ∀ (H : Heap) (locs : List Loc) (ls : Array Slot), va_P D vwCl [(q_, .inr (10, [.int s_w, .int s_h, .int s_leads, .int s_lines, .ref q_ax, .ref q_ay, .ref q_bx, .ref q_by, .int s_joints, .ref q_x, .ref q_y, .ref q_d, .int s_pieces, .ref q_from, .ref q_to, .ref q_firm])), (q_d, .inl (ky 1, 240, .inr (.inl s_d))), (q_firm, .inl (ky 2, 800, .inl s_firm)), (q_from, .inl (ky 0, 800, .inl s_from)), (q_to, .inl (ky 0, 800, .inl s_to)), (q_x, .inl (ky 1, 240, .inr (.inl s_x))), (q_y, .inl (ky 1, 240, .inr (.inl s_y))), (q_n4, .inl (ky 2, (s_joints.toNatClampNeg), .inl t.2))] H → va_D A [(q_, .inr (10, [.int s_w, .int s_h, .int s_leads, .int s_lines, .ref q_ax, .ref q_ay, .ref q_bx, .ref q_by, .int s_joints, .ref q_x, .ref q_y, .ref q_d, .int s_pieces, .ref q_from, .ref q_to, .ref q_firm])), (q_d, .inl (ky 1, 240, .inr (.inl s_d))), (q_firm, .inl (ky 2, 800, .inl s_firm)), (q_from, .inl (ky 0, 800, .inl s_from)), (q_to, .inl (ky 0, 800, .inl s_to)), (q_x, .inl (ky 1, 240, .inr (.inl s_x))), (q_y, .inl (ky 1, 240, .inr (.inl s_y))), (q_n4, .inl (ky 2, (s_joints.toNatClampNeg), .inl t.2))] → va_S A s.heap H locs → lv_has ls 4 [(0, .ref q_), (1, .ref q_n4), (2, .int t.1), (3, .int v12)] → W p l e rmX10_loosen s m args below meth c H locs 1 240 Q (F0 m 88 ls []) := by
              clear hd hP hD hS hl
              obtain ⟨v14, v15⟩ := t
              replace h := dm2_of h
              intro H locs ls hP hD hS hl
              replace hP : va_P D vwCl [(q_, .inr (10, [.int s_w, .int s_h, .int s_leads, .int s_lines, .ref q_ax, .ref q_ay, .ref q_bx, .ref q_by, .int s_joints, .ref q_x, .ref q_y, .ref q_d, .int s_pieces, .ref q_from, .ref q_to, .ref q_firm])), (q_d, .inl (ky 1, 240, .inr (.inl s_d))), (q_firm, .inl (ky 2, 800, .inl s_firm)), (q_from, .inl (ky 0, 800, .inl s_from)), (q_to, .inl (ky 0, 800, .inl s_to)), (q_x, .inl (ky 1, 240, .inr (.inl s_x))), (q_y, .inl (ky 1, 240, .inr (.inl s_y))), (q_n4, .inl (ky 2, (s_joints.toNatClampNeg), .inl v15))] H := hP
              replace hD : va_D A [(q_, .inr (10, [.int s_w, .int s_h, .int s_leads, .int s_lines, .ref q_ax, .ref q_ay, .ref q_bx, .ref q_by, .int s_joints, .ref q_x, .ref q_y, .ref q_d, .int s_pieces, .ref q_from, .ref q_to, .ref q_firm])), (q_d, .inl (ky 1, 240, .inr (.inl s_d))), (q_firm, .inl (ky 2, 800, .inl s_firm)), (q_from, .inl (ky 0, 800, .inl s_from)), (q_to, .inl (ky 0, 800, .inl s_to)), (q_x, .inl (ky 1, 240, .inr (.inl s_x))), (q_y, .inl (ky 1, 240, .inr (.inl s_y))), (q_n4, .inl (ky 2, (s_joints.toNatClampNeg), .inl v15))] := hD
              replace hl : lv_has ls 4 [(0, .ref q_), (1, .ref q_n4), (2, .int v14), (3, .int v12)] := hl
              refine W.eq (g2 := F0 m 88 ls []) rfl ?_
              obtain ⟨x16, ex16⟩ : ∃ z : Int32, z = v12 + 1 := ⟨_, rfl⟩
              replace h := lt_at ex16 h
              refine lv_iinc (v := x16) (lv' := [(3, .int x16), (0, .ref q_), (1, .ref q_n4), (2, .int v14)]) hx hb dX10_loosen_88 hl (k := 3) rfl (by rw [ex16]; rfl) (by decide) rfl (fun ls hl => ?_)
              refine lv_goto (tgt := 41) hx hb dX10_loosen_91 (by decide) ?_
              cases h
              exact K _ _ _ hP hD hS (lv_sub hl [1, 2, 3, 0] rfl)
            replace h := hd
            clear hd
            refine lv_icmp_eq (tgt := 88) hx hb dX10_loosen_65 (by decide) (fun hc => ?_) (fun hc => ?_)
            · replace h := if_t hc h
              cases h
              exact K _ _ _ hP hD hS (lv_sub hl [0, 1, 2, 3] rfl)
            · replace h := if_f hc h
              refine lv_aload_n hx hb dX10_loosen_68 rfl (lv_at hl 1 rfl) ?_
              refine lv_aload_n hx hb dX10_loosen_69 rfl (lv_at hl 0 rfl) ?_
              refine va_get (D := D) (ci := 10) (v := .ref q_from) (C := RX10) (T := TX10) (N := 16) hx hb hts hi_X10 hown hK.1 hP 0 rfl rfl 13 (by decide) hf_34 (fun _ h9 => h9) rfl dX10_loosen_70 ?_
              refine lv_iload_n hx hb dX10_loosen_73 rfl (lv_at hl 3 rfl) ?_
              obtain ⟨hg, h⟩ := gd_of h
              refine va_iald hx hb hK.1 hP 3 0 rfl rfl hg dX10_loosen_74 ?_
              refine lv_iconst (v := 1) hx hb dX10_loosen_75 (by decide) ?_
              obtain ⟨hg, h⟩ := gd_of h
              refine r_zast hx hb hK.1 hP hD hS 7 2 rfl rfl hg dX10_loosen_76 (fun f17 ef17 H locs hP hD hS => ?_)
              replace h := lt_at ef17 h
              replace hP : va_P D vwCl [(q_, .inr (10, [.int s_w, .int s_h, .int s_leads, .int s_lines, .ref q_ax, .ref q_ay, .ref q_bx, .ref q_by, .int s_joints, .ref q_x, .ref q_y, .ref q_d, .int s_pieces, .ref q_from, .ref q_to, .ref q_firm])), (q_d, .inl (ky 1, 240, .inr (.inl s_d))), (q_firm, .inl (ky 2, 800, .inl s_firm)), (q_from, .inl (ky 0, 800, .inl s_from)), (q_to, .inl (ky 0, 800, .inl s_to)), (q_x, .inl (ky 1, 240, .inr (.inl s_x))), (q_y, .inl (ky 1, 240, .inr (.inl s_y))), (q_n4, .inl (ky 2, (s_joints.toNatClampNeg), .inl f17))] H := hP
              replace hD : va_D A [(q_, .inr (10, [.int s_w, .int s_h, .int s_leads, .int s_lines, .ref q_ax, .ref q_ay, .ref q_bx, .ref q_by, .int s_joints, .ref q_x, .ref q_y, .ref q_d, .int s_pieces, .ref q_from, .ref q_to, .ref q_firm])), (q_d, .inl (ky 1, 240, .inr (.inl s_d))), (q_firm, .inl (ky 2, 800, .inl s_firm)), (q_from, .inl (ky 0, 800, .inl s_from)), (q_to, .inl (ky 0, 800, .inl s_to)), (q_x, .inl (ky 1, 240, .inr (.inl s_x))), (q_y, .inl (ky 1, 240, .inr (.inl s_y))), (q_n4, .inl (ky 2, (s_joints.toNatClampNeg), .inl f17))] := hD
              refine lv_aload_n hx hb dX10_loosen_77 rfl (lv_at hl 1 rfl) ?_
              refine lv_aload_n hx hb dX10_loosen_78 rfl (lv_at hl 0 rfl) ?_
              refine va_get (D := D) (ci := 10) (v := .ref q_to) (C := RX10) (T := TX10) (N := 16) hx hb hts hi_X10 hown hK.1 hP 0 rfl rfl 14 (by decide) hf_37 (fun _ h9 => h9) rfl dX10_loosen_79 ?_
              refine lv_iload_n hx hb dX10_loosen_82 rfl (lv_at hl 3 rfl) ?_
              obtain ⟨hg, h⟩ := gd_of h
              refine va_iald hx hb hK.1 hP 4 0 rfl rfl hg dX10_loosen_83 ?_
              refine lv_iconst (v := 1) hx hb dX10_loosen_84 (by decide) ?_
              obtain ⟨hg, h⟩ := gd_of h
              refine r_zast hx hb hK.1 hP hD hS 7 2 rfl rfl hg dX10_loosen_85 (fun f18 ef18 H locs hP hD hS => ?_)
              replace h := lt_at ef18 h
              replace hP : va_P D vwCl [(q_, .inr (10, [.int s_w, .int s_h, .int s_leads, .int s_lines, .ref q_ax, .ref q_ay, .ref q_bx, .ref q_by, .int s_joints, .ref q_x, .ref q_y, .ref q_d, .int s_pieces, .ref q_from, .ref q_to, .ref q_firm])), (q_d, .inl (ky 1, 240, .inr (.inl s_d))), (q_firm, .inl (ky 2, 800, .inl s_firm)), (q_from, .inl (ky 0, 800, .inl s_from)), (q_to, .inl (ky 0, 800, .inl s_to)), (q_x, .inl (ky 1, 240, .inr (.inl s_x))), (q_y, .inl (ky 1, 240, .inr (.inl s_y))), (q_n4, .inl (ky 2, (s_joints.toNatClampNeg), .inl f18))] H := hP
              replace hD : va_D A [(q_, .inr (10, [.int s_w, .int s_h, .int s_leads, .int s_lines, .ref q_ax, .ref q_ay, .ref q_bx, .ref q_by, .int s_joints, .ref q_x, .ref q_y, .ref q_d, .int s_pieces, .ref q_from, .ref q_to, .ref q_firm])), (q_d, .inl (ky 1, 240, .inr (.inl s_d))), (q_firm, .inl (ky 2, 800, .inl s_firm)), (q_from, .inl (ky 0, 800, .inl s_from)), (q_to, .inl (ky 0, 800, .inl s_to)), (q_x, .inl (ky 1, 240, .inr (.inl s_x))), (q_y, .inl (ky 1, 240, .inr (.inl s_y))), (q_n4, .inl (ky 2, (s_joints.toNatClampNeg), .inl f18))] := hD
              refine lv_iconst (v := 1) hx hb dX10_loosen_86 (by decide) ?_
              refine lv_istore_n (lv' := [(2, .int (1 : Int32)), (0, .ref q_), (1, .ref q_n4), (3, .int v12)]) hx hb dX10_loosen_87 rfl hl (by decide) rfl (fun ls hl => ?_)
              cases h
              exact K _ _ _ hP hD hS (lv_sub hl [1, 2, 0, 3] rfl)
        · have h1 := ex1_of h
          clear h hi
          rcases h1 with ⟨rfl, h⟩
          obtain ⟨v19, v20, v21⟩ := t
          replace h := dm3_of h
          intro H locs ls hP hD hS hl
          replace hP : va_P D vwCl [(q_, .inr (10, [.int s_w, .int s_h, .int s_leads, .int s_lines, .ref q_ax, .ref q_ay, .ref q_bx, .ref q_by, .int s_joints, .ref q_x, .ref q_y, .ref q_d, .int s_pieces, .ref q_from, .ref q_to, .ref q_firm])), (q_d, .inl (ky 1, 240, .inr (.inl s_d))), (q_firm, .inl (ky 2, 800, .inl s_firm)), (q_from, .inl (ky 0, 800, .inl s_from)), (q_to, .inl (ky 0, 800, .inl s_to)), (q_x, .inl (ky 1, 240, .inr (.inl s_x))), (q_y, .inl (ky 1, 240, .inr (.inl s_y))), (q_n4, .inl (ky 2, (s_joints.toNatClampNeg), .inl v21))] H := hP
          replace hD : va_D A [(q_, .inr (10, [.int s_w, .int s_h, .int s_leads, .int s_lines, .ref q_ax, .ref q_ay, .ref q_bx, .ref q_by, .int s_joints, .ref q_x, .ref q_y, .ref q_d, .int s_pieces, .ref q_from, .ref q_to, .ref q_firm])), (q_d, .inl (ky 1, 240, .inr (.inl s_d))), (q_firm, .inl (ky 2, 800, .inl s_firm)), (q_from, .inl (ky 0, 800, .inl s_from)), (q_to, .inl (ky 0, 800, .inl s_to)), (q_x, .inl (ky 1, 240, .inr (.inl s_x))), (q_y, .inl (ky 1, 240, .inr (.inl s_y))), (q_n4, .inl (ky 2, (s_joints.toNatClampNeg), .inl v21))] := hD
          replace hl : lv_has ls 4 [(0, .ref q_), (1, .ref q_n4), (2, .int v19), (3, .int v20)] := hl
          refine W.eq (g2 := F0 m 94 ls []) rfl ?_
          refine lv_goto (tgt := 33) hx hb dX10_loosen_94 (by decide) ?_
          cases h
          exact K _ _ _ hP hD hS (lv_sub hl [0, 1, 2] rfl)
    · have h1 := ex1_of h
      clear h hi
      rcases h1 with ⟨rfl, h⟩
      obtain ⟨v22, v23⟩ := t
      replace h := dm2_of h
      intro H locs ls hP hD hS hl
      replace hP : va_P D vwCl [(q_, .inr (10, [.int s_w, .int s_h, .int s_leads, .int s_lines, .ref q_ax, .ref q_ay, .ref q_bx, .ref q_by, .int s_joints, .ref q_x, .ref q_y, .ref q_d, .int s_pieces, .ref q_from, .ref q_to, .ref q_firm])), (q_d, .inl (ky 1, 240, .inr (.inl s_d))), (q_firm, .inl (ky 2, 800, .inl s_firm)), (q_from, .inl (ky 0, 800, .inl s_from)), (q_to, .inl (ky 0, 800, .inl s_to)), (q_x, .inl (ky 1, 240, .inr (.inl s_x))), (q_y, .inl (ky 1, 240, .inr (.inl s_y))), (q_n4, .inl (ky 2, (s_joints.toNatClampNeg), .inl v23))] H := hP
      replace hD : va_D A [(q_, .inr (10, [.int s_w, .int s_h, .int s_leads, .int s_lines, .ref q_ax, .ref q_ay, .ref q_bx, .ref q_by, .int s_joints, .ref q_x, .ref q_y, .ref q_d, .int s_pieces, .ref q_from, .ref q_to, .ref q_firm])), (q_d, .inl (ky 1, 240, .inr (.inl s_d))), (q_firm, .inl (ky 2, 800, .inl s_firm)), (q_from, .inl (ky 0, 800, .inl s_from)), (q_to, .inl (ky 0, 800, .inl s_to)), (q_x, .inl (ky 1, 240, .inr (.inl s_x))), (q_y, .inl (ky 1, 240, .inr (.inl s_y))), (q_n4, .inl (ky 2, (s_joints.toNatClampNeg), .inl v23))] := hD
      replace hl : lv_has ls 4 [(0, .ref q_), (1, .ref q_n4), (2, .int v22)] := hl
      refine W.eq (g2 := F0 m 97 ls []) rfl ?_
      refine lv_iconst (v := 0) hx hb dX10_loosen_97 (by decide) ?_
      refine lv_istore_n (lv' := [(3, .int (0 : Int32)), (0, .ref q_), (1, .ref q_n4), (2, .int v22)]) hx hb dX10_loosen_98 rfl hl (by decide) rfl (fun ls hl => ?_)
      obtain ⟨⟨k, t⟩, hi, h⟩ := ob_of h
      refine iter_rule (P := fun (k : Nat) (t : Int32 × (Nat → Int32)) => ∀ (H : Heap) (locs : List Loc) (ls : Array Slot), va_P D vwCl [(q_, .inr (10, [.int s_w, .int s_h, .int s_leads, .int s_lines, .ref q_ax, .ref q_ay, .ref q_bx, .ref q_by, .int s_joints, .ref q_x, .ref q_y, .ref q_d, .int s_pieces, .ref q_from, .ref q_to, .ref q_firm])), (q_d, .inl (ky 1, 240, .inr (.inl s_d))), (q_firm, .inl (ky 2, 800, .inl t.2)), (q_from, .inl (ky 0, 800, .inl s_from)), (q_to, .inl (ky 0, 800, .inl s_to)), (q_x, .inl (ky 1, 240, .inr (.inl s_x))), (q_y, .inl (ky 1, 240, .inr (.inl s_y))), (q_n4, .inl (ky 2, (s_joints.toNatClampNeg), .inl v23))] H → va_D A [(q_, .inr (10, [.int s_w, .int s_h, .int s_leads, .int s_lines, .ref q_ax, .ref q_ay, .ref q_bx, .ref q_by, .int s_joints, .ref q_x, .ref q_y, .ref q_d, .int s_pieces, .ref q_from, .ref q_to, .ref q_firm])), (q_d, .inl (ky 1, 240, .inr (.inl s_d))), (q_firm, .inl (ky 2, 800, .inl t.2)), (q_from, .inl (ky 0, 800, .inl s_from)), (q_to, .inl (ky 0, 800, .inl s_to)), (q_x, .inl (ky 1, 240, .inr (.inl s_x))), (q_y, .inl (ky 1, 240, .inr (.inl s_y))), (q_n4, .inl (ky 2, (s_joints.toNatClampNeg), .inl v23))] → va_S A s.heap H locs → lv_has ls 4 [(0, .ref q_), (1, .ref q_n4), (3, .int t.1)] → W p l e rmX10_loosen s m args below meth c H locs 1 240 Q (F0 m ([99, 127].getD k 0) ls [])) ?_ _ _ _ _ hi ?_ H locs ls hP hD hS (lv_sub hl [1, 2, 0] rfl)
      · clear h hi hP hD hS hl
        intro t k t' h K
        obtain ⟨v24, v25⟩ := t
        intro H locs ls hP hD hS hl
        replace h := dm2_of h
        replace hP : va_P D vwCl [(q_, .inr (10, [.int s_w, .int s_h, .int s_leads, .int s_lines, .ref q_ax, .ref q_ay, .ref q_bx, .ref q_by, .int s_joints, .ref q_x, .ref q_y, .ref q_d, .int s_pieces, .ref q_from, .ref q_to, .ref q_firm])), (q_d, .inl (ky 1, 240, .inr (.inl s_d))), (q_firm, .inl (ky 2, 800, .inl v25)), (q_from, .inl (ky 0, 800, .inl s_from)), (q_to, .inl (ky 0, 800, .inl s_to)), (q_x, .inl (ky 1, 240, .inr (.inl s_x))), (q_y, .inl (ky 1, 240, .inr (.inl s_y))), (q_n4, .inl (ky 2, (s_joints.toNatClampNeg), .inl v23))] H := hP
        replace hD : va_D A [(q_, .inr (10, [.int s_w, .int s_h, .int s_leads, .int s_lines, .ref q_ax, .ref q_ay, .ref q_bx, .ref q_by, .int s_joints, .ref q_x, .ref q_y, .ref q_d, .int s_pieces, .ref q_from, .ref q_to, .ref q_firm])), (q_d, .inl (ky 1, 240, .inr (.inl s_d))), (q_firm, .inl (ky 2, 800, .inl v25)), (q_from, .inl (ky 0, 800, .inl s_from)), (q_to, .inl (ky 0, 800, .inl s_to)), (q_x, .inl (ky 1, 240, .inr (.inl s_x))), (q_y, .inl (ky 1, 240, .inr (.inl s_y))), (q_n4, .inl (ky 2, (s_joints.toNatClampNeg), .inl v23))] := hD
        replace hl : lv_has ls 4 [(0, .ref q_), (1, .ref q_n4), (3, .int v24)] := hl
        refine lv_iload_n hx hb dX10_loosen_99 rfl (lv_at hl 2 rfl) ?_
        refine lv_aload_n hx hb dX10_loosen_100 rfl (lv_at hl 0 rfl) ?_
        refine va_get (D := D) (ci := 10) (v := .int s_pieces) (C := RX10) (T := TX10) (N := 16) hx hb hts hi_X10 hown hK.1 hP 0 rfl rfl 12 (by decide) hf_72 (fun _ h9 => h9) rfl dX10_loosen_101 ?_
        refine lv_icmp_ge (tgt := 127) hx hb dX10_loosen_104 (by decide) (fun hc => ?_) (fun hc => ?_)
        · replace h := if_t hc h
          cases h
          exact K _ _ _ hP hD hS (lv_sub hl [0, 1, 2] rfl)
        · replace h := if_f hc h
          refine lv_aload_n hx hb dX10_loosen_107 rfl (lv_at hl 0 rfl) ?_
          refine va_get (D := D) (ci := 10) (v := .ref q_firm) (C := RX10) (T := TX10) (N := 16) hx hb hts hi_X10 hown hK.1 hP 0 rfl rfl 15 (by decide) hf_40 (fun _ h9 => h9) rfl dX10_loosen_108 ?_
          refine lv_iload_n hx hb dX10_loosen_111 rfl (lv_at hl 2 rfl) ?_
          refine lv_aload_n hx hb dX10_loosen_112 rfl (lv_at hl 1 rfl) ?_
          refine lv_aload_n hx hb dX10_loosen_113 rfl (lv_at hl 0 rfl) ?_
          refine va_get (D := D) (ci := 10) (v := .ref q_from) (C := RX10) (T := TX10) (N := 16) hx hb hts hi_X10 hown hK.1 hP 0 rfl rfl 13 (by decide) hf_34 (fun _ h9 => h9) rfl dX10_loosen_114 ?_
          refine lv_iload_n hx hb dX10_loosen_117 rfl (lv_at hl 2 rfl) ?_
          obtain ⟨hg, h⟩ := gd_of h
          refine va_iald hx hb hK.1 hP 3 0 rfl rfl hg dX10_loosen_118 ?_
          obtain ⟨hg, h⟩ := gd_of h
          refine va_zald hx hb hK.1 hP 7 2 rfl rfl hg dX10_loosen_119 ?_
          obtain ⟨hg, h⟩ := gd_of h
          refine r_zast hx hb hK.1 hP hD hS 2 2 rfl rfl hg dX10_loosen_120 (fun f26 ef26 H locs hP hD hS => ?_)
          replace h := lt_at ef26 h
          replace hP : va_P D vwCl [(q_, .inr (10, [.int s_w, .int s_h, .int s_leads, .int s_lines, .ref q_ax, .ref q_ay, .ref q_bx, .ref q_by, .int s_joints, .ref q_x, .ref q_y, .ref q_d, .int s_pieces, .ref q_from, .ref q_to, .ref q_firm])), (q_d, .inl (ky 1, 240, .inr (.inl s_d))), (q_firm, .inl (ky 2, 800, .inl f26)), (q_from, .inl (ky 0, 800, .inl s_from)), (q_to, .inl (ky 0, 800, .inl s_to)), (q_x, .inl (ky 1, 240, .inr (.inl s_x))), (q_y, .inl (ky 1, 240, .inr (.inl s_y))), (q_n4, .inl (ky 2, (s_joints.toNatClampNeg), .inl v23))] H := hP
          replace hD : va_D A [(q_, .inr (10, [.int s_w, .int s_h, .int s_leads, .int s_lines, .ref q_ax, .ref q_ay, .ref q_bx, .ref q_by, .int s_joints, .ref q_x, .ref q_y, .ref q_d, .int s_pieces, .ref q_from, .ref q_to, .ref q_firm])), (q_d, .inl (ky 1, 240, .inr (.inl s_d))), (q_firm, .inl (ky 2, 800, .inl f26)), (q_from, .inl (ky 0, 800, .inl s_from)), (q_to, .inl (ky 0, 800, .inl s_to)), (q_x, .inl (ky 1, 240, .inr (.inl s_x))), (q_y, .inl (ky 1, 240, .inr (.inl s_y))), (q_n4, .inl (ky 2, (s_joints.toNatClampNeg), .inl v23))] := hD
          obtain ⟨x27, ex27⟩ : ∃ z : Int32, z = v24 + 1 := ⟨_, rfl⟩
          replace h := lt_at ex27 h
          refine lv_iinc (v := x27) (lv' := [(3, .int x27), (0, .ref q_), (1, .ref q_n4)]) hx hb dX10_loosen_121 hl (k := 2) rfl (by rw [ex27]; rfl) (by decide) rfl (fun ls hl => ?_)
          refine lv_goto (tgt := 99) hx hb dX10_loosen_124 (by decide) ?_
          cases h
          exact K _ _ _ hP hD hS (lv_sub hl [1, 2, 0] rfl)
      · have h1 := ex1_of h
        clear h hi
        rcases h1 with ⟨rfl, h⟩
        obtain ⟨v28, v29⟩ := t
        replace h := dm2_of h
        intro H locs ls hP hD hS hl
        replace hP : va_P D vwCl [(q_, .inr (10, [.int s_w, .int s_h, .int s_leads, .int s_lines, .ref q_ax, .ref q_ay, .ref q_bx, .ref q_by, .int s_joints, .ref q_x, .ref q_y, .ref q_d, .int s_pieces, .ref q_from, .ref q_to, .ref q_firm])), (q_d, .inl (ky 1, 240, .inr (.inl s_d))), (q_firm, .inl (ky 2, 800, .inl v29)), (q_from, .inl (ky 0, 800, .inl s_from)), (q_to, .inl (ky 0, 800, .inl s_to)), (q_x, .inl (ky 1, 240, .inr (.inl s_x))), (q_y, .inl (ky 1, 240, .inr (.inl s_y))), (q_n4, .inl (ky 2, (s_joints.toNatClampNeg), .inl v23))] H := hP
        replace hD : va_D A [(q_, .inr (10, [.int s_w, .int s_h, .int s_leads, .int s_lines, .ref q_ax, .ref q_ay, .ref q_bx, .ref q_by, .int s_joints, .ref q_x, .ref q_y, .ref q_d, .int s_pieces, .ref q_from, .ref q_to, .ref q_firm])), (q_d, .inl (ky 1, 240, .inr (.inl s_d))), (q_firm, .inl (ky 2, 800, .inl v29)), (q_from, .inl (ky 0, 800, .inl s_from)), (q_to, .inl (ky 0, 800, .inl s_to)), (q_x, .inl (ky 1, 240, .inr (.inl s_x))), (q_y, .inl (ky 1, 240, .inr (.inl s_y))), (q_n4, .inl (ky 2, (s_joints.toNatClampNeg), .inl v23))] := hD
        replace hl : lv_has ls 4 [(0, .ref q_), (1, .ref q_n4), (3, .int v28)] := hl
        refine W.eq (g2 := F0 m 127 ls []) rfl ?_
        refine lv_iconst (v := 1) hx hb dX10_loosen_127 (by decide) ?_
        refine lv_istore_n (lv' := [(2, .int (1 : Int32)), (0, .ref q_), (1, .ref q_n4), (3, .int v28)]) hx hb dX10_loosen_128 rfl hl (by decide) rfl (fun ls hl => ?_)
        obtain ⟨⟨k, t⟩, hi, h⟩ := ob_of h
        refine iter_rule (P := fun (k : Nat) (t : Int32 × (Nat → Int32)) => ∀ (H : Heap) (locs : List Loc) (ls : Array Slot), va_P D vwCl [(q_, .inr (10, [.int s_w, .int s_h, .int s_leads, .int s_lines, .ref q_ax, .ref q_ay, .ref q_bx, .ref q_by, .int s_joints, .ref q_x, .ref q_y, .ref q_d, .int s_pieces, .ref q_from, .ref q_to, .ref q_firm])), (q_d, .inl (ky 1, 240, .inr (.inl s_d))), (q_firm, .inl (ky 2, 800, .inl t.2)), (q_from, .inl (ky 0, 800, .inl s_from)), (q_to, .inl (ky 0, 800, .inl s_to)), (q_x, .inl (ky 1, 240, .inr (.inl s_x))), (q_y, .inl (ky 1, 240, .inr (.inl s_y))), (q_n4, .inl (ky 2, (s_joints.toNatClampNeg), .inl v23))] H → va_D A [(q_, .inr (10, [.int s_w, .int s_h, .int s_leads, .int s_lines, .ref q_ax, .ref q_ay, .ref q_bx, .ref q_by, .int s_joints, .ref q_x, .ref q_y, .ref q_d, .int s_pieces, .ref q_from, .ref q_to, .ref q_firm])), (q_d, .inl (ky 1, 240, .inr (.inl s_d))), (q_firm, .inl (ky 2, 800, .inl t.2)), (q_from, .inl (ky 0, 800, .inl s_from)), (q_to, .inl (ky 0, 800, .inl s_to)), (q_x, .inl (ky 1, 240, .inr (.inl s_x))), (q_y, .inl (ky 1, 240, .inr (.inl s_y))), (q_n4, .inl (ky 2, (s_joints.toNatClampNeg), .inl v23))] → va_S A s.heap H locs → lv_has ls 4 [(0, .ref q_), (2, .int t.1)] → W p l e rmX10_loosen s m args below meth c H locs 1 240 Q (F0 m ([129, 202].getD k 0) ls [])) ?_ _ _ _ _ hi ?_ H locs ls hP hD hS (lv_sub hl [1, 0] rfl)
        · clear h hi hP hD hS hl
          intro t k t' h K
          obtain ⟨v30, v31⟩ := t
          intro H locs ls hP hD hS hl
          replace h := dm2_of h
          replace hP : va_P D vwCl [(q_, .inr (10, [.int s_w, .int s_h, .int s_leads, .int s_lines, .ref q_ax, .ref q_ay, .ref q_bx, .ref q_by, .int s_joints, .ref q_x, .ref q_y, .ref q_d, .int s_pieces, .ref q_from, .ref q_to, .ref q_firm])), (q_d, .inl (ky 1, 240, .inr (.inl s_d))), (q_firm, .inl (ky 2, 800, .inl v31)), (q_from, .inl (ky 0, 800, .inl s_from)), (q_to, .inl (ky 0, 800, .inl s_to)), (q_x, .inl (ky 1, 240, .inr (.inl s_x))), (q_y, .inl (ky 1, 240, .inr (.inl s_y))), (q_n4, .inl (ky 2, (s_joints.toNatClampNeg), .inl v23))] H := hP
          replace hD : va_D A [(q_, .inr (10, [.int s_w, .int s_h, .int s_leads, .int s_lines, .ref q_ax, .ref q_ay, .ref q_bx, .ref q_by, .int s_joints, .ref q_x, .ref q_y, .ref q_d, .int s_pieces, .ref q_from, .ref q_to, .ref q_firm])), (q_d, .inl (ky 1, 240, .inr (.inl s_d))), (q_firm, .inl (ky 2, 800, .inl v31)), (q_from, .inl (ky 0, 800, .inl s_from)), (q_to, .inl (ky 0, 800, .inl s_to)), (q_x, .inl (ky 1, 240, .inr (.inl s_x))), (q_y, .inl (ky 1, 240, .inr (.inl s_y))), (q_n4, .inl (ky 2, (s_joints.toNatClampNeg), .inl v23))] := hD
          replace hl : lv_has ls 4 [(0, .ref q_), (2, .int v30)] := hl
          refine lv_iload_n hx hb dX10_loosen_129 rfl (lv_at hl 1 rfl) ?_
          refine lv_if_eq (tgt := 202) hx hb dX10_loosen_130 (by decide) (fun hc => ?_) (fun hc => ?_)
          · replace h := if_t hc h
            cases h
            exact K _ _ _ hP hD hS (lv_sub hl [0, 1] rfl)
          · replace h := if_f hc h
            refine lv_iconst (v := 0) hx hb dX10_loosen_133 (by decide) ?_
            refine lv_istore_n (lv' := [(2, .int (0 : Int32)), (0, .ref q_)]) hx hb dX10_loosen_134 rfl hl (by decide) rfl (fun ls hl => ?_)
            refine lv_iconst (v := 0) hx hb dX10_loosen_135 (by decide) ?_
            refine lv_istore_n (lv' := [(3, .int (0 : Int32)), (2, .int (0 : Int32)), (0, .ref q_)]) hx hb dX10_loosen_136 rfl hl (by decide) rfl (fun ls hl => ?_)
            obtain ⟨⟨k, t⟩, hi, h⟩ := ob_of h
            refine iter_rule (P := fun (k : Nat) (t : Int32 × Int32 × (Nat → Int32)) => ∀ (H : Heap) (locs : List Loc) (ls : Array Slot), va_P D vwCl [(q_, .inr (10, [.int s_w, .int s_h, .int s_leads, .int s_lines, .ref q_ax, .ref q_ay, .ref q_bx, .ref q_by, .int s_joints, .ref q_x, .ref q_y, .ref q_d, .int s_pieces, .ref q_from, .ref q_to, .ref q_firm])), (q_d, .inl (ky 1, 240, .inr (.inl s_d))), (q_firm, .inl (ky 2, 800, .inl t.2.2)), (q_from, .inl (ky 0, 800, .inl s_from)), (q_to, .inl (ky 0, 800, .inl s_to)), (q_x, .inl (ky 1, 240, .inr (.inl s_x))), (q_y, .inl (ky 1, 240, .inr (.inl s_y))), (q_n4, .inl (ky 2, (s_joints.toNatClampNeg), .inl v23))] H → va_D A [(q_, .inr (10, [.int s_w, .int s_h, .int s_leads, .int s_lines, .ref q_ax, .ref q_ay, .ref q_bx, .ref q_by, .int s_joints, .ref q_x, .ref q_y, .ref q_d, .int s_pieces, .ref q_from, .ref q_to, .ref q_firm])), (q_d, .inl (ky 1, 240, .inr (.inl s_d))), (q_firm, .inl (ky 2, 800, .inl t.2.2)), (q_from, .inl (ky 0, 800, .inl s_from)), (q_to, .inl (ky 0, 800, .inl s_to)), (q_x, .inl (ky 1, 240, .inr (.inl s_x))), (q_y, .inl (ky 1, 240, .inr (.inl s_y))), (q_n4, .inl (ky 2, (s_joints.toNatClampNeg), .inl v23))] → va_S A s.heap H locs → lv_has ls 4 [(0, .ref q_), (2, .int t.1), (3, .int t.2.1)] → W p l e rmX10_loosen s m args below meth c H locs 1 240 Q (F0 m ([137, 199].getD k 0) ls [])) ?_ _ _ _ _ hi ?_ H locs ls hP hD hS (lv_sub hl [2, 1, 0] rfl)
            · clear h hi hP hD hS hl
              intro t k t' h K
              obtain ⟨v32, v33, v34⟩ := t
              intro H locs ls hP hD hS hl
              replace h := dm3_of h
              replace hP : va_P D vwCl [(q_, .inr (10, [.int s_w, .int s_h, .int s_leads, .int s_lines, .ref q_ax, .ref q_ay, .ref q_bx, .ref q_by, .int s_joints, .ref q_x, .ref q_y, .ref q_d, .int s_pieces, .ref q_from, .ref q_to, .ref q_firm])), (q_d, .inl (ky 1, 240, .inr (.inl s_d))), (q_firm, .inl (ky 2, 800, .inl v34)), (q_from, .inl (ky 0, 800, .inl s_from)), (q_to, .inl (ky 0, 800, .inl s_to)), (q_x, .inl (ky 1, 240, .inr (.inl s_x))), (q_y, .inl (ky 1, 240, .inr (.inl s_y))), (q_n4, .inl (ky 2, (s_joints.toNatClampNeg), .inl v23))] H := hP
              replace hD : va_D A [(q_, .inr (10, [.int s_w, .int s_h, .int s_leads, .int s_lines, .ref q_ax, .ref q_ay, .ref q_bx, .ref q_by, .int s_joints, .ref q_x, .ref q_y, .ref q_d, .int s_pieces, .ref q_from, .ref q_to, .ref q_firm])), (q_d, .inl (ky 1, 240, .inr (.inl s_d))), (q_firm, .inl (ky 2, 800, .inl v34)), (q_from, .inl (ky 0, 800, .inl s_from)), (q_to, .inl (ky 0, 800, .inl s_to)), (q_x, .inl (ky 1, 240, .inr (.inl s_x))), (q_y, .inl (ky 1, 240, .inr (.inl s_y))), (q_n4, .inl (ky 2, (s_joints.toNatClampNeg), .inl v23))] := hD
              replace hl : lv_has ls 4 [(0, .ref q_), (2, .int v32), (3, .int v33)] := hl
              refine lv_iload_n hx hb dX10_loosen_137 rfl (lv_at hl 2 rfl) ?_
              refine lv_aload_n hx hb dX10_loosen_138 rfl (lv_at hl 0 rfl) ?_
              refine va_get (D := D) (ci := 10) (v := .int s_pieces) (C := RX10) (T := TX10) (N := 16) hx hb hts hi_X10 hown hK.1 hP 0 rfl rfl 12 (by decide) hf_72 (fun _ h9 => h9) rfl dX10_loosen_139 ?_
              refine lv_icmp_ge (tgt := 199) hx hb dX10_loosen_142 (by decide) (fun hc => ?_) (fun hc => ?_)
              · replace h := if_t hc h
                cases h
                exact K _ _ _ hP hD hS (lv_sub hl [0, 1, 2] rfl)
              · replace h := if_f hc h
                refine lv_aload_n hx hb dX10_loosen_145 rfl (lv_at hl 0 rfl) ?_
                refine va_get (D := D) (ci := 10) (v := .ref q_firm) (C := RX10) (T := TX10) (N := 16) hx hb hts hi_X10 hown hK.1 hP 0 rfl rfl 15 (by decide) hf_40 (fun _ h9 => h9) rfl dX10_loosen_146 ?_
                refine lv_iload_n hx hb dX10_loosen_149 rfl (lv_at hl 2 rfl) ?_
                obtain ⟨hg, h⟩ := gd_of h
                refine va_zald hx hb hK.1 hP 2 2 rfl rfl hg dX10_loosen_150 ?_
                obtain ⟨t, hd, h⟩ := ob_of h
                have K : ∀ (H : Heap) (locs : List Loc) (ls : Array Slot), va_P D vwCl [(q_, .inr (10, [.int s_w, .int s_h, .int s_leads, .int s_lines, .ref q_ax, .ref q_ay, .ref q_bx, .ref q_by, .int s_joints, .ref q_x, .ref q_y, .ref q_d, .int s_pieces, .ref q_from, .ref q_to, .ref q_firm])), (q_d, .inl (ky 1, 240, .inr (.inl s_d))), (q_firm, .inl (ky 2, 800, .inl t.2)), (q_from, .inl (ky 0, 800, .inl s_from)), (q_to, .inl (ky 0, 800, .inl s_to)), (q_x, .inl (ky 1, 240, .inr (.inl s_x))), (q_y, .inl (ky 1, 240, .inr (.inl s_y))), (q_n4, .inl (ky 2, (s_joints.toNatClampNeg), .inl v23))] H → va_D A [(q_, .inr (10, [.int s_w, .int s_h, .int s_leads, .int s_lines, .ref q_ax, .ref q_ay, .ref q_bx, .ref q_by, .int s_joints, .ref q_x, .ref q_y, .ref q_d, .int s_pieces, .ref q_from, .ref q_to, .ref q_firm])), (q_d, .inl (ky 1, 240, .inr (.inl s_d))), (q_firm, .inl (ky 2, 800, .inl t.2)), (q_from, .inl (ky 0, 800, .inl s_from)), (q_to, .inl (ky 0, 800, .inl s_to)), (q_x, .inl (ky 1, 240, .inr (.inl s_x))), (q_y, .inl (ky 1, 240, .inr (.inl s_y))), (q_n4, .inl (ky 2, (s_joints.toNatClampNeg), .inl v23))] → va_S A s.heap H locs → lv_has ls 4 [(0, .ref q_), (2, .int t.1), (3, .int v33)] → W p l e rmX10_loosen s m args below meth c H locs 1 240 Q (F0 m 193 ls []) := by
                  clear hd hP hD hS hl
                  obtain ⟨v35, v36⟩ := t
                  replace h := dm2_of h
                  intro H locs ls hP hD hS hl
                  replace hP : va_P D vwCl [(q_, .inr (10, [.int s_w, .int s_h, .int s_leads, .int s_lines, .ref q_ax, .ref q_ay, .ref q_bx, .ref q_by, .int s_joints, .ref q_x, .ref q_y, .ref q_d, .int s_pieces, .ref q_from, .ref q_to, .ref q_firm])), (q_d, .inl (ky 1, 240, .inr (.inl s_d))), (q_firm, .inl (ky 2, 800, .inl v36)), (q_from, .inl (ky 0, 800, .inl s_from)), (q_to, .inl (ky 0, 800, .inl s_to)), (q_x, .inl (ky 1, 240, .inr (.inl s_x))), (q_y, .inl (ky 1, 240, .inr (.inl s_y))), (q_n4, .inl (ky 2, (s_joints.toNatClampNeg), .inl v23))] H := hP
                  replace hD : va_D A [(q_, .inr (10, [.int s_w, .int s_h, .int s_leads, .int s_lines, .ref q_ax, .ref q_ay, .ref q_bx, .ref q_by, .int s_joints, .ref q_x, .ref q_y, .ref q_d, .int s_pieces, .ref q_from, .ref q_to, .ref q_firm])), (q_d, .inl (ky 1, 240, .inr (.inl s_d))), (q_firm, .inl (ky 2, 800, .inl v36)), (q_from, .inl (ky 0, 800, .inl s_from)), (q_to, .inl (ky 0, 800, .inl s_to)), (q_x, .inl (ky 1, 240, .inr (.inl s_x))), (q_y, .inl (ky 1, 240, .inr (.inl s_y))), (q_n4, .inl (ky 2, (s_joints.toNatClampNeg), .inl v23))] := hD
                  replace hl : lv_has ls 4 [(0, .ref q_), (2, .int v35), (3, .int v33)] := hl
                  refine W.eq (g2 := F0 m 193 ls []) rfl ?_
                  obtain ⟨x37, ex37⟩ : ∃ z : Int32, z = v33 + 1 := ⟨_, rfl⟩
                  replace h := lt_at ex37 h
                  refine lv_iinc (v := x37) (lv' := [(3, .int x37), (0, .ref q_), (2, .int v35)]) hx hb dX10_loosen_193 hl (k := 2) rfl (by rw [ex37]; rfl) (by decide) rfl (fun ls hl => ?_)
                  refine lv_goto (tgt := 137) hx hb dX10_loosen_196 (by decide) ?_
                  cases h
                  exact K _ _ _ hP hD hS (lv_sub hl [1, 2, 0] rfl)
                replace h := hd
                clear hd
                refine lv_if_eq (tgt := 193) hx hb dX10_loosen_151 (by decide) (fun hc => ?_) (fun hc => ?_)
                · replace h := if_t hc h
                  cases h
                  exact K _ _ _ hP hD hS (lv_sub hl [0, 1, 2] rfl)
                · replace h := if_f hc h
                  refine lv_aload_n hx hb dX10_loosen_154 rfl (lv_at hl 0 rfl) ?_
                  refine lv_aload_n hx hb dX10_loosen_155 rfl (lv_at hl 0 rfl) ?_
                  refine va_get (D := D) (ci := 10) (v := .ref q_from) (C := RX10) (T := TX10) (N := 16) hx hb hts hi_X10 hown hK.1 hP 0 rfl rfl 13 (by decide) hf_34 (fun _ h9 => h9) rfl dX10_loosen_156 ?_
                  refine lv_iload_n hx hb dX10_loosen_159 rfl (lv_at hl 2 rfl) ?_
                  obtain ⟨hg, h⟩ := gd_of h
                  refine va_iald hx hb hK.1 hP 3 0 rfl rfl hg dX10_loosen_160 ?_
                  refine lv_iconst (v := 1) hx hb dX10_loosen_161 (by decide) ?_
                  obtain ⟨r38, hc, h⟩ := ob_of h
                  replace h := dm1_of h
                  refine cv_i (As := [.int (s_from v33.toNatClampNeg), .int (1 : Int32)]) (rest := []) (wr := [(q_d, .inl (ky 1, 240, .inr (.inl s_d))), (q_x, .inl (ky 1, 240, .inr (.inl s_x))), (q_y, .inl (ky 1, 240, .inr (.inl s_y))), (q_n4, .inl (ky 2, (s_joints.toNatClampNeg), .inl v23))]) (wn := [(q_, .inr (10, [.int s_w, .int s_h, .int s_leads, .int s_lines, .ref q_ax, .ref q_ay, .ref q_bx, .ref q_by, .int s_joints, .ref q_x, .ref q_y, .ref q_d, .int s_pieces, .ref q_from, .ref q_to, .ref q_firm])), (q_d, .inl (ky 1, 240, .inr (.inl s_d))), (q_firm, .inl (ky 2, 800, .inl v34)), (q_from, .inl (ky 0, 800, .inl s_from)), (q_to, .inl (ky 0, 800, .inl s_to)), (q_x, .inl (ky 1, 240, .inr (.inl s_x))), (q_y, .inl (ky 1, 240, .inr (.inl s_y))), (q_n4, .inl (ky 2, (s_joints.toNatClampNeg), .inl v23))]) ⟨hx, hb, hml, hown, hts⟩ (c_X10_ends l D ky q_ q_ax q_ay q_bx q_by q_x q_y q_d q_from q_to q_firm (s_from v33.toNatClampNeg) (1 : Int32) s_w s_h s_leads s_lines s_joints s_pieces v34 s_from s_to hc) (cwV 2 hts gX10_loosen_X10_ends rfl rfl rfl (by decide +kernel) ⟨Nat.le_of_ble_eq_true rfl, Nat.le_of_ble_eq_true rfl⟩) (rcv hK.1 hP (q0 := 0) rfl rfl) hP hD hK hS hA [0, 2, 3, 4] [1, 5, 6, 7] [4, 0, 5, 6, 7, 1, 2, 3] rfl (by decide +kernel) rfl (by decide +kernel) (by decide +kernel) (by decide +kernel) rfl rfl rfl hl.1 (Nat.le_of_ble_eq_true rfl) dX10_loosen_162 ⟨Nat.le_of_ble_eq_true rfl, Nat.le_of_ble_eq_true rfl⟩ (fun H locs hP hD hS => ?_)
                  refine lv_iconst (v := 1) hx hb dX10_loosen_165 (by decide) ?_
                  refine lv_icmp_eq (tgt := 184) hx hb dX10_loosen_166 (by decide) (fun hc => ?_) (fun hc => ?_)
                  · replace h := if_t hc h
                    refine lv_aload_n hx hb dX10_loosen_184 rfl (lv_at hl 0 rfl) ?_
                    refine va_get (D := D) (ci := 10) (v := .ref q_firm) (C := RX10) (T := TX10) (N := 16) hx hb hts hi_X10 hown hK.1 hP 0 rfl rfl 15 (by decide) hf_40 (fun _ h9 => h9) rfl dX10_loosen_185 ?_
                    refine lv_iload_n hx hb dX10_loosen_188 rfl (lv_at hl 2 rfl) ?_
                    refine lv_iconst (v := 0) hx hb dX10_loosen_189 (by decide) ?_
                    obtain ⟨hg, h⟩ := gd_of h
                    refine r_zast hx hb hK.1 hP hD hS 2 2 rfl rfl hg dX10_loosen_190 (fun f39 ef39 H locs hP hD hS => ?_)
                    replace h := lt_at ef39 h
                    replace hP : va_P D vwCl [(q_, .inr (10, [.int s_w, .int s_h, .int s_leads, .int s_lines, .ref q_ax, .ref q_ay, .ref q_bx, .ref q_by, .int s_joints, .ref q_x, .ref q_y, .ref q_d, .int s_pieces, .ref q_from, .ref q_to, .ref q_firm])), (q_d, .inl (ky 1, 240, .inr (.inl s_d))), (q_firm, .inl (ky 2, 800, .inl f39)), (q_from, .inl (ky 0, 800, .inl s_from)), (q_to, .inl (ky 0, 800, .inl s_to)), (q_x, .inl (ky 1, 240, .inr (.inl s_x))), (q_y, .inl (ky 1, 240, .inr (.inl s_y))), (q_n4, .inl (ky 2, (s_joints.toNatClampNeg), .inl v23))] H := hP
                    replace hD : va_D A [(q_, .inr (10, [.int s_w, .int s_h, .int s_leads, .int s_lines, .ref q_ax, .ref q_ay, .ref q_bx, .ref q_by, .int s_joints, .ref q_x, .ref q_y, .ref q_d, .int s_pieces, .ref q_from, .ref q_to, .ref q_firm])), (q_d, .inl (ky 1, 240, .inr (.inl s_d))), (q_firm, .inl (ky 2, 800, .inl f39)), (q_from, .inl (ky 0, 800, .inl s_from)), (q_to, .inl (ky 0, 800, .inl s_to)), (q_x, .inl (ky 1, 240, .inr (.inl s_x))), (q_y, .inl (ky 1, 240, .inr (.inl s_y))), (q_n4, .inl (ky 2, (s_joints.toNatClampNeg), .inl v23))] := hD
                    refine lv_iconst (v := 1) hx hb dX10_loosen_191 (by decide) ?_
                    refine lv_istore_n (lv' := [(2, .int (1 : Int32)), (0, .ref q_), (3, .int v33)]) hx hb dX10_loosen_192 rfl hl (by decide) rfl (fun ls hl => ?_)
                    cases h
                    exact K _ _ _ hP hD hS (lv_sub hl [1, 0, 2] rfl)
                  · replace h := if_f hc h
                    refine lv_aload_n hx hb dX10_loosen_169 rfl (lv_at hl 0 rfl) ?_
                    refine lv_aload_n hx hb dX10_loosen_170 rfl (lv_at hl 0 rfl) ?_
                    refine va_get (D := D) (ci := 10) (v := .ref q_to) (C := RX10) (T := TX10) (N := 16) hx hb hts hi_X10 hown hK.1 hP 0 rfl rfl 14 (by decide) hf_37 (fun _ h9 => h9) rfl dX10_loosen_171 ?_
                    refine lv_iload_n hx hb dX10_loosen_174 rfl (lv_at hl 2 rfl) ?_
                    obtain ⟨hg, h⟩ := gd_of h
                    refine va_iald hx hb hK.1 hP 4 0 rfl rfl hg dX10_loosen_175 ?_
                    refine lv_iconst (v := 1) hx hb dX10_loosen_176 (by decide) ?_
                    obtain ⟨r40, hc, h⟩ := ob_of h
                    replace h := dm1_of h
                    refine cv_i (As := [.int (s_to v33.toNatClampNeg), .int (1 : Int32)]) (rest := []) (wr := [(q_d, .inl (ky 1, 240, .inr (.inl s_d))), (q_x, .inl (ky 1, 240, .inr (.inl s_x))), (q_y, .inl (ky 1, 240, .inr (.inl s_y))), (q_n4, .inl (ky 2, (s_joints.toNatClampNeg), .inl v23))]) (wn := [(q_, .inr (10, [.int s_w, .int s_h, .int s_leads, .int s_lines, .ref q_ax, .ref q_ay, .ref q_bx, .ref q_by, .int s_joints, .ref q_x, .ref q_y, .ref q_d, .int s_pieces, .ref q_from, .ref q_to, .ref q_firm])), (q_d, .inl (ky 1, 240, .inr (.inl s_d))), (q_firm, .inl (ky 2, 800, .inl v34)), (q_from, .inl (ky 0, 800, .inl s_from)), (q_to, .inl (ky 0, 800, .inl s_to)), (q_x, .inl (ky 1, 240, .inr (.inl s_x))), (q_y, .inl (ky 1, 240, .inr (.inl s_y))), (q_n4, .inl (ky 2, (s_joints.toNatClampNeg), .inl v23))]) ⟨hx, hb, hml, hown, hts⟩ (c_X10_ends l D ky q_ q_ax q_ay q_bx q_by q_x q_y q_d q_from q_to q_firm (s_to v33.toNatClampNeg) (1 : Int32) s_w s_h s_leads s_lines s_joints s_pieces v34 s_from s_to hc) (cwV 2 hts gX10_loosen_X10_ends rfl rfl rfl (by decide +kernel) ⟨Nat.le_of_ble_eq_true rfl, Nat.le_of_ble_eq_true rfl⟩) (rcv hK.1 hP (q0 := 0) rfl rfl) hP hD hK hS hA [0, 2, 3, 4] [1, 5, 6, 7] [4, 0, 5, 6, 7, 1, 2, 3] rfl (by decide +kernel) rfl (by decide +kernel) (by decide +kernel) (by decide +kernel) rfl rfl rfl hl.1 (Nat.le_of_ble_eq_true rfl) dX10_loosen_177 ⟨Nat.le_of_ble_eq_true rfl, Nat.le_of_ble_eq_true rfl⟩ (fun H locs hP hD hS => ?_)
                    refine lv_iconst (v := 1) hx hb dX10_loosen_180 (by decide) ?_
                    refine lv_icmp_ne (tgt := 193) hx hb dX10_loosen_181 (by decide) (fun hc => ?_) (fun hc => ?_)
                    · replace h := if_t hc h
                      cases h
                      exact K _ _ _ hP hD hS (lv_sub hl [0, 1, 2] rfl)
                    · replace h := if_f (fun z => z hc) h
                      refine lv_aload_n hx hb dX10_loosen_184 rfl (lv_at hl 0 rfl) ?_
                      refine va_get (D := D) (ci := 10) (v := .ref q_firm) (C := RX10) (T := TX10) (N := 16) hx hb hts hi_X10 hown hK.1 hP 0 rfl rfl 15 (by decide) hf_40 (fun _ h9 => h9) rfl dX10_loosen_185 ?_
                      refine lv_iload_n hx hb dX10_loosen_188 rfl (lv_at hl 2 rfl) ?_
                      refine lv_iconst (v := 0) hx hb dX10_loosen_189 (by decide) ?_
                      obtain ⟨hg, h⟩ := gd_of h
                      refine r_zast hx hb hK.1 hP hD hS 2 2 rfl rfl hg dX10_loosen_190 (fun f41 ef41 H locs hP hD hS => ?_)
                      replace h := lt_at ef41 h
                      replace hP : va_P D vwCl [(q_, .inr (10, [.int s_w, .int s_h, .int s_leads, .int s_lines, .ref q_ax, .ref q_ay, .ref q_bx, .ref q_by, .int s_joints, .ref q_x, .ref q_y, .ref q_d, .int s_pieces, .ref q_from, .ref q_to, .ref q_firm])), (q_d, .inl (ky 1, 240, .inr (.inl s_d))), (q_firm, .inl (ky 2, 800, .inl f41)), (q_from, .inl (ky 0, 800, .inl s_from)), (q_to, .inl (ky 0, 800, .inl s_to)), (q_x, .inl (ky 1, 240, .inr (.inl s_x))), (q_y, .inl (ky 1, 240, .inr (.inl s_y))), (q_n4, .inl (ky 2, (s_joints.toNatClampNeg), .inl v23))] H := hP
                      replace hD : va_D A [(q_, .inr (10, [.int s_w, .int s_h, .int s_leads, .int s_lines, .ref q_ax, .ref q_ay, .ref q_bx, .ref q_by, .int s_joints, .ref q_x, .ref q_y, .ref q_d, .int s_pieces, .ref q_from, .ref q_to, .ref q_firm])), (q_d, .inl (ky 1, 240, .inr (.inl s_d))), (q_firm, .inl (ky 2, 800, .inl f41)), (q_from, .inl (ky 0, 800, .inl s_from)), (q_to, .inl (ky 0, 800, .inl s_to)), (q_x, .inl (ky 1, 240, .inr (.inl s_x))), (q_y, .inl (ky 1, 240, .inr (.inl s_y))), (q_n4, .inl (ky 2, (s_joints.toNatClampNeg), .inl v23))] := hD
                      refine lv_iconst (v := 1) hx hb dX10_loosen_191 (by decide) ?_
                      refine lv_istore_n (lv' := [(2, .int (1 : Int32)), (0, .ref q_), (3, .int v33)]) hx hb dX10_loosen_192 rfl hl (by decide) rfl (fun ls hl => ?_)
                      cases h
                      exact K _ _ _ hP hD hS (lv_sub hl [1, 0, 2] rfl)
            · have h1 := ex1_of h
              clear h hi
              rcases h1 with ⟨rfl, h⟩
              obtain ⟨v42, v43, v44⟩ := t
              replace h := dm3_of h
              intro H locs ls hP hD hS hl
              replace hP : va_P D vwCl [(q_, .inr (10, [.int s_w, .int s_h, .int s_leads, .int s_lines, .ref q_ax, .ref q_ay, .ref q_bx, .ref q_by, .int s_joints, .ref q_x, .ref q_y, .ref q_d, .int s_pieces, .ref q_from, .ref q_to, .ref q_firm])), (q_d, .inl (ky 1, 240, .inr (.inl s_d))), (q_firm, .inl (ky 2, 800, .inl v44)), (q_from, .inl (ky 0, 800, .inl s_from)), (q_to, .inl (ky 0, 800, .inl s_to)), (q_x, .inl (ky 1, 240, .inr (.inl s_x))), (q_y, .inl (ky 1, 240, .inr (.inl s_y))), (q_n4, .inl (ky 2, (s_joints.toNatClampNeg), .inl v23))] H := hP
              replace hD : va_D A [(q_, .inr (10, [.int s_w, .int s_h, .int s_leads, .int s_lines, .ref q_ax, .ref q_ay, .ref q_bx, .ref q_by, .int s_joints, .ref q_x, .ref q_y, .ref q_d, .int s_pieces, .ref q_from, .ref q_to, .ref q_firm])), (q_d, .inl (ky 1, 240, .inr (.inl s_d))), (q_firm, .inl (ky 2, 800, .inl v44)), (q_from, .inl (ky 0, 800, .inl s_from)), (q_to, .inl (ky 0, 800, .inl s_to)), (q_x, .inl (ky 1, 240, .inr (.inl s_x))), (q_y, .inl (ky 1, 240, .inr (.inl s_y))), (q_n4, .inl (ky 2, (s_joints.toNatClampNeg), .inl v23))] := hD
              replace hl : lv_has ls 4 [(0, .ref q_), (2, .int v42), (3, .int v43)] := hl
              refine W.eq (g2 := F0 m 199 ls []) rfl ?_
              refine lv_goto (tgt := 129) hx hb dX10_loosen_199 (by decide) ?_
              cases h
              exact K _ _ _ hP hD hS (lv_sub hl [0, 1] rfl)
        · have h1 := ex1_of h
          clear h hi
          rcases h1 with ⟨rfl, h⟩
          obtain ⟨v45, v46⟩ := t
          replace h := dm2_of h
          intro H locs ls hP hD hS hl
          replace hP : va_P D vwCl [(q_, .inr (10, [.int s_w, .int s_h, .int s_leads, .int s_lines, .ref q_ax, .ref q_ay, .ref q_bx, .ref q_by, .int s_joints, .ref q_x, .ref q_y, .ref q_d, .int s_pieces, .ref q_from, .ref q_to, .ref q_firm])), (q_d, .inl (ky 1, 240, .inr (.inl s_d))), (q_firm, .inl (ky 2, 800, .inl v46)), (q_from, .inl (ky 0, 800, .inl s_from)), (q_to, .inl (ky 0, 800, .inl s_to)), (q_x, .inl (ky 1, 240, .inr (.inl s_x))), (q_y, .inl (ky 1, 240, .inr (.inl s_y))), (q_n4, .inl (ky 2, (s_joints.toNatClampNeg), .inl v23))] H := hP
          replace hD : va_D A [(q_, .inr (10, [.int s_w, .int s_h, .int s_leads, .int s_lines, .ref q_ax, .ref q_ay, .ref q_bx, .ref q_by, .int s_joints, .ref q_x, .ref q_y, .ref q_d, .int s_pieces, .ref q_from, .ref q_to, .ref q_firm])), (q_d, .inl (ky 1, 240, .inr (.inl s_d))), (q_firm, .inl (ky 2, 800, .inl v46)), (q_from, .inl (ky 0, 800, .inl s_from)), (q_to, .inl (ky 0, 800, .inl s_to)), (q_x, .inl (ky 1, 240, .inr (.inl s_x))), (q_y, .inl (ky 1, 240, .inr (.inl s_y))), (q_n4, .inl (ky 2, (s_joints.toNatClampNeg), .inl v23))] := hD
          replace hl : lv_has ls 4 [(0, .ref q_), (2, .int v45)] := hl
          refine W.eq (g2 := F0 m 202 ls []) rfl ?_
          cases h
          exact ret _ _ _ _ dX10_loosen_202 (P_map hP [0, 1, 2, 3, 4, 5, 6] rfl) (hD.sub [0, 1, 2, 3, 4, 5, 6] (by decide +kernel) rfl) hS

def bX10_draw_143 (o13 : Nat → Int32) (o14 : Nat → Int32) (o15 : Nat → Int32) (o16 : Nat → Int32) (v18 : Int32) (t : Int32 × Int32 × (Nat → Int64) × (Nat → Int64) × (Nat → Int64)) : Option (Nat × (Int32 × Int32 × (Nat → Int64) × (Nat → Int64) × (Nat → Int64))) := dm5 t (fun (v31 : Int32) (v32 : Int32) (v33 : Nat → Int64) (v34 : Nat → Int64) (v35 : Nat → Int64) => if v18 ≤ v31 then some (1, (v31, v32, v33, v34, v35)) else ob (sX10_cross v31 v18 v32 o13 o14 o15 o16 v33 v34 v35) (fun o => dm4 o (fun (o36 : Int32) (o37 : Nat → Int64) (o38 : Nat → Int64) (o39 : Nat → Int64) => lt (v31 + 1) (fun x40 => some (0, (x40, o36, o37, o38, o39))))))
def bX10_draw_95 (o13 : Nat → Int32) (o14 : Nat → Int32) (o15 : Nat → Int32) (o16 : Nat → Int32) (x17 : Int32) (t : Int32 × Int32 × (Nat → Int64) × (Nat → Int64) × (Nat → Int64)) : Option (Nat × (Int32 × Int32 × (Nat → Int64) × (Nat → Int64) × (Nat → Int64))) := dm5 t (fun (v18 : Int32) (v19 : Int32) (v20 : Nat → Int64) (v21 : Nat → Int64) (v22 : Nat → Int64) => if x17 ≤ v18 then some (1, (v18, v19, v20, v21, v22)) else gd (¬ (v18 < 0 ∨ 18 ≤ v18.toNatClampNeg)) (gd (¬ (v18 < 0 ∨ 18 ≤ v18.toNatClampNeg)) (ob (sX10_joint ((o13 v18.toNatClampNeg).toInt64) ((o14 v18.toNatClampNeg).toInt64) (1 : Int64) v19 v20 v21 v22) (fun o => dm4 o (fun (o23 : Int32) (o24 : Nat → Int64) (o25 : Nat → Int64) (o26 : Nat → Int64) => gd (¬ (v18 < 0 ∨ 18 ≤ v18.toNatClampNeg)) (gd (¬ (v18 < 0 ∨ 18 ≤ v18.toNatClampNeg)) (ob (sX10_joint ((o15 v18.toNatClampNeg).toInt64) ((o16 v18.toNatClampNeg).toInt64) (1 : Int64) o23 o24 o25 o26) (fun o => dm4 o (fun (o27 : Int32) (o28 : Nat → Int64) (o29 : Nat → Int64) (o30 : Nat → Int64) => ob (iter (bX10_draw_143 o13 o14 o15 o16 v18) FU ((0 : Int32), o27, o28, o29, o30)) (fun kt => ex1 kt (fun t => dm5 t (fun (v41 : Int32) (v42 : Int32) (v43 : Nat → Int64) (v44 : Nat → Int64) (v45 : Nat → Int64) => lt (v18 + 1) (fun x46 => some (0, (x46, v42, v43, v44, v45)))))))))))))))
def bX10_draw_173 (o13 : Nat → Int32) (o14 : Nat → Int32) (o15 : Nat → Int32) (o16 : Nat → Int32) (x17 : Int32) (v48 : Int32) (v49 : Nat → Int64) (v50 : Nat → Int64) (v51 : Nat → Int64) (t : Int32 × Int32 × (Nat → Int32) × (Nat → Int32)) : Option (Nat × (Int32 × Int32 × (Nat → Int32) × (Nat → Int32))) := dm4 t (fun (v52 : Int32) (v53 : Int32) (v54 : Nat → Int32) (v55 : Nat → Int32) => if x17 ≤ v52 then some (1, (v52, v53, v54, v55)) else ob (sX10_part v52 v48 v53 o13 o14 o15 o16 v49 v54 v55 v50 v51) (fun o => dm3 o (fun (o56 : Int32) (o57 : Nat → Int32) (o58 : Nat → Int32) => lt (v52 + 1) (fun x59 => some (0, (x59, o56, o57, o58))))))
def sX10_draw  (s_w : Int32) (s_h : Int32) (s_leads : Int32) (s_lines : Int32) (s_joints : Int32) (s_pieces : Int32) (s_ax : Nat → Int32) (s_ay : Nat → Int32) (s_bx : Nat → Int32) (s_by : Nat → Int32) (s_d : Nat → Int64) (s_firm : Nat → Int32) (s_from : Nat → Int32) (s_to : Nat → Int32) (s_x : Nat → Int64) (s_y : Nat → Int64) : Option (Int32 × Int32 × Int32 × (Nat → Int32) × (Nat → Int32) × (Nat → Int32) × (Nat → Int32) × (Nat → Int64) × (Nat → Int32) × (Nat → Int32) × (Nat → Int32) × (Nat → Int64) × (Nat → Int64)) := ob (sX10_line s_leads (0 : Int32) (0 : Int32) s_w (0 : Int32) s_ax s_ay s_bx s_by) (fun o => dm4 o (fun (o1 : Nat → Int32) (o2 : Nat → Int32) (o3 : Nat → Int32) (o4 : Nat → Int32) => ob (sX10_line (s_leads + (1 : Int32)) s_w (0 : Int32) s_w s_h o1 o2 o3 o4) (fun o => dm4 o (fun (o5 : Nat → Int32) (o6 : Nat → Int32) (o7 : Nat → Int32) (o8 : Nat → Int32) => ob (sX10_line (s_leads + (2 : Int32)) s_w s_h (0 : Int32) s_h o5 o6 o7 o8) (fun o => dm4 o (fun (o9 : Nat → Int32) (o10 : Nat → Int32) (o11 : Nat → Int32) (o12 : Nat → Int32) => ob (sX10_line (s_leads + (3 : Int32)) (0 : Int32) s_h (0 : Int32) (0 : Int32) o9 o10 o11 o12) (fun o => dm4 o (fun (o13 : Nat → Int32) (o14 : Nat → Int32) (o15 : Nat → Int32) (o16 : Nat → Int32) => lt (s_leads + (4 : Int32)) (fun x17 => ob (iter (bX10_draw_95 o13 o14 o15 o16 x17) FU ((0 : Int32), (0 : Int32), s_d, s_x, s_y)) (fun kt => ex1 kt (fun t => dm5 t (fun (v47 : Int32) (v48 : Int32) (v49 : Nat → Int64) (v50 : Nat → Int64) (v51 : Nat → Int64) => ob (iter (bX10_draw_173 o13 o14 o15 o16 x17 v48 v49 v50 v51) FU ((0 : Int32), (0 : Int32), s_from, s_to)) (fun kt => ex1 kt (fun t => dm4 t (fun (v60 : Int32) (v61 : Int32) (v62 : Nat → Int32) (v63 : Nat → Int32) => ob (sX10_loosen s_w s_h v48 v61 v49 s_firm v62 v63 v50 v51) (fun o => dm1 o (fun (o64 : Nat → Int32) => some (x17, v48, v61, o13, o14, o15, o16, v49, o64, v62, v63, v50, v51))))))))))))))))))
abbrev rmX10_draw : Room := { frames := 4, cells := 1, slots := 240, locals := 145 }
set_option maxHeartbeats 4000000 in
set_option maxRecDepth 100000 in
theorem c_X10_draw (l : Launch) (D : va_G) (ky : Nat → ClassId) (q_ q_ax q_ay q_bx q_by q_x q_y q_d q_from q_to q_firm : Nat) (s_w : Int32) (s_h : Int32) (s_leads : Int32) (s_lines : Int32) (s_joints : Int32) (s_pieces : Int32) (s_ax : Nat → Int32) (s_ay : Nat → Int32) (s_bx : Nat → Int32) (s_by : Nat → Int32) (s_d : Nat → Int64) (s_firm : Nat → Int32) (s_from : Nat → Int32) (s_to : Nat → Int32) (s_x : Nat → Int64) (s_y : Nat → Int64) {o_lines : Int32} {o_joints : Int32} {o_pieces : Int32} {o_ax : Nat → Int32} {o_ay : Nat → Int32} {o_bx : Nat → Int32} {o_by : Nat → Int32} {o_d : Nat → Int64} {o_firm : Nat → Int32} {o_from : Nat → Int32} {o_to : Nat → Int32} {o_x : Nat → Int64} {o_y : Nat → Int64} (h : sX10_draw s_w s_h s_leads s_lines s_joints s_pieces s_ax s_ay s_bx s_by s_d s_firm s_from s_to s_x s_y = some (o_lines, o_joints, o_pieces, o_ax, o_ay, o_bx, o_by, o_d, o_firm, o_from, o_to, o_x, o_y)) : MtV l D ky yX10_draw wsX10_draw rmX10_draw [.ref q_] [(q_, .inr (10, [.int s_w, .int s_h, .int s_leads, .int s_lines, .ref q_ax, .ref q_ay, .ref q_bx, .ref q_by, .int s_joints, .ref q_x, .ref q_y, .ref q_d, .int s_pieces, .ref q_from, .ref q_to, .ref q_firm])), (q_ax, .inl (ky 0, 18, .inl s_ax)), (q_ay, .inl (ky 0, 18, .inl s_ay)), (q_bx, .inl (ky 0, 18, .inl s_bx)), (q_by, .inl (ky 0, 18, .inl s_by)), (q_d, .inl (ky 1, 240, .inr (.inl s_d))), (q_firm, .inl (ky 2, 800, .inl s_firm)), (q_from, .inl (ky 0, 800, .inl s_from)), (q_to, .inl (ky 0, 800, .inl s_to)), (q_x, .inl (ky 1, 240, .inr (.inl s_x))), (q_y, .inl (ky 1, 240, .inr (.inl s_y)))] [(q_, .inr (10, [.int s_w, .int s_h, .int s_leads, .int o_lines, .ref q_ax, .ref q_ay, .ref q_bx, .ref q_by, .int o_joints, .ref q_x, .ref q_y, .ref q_d, .int o_pieces, .ref q_from, .ref q_to, .ref q_firm])), (q_ax, .inl (ky 0, 18, .inl o_ax)), (q_ay, .inl (ky 0, 18, .inl o_ay)), (q_bx, .inl (ky 0, 18, .inl o_bx)), (q_by, .inl (ky 0, 18, .inl o_by)), (q_d, .inl (ky 1, 240, .inr (.inl o_d))), (q_firm, .inl (ky 2, 800, .inl o_firm)), (q_from, .inl (ky 0, 800, .inl o_from)), (q_to, .inl (ky 0, 800, .inl o_to)), (q_x, .inl (ky 1, 240, .inr (.inl o_x))), (q_y, .inl (ky 1, 240, .inr (.inl o_y)))] 1 240 := by
  refine MtV.of (cc := cX10_draw) (maxL := 3) (by decide +kernel) rfl (Nat.le_of_ble_eq_true rfl) ?_
  intro p e R s m args below meth c A Q ls hR hx hb hts hown hnm hml hP hK hD hA ret hl
  have rt := rtV (dc := fun pc => decode cX10_draw pc = .ok (.return_, 1)) (o_lines, o_joints, o_pieces, o_ax, o_ay, o_bx, o_by, o_d, o_firm, o_from, o_to, o_x, o_y) (fun t => [(q_, .inr (10, [.int s_w, .int s_h, .int s_leads, .int t.1, .ref q_ax, .ref q_ay, .ref q_bx, .ref q_by, .int t.2.1, .ref q_x, .ref q_y, .ref q_d, .int t.2.2.1, .ref q_from, .ref q_to, .ref q_firm])), (q_ax, .inl (ky 0, 18, .inl t.2.2.2.1)), (q_ay, .inl (ky 0, 18, .inl t.2.2.2.2.1)), (q_bx, .inl (ky 0, 18, .inl t.2.2.2.2.2.1)), (q_by, .inl (ky 0, 18, .inl t.2.2.2.2.2.2.1)), (q_d, .inl (ky 1, 240, .inr (.inl t.2.2.2.2.2.2.2.1))), (q_firm, .inl (ky 2, 800, .inl t.2.2.2.2.2.2.2.2.1)), (q_from, .inl (ky 0, 800, .inl t.2.2.2.2.2.2.2.2.2.1)), (q_to, .inl (ky 0, 800, .inl t.2.2.2.2.2.2.2.2.2.2.1)), (q_x, .inl (ky 1, 240, .inr (.inl t.2.2.2.2.2.2.2.2.2.2.2.1))), (q_y, .inl (ky 1, 240, .inr (.inl t.2.2.2.2.2.2.2.2.2.2.2.2)))]) ret
  subst hR
  obtain ⟨H, hH⟩ : ∃ H, H = s.heap := ⟨_, rfl⟩
  obtain ⟨locs, hlocs⟩ : ∃ locs : List Loc, locs = [] := ⟨_, rfl⟩
  have hS : va_S A s.heap H locs := by rw [hH, hlocs]; exact va_S.rf
  rw [← hH] at hP
  suffices hgo : W p l e rmX10_draw s m args below meth c H locs 0 0 Q (F0 m 0 ls []) by rw [hH, hlocs] at hgo; exact hgo
  clear hH hlocs
  replace hl : lv_has ls 3 [(0, .ref q_)] := hl
  replace hown : s.vm.findClass RX10 = some m.cls := hown
  have hi_X10 : ∀ w ∈ u_ws RX10 TX10 16, w ∈ wsX10_draw := fun _ h9 => List.mem_cons_of_mem _ (List.mem_append_right _ h9)
  have hf_51 := hts (.fieldLink RX10 51 "GlazierBenchModel$Drawing" "leads" "I") (by decide +kernel)
  have hf_44 := hts (.fieldLink RX10 44 "GlazierBenchModel$Drawing" "w" "I") (by decide +kernel)
  have hf_48 := hts (.fieldLink RX10 48 "GlazierBenchModel$Drawing" "h" "I") (by decide +kernel)
  have hf_58 := hts (.fieldLink RX10 58 "GlazierBenchModel$Drawing" "lines" "I") (by decide +kernel)
  have hf_61 := hts (.fieldLink RX10 61 "GlazierBenchModel$Drawing" "joints" "I") (by decide +kernel)
  have hf_9 := hts (.fieldLink RX10 9 "GlazierBenchModel$Drawing" "ax" "[I") (by decide +kernel)
  have hf_15 := hts (.fieldLink RX10 15 "GlazierBenchModel$Drawing" "ay" "[I") (by decide +kernel)
  have hf_18 := hts (.fieldLink RX10 18 "GlazierBenchModel$Drawing" "bx" "[I") (by decide +kernel)
  have hf_21 := hts (.fieldLink RX10 21 "GlazierBenchModel$Drawing" "by" "[I") (by decide +kernel)
  have hf_72 := hts (.fieldLink RX10 72 "GlazierBenchModel$Drawing" "pieces" "I") (by decide +kernel)
  unfold sX10_draw at h
  refine lv_aload_n hx hb dX10_draw_0 rfl (lv_at hl 0 rfl) ?_
  refine lv_aload_n hx hb dX10_draw_1 rfl (lv_at hl 0 rfl) ?_
  refine va_get (D := D) (ci := 10) (v := .int s_leads) (C := RX10) (T := TX10) (N := 16) hx hb hts hi_X10 hown hK.1 hP 0 rfl rfl 2 (by decide) hf_51 (fun _ h9 => h9) rfl dX10_draw_2 ?_
  refine lv_iconst (v := 0) hx hb dX10_draw_5 (by decide) ?_
  refine lv_iconst (v := 0) hx hb dX10_draw_6 (by decide) ?_
  refine lv_aload_n hx hb dX10_draw_7 rfl (lv_at hl 0 rfl) ?_
  refine va_get (D := D) (ci := 10) (v := .int s_w) (C := RX10) (T := TX10) (N := 16) hx hb hts hi_X10 hown hK.1 hP 0 rfl rfl 0 (by decide) hf_44 (fun _ h9 => h9) rfl dX10_draw_8 ?_
  refine lv_iconst (v := 0) hx hb dX10_draw_11 (by decide) ?_
  obtain ⟨⟨o1, o2, o3, o4⟩, hc, h⟩ := ob_of h
  replace h := dm4_of h
  refine cv_v (As := [.int s_leads, .int (0 : Int32), .int (0 : Int32), .int s_w, .int (0 : Int32)]) (rest := []) (wr := [(q_d, .inl (ky 1, 240, .inr (.inl s_d))), (q_firm, .inl (ky 2, 800, .inl s_firm)), (q_from, .inl (ky 0, 800, .inl s_from)), (q_to, .inl (ky 0, 800, .inl s_to)), (q_x, .inl (ky 1, 240, .inr (.inl s_x))), (q_y, .inl (ky 1, 240, .inr (.inl s_y)))]) (wn := [(q_, .inr (10, [.int s_w, .int s_h, .int s_leads, .int s_lines, .ref q_ax, .ref q_ay, .ref q_bx, .ref q_by, .int s_joints, .ref q_x, .ref q_y, .ref q_d, .int s_pieces, .ref q_from, .ref q_to, .ref q_firm])), (q_ax, .inl (ky 0, 18, .inl o1)), (q_ay, .inl (ky 0, 18, .inl o2)), (q_bx, .inl (ky 0, 18, .inl o3)), (q_by, .inl (ky 0, 18, .inl o4)), (q_d, .inl (ky 1, 240, .inr (.inl s_d))), (q_firm, .inl (ky 2, 800, .inl s_firm)), (q_from, .inl (ky 0, 800, .inl s_from)), (q_to, .inl (ky 0, 800, .inl s_to)), (q_x, .inl (ky 1, 240, .inr (.inl s_x))), (q_y, .inl (ky 1, 240, .inr (.inl s_y)))]) ⟨hx, hb, hml, hown, hts⟩ (c_X10_line l D ky q_ q_ax q_ay q_bx q_by q_x q_y q_d q_from q_to q_firm s_leads (0 : Int32) (0 : Int32) s_w (0 : Int32) s_w s_h s_leads s_lines s_joints s_pieces s_ax s_ay s_bx s_by hc) (cwV 5 hts gX10_draw_X10_line rfl rfl rfl (by decide +kernel) ⟨Nat.le_of_ble_eq_true rfl, Nat.le_of_ble_eq_true rfl⟩) (rcv hK.1 hP (q0 := 0) rfl rfl) hP hD hK hS hA [0, 1, 2, 3, 4] [5, 6, 7, 8, 9, 10] [6, 7, 8, 9, 10, 0, 1, 2, 3, 4, 5] rfl (by decide +kernel) rfl (by decide +kernel) (by decide +kernel) (by decide +kernel) rfl rfl rfl hl.1 (Nat.le_of_ble_eq_true rfl) dX10_draw_12 ⟨Nat.le_of_ble_eq_true rfl, Nat.le_of_ble_eq_true rfl⟩ (fun H locs hP hD hS => ?_)
  refine lv_aload_n hx hb dX10_draw_15 rfl (lv_at hl 0 rfl) ?_
  refine lv_aload_n hx hb dX10_draw_16 rfl (lv_at hl 0 rfl) ?_
  refine va_get (D := D) (ci := 10) (v := .int s_leads) (C := RX10) (T := TX10) (N := 16) hx hb hts hi_X10 hown hK.1 hP 0 rfl rfl 2 (by decide) hf_51 (fun _ h9 => h9) rfl dX10_draw_17 ?_
  refine lv_iconst (v := 1) hx hb dX10_draw_20 (by decide) ?_
  refine lv_iadd hx hb dX10_draw_21 ?_
  refine lv_aload_n hx hb dX10_draw_22 rfl (lv_at hl 0 rfl) ?_
  refine va_get (D := D) (ci := 10) (v := .int s_w) (C := RX10) (T := TX10) (N := 16) hx hb hts hi_X10 hown hK.1 hP 0 rfl rfl 0 (by decide) hf_44 (fun _ h9 => h9) rfl dX10_draw_23 ?_
  refine lv_iconst (v := 0) hx hb dX10_draw_26 (by decide) ?_
  refine lv_aload_n hx hb dX10_draw_27 rfl (lv_at hl 0 rfl) ?_
  refine va_get (D := D) (ci := 10) (v := .int s_w) (C := RX10) (T := TX10) (N := 16) hx hb hts hi_X10 hown hK.1 hP 0 rfl rfl 0 (by decide) hf_44 (fun _ h9 => h9) rfl dX10_draw_28 ?_
  refine lv_aload_n hx hb dX10_draw_31 rfl (lv_at hl 0 rfl) ?_
  refine va_get (D := D) (ci := 10) (v := .int s_h) (C := RX10) (T := TX10) (N := 16) hx hb hts hi_X10 hown hK.1 hP 0 rfl rfl 1 (by decide) hf_48 (fun _ h9 => h9) rfl dX10_draw_32 ?_
  obtain ⟨⟨o5, o6, o7, o8⟩, hc, h⟩ := ob_of h
  replace h := dm4_of h
  refine cv_v (As := [.int (s_leads + (1 : Int32)), .int s_w, .int (0 : Int32), .int s_w, .int s_h]) (rest := []) (wr := [(q_d, .inl (ky 1, 240, .inr (.inl s_d))), (q_firm, .inl (ky 2, 800, .inl s_firm)), (q_from, .inl (ky 0, 800, .inl s_from)), (q_to, .inl (ky 0, 800, .inl s_to)), (q_x, .inl (ky 1, 240, .inr (.inl s_x))), (q_y, .inl (ky 1, 240, .inr (.inl s_y)))]) (wn := [(q_, .inr (10, [.int s_w, .int s_h, .int s_leads, .int s_lines, .ref q_ax, .ref q_ay, .ref q_bx, .ref q_by, .int s_joints, .ref q_x, .ref q_y, .ref q_d, .int s_pieces, .ref q_from, .ref q_to, .ref q_firm])), (q_ax, .inl (ky 0, 18, .inl o5)), (q_ay, .inl (ky 0, 18, .inl o6)), (q_bx, .inl (ky 0, 18, .inl o7)), (q_by, .inl (ky 0, 18, .inl o8)), (q_d, .inl (ky 1, 240, .inr (.inl s_d))), (q_firm, .inl (ky 2, 800, .inl s_firm)), (q_from, .inl (ky 0, 800, .inl s_from)), (q_to, .inl (ky 0, 800, .inl s_to)), (q_x, .inl (ky 1, 240, .inr (.inl s_x))), (q_y, .inl (ky 1, 240, .inr (.inl s_y)))]) ⟨hx, hb, hml, hown, hts⟩ (c_X10_line l D ky q_ q_ax q_ay q_bx q_by q_x q_y q_d q_from q_to q_firm (s_leads + (1 : Int32)) s_w (0 : Int32) s_w s_h s_w s_h s_leads s_lines s_joints s_pieces o1 o2 o3 o4 hc) (cwV 5 hts gX10_draw_X10_line rfl rfl rfl (by decide +kernel) ⟨Nat.le_of_ble_eq_true rfl, Nat.le_of_ble_eq_true rfl⟩) (rcv hK.1 hP (q0 := 0) rfl rfl) hP hD hK hS hA [0, 1, 2, 3, 4] [5, 6, 7, 8, 9, 10] [6, 7, 8, 9, 10, 0, 1, 2, 3, 4, 5] rfl (by decide +kernel) rfl (by decide +kernel) (by decide +kernel) (by decide +kernel) rfl rfl rfl hl.1 (Nat.le_of_ble_eq_true rfl) dX10_draw_35 ⟨Nat.le_of_ble_eq_true rfl, Nat.le_of_ble_eq_true rfl⟩ (fun H locs hP hD hS => ?_)
  refine lv_aload_n hx hb dX10_draw_38 rfl (lv_at hl 0 rfl) ?_
  refine lv_aload_n hx hb dX10_draw_39 rfl (lv_at hl 0 rfl) ?_
  refine va_get (D := D) (ci := 10) (v := .int s_leads) (C := RX10) (T := TX10) (N := 16) hx hb hts hi_X10 hown hK.1 hP 0 rfl rfl 2 (by decide) hf_51 (fun _ h9 => h9) rfl dX10_draw_40 ?_
  refine lv_iconst (v := 2) hx hb dX10_draw_43 (by decide) ?_
  refine lv_iadd hx hb dX10_draw_44 ?_
  refine lv_aload_n hx hb dX10_draw_45 rfl (lv_at hl 0 rfl) ?_
  refine va_get (D := D) (ci := 10) (v := .int s_w) (C := RX10) (T := TX10) (N := 16) hx hb hts hi_X10 hown hK.1 hP 0 rfl rfl 0 (by decide) hf_44 (fun _ h9 => h9) rfl dX10_draw_46 ?_
  refine lv_aload_n hx hb dX10_draw_49 rfl (lv_at hl 0 rfl) ?_
  refine va_get (D := D) (ci := 10) (v := .int s_h) (C := RX10) (T := TX10) (N := 16) hx hb hts hi_X10 hown hK.1 hP 0 rfl rfl 1 (by decide) hf_48 (fun _ h9 => h9) rfl dX10_draw_50 ?_
  refine lv_iconst (v := 0) hx hb dX10_draw_53 (by decide) ?_
  refine lv_aload_n hx hb dX10_draw_54 rfl (lv_at hl 0 rfl) ?_
  refine va_get (D := D) (ci := 10) (v := .int s_h) (C := RX10) (T := TX10) (N := 16) hx hb hts hi_X10 hown hK.1 hP 0 rfl rfl 1 (by decide) hf_48 (fun _ h9 => h9) rfl dX10_draw_55 ?_
  obtain ⟨⟨o9, o10, o11, o12⟩, hc, h⟩ := ob_of h
  replace h := dm4_of h
  refine cv_v (As := [.int (s_leads + (2 : Int32)), .int s_w, .int s_h, .int (0 : Int32), .int s_h]) (rest := []) (wr := [(q_d, .inl (ky 1, 240, .inr (.inl s_d))), (q_firm, .inl (ky 2, 800, .inl s_firm)), (q_from, .inl (ky 0, 800, .inl s_from)), (q_to, .inl (ky 0, 800, .inl s_to)), (q_x, .inl (ky 1, 240, .inr (.inl s_x))), (q_y, .inl (ky 1, 240, .inr (.inl s_y)))]) (wn := [(q_, .inr (10, [.int s_w, .int s_h, .int s_leads, .int s_lines, .ref q_ax, .ref q_ay, .ref q_bx, .ref q_by, .int s_joints, .ref q_x, .ref q_y, .ref q_d, .int s_pieces, .ref q_from, .ref q_to, .ref q_firm])), (q_ax, .inl (ky 0, 18, .inl o9)), (q_ay, .inl (ky 0, 18, .inl o10)), (q_bx, .inl (ky 0, 18, .inl o11)), (q_by, .inl (ky 0, 18, .inl o12)), (q_d, .inl (ky 1, 240, .inr (.inl s_d))), (q_firm, .inl (ky 2, 800, .inl s_firm)), (q_from, .inl (ky 0, 800, .inl s_from)), (q_to, .inl (ky 0, 800, .inl s_to)), (q_x, .inl (ky 1, 240, .inr (.inl s_x))), (q_y, .inl (ky 1, 240, .inr (.inl s_y)))]) ⟨hx, hb, hml, hown, hts⟩ (c_X10_line l D ky q_ q_ax q_ay q_bx q_by q_x q_y q_d q_from q_to q_firm (s_leads + (2 : Int32)) s_w s_h (0 : Int32) s_h s_w s_h s_leads s_lines s_joints s_pieces o5 o6 o7 o8 hc) (cwV 5 hts gX10_draw_X10_line rfl rfl rfl (by decide +kernel) ⟨Nat.le_of_ble_eq_true rfl, Nat.le_of_ble_eq_true rfl⟩) (rcv hK.1 hP (q0 := 0) rfl rfl) hP hD hK hS hA [0, 1, 2, 3, 4] [5, 6, 7, 8, 9, 10] [6, 7, 8, 9, 10, 0, 1, 2, 3, 4, 5] rfl (by decide +kernel) rfl (by decide +kernel) (by decide +kernel) (by decide +kernel) rfl rfl rfl hl.1 (Nat.le_of_ble_eq_true rfl) dX10_draw_58 ⟨Nat.le_of_ble_eq_true rfl, Nat.le_of_ble_eq_true rfl⟩ (fun H locs hP hD hS => ?_)
  refine lv_aload_n hx hb dX10_draw_61 rfl (lv_at hl 0 rfl) ?_
  refine lv_aload_n hx hb dX10_draw_62 rfl (lv_at hl 0 rfl) ?_
  refine va_get (D := D) (ci := 10) (v := .int s_leads) (C := RX10) (T := TX10) (N := 16) hx hb hts hi_X10 hown hK.1 hP 0 rfl rfl 2 (by decide) hf_51 (fun _ h9 => h9) rfl dX10_draw_63 ?_
  refine lv_iconst (v := 3) hx hb dX10_draw_66 (by decide) ?_
  refine lv_iadd hx hb dX10_draw_67 ?_
  refine lv_iconst (v := 0) hx hb dX10_draw_68 (by decide) ?_
  refine lv_aload_n hx hb dX10_draw_69 rfl (lv_at hl 0 rfl) ?_
  refine va_get (D := D) (ci := 10) (v := .int s_h) (C := RX10) (T := TX10) (N := 16) hx hb hts hi_X10 hown hK.1 hP 0 rfl rfl 1 (by decide) hf_48 (fun _ h9 => h9) rfl dX10_draw_70 ?_
  refine lv_iconst (v := 0) hx hb dX10_draw_73 (by decide) ?_
  refine lv_iconst (v := 0) hx hb dX10_draw_74 (by decide) ?_
  obtain ⟨⟨o13, o14, o15, o16⟩, hc, h⟩ := ob_of h
  replace h := dm4_of h
  refine cv_v (As := [.int (s_leads + (3 : Int32)), .int (0 : Int32), .int s_h, .int (0 : Int32), .int (0 : Int32)]) (rest := []) (wr := [(q_d, .inl (ky 1, 240, .inr (.inl s_d))), (q_firm, .inl (ky 2, 800, .inl s_firm)), (q_from, .inl (ky 0, 800, .inl s_from)), (q_to, .inl (ky 0, 800, .inl s_to)), (q_x, .inl (ky 1, 240, .inr (.inl s_x))), (q_y, .inl (ky 1, 240, .inr (.inl s_y)))]) (wn := [(q_, .inr (10, [.int s_w, .int s_h, .int s_leads, .int s_lines, .ref q_ax, .ref q_ay, .ref q_bx, .ref q_by, .int s_joints, .ref q_x, .ref q_y, .ref q_d, .int s_pieces, .ref q_from, .ref q_to, .ref q_firm])), (q_ax, .inl (ky 0, 18, .inl o13)), (q_ay, .inl (ky 0, 18, .inl o14)), (q_bx, .inl (ky 0, 18, .inl o15)), (q_by, .inl (ky 0, 18, .inl o16)), (q_d, .inl (ky 1, 240, .inr (.inl s_d))), (q_firm, .inl (ky 2, 800, .inl s_firm)), (q_from, .inl (ky 0, 800, .inl s_from)), (q_to, .inl (ky 0, 800, .inl s_to)), (q_x, .inl (ky 1, 240, .inr (.inl s_x))), (q_y, .inl (ky 1, 240, .inr (.inl s_y)))]) ⟨hx, hb, hml, hown, hts⟩ (c_X10_line l D ky q_ q_ax q_ay q_bx q_by q_x q_y q_d q_from q_to q_firm (s_leads + (3 : Int32)) (0 : Int32) s_h (0 : Int32) (0 : Int32) s_w s_h s_leads s_lines s_joints s_pieces o9 o10 o11 o12 hc) (cwV 5 hts gX10_draw_X10_line rfl rfl rfl (by decide +kernel) ⟨Nat.le_of_ble_eq_true rfl, Nat.le_of_ble_eq_true rfl⟩) (rcv hK.1 hP (q0 := 0) rfl rfl) hP hD hK hS hA [0, 1, 2, 3, 4] [5, 6, 7, 8, 9, 10] [6, 7, 8, 9, 10, 0, 1, 2, 3, 4, 5] rfl (by decide +kernel) rfl (by decide +kernel) (by decide +kernel) (by decide +kernel) rfl rfl rfl hl.1 (Nat.le_of_ble_eq_true rfl) dX10_draw_75 ⟨Nat.le_of_ble_eq_true rfl, Nat.le_of_ble_eq_true rfl⟩ (fun H locs hP hD hS => ?_)
  refine lv_aload_n hx hb dX10_draw_78 rfl (lv_at hl 0 rfl) ?_
  refine lv_aload_n hx hb dX10_draw_79 rfl (lv_at hl 0 rfl) ?_
  refine va_get (D := D) (ci := 10) (v := .int s_leads) (C := RX10) (T := TX10) (N := 16) hx hb hts hi_X10 hown hK.1 hP 0 rfl rfl 2 (by decide) hf_51 (fun _ h9 => h9) rfl dX10_draw_80 ?_
  refine lv_iconst (v := 4) hx hb dX10_draw_83 (by decide) ?_
  refine lv_iadd hx hb dX10_draw_84 ?_
  refine lv_topi (fun x17 ex17 => ?_)
  replace h := lt_at ex17 h
  refine va_put (D := D) (ci := 10) (v := .int x17) (ty := .int) (C := RX10) (T := TX10) (N := 16) hx hb hts hi_X10 tyX10 tyX10_ok nmX10 hown hK.1 hP hD hS 0 rfl rfl 3 (by decide) hf_58 (fun _ h9 => h9) rfl (by decide +kernel) rfl rfl (Nat.le_of_ble_eq_true rfl) dX10_draw_85 (fun H locs hP hD hS => ?_)
  replace hP : va_P D vwCl [(q_, .inr (10, [.int s_w, .int s_h, .int s_leads, .int x17, .ref q_ax, .ref q_ay, .ref q_bx, .ref q_by, .int s_joints, .ref q_x, .ref q_y, .ref q_d, .int s_pieces, .ref q_from, .ref q_to, .ref q_firm])), (q_ax, .inl (ky 0, 18, .inl o13)), (q_ay, .inl (ky 0, 18, .inl o14)), (q_bx, .inl (ky 0, 18, .inl o15)), (q_by, .inl (ky 0, 18, .inl o16)), (q_d, .inl (ky 1, 240, .inr (.inl s_d))), (q_firm, .inl (ky 2, 800, .inl s_firm)), (q_from, .inl (ky 0, 800, .inl s_from)), (q_to, .inl (ky 0, 800, .inl s_to)), (q_x, .inl (ky 1, 240, .inr (.inl s_x))), (q_y, .inl (ky 1, 240, .inr (.inl s_y)))] H := hP
  replace hD : va_D A [(q_, .inr (10, [.int s_w, .int s_h, .int s_leads, .int x17, .ref q_ax, .ref q_ay, .ref q_bx, .ref q_by, .int s_joints, .ref q_x, .ref q_y, .ref q_d, .int s_pieces, .ref q_from, .ref q_to, .ref q_firm])), (q_ax, .inl (ky 0, 18, .inl o13)), (q_ay, .inl (ky 0, 18, .inl o14)), (q_bx, .inl (ky 0, 18, .inl o15)), (q_by, .inl (ky 0, 18, .inl o16)), (q_d, .inl (ky 1, 240, .inr (.inl s_d))), (q_firm, .inl (ky 2, 800, .inl s_firm)), (q_from, .inl (ky 0, 800, .inl s_from)), (q_to, .inl (ky 0, 800, .inl s_to)), (q_x, .inl (ky 1, 240, .inr (.inl s_x))), (q_y, .inl (ky 1, 240, .inr (.inl s_y)))] := hD
  refine lv_aload_n hx hb dX10_draw_88 rfl (lv_at hl 0 rfl) ?_
  refine lv_iconst (v := 0) hx hb dX10_draw_89 (by decide) ?_
  refine va_put (D := D) (ci := 10) (v := .int (0 : Int32)) (ty := .int) (C := RX10) (T := TX10) (N := 16) hx hb hts hi_X10 tyX10 tyX10_ok nmX10 hown hK.1 hP hD hS 0 rfl rfl 8 (by decide) hf_61 (fun _ h9 => h9) rfl (by decide +kernel) rfl rfl (Nat.le_of_ble_eq_true rfl) dX10_draw_90 (fun H locs hP hD hS => ?_)
  replace hP : va_P D vwCl [(q_, .inr (10, [.int s_w, .int s_h, .int s_leads, .int x17, .ref q_ax, .ref q_ay, .ref q_bx, .ref q_by, .int (0 : Int32), .ref q_x, .ref q_y, .ref q_d, .int s_pieces, .ref q_from, .ref q_to, .ref q_firm])), (q_ax, .inl (ky 0, 18, .inl o13)), (q_ay, .inl (ky 0, 18, .inl o14)), (q_bx, .inl (ky 0, 18, .inl o15)), (q_by, .inl (ky 0, 18, .inl o16)), (q_d, .inl (ky 1, 240, .inr (.inl s_d))), (q_firm, .inl (ky 2, 800, .inl s_firm)), (q_from, .inl (ky 0, 800, .inl s_from)), (q_to, .inl (ky 0, 800, .inl s_to)), (q_x, .inl (ky 1, 240, .inr (.inl s_x))), (q_y, .inl (ky 1, 240, .inr (.inl s_y)))] H := hP
  replace hD : va_D A [(q_, .inr (10, [.int s_w, .int s_h, .int s_leads, .int x17, .ref q_ax, .ref q_ay, .ref q_bx, .ref q_by, .int (0 : Int32), .ref q_x, .ref q_y, .ref q_d, .int s_pieces, .ref q_from, .ref q_to, .ref q_firm])), (q_ax, .inl (ky 0, 18, .inl o13)), (q_ay, .inl (ky 0, 18, .inl o14)), (q_bx, .inl (ky 0, 18, .inl o15)), (q_by, .inl (ky 0, 18, .inl o16)), (q_d, .inl (ky 1, 240, .inr (.inl s_d))), (q_firm, .inl (ky 2, 800, .inl s_firm)), (q_from, .inl (ky 0, 800, .inl s_from)), (q_to, .inl (ky 0, 800, .inl s_to)), (q_x, .inl (ky 1, 240, .inr (.inl s_x))), (q_y, .inl (ky 1, 240, .inr (.inl s_y)))] := hD
  refine lv_iconst (v := 0) hx hb dX10_draw_93 (by decide) ?_
  refine lv_istore_n (lv' := [(1, .int (0 : Int32)), (0, .ref q_)]) hx hb dX10_draw_94 rfl hl (by decide) rfl (fun ls hl => ?_)
  obtain ⟨⟨k, t⟩, hi, h⟩ := ob_of h
  refine iter_rule (P := fun (k : Nat) (t : Int32 × Int32 × (Nat → Int64) × (Nat → Int64) × (Nat → Int64)) => ∀ (H : Heap) (locs : List Loc) (ls : Array Slot), va_P D vwCl [(q_, .inr (10, [.int s_w, .int s_h, .int s_leads, .int x17, .ref q_ax, .ref q_ay, .ref q_bx, .ref q_by, .int t.2.1, .ref q_x, .ref q_y, .ref q_d, .int s_pieces, .ref q_from, .ref q_to, .ref q_firm])), (q_ax, .inl (ky 0, 18, .inl o13)), (q_ay, .inl (ky 0, 18, .inl o14)), (q_bx, .inl (ky 0, 18, .inl o15)), (q_by, .inl (ky 0, 18, .inl o16)), (q_d, .inl (ky 1, 240, .inr (.inl t.2.2.1))), (q_firm, .inl (ky 2, 800, .inl s_firm)), (q_from, .inl (ky 0, 800, .inl s_from)), (q_to, .inl (ky 0, 800, .inl s_to)), (q_x, .inl (ky 1, 240, .inr (.inl t.2.2.2.1))), (q_y, .inl (ky 1, 240, .inr (.inl t.2.2.2.2)))] H → va_D A [(q_, .inr (10, [.int s_w, .int s_h, .int s_leads, .int x17, .ref q_ax, .ref q_ay, .ref q_bx, .ref q_by, .int t.2.1, .ref q_x, .ref q_y, .ref q_d, .int s_pieces, .ref q_from, .ref q_to, .ref q_firm])), (q_ax, .inl (ky 0, 18, .inl o13)), (q_ay, .inl (ky 0, 18, .inl o14)), (q_bx, .inl (ky 0, 18, .inl o15)), (q_by, .inl (ky 0, 18, .inl o16)), (q_d, .inl (ky 1, 240, .inr (.inl t.2.2.1))), (q_firm, .inl (ky 2, 800, .inl s_firm)), (q_from, .inl (ky 0, 800, .inl s_from)), (q_to, .inl (ky 0, 800, .inl s_to)), (q_x, .inl (ky 1, 240, .inr (.inl t.2.2.2.1))), (q_y, .inl (ky 1, 240, .inr (.inl t.2.2.2.2)))] → va_S A s.heap H locs → lv_has ls 3 [(0, .ref q_), (1, .int t.1)] → W p l e rmX10_draw s m args below meth c H locs 0 0 Q (F0 m ([95, 166].getD k 0) ls [])) ?_ _ _ _ _ hi ?_ H locs ls hP hD hS (lv_sub hl [1, 0] rfl)
  · clear h hi hP hD hS hl
    intro t k t' h K
    obtain ⟨v18, v19, v20, v21, v22⟩ := t
    intro H locs ls hP hD hS hl
    replace h := dm5_of h
    replace hP : va_P D vwCl [(q_, .inr (10, [.int s_w, .int s_h, .int s_leads, .int x17, .ref q_ax, .ref q_ay, .ref q_bx, .ref q_by, .int v19, .ref q_x, .ref q_y, .ref q_d, .int s_pieces, .ref q_from, .ref q_to, .ref q_firm])), (q_ax, .inl (ky 0, 18, .inl o13)), (q_ay, .inl (ky 0, 18, .inl o14)), (q_bx, .inl (ky 0, 18, .inl o15)), (q_by, .inl (ky 0, 18, .inl o16)), (q_d, .inl (ky 1, 240, .inr (.inl v20))), (q_firm, .inl (ky 2, 800, .inl s_firm)), (q_from, .inl (ky 0, 800, .inl s_from)), (q_to, .inl (ky 0, 800, .inl s_to)), (q_x, .inl (ky 1, 240, .inr (.inl v21))), (q_y, .inl (ky 1, 240, .inr (.inl v22)))] H := hP
    replace hD : va_D A [(q_, .inr (10, [.int s_w, .int s_h, .int s_leads, .int x17, .ref q_ax, .ref q_ay, .ref q_bx, .ref q_by, .int v19, .ref q_x, .ref q_y, .ref q_d, .int s_pieces, .ref q_from, .ref q_to, .ref q_firm])), (q_ax, .inl (ky 0, 18, .inl o13)), (q_ay, .inl (ky 0, 18, .inl o14)), (q_bx, .inl (ky 0, 18, .inl o15)), (q_by, .inl (ky 0, 18, .inl o16)), (q_d, .inl (ky 1, 240, .inr (.inl v20))), (q_firm, .inl (ky 2, 800, .inl s_firm)), (q_from, .inl (ky 0, 800, .inl s_from)), (q_to, .inl (ky 0, 800, .inl s_to)), (q_x, .inl (ky 1, 240, .inr (.inl v21))), (q_y, .inl (ky 1, 240, .inr (.inl v22)))] := hD
    replace hl : lv_has ls 3 [(0, .ref q_), (1, .int v18)] := hl
    refine lv_iload_n hx hb dX10_draw_95 rfl (lv_at hl 1 rfl) ?_
    refine lv_aload_n hx hb dX10_draw_96 rfl (lv_at hl 0 rfl) ?_
    refine va_get (D := D) (ci := 10) (v := .int x17) (C := RX10) (T := TX10) (N := 16) hx hb hts hi_X10 hown hK.1 hP 0 rfl rfl 3 (by decide) hf_58 (fun _ h9 => h9) rfl dX10_draw_97 ?_
    refine lv_icmp_ge (tgt := 166) hx hb dX10_draw_100 (by decide) (fun hc => ?_) (fun hc => ?_)
    · replace h := if_t hc h
      cases h
      exact K _ _ _ hP hD hS (lv_sub hl [0, 1] rfl)
    · replace h := if_f hc h
      refine lv_aload_n hx hb dX10_draw_103 rfl (lv_at hl 0 rfl) ?_
      refine lv_aload_n hx hb dX10_draw_104 rfl (lv_at hl 0 rfl) ?_
      refine va_get (D := D) (ci := 10) (v := .ref q_ax) (C := RX10) (T := TX10) (N := 16) hx hb hts hi_X10 hown hK.1 hP 0 rfl rfl 4 (by decide) hf_9 (fun _ h9 => h9) rfl dX10_draw_105 ?_
      refine lv_iload_n hx hb dX10_draw_108 rfl (lv_at hl 1 rfl) ?_
      obtain ⟨hg, h⟩ := gd_of h
      refine va_iald hx hb hK.1 hP 1 0 rfl rfl hg dX10_draw_109 ?_
      refine lv_i2l (v := (o13 v18.toNatClampNeg).toInt64) hx hb dX10_draw_110 rfl ?_
      refine lv_aload_n hx hb dX10_draw_111 rfl (lv_at hl 0 rfl) ?_
      refine va_get (D := D) (ci := 10) (v := .ref q_ay) (C := RX10) (T := TX10) (N := 16) hx hb hts hi_X10 hown hK.1 hP 0 rfl rfl 5 (by decide) hf_15 (fun _ h9 => h9) rfl dX10_draw_112 ?_
      refine lv_iload_n hx hb dX10_draw_115 rfl (lv_at hl 1 rfl) ?_
      obtain ⟨hg, h⟩ := gd_of h
      refine va_iald hx hb hK.1 hP 2 0 rfl rfl hg dX10_draw_116 ?_
      refine lv_i2l (v := (o14 v18.toNatClampNeg).toInt64) hx hb dX10_draw_117 rfl ?_
      refine lv_lconst (v := 1) hx hb dX10_draw_118 (by decide) ?_
      obtain ⟨⟨o23, o24, o25, o26⟩, hc, h⟩ := ob_of h
      replace h := dm4_of h
      refine cv_v (As := [.long ((o13 v18.toNatClampNeg).toInt64), .long ((o14 v18.toNatClampNeg).toInt64), .long (1 : Int64)]) (rest := []) (wr := [(q_ax, .inl (ky 0, 18, .inl o13)), (q_ay, .inl (ky 0, 18, .inl o14)), (q_bx, .inl (ky 0, 18, .inl o15)), (q_by, .inl (ky 0, 18, .inl o16)), (q_firm, .inl (ky 2, 800, .inl s_firm)), (q_from, .inl (ky 0, 800, .inl s_from)), (q_to, .inl (ky 0, 800, .inl s_to))]) (wn := [(q_, .inr (10, [.int s_w, .int s_h, .int s_leads, .int x17, .ref q_ax, .ref q_ay, .ref q_bx, .ref q_by, .int o23, .ref q_x, .ref q_y, .ref q_d, .int s_pieces, .ref q_from, .ref q_to, .ref q_firm])), (q_ax, .inl (ky 0, 18, .inl o13)), (q_ay, .inl (ky 0, 18, .inl o14)), (q_bx, .inl (ky 0, 18, .inl o15)), (q_by, .inl (ky 0, 18, .inl o16)), (q_d, .inl (ky 1, 240, .inr (.inl o24))), (q_firm, .inl (ky 2, 800, .inl s_firm)), (q_from, .inl (ky 0, 800, .inl s_from)), (q_to, .inl (ky 0, 800, .inl s_to)), (q_x, .inl (ky 1, 240, .inr (.inl o25))), (q_y, .inl (ky 1, 240, .inr (.inl o26)))]) ⟨hx, hb, hml, hown, hts⟩ (c_X10_joint l D ky q_ q_ax q_ay q_bx q_by q_x q_y q_d q_from q_to q_firm ((o13 v18.toNatClampNeg).toInt64) ((o14 v18.toNatClampNeg).toInt64) (1 : Int64) s_w s_h s_leads x17 v19 s_pieces v20 v21 v22 hc) (cwV 3 hts gX10_draw_X10_joint rfl rfl rfl (by decide +kernel) ⟨Nat.le_of_ble_eq_true rfl, Nat.le_of_ble_eq_true rfl⟩) (rcv hK.1 hP (q0 := 0) rfl rfl) hP hD hK hS hA [0, 5, 9, 10] [1, 2, 3, 4, 6, 7, 8] [7, 0, 1, 2, 3, 8, 4, 5, 6, 9, 10] rfl (by decide +kernel) rfl (by decide +kernel) (by decide +kernel) (by decide +kernel) rfl rfl rfl hl.1 (Nat.le_of_ble_eq_true rfl) dX10_draw_119 ⟨Nat.le_of_ble_eq_true rfl, Nat.le_of_ble_eq_true rfl⟩ (fun H locs hP hD hS => ?_)
      refine lv_aload_n hx hb dX10_draw_122 rfl (lv_at hl 0 rfl) ?_
      refine lv_aload_n hx hb dX10_draw_123 rfl (lv_at hl 0 rfl) ?_
      refine va_get (D := D) (ci := 10) (v := .ref q_bx) (C := RX10) (T := TX10) (N := 16) hx hb hts hi_X10 hown hK.1 hP 0 rfl rfl 6 (by decide) hf_18 (fun _ h9 => h9) rfl dX10_draw_124 ?_
      refine lv_iload_n hx hb dX10_draw_127 rfl (lv_at hl 1 rfl) ?_
      obtain ⟨hg, h⟩ := gd_of h
      refine va_iald hx hb hK.1 hP 3 0 rfl rfl hg dX10_draw_128 ?_
      refine lv_i2l (v := (o15 v18.toNatClampNeg).toInt64) hx hb dX10_draw_129 rfl ?_
      refine lv_aload_n hx hb dX10_draw_130 rfl (lv_at hl 0 rfl) ?_
      refine va_get (D := D) (ci := 10) (v := .ref q_by) (C := RX10) (T := TX10) (N := 16) hx hb hts hi_X10 hown hK.1 hP 0 rfl rfl 7 (by decide) hf_21 (fun _ h9 => h9) rfl dX10_draw_131 ?_
      refine lv_iload_n hx hb dX10_draw_134 rfl (lv_at hl 1 rfl) ?_
      obtain ⟨hg, h⟩ := gd_of h
      refine va_iald hx hb hK.1 hP 4 0 rfl rfl hg dX10_draw_135 ?_
      refine lv_i2l (v := (o16 v18.toNatClampNeg).toInt64) hx hb dX10_draw_136 rfl ?_
      refine lv_lconst (v := 1) hx hb dX10_draw_137 (by decide) ?_
      obtain ⟨⟨o27, o28, o29, o30⟩, hc, h⟩ := ob_of h
      replace h := dm4_of h
      refine cv_v (As := [.long ((o15 v18.toNatClampNeg).toInt64), .long ((o16 v18.toNatClampNeg).toInt64), .long (1 : Int64)]) (rest := []) (wr := [(q_ax, .inl (ky 0, 18, .inl o13)), (q_ay, .inl (ky 0, 18, .inl o14)), (q_bx, .inl (ky 0, 18, .inl o15)), (q_by, .inl (ky 0, 18, .inl o16)), (q_firm, .inl (ky 2, 800, .inl s_firm)), (q_from, .inl (ky 0, 800, .inl s_from)), (q_to, .inl (ky 0, 800, .inl s_to))]) (wn := [(q_, .inr (10, [.int s_w, .int s_h, .int s_leads, .int x17, .ref q_ax, .ref q_ay, .ref q_bx, .ref q_by, .int o27, .ref q_x, .ref q_y, .ref q_d, .int s_pieces, .ref q_from, .ref q_to, .ref q_firm])), (q_ax, .inl (ky 0, 18, .inl o13)), (q_ay, .inl (ky 0, 18, .inl o14)), (q_bx, .inl (ky 0, 18, .inl o15)), (q_by, .inl (ky 0, 18, .inl o16)), (q_d, .inl (ky 1, 240, .inr (.inl o28))), (q_firm, .inl (ky 2, 800, .inl s_firm)), (q_from, .inl (ky 0, 800, .inl s_from)), (q_to, .inl (ky 0, 800, .inl s_to)), (q_x, .inl (ky 1, 240, .inr (.inl o29))), (q_y, .inl (ky 1, 240, .inr (.inl o30)))]) ⟨hx, hb, hml, hown, hts⟩ (c_X10_joint l D ky q_ q_ax q_ay q_bx q_by q_x q_y q_d q_from q_to q_firm ((o15 v18.toNatClampNeg).toInt64) ((o16 v18.toNatClampNeg).toInt64) (1 : Int64) s_w s_h s_leads x17 o23 s_pieces o24 o25 o26 hc) (cwV 3 hts gX10_draw_X10_joint rfl rfl rfl (by decide +kernel) ⟨Nat.le_of_ble_eq_true rfl, Nat.le_of_ble_eq_true rfl⟩) (rcv hK.1 hP (q0 := 0) rfl rfl) hP hD hK hS hA [0, 5, 9, 10] [1, 2, 3, 4, 6, 7, 8] [7, 0, 1, 2, 3, 8, 4, 5, 6, 9, 10] rfl (by decide +kernel) rfl (by decide +kernel) (by decide +kernel) (by decide +kernel) rfl rfl rfl hl.1 (Nat.le_of_ble_eq_true rfl) dX10_draw_138 ⟨Nat.le_of_ble_eq_true rfl, Nat.le_of_ble_eq_true rfl⟩ (fun H locs hP hD hS => ?_)
      refine lv_iconst (v := 0) hx hb dX10_draw_141 (by decide) ?_
      refine lv_istore_n (lv' := [(2, .int (0 : Int32)), (0, .ref q_), (1, .int v18)]) hx hb dX10_draw_142 rfl hl (by decide) rfl (fun ls hl => ?_)
      obtain ⟨⟨k, t⟩, hi, h⟩ := ob_of h
      refine iter_rule (P := fun (k : Nat) (t : Int32 × Int32 × (Nat → Int64) × (Nat → Int64) × (Nat → Int64)) => ∀ (H : Heap) (locs : List Loc) (ls : Array Slot), va_P D vwCl [(q_, .inr (10, [.int s_w, .int s_h, .int s_leads, .int x17, .ref q_ax, .ref q_ay, .ref q_bx, .ref q_by, .int t.2.1, .ref q_x, .ref q_y, .ref q_d, .int s_pieces, .ref q_from, .ref q_to, .ref q_firm])), (q_ax, .inl (ky 0, 18, .inl o13)), (q_ay, .inl (ky 0, 18, .inl o14)), (q_bx, .inl (ky 0, 18, .inl o15)), (q_by, .inl (ky 0, 18, .inl o16)), (q_d, .inl (ky 1, 240, .inr (.inl t.2.2.1))), (q_firm, .inl (ky 2, 800, .inl s_firm)), (q_from, .inl (ky 0, 800, .inl s_from)), (q_to, .inl (ky 0, 800, .inl s_to)), (q_x, .inl (ky 1, 240, .inr (.inl t.2.2.2.1))), (q_y, .inl (ky 1, 240, .inr (.inl t.2.2.2.2)))] H → va_D A [(q_, .inr (10, [.int s_w, .int s_h, .int s_leads, .int x17, .ref q_ax, .ref q_ay, .ref q_bx, .ref q_by, .int t.2.1, .ref q_x, .ref q_y, .ref q_d, .int s_pieces, .ref q_from, .ref q_to, .ref q_firm])), (q_ax, .inl (ky 0, 18, .inl o13)), (q_ay, .inl (ky 0, 18, .inl o14)), (q_bx, .inl (ky 0, 18, .inl o15)), (q_by, .inl (ky 0, 18, .inl o16)), (q_d, .inl (ky 1, 240, .inr (.inl t.2.2.1))), (q_firm, .inl (ky 2, 800, .inl s_firm)), (q_from, .inl (ky 0, 800, .inl s_from)), (q_to, .inl (ky 0, 800, .inl s_to)), (q_x, .inl (ky 1, 240, .inr (.inl t.2.2.2.1))), (q_y, .inl (ky 1, 240, .inr (.inl t.2.2.2.2)))] → va_S A s.heap H locs → lv_has ls 3 [(0, .ref q_), (1, .int v18), (2, .int t.1)] → W p l e rmX10_draw s m args below meth c H locs 0 0 Q (F0 m ([143, 160].getD k 0) ls [])) ?_ _ _ _ _ hi ?_ H locs ls hP hD hS (lv_sub hl [1, 2, 0] rfl)
      · clear h hi hP hD hS hl
        intro t k t' h K
        obtain ⟨v31, v32, v33, v34, v35⟩ := t
        intro H locs ls hP hD hS hl
        replace h := dm5_of h
        replace hP : va_P D vwCl [(q_, .inr (10, [.int s_w, .int s_h, .int s_leads, .int x17, .ref q_ax, .ref q_ay, .ref q_bx, .ref q_by, .int v32, .ref q_x, .ref q_y, .ref q_d, .int s_pieces, .ref q_from, .ref q_to, .ref q_firm])), (q_ax, .inl (ky 0, 18, .inl o13)), (q_ay, .inl (ky 0, 18, .inl o14)), (q_bx, .inl (ky 0, 18, .inl o15)), (q_by, .inl (ky 0, 18, .inl o16)), (q_d, .inl (ky 1, 240, .inr (.inl v33))), (q_firm, .inl (ky 2, 800, .inl s_firm)), (q_from, .inl (ky 0, 800, .inl s_from)), (q_to, .inl (ky 0, 800, .inl s_to)), (q_x, .inl (ky 1, 240, .inr (.inl v34))), (q_y, .inl (ky 1, 240, .inr (.inl v35)))] H := hP
        replace hD : va_D A [(q_, .inr (10, [.int s_w, .int s_h, .int s_leads, .int x17, .ref q_ax, .ref q_ay, .ref q_bx, .ref q_by, .int v32, .ref q_x, .ref q_y, .ref q_d, .int s_pieces, .ref q_from, .ref q_to, .ref q_firm])), (q_ax, .inl (ky 0, 18, .inl o13)), (q_ay, .inl (ky 0, 18, .inl o14)), (q_bx, .inl (ky 0, 18, .inl o15)), (q_by, .inl (ky 0, 18, .inl o16)), (q_d, .inl (ky 1, 240, .inr (.inl v33))), (q_firm, .inl (ky 2, 800, .inl s_firm)), (q_from, .inl (ky 0, 800, .inl s_from)), (q_to, .inl (ky 0, 800, .inl s_to)), (q_x, .inl (ky 1, 240, .inr (.inl v34))), (q_y, .inl (ky 1, 240, .inr (.inl v35)))] := hD
        replace hl : lv_has ls 3 [(0, .ref q_), (1, .int v18), (2, .int v31)] := hl
        refine lv_iload_n hx hb dX10_draw_143 rfl (lv_at hl 2 rfl) ?_
        refine lv_iload_n hx hb dX10_draw_144 rfl (lv_at hl 1 rfl) ?_
        refine lv_icmp_ge (tgt := 160) hx hb dX10_draw_145 (by decide) (fun hc => ?_) (fun hc => ?_)
        · replace h := if_t hc h
          cases h
          exact K _ _ _ hP hD hS (lv_sub hl [0, 1, 2] rfl)
        · replace h := if_f hc h
          refine lv_aload_n hx hb dX10_draw_148 rfl (lv_at hl 0 rfl) ?_
          refine lv_iload_n hx hb dX10_draw_149 rfl (lv_at hl 2 rfl) ?_
          refine lv_iload_n hx hb dX10_draw_150 rfl (lv_at hl 1 rfl) ?_
          obtain ⟨⟨o36, o37, o38, o39⟩, hc, h⟩ := ob_of h
          replace h := dm4_of h
          refine cv_v (As := [.int v31, .int v18]) (rest := []) (wr := [(q_firm, .inl (ky 2, 800, .inl s_firm)), (q_from, .inl (ky 0, 800, .inl s_from)), (q_to, .inl (ky 0, 800, .inl s_to))]) (wn := [(q_, .inr (10, [.int s_w, .int s_h, .int s_leads, .int x17, .ref q_ax, .ref q_ay, .ref q_bx, .ref q_by, .int o36, .ref q_x, .ref q_y, .ref q_d, .int s_pieces, .ref q_from, .ref q_to, .ref q_firm])), (q_ax, .inl (ky 0, 18, .inl o13)), (q_ay, .inl (ky 0, 18, .inl o14)), (q_bx, .inl (ky 0, 18, .inl o15)), (q_by, .inl (ky 0, 18, .inl o16)), (q_d, .inl (ky 1, 240, .inr (.inl o37))), (q_firm, .inl (ky 2, 800, .inl s_firm)), (q_from, .inl (ky 0, 800, .inl s_from)), (q_to, .inl (ky 0, 800, .inl s_to)), (q_x, .inl (ky 1, 240, .inr (.inl o38))), (q_y, .inl (ky 1, 240, .inr (.inl o39)))]) ⟨hx, hb, hml, hown, hts⟩ (c_X10_cross l D ky q_ q_ax q_ay q_bx q_by q_x q_y q_d q_from q_to q_firm v31 v18 s_w s_h s_leads x17 v32 s_pieces o13 o14 o15 o16 v33 v34 v35 hc) (cwV 2 hts gX10_draw_X10_cross rfl rfl rfl (by decide +kernel) ⟨Nat.le_of_ble_eq_true rfl, Nat.le_of_ble_eq_true rfl⟩) (rcv hK.1 hP (q0 := 0) rfl rfl) hP hD hK hS hA [0, 1, 2, 3, 4, 5, 9, 10] [6, 7, 8] [3, 4, 5, 6, 7, 8, 0, 1, 2, 9, 10] rfl (by decide +kernel) rfl (by decide +kernel) (by decide +kernel) (by decide +kernel) rfl rfl rfl hl.1 (Nat.le_of_ble_eq_true rfl) dX10_draw_151 ⟨Nat.le_of_ble_eq_true rfl, Nat.le_of_ble_eq_true rfl⟩ (fun H locs hP hD hS => ?_)
          obtain ⟨x40, ex40⟩ : ∃ z : Int32, z = v31 + 1 := ⟨_, rfl⟩
          replace h := lt_at ex40 h
          refine lv_iinc (v := x40) (lv' := [(2, .int x40), (0, .ref q_), (1, .int v18)]) hx hb dX10_draw_154 hl (k := 2) rfl (by rw [ex40]; rfl) (by decide) rfl (fun ls hl => ?_)
          refine lv_goto (tgt := 143) hx hb dX10_draw_157 (by decide) ?_
          cases h
          exact K _ _ _ hP hD hS (lv_sub hl [1, 2, 0] rfl)
      · have h1 := ex1_of h
        clear h hi
        rcases h1 with ⟨rfl, h⟩
        obtain ⟨v41, v42, v43, v44, v45⟩ := t
        replace h := dm5_of h
        intro H locs ls hP hD hS hl
        replace hP : va_P D vwCl [(q_, .inr (10, [.int s_w, .int s_h, .int s_leads, .int x17, .ref q_ax, .ref q_ay, .ref q_bx, .ref q_by, .int v42, .ref q_x, .ref q_y, .ref q_d, .int s_pieces, .ref q_from, .ref q_to, .ref q_firm])), (q_ax, .inl (ky 0, 18, .inl o13)), (q_ay, .inl (ky 0, 18, .inl o14)), (q_bx, .inl (ky 0, 18, .inl o15)), (q_by, .inl (ky 0, 18, .inl o16)), (q_d, .inl (ky 1, 240, .inr (.inl v43))), (q_firm, .inl (ky 2, 800, .inl s_firm)), (q_from, .inl (ky 0, 800, .inl s_from)), (q_to, .inl (ky 0, 800, .inl s_to)), (q_x, .inl (ky 1, 240, .inr (.inl v44))), (q_y, .inl (ky 1, 240, .inr (.inl v45)))] H := hP
        replace hD : va_D A [(q_, .inr (10, [.int s_w, .int s_h, .int s_leads, .int x17, .ref q_ax, .ref q_ay, .ref q_bx, .ref q_by, .int v42, .ref q_x, .ref q_y, .ref q_d, .int s_pieces, .ref q_from, .ref q_to, .ref q_firm])), (q_ax, .inl (ky 0, 18, .inl o13)), (q_ay, .inl (ky 0, 18, .inl o14)), (q_bx, .inl (ky 0, 18, .inl o15)), (q_by, .inl (ky 0, 18, .inl o16)), (q_d, .inl (ky 1, 240, .inr (.inl v43))), (q_firm, .inl (ky 2, 800, .inl s_firm)), (q_from, .inl (ky 0, 800, .inl s_from)), (q_to, .inl (ky 0, 800, .inl s_to)), (q_x, .inl (ky 1, 240, .inr (.inl v44))), (q_y, .inl (ky 1, 240, .inr (.inl v45)))] := hD
        replace hl : lv_has ls 3 [(0, .ref q_), (1, .int v18), (2, .int v41)] := hl
        refine W.eq (g2 := F0 m 160 ls []) rfl ?_
        obtain ⟨x46, ex46⟩ : ∃ z : Int32, z = v18 + 1 := ⟨_, rfl⟩
        replace h := lt_at ex46 h
        refine lv_iinc (v := x46) (lv' := [(1, .int x46), (0, .ref q_), (2, .int v41)]) hx hb dX10_draw_160 hl (k := 1) rfl (by rw [ex46]; rfl) (by decide) rfl (fun ls hl => ?_)
        refine lv_goto (tgt := 95) hx hb dX10_draw_163 (by decide) ?_
        cases h
        exact K _ _ _ hP hD hS (lv_sub hl [1, 0] rfl)
  · have h1 := ex1_of h
    clear h hi
    rcases h1 with ⟨rfl, h⟩
    obtain ⟨v47, v48, v49, v50, v51⟩ := t
    replace h := dm5_of h
    intro H locs ls hP hD hS hl
    replace hP : va_P D vwCl [(q_, .inr (10, [.int s_w, .int s_h, .int s_leads, .int x17, .ref q_ax, .ref q_ay, .ref q_bx, .ref q_by, .int v48, .ref q_x, .ref q_y, .ref q_d, .int s_pieces, .ref q_from, .ref q_to, .ref q_firm])), (q_ax, .inl (ky 0, 18, .inl o13)), (q_ay, .inl (ky 0, 18, .inl o14)), (q_bx, .inl (ky 0, 18, .inl o15)), (q_by, .inl (ky 0, 18, .inl o16)), (q_d, .inl (ky 1, 240, .inr (.inl v49))), (q_firm, .inl (ky 2, 800, .inl s_firm)), (q_from, .inl (ky 0, 800, .inl s_from)), (q_to, .inl (ky 0, 800, .inl s_to)), (q_x, .inl (ky 1, 240, .inr (.inl v50))), (q_y, .inl (ky 1, 240, .inr (.inl v51)))] H := hP
    replace hD : va_D A [(q_, .inr (10, [.int s_w, .int s_h, .int s_leads, .int x17, .ref q_ax, .ref q_ay, .ref q_bx, .ref q_by, .int v48, .ref q_x, .ref q_y, .ref q_d, .int s_pieces, .ref q_from, .ref q_to, .ref q_firm])), (q_ax, .inl (ky 0, 18, .inl o13)), (q_ay, .inl (ky 0, 18, .inl o14)), (q_bx, .inl (ky 0, 18, .inl o15)), (q_by, .inl (ky 0, 18, .inl o16)), (q_d, .inl (ky 1, 240, .inr (.inl v49))), (q_firm, .inl (ky 2, 800, .inl s_firm)), (q_from, .inl (ky 0, 800, .inl s_from)), (q_to, .inl (ky 0, 800, .inl s_to)), (q_x, .inl (ky 1, 240, .inr (.inl v50))), (q_y, .inl (ky 1, 240, .inr (.inl v51)))] := hD
    replace hl : lv_has ls 3 [(0, .ref q_), (1, .int v47)] := hl
    refine W.eq (g2 := F0 m 166 ls []) rfl ?_
    refine lv_aload_n hx hb dX10_draw_166 rfl (lv_at hl 0 rfl) ?_
    refine lv_iconst (v := 0) hx hb dX10_draw_167 (by decide) ?_
    refine va_put (D := D) (ci := 10) (v := .int (0 : Int32)) (ty := .int) (C := RX10) (T := TX10) (N := 16) hx hb hts hi_X10 tyX10 tyX10_ok nmX10 hown hK.1 hP hD hS 0 rfl rfl 12 (by decide) hf_72 (fun _ h9 => h9) rfl (by decide +kernel) rfl rfl (Nat.le_of_ble_eq_true rfl) dX10_draw_168 (fun H locs hP hD hS => ?_)
    replace hP : va_P D vwCl [(q_, .inr (10, [.int s_w, .int s_h, .int s_leads, .int x17, .ref q_ax, .ref q_ay, .ref q_bx, .ref q_by, .int v48, .ref q_x, .ref q_y, .ref q_d, .int (0 : Int32), .ref q_from, .ref q_to, .ref q_firm])), (q_ax, .inl (ky 0, 18, .inl o13)), (q_ay, .inl (ky 0, 18, .inl o14)), (q_bx, .inl (ky 0, 18, .inl o15)), (q_by, .inl (ky 0, 18, .inl o16)), (q_d, .inl (ky 1, 240, .inr (.inl v49))), (q_firm, .inl (ky 2, 800, .inl s_firm)), (q_from, .inl (ky 0, 800, .inl s_from)), (q_to, .inl (ky 0, 800, .inl s_to)), (q_x, .inl (ky 1, 240, .inr (.inl v50))), (q_y, .inl (ky 1, 240, .inr (.inl v51)))] H := hP
    replace hD : va_D A [(q_, .inr (10, [.int s_w, .int s_h, .int s_leads, .int x17, .ref q_ax, .ref q_ay, .ref q_bx, .ref q_by, .int v48, .ref q_x, .ref q_y, .ref q_d, .int (0 : Int32), .ref q_from, .ref q_to, .ref q_firm])), (q_ax, .inl (ky 0, 18, .inl o13)), (q_ay, .inl (ky 0, 18, .inl o14)), (q_bx, .inl (ky 0, 18, .inl o15)), (q_by, .inl (ky 0, 18, .inl o16)), (q_d, .inl (ky 1, 240, .inr (.inl v49))), (q_firm, .inl (ky 2, 800, .inl s_firm)), (q_from, .inl (ky 0, 800, .inl s_from)), (q_to, .inl (ky 0, 800, .inl s_to)), (q_x, .inl (ky 1, 240, .inr (.inl v50))), (q_y, .inl (ky 1, 240, .inr (.inl v51)))] := hD
    refine lv_iconst (v := 0) hx hb dX10_draw_171 (by decide) ?_
    refine lv_istore_n (lv' := [(1, .int (0 : Int32)), (0, .ref q_)]) hx hb dX10_draw_172 rfl hl (by decide) rfl (fun ls hl => ?_)
    obtain ⟨⟨k, t⟩, hi, h⟩ := ob_of h
    refine iter_rule (P := fun (k : Nat) (t : Int32 × Int32 × (Nat → Int32) × (Nat → Int32)) => ∀ (H : Heap) (locs : List Loc) (ls : Array Slot), va_P D vwCl [(q_, .inr (10, [.int s_w, .int s_h, .int s_leads, .int x17, .ref q_ax, .ref q_ay, .ref q_bx, .ref q_by, .int v48, .ref q_x, .ref q_y, .ref q_d, .int t.2.1, .ref q_from, .ref q_to, .ref q_firm])), (q_ax, .inl (ky 0, 18, .inl o13)), (q_ay, .inl (ky 0, 18, .inl o14)), (q_bx, .inl (ky 0, 18, .inl o15)), (q_by, .inl (ky 0, 18, .inl o16)), (q_d, .inl (ky 1, 240, .inr (.inl v49))), (q_firm, .inl (ky 2, 800, .inl s_firm)), (q_from, .inl (ky 0, 800, .inl t.2.2.1)), (q_to, .inl (ky 0, 800, .inl t.2.2.2)), (q_x, .inl (ky 1, 240, .inr (.inl v50))), (q_y, .inl (ky 1, 240, .inr (.inl v51)))] H → va_D A [(q_, .inr (10, [.int s_w, .int s_h, .int s_leads, .int x17, .ref q_ax, .ref q_ay, .ref q_bx, .ref q_by, .int v48, .ref q_x, .ref q_y, .ref q_d, .int t.2.1, .ref q_from, .ref q_to, .ref q_firm])), (q_ax, .inl (ky 0, 18, .inl o13)), (q_ay, .inl (ky 0, 18, .inl o14)), (q_bx, .inl (ky 0, 18, .inl o15)), (q_by, .inl (ky 0, 18, .inl o16)), (q_d, .inl (ky 1, 240, .inr (.inl v49))), (q_firm, .inl (ky 2, 800, .inl s_firm)), (q_from, .inl (ky 0, 800, .inl t.2.2.1)), (q_to, .inl (ky 0, 800, .inl t.2.2.2)), (q_x, .inl (ky 1, 240, .inr (.inl v50))), (q_y, .inl (ky 1, 240, .inr (.inl v51)))] → va_S A s.heap H locs → lv_has ls 3 [(0, .ref q_), (1, .int t.1)] → W p l e rmX10_draw s m args below meth c H locs 0 0 Q (F0 m ([173, 192].getD k 0) ls [])) ?_ _ _ _ _ hi ?_ H locs ls hP hD hS (lv_sub hl [1, 0] rfl)
    · clear h hi hP hD hS hl
      intro t k t' h K
      obtain ⟨v52, v53, v54, v55⟩ := t
      intro H locs ls hP hD hS hl
      replace h := dm4_of h
      replace hP : va_P D vwCl [(q_, .inr (10, [.int s_w, .int s_h, .int s_leads, .int x17, .ref q_ax, .ref q_ay, .ref q_bx, .ref q_by, .int v48, .ref q_x, .ref q_y, .ref q_d, .int v53, .ref q_from, .ref q_to, .ref q_firm])), (q_ax, .inl (ky 0, 18, .inl o13)), (q_ay, .inl (ky 0, 18, .inl o14)), (q_bx, .inl (ky 0, 18, .inl o15)), (q_by, .inl (ky 0, 18, .inl o16)), (q_d, .inl (ky 1, 240, .inr (.inl v49))), (q_firm, .inl (ky 2, 800, .inl s_firm)), (q_from, .inl (ky 0, 800, .inl v54)), (q_to, .inl (ky 0, 800, .inl v55)), (q_x, .inl (ky 1, 240, .inr (.inl v50))), (q_y, .inl (ky 1, 240, .inr (.inl v51)))] H := hP
      replace hD : va_D A [(q_, .inr (10, [.int s_w, .int s_h, .int s_leads, .int x17, .ref q_ax, .ref q_ay, .ref q_bx, .ref q_by, .int v48, .ref q_x, .ref q_y, .ref q_d, .int v53, .ref q_from, .ref q_to, .ref q_firm])), (q_ax, .inl (ky 0, 18, .inl o13)), (q_ay, .inl (ky 0, 18, .inl o14)), (q_bx, .inl (ky 0, 18, .inl o15)), (q_by, .inl (ky 0, 18, .inl o16)), (q_d, .inl (ky 1, 240, .inr (.inl v49))), (q_firm, .inl (ky 2, 800, .inl s_firm)), (q_from, .inl (ky 0, 800, .inl v54)), (q_to, .inl (ky 0, 800, .inl v55)), (q_x, .inl (ky 1, 240, .inr (.inl v50))), (q_y, .inl (ky 1, 240, .inr (.inl v51)))] := hD
      replace hl : lv_has ls 3 [(0, .ref q_), (1, .int v52)] := hl
      refine lv_iload_n hx hb dX10_draw_173 rfl (lv_at hl 1 rfl) ?_
      refine lv_aload_n hx hb dX10_draw_174 rfl (lv_at hl 0 rfl) ?_
      refine va_get (D := D) (ci := 10) (v := .int x17) (C := RX10) (T := TX10) (N := 16) hx hb hts hi_X10 hown hK.1 hP 0 rfl rfl 3 (by decide) hf_58 (fun _ h9 => h9) rfl dX10_draw_175 ?_
      refine lv_icmp_ge (tgt := 192) hx hb dX10_draw_178 (by decide) (fun hc => ?_) (fun hc => ?_)
      · replace h := if_t hc h
        cases h
        exact K _ _ _ hP hD hS (lv_sub hl [0, 1] rfl)
      · replace h := if_f hc h
        refine lv_aload_n hx hb dX10_draw_181 rfl (lv_at hl 0 rfl) ?_
        refine lv_iload_n hx hb dX10_draw_182 rfl (lv_at hl 1 rfl) ?_
        obtain ⟨⟨o56, o57, o58⟩, hc, h⟩ := ob_of h
        replace h := dm3_of h
        refine cv_v (As := [.int v52]) (rest := []) (wr := [(q_firm, .inl (ky 2, 800, .inl s_firm))]) (wn := [(q_, .inr (10, [.int s_w, .int s_h, .int s_leads, .int x17, .ref q_ax, .ref q_ay, .ref q_bx, .ref q_by, .int v48, .ref q_x, .ref q_y, .ref q_d, .int o56, .ref q_from, .ref q_to, .ref q_firm])), (q_ax, .inl (ky 0, 18, .inl o13)), (q_ay, .inl (ky 0, 18, .inl o14)), (q_bx, .inl (ky 0, 18, .inl o15)), (q_by, .inl (ky 0, 18, .inl o16)), (q_d, .inl (ky 1, 240, .inr (.inl v49))), (q_firm, .inl (ky 2, 800, .inl s_firm)), (q_from, .inl (ky 0, 800, .inl o57)), (q_to, .inl (ky 0, 800, .inl o58)), (q_x, .inl (ky 1, 240, .inr (.inl v50))), (q_y, .inl (ky 1, 240, .inr (.inl v51)))]) ⟨hx, hb, hml, hown, hts⟩ (c_X10_part l D ky q_ q_ax q_ay q_bx q_by q_x q_y q_d q_from q_to q_firm v52 s_w s_h s_leads x17 v48 v53 o13 o14 o15 o16 v49 v54 v55 v50 v51 hc) (cwV 1 hts gX10_draw_X10_part rfl rfl rfl (by decide +kernel) ⟨Nat.le_of_ble_eq_true rfl, Nat.le_of_ble_eq_true rfl⟩) (rcv hK.1 hP (q0 := 0) rfl rfl) hP hD hK hS hA [0, 1, 2, 3, 4, 5, 7, 8, 9, 10] [6] [1, 2, 3, 4, 5, 6, 0, 7, 8, 9, 10] rfl (by decide +kernel) rfl (by decide +kernel) (by decide +kernel) (by decide +kernel) rfl rfl rfl hl.1 (Nat.le_of_ble_eq_true rfl) dX10_draw_183 ⟨Nat.le_of_ble_eq_true rfl, Nat.le_of_ble_eq_true rfl⟩ (fun H locs hP hD hS => ?_)
        obtain ⟨x59, ex59⟩ : ∃ z : Int32, z = v52 + 1 := ⟨_, rfl⟩
        replace h := lt_at ex59 h
        refine lv_iinc (v := x59) (lv' := [(1, .int x59), (0, .ref q_)]) hx hb dX10_draw_186 hl (k := 1) rfl (by rw [ex59]; rfl) (by decide) rfl (fun ls hl => ?_)
        refine lv_goto (tgt := 173) hx hb dX10_draw_189 (by decide) ?_
        cases h
        exact K _ _ _ hP hD hS (lv_sub hl [1, 0] rfl)
    · have h1 := ex1_of h
      clear h hi
      rcases h1 with ⟨rfl, h⟩
      obtain ⟨v60, v61, v62, v63⟩ := t
      replace h := dm4_of h
      intro H locs ls hP hD hS hl
      replace hP : va_P D vwCl [(q_, .inr (10, [.int s_w, .int s_h, .int s_leads, .int x17, .ref q_ax, .ref q_ay, .ref q_bx, .ref q_by, .int v48, .ref q_x, .ref q_y, .ref q_d, .int v61, .ref q_from, .ref q_to, .ref q_firm])), (q_ax, .inl (ky 0, 18, .inl o13)), (q_ay, .inl (ky 0, 18, .inl o14)), (q_bx, .inl (ky 0, 18, .inl o15)), (q_by, .inl (ky 0, 18, .inl o16)), (q_d, .inl (ky 1, 240, .inr (.inl v49))), (q_firm, .inl (ky 2, 800, .inl s_firm)), (q_from, .inl (ky 0, 800, .inl v62)), (q_to, .inl (ky 0, 800, .inl v63)), (q_x, .inl (ky 1, 240, .inr (.inl v50))), (q_y, .inl (ky 1, 240, .inr (.inl v51)))] H := hP
      replace hD : va_D A [(q_, .inr (10, [.int s_w, .int s_h, .int s_leads, .int x17, .ref q_ax, .ref q_ay, .ref q_bx, .ref q_by, .int v48, .ref q_x, .ref q_y, .ref q_d, .int v61, .ref q_from, .ref q_to, .ref q_firm])), (q_ax, .inl (ky 0, 18, .inl o13)), (q_ay, .inl (ky 0, 18, .inl o14)), (q_bx, .inl (ky 0, 18, .inl o15)), (q_by, .inl (ky 0, 18, .inl o16)), (q_d, .inl (ky 1, 240, .inr (.inl v49))), (q_firm, .inl (ky 2, 800, .inl s_firm)), (q_from, .inl (ky 0, 800, .inl v62)), (q_to, .inl (ky 0, 800, .inl v63)), (q_x, .inl (ky 1, 240, .inr (.inl v50))), (q_y, .inl (ky 1, 240, .inr (.inl v51)))] := hD
      replace hl : lv_has ls 3 [(0, .ref q_), (1, .int v60)] := hl
      refine W.eq (g2 := F0 m 192 ls []) rfl ?_
      refine lv_aload_n hx hb dX10_draw_192 rfl (lv_at hl 0 rfl) ?_
      obtain ⟨o64, hc, h⟩ := ob_of h
      replace h := dm1_of h
      refine cv_v (As := []) (rest := []) (wr := [(q_ax, .inl (ky 0, 18, .inl o13)), (q_ay, .inl (ky 0, 18, .inl o14)), (q_bx, .inl (ky 0, 18, .inl o15)), (q_by, .inl (ky 0, 18, .inl o16))]) (wn := [(q_, .inr (10, [.int s_w, .int s_h, .int s_leads, .int x17, .ref q_ax, .ref q_ay, .ref q_bx, .ref q_by, .int v48, .ref q_x, .ref q_y, .ref q_d, .int v61, .ref q_from, .ref q_to, .ref q_firm])), (q_ax, .inl (ky 0, 18, .inl o13)), (q_ay, .inl (ky 0, 18, .inl o14)), (q_bx, .inl (ky 0, 18, .inl o15)), (q_by, .inl (ky 0, 18, .inl o16)), (q_d, .inl (ky 1, 240, .inr (.inl v49))), (q_firm, .inl (ky 2, 800, .inl o64)), (q_from, .inl (ky 0, 800, .inl v62)), (q_to, .inl (ky 0, 800, .inl v63)), (q_x, .inl (ky 1, 240, .inr (.inl v50))), (q_y, .inl (ky 1, 240, .inr (.inl v51)))]) ⟨hx, hb, hml, hown, hts⟩ (c_X10_loosen l D ky q_ q_ax q_ay q_bx q_by q_x q_y q_d q_from q_to q_firm s_w s_h s_leads x17 v48 v61 v49 s_firm v62 v63 v50 v51 hc) (cwV 0 hts gX10_draw_X10_loosen rfl rfl rfl (by decide +kernel) ⟨Nat.le_of_ble_eq_true rfl, Nat.le_of_ble_eq_true rfl⟩) (rcv hK.1 hP (q0 := 0) rfl rfl) hP hD hK hS hA [0, 5, 6, 7, 8, 9, 10] [1, 2, 3, 4] [4, 0, 1, 2, 3, 5, 6, 7, 8, 9, 10] rfl (by decide +kernel) rfl (by decide +kernel) (by decide +kernel) (by decide +kernel) rfl rfl rfl hl.1 (Nat.le_of_ble_eq_true rfl) dX10_draw_193 ⟨Nat.le_of_ble_eq_true rfl, Nat.le_of_ble_eq_true rfl⟩ (fun H locs hP hD hS => ?_)
      refine W.widen (k := 1) (n := 240) (Nat.le_of_ble_eq_true rfl) (Nat.le_of_ble_eq_true rfl) ?_
      exact rt _ h _ _ _ _ dX10_draw_196 hP hD hS

def bX10_find_3 (a1 : Int64) (a3 : Int64) (a5 : Int64) (s_joints : Int32) (s_d : Nat → Int64) (s_x : Nat → Int64) (s_y : Nat → Int64) (t : Int32) : Option (Nat × (Int32)) := dm1 t (fun (v1 : Int32) => if s_joints ≤ v1 then some (2, v1) else ob (sX10_order a1 a3 a5 v1 s_d s_x s_y) (fun o => dm1 o (fun (r2 : Int32) => if ¬ r2 = 0 then lt (v1 + 1) (fun x3 => some (0, x3)) else some (1, v1))))
def sX10_find (a1 : Int64) (a3 : Int64) (a5 : Int64) (s_joints : Int32) (s_d : Nat → Int64) (s_x : Nat → Int64) (s_y : Nat → Int64) : Option (Int32) := ob (iter (bX10_find_3 a1 a3 a5 s_joints s_d s_x s_y) FU (0 : Int32)) (fun kt => ex2 kt (fun t => dm1 t (fun (v4 : Int32) => some v4)) (fun t => dm1 t (fun (v5 : Int32) => some (-1 : Int32))))
abbrev rmX10_find : Room := { frames := 2, cells := 0, slots := 0, locals := 51 }
set_option maxHeartbeats 4000000 in
set_option maxRecDepth 100000 in
theorem c_X10_find (l : Launch) (D : va_G) (ky : Nat → ClassId) (q_ q_ax q_ay q_bx q_by q_x q_y q_d q_from q_to q_firm : Nat) (a1 : Int64) (a3 : Int64) (a5 : Int64) (s_w : Int32) (s_h : Int32) (s_leads : Int32) (s_lines : Int32) (s_joints : Int32) (s_pieces : Int32) (s_d : Nat → Int64) (s_x : Nat → Int64) (s_y : Nat → Int64) {o_r : Int32} (h : sX10_find a1 a3 a5 s_joints s_d s_x s_y = some o_r) : MtI l D ky yX10_find wsX10_find rmX10_find [.ref q_, .long a1, .long a3, .long a5] [(q_, .inr (10, [.int s_w, .int s_h, .int s_leads, .int s_lines, .ref q_ax, .ref q_ay, .ref q_bx, .ref q_by, .int s_joints, .ref q_x, .ref q_y, .ref q_d, .int s_pieces, .ref q_from, .ref q_to, .ref q_firm])), (q_d, .inl (ky 1, 240, .inr (.inl s_d))), (q_x, .inl (ky 1, 240, .inr (.inl s_x))), (q_y, .inl (ky 1, 240, .inr (.inl s_y)))] [(q_, .inr (10, [.int s_w, .int s_h, .int s_leads, .int s_lines, .ref q_ax, .ref q_ay, .ref q_bx, .ref q_by, .int s_joints, .ref q_x, .ref q_y, .ref q_d, .int s_pieces, .ref q_from, .ref q_to, .ref q_firm])), (q_d, .inl (ky 1, 240, .inr (.inl s_d))), (q_x, .inl (ky 1, 240, .inr (.inl s_x))), (q_y, .inl (ky 1, 240, .inr (.inl s_y)))] o_r 0 0 := by
  refine MtI.of (cc := cX10_find) (maxL := 8) (by decide +kernel) rfl (Nat.le_of_ble_eq_true rfl) ?_
  intro p e R s m args below meth c A Q ls hR hx hb hts hown hnm hml hP hK hD hA ret hl
  subst hR
  obtain ⟨H, hH⟩ : ∃ H, H = s.heap := ⟨_, rfl⟩
  obtain ⟨locs, hlocs⟩ : ∃ locs : List Loc, locs = [] := ⟨_, rfl⟩
  have hS : va_S A s.heap H locs := by rw [hH, hlocs]; exact va_S.rf
  rw [← hH] at hP
  suffices hgo : W p l e rmX10_find s m args below meth c H locs 0 0 Q (F0 m 0 ls []) by rw [hH, hlocs] at hgo; exact hgo
  clear hH hlocs
  replace hl : lv_has ls 8 [(0, .ref q_), (1, .long a1), (3, .long a3), (5, .long a5)] := hl
  replace hown : s.vm.findClass RX10 = some m.cls := hown
  have hi_X10 : ∀ w ∈ u_ws RX10 TX10 16, w ∈ wsX10_find := fun _ h9 => List.mem_cons_of_mem _ (List.mem_append_right _ h9)
  have hf_61 := hts (.fieldLink RX10 61 "GlazierBenchModel$Drawing" "joints" "I") (by decide +kernel)
  unfold sX10_find at h
  refine lv_iconst (v := 0) hx hb dX10_find_0 (by decide) ?_
  refine lv_istore (lv' := [(7, .int (0 : Int32)), (0, .ref q_), (1, .long a1), (3, .long a3), (5, .long a5)]) hx hb dX10_find_1 hl (by decide) rfl (fun ls hl => ?_)
  obtain ⟨⟨k, t⟩, hi, h⟩ := ob_of h
  refine iter_rule (P := fun (k : Nat) (t : Int32) => ∀ (H : Heap) (locs : List Loc) (ls : Array Slot), va_P D vwCl [(q_, .inr (10, [.int s_w, .int s_h, .int s_leads, .int s_lines, .ref q_ax, .ref q_ay, .ref q_bx, .ref q_by, .int s_joints, .ref q_x, .ref q_y, .ref q_d, .int s_pieces, .ref q_from, .ref q_to, .ref q_firm])), (q_d, .inl (ky 1, 240, .inr (.inl s_d))), (q_x, .inl (ky 1, 240, .inr (.inl s_x))), (q_y, .inl (ky 1, 240, .inr (.inl s_y)))] H → va_D A [(q_, .inr (10, [.int s_w, .int s_h, .int s_leads, .int s_lines, .ref q_ax, .ref q_ay, .ref q_bx, .ref q_by, .int s_joints, .ref q_x, .ref q_y, .ref q_d, .int s_pieces, .ref q_from, .ref q_to, .ref q_firm])), (q_d, .inl (ky 1, 240, .inr (.inl s_d))), (q_x, .inl (ky 1, 240, .inr (.inl s_x))), (q_y, .inl (ky 1, 240, .inr (.inl s_y)))] → va_S A s.heap H locs → lv_has ls 8 [(0, .ref q_), (1, .long a1), (3, .long a3), (5, .long a5), (7, .int t)] → W p l e rmX10_find s m args below meth c H locs 0 0 Q (F0 m ([3, 25, 34].getD k 0) ls [])) ?_ _ _ _ _ hi ?_ H locs ls hP hD hS (lv_sub hl [1, 2, 3, 4, 0] rfl)
  · clear h hi hP hD hS hl
    intro t k t' h K
    obtain ⟨v1, rfl⟩ : ∃ z, z = t := ⟨_, rfl⟩
    intro H locs ls hP hD hS hl
    replace h := dm1_of h
    replace hP : va_P D vwCl [(q_, .inr (10, [.int s_w, .int s_h, .int s_leads, .int s_lines, .ref q_ax, .ref q_ay, .ref q_bx, .ref q_by, .int s_joints, .ref q_x, .ref q_y, .ref q_d, .int s_pieces, .ref q_from, .ref q_to, .ref q_firm])), (q_d, .inl (ky 1, 240, .inr (.inl s_d))), (q_x, .inl (ky 1, 240, .inr (.inl s_x))), (q_y, .inl (ky 1, 240, .inr (.inl s_y)))] H := hP
    replace hD : va_D A [(q_, .inr (10, [.int s_w, .int s_h, .int s_leads, .int s_lines, .ref q_ax, .ref q_ay, .ref q_bx, .ref q_by, .int s_joints, .ref q_x, .ref q_y, .ref q_d, .int s_pieces, .ref q_from, .ref q_to, .ref q_firm])), (q_d, .inl (ky 1, 240, .inr (.inl s_d))), (q_x, .inl (ky 1, 240, .inr (.inl s_x))), (q_y, .inl (ky 1, 240, .inr (.inl s_y)))] := hD
    replace hl : lv_has ls 8 [(0, .ref q_), (1, .long a1), (3, .long a3), (5, .long a5), (7, .int v1)] := hl
    refine lv_iload hx hb dX10_find_3 (lv_at hl 4 rfl) ?_
    refine lv_aload_n hx hb dX10_find_5 rfl (lv_at hl 0 rfl) ?_
    refine va_get (D := D) (ci := 10) (v := .int s_joints) (C := RX10) (T := TX10) (N := 16) hx hb hts hi_X10 hown hK.1 hP 0 rfl rfl 8 (by decide) hf_61 (fun _ h9 => h9) rfl dX10_find_6 ?_
    refine lv_icmp_ge (tgt := 34) hx hb dX10_find_9 (by decide) (fun hc => ?_) (fun hc => ?_)
    · replace h := if_t hc h
      cases h
      exact K _ _ _ hP hD hS (lv_sub hl [0, 1, 2, 3, 4] rfl)
    · replace h := if_f hc h
      refine lv_aload_n hx hb dX10_find_12 rfl (lv_at hl 0 rfl) ?_
      refine lv_lload_n hx hb dX10_find_13 rfl (lv_at hl 1 rfl) ?_
      refine lv_lload_n hx hb dX10_find_14 rfl (lv_at hl 2 rfl) ?_
      refine lv_lload hx hb dX10_find_15 (lv_at hl 3 rfl) ?_
      refine lv_iload hx hb dX10_find_17 (lv_at hl 4 rfl) ?_
      obtain ⟨r2, hc, h⟩ := ob_of h
      replace h := dm1_of h
      refine cv_i (As := [.long a1, .long a3, .long a5, .int v1]) (rest := []) (wr := []) (wn := [(q_, .inr (10, [.int s_w, .int s_h, .int s_leads, .int s_lines, .ref q_ax, .ref q_ay, .ref q_bx, .ref q_by, .int s_joints, .ref q_x, .ref q_y, .ref q_d, .int s_pieces, .ref q_from, .ref q_to, .ref q_firm])), (q_d, .inl (ky 1, 240, .inr (.inl s_d))), (q_x, .inl (ky 1, 240, .inr (.inl s_x))), (q_y, .inl (ky 1, 240, .inr (.inl s_y)))]) ⟨hx, hb, hml, hown, hts⟩ (c_X10_order l D ky q_ q_ax q_ay q_bx q_by q_x q_y q_d q_from q_to q_firm a1 a3 a5 v1 s_w s_h s_leads s_lines s_joints s_pieces s_d s_x s_y hc) (cwV 4 hts gX10_find_X10_order rfl rfl rfl (by decide +kernel) ⟨Nat.le_of_ble_eq_true rfl, Nat.le_of_ble_eq_true rfl⟩) (rcv hK.1 hP (q0 := 0) rfl rfl) hP hD hK hS hA [0, 1, 2, 3] [] [0, 1, 2, 3] rfl (by decide +kernel) rfl (by decide +kernel) (by decide +kernel) (by decide +kernel) rfl rfl rfl hl.1 (Nat.le_of_ble_eq_true rfl) dX10_find_19 ⟨Nat.le_of_ble_eq_true rfl, Nat.le_of_ble_eq_true rfl⟩ (fun H locs hP hD hS => ?_)
      refine lv_if_ne (tgt := 28) hx hb dX10_find_22 (by decide) (fun hc => ?_) (fun hc => ?_)
      · replace h := if_t hc h
        obtain ⟨x3, ex3⟩ : ∃ z : Int32, z = v1 + 1 := ⟨_, rfl⟩
        replace h := lt_at ex3 h
        refine lv_iinc (v := x3) (lv' := [(7, .int x3), (0, .ref q_), (1, .long a1), (3, .long a3), (5, .long a5)]) hx hb dX10_find_28 hl (k := 4) rfl (by rw [ex3]; rfl) (by decide) rfl (fun ls hl => ?_)
        refine lv_goto (tgt := 3) hx hb dX10_find_31 (by decide) ?_
        cases h
        exact K _ _ _ hP hD hS (lv_sub hl [1, 2, 3, 4, 0] rfl)
      · replace h := if_f (fun z => z hc) h
        cases h
        exact K _ _ _ hP hD hS (lv_sub hl [0, 1, 2, 3, 4] rfl)
  · have h1 := ex2_of h
    clear h hi
    rcases h1 with ⟨rfl, h⟩ | ⟨rfl, h⟩
    · skip
      obtain ⟨v4, rfl⟩ : ∃ z, z = t := ⟨_, rfl⟩
      replace h := dm1_of h
      intro H locs ls hP hD hS hl
      replace hP : va_P D vwCl [(q_, .inr (10, [.int s_w, .int s_h, .int s_leads, .int s_lines, .ref q_ax, .ref q_ay, .ref q_bx, .ref q_by, .int s_joints, .ref q_x, .ref q_y, .ref q_d, .int s_pieces, .ref q_from, .ref q_to, .ref q_firm])), (q_d, .inl (ky 1, 240, .inr (.inl s_d))), (q_x, .inl (ky 1, 240, .inr (.inl s_x))), (q_y, .inl (ky 1, 240, .inr (.inl s_y)))] H := hP
      replace hD : va_D A [(q_, .inr (10, [.int s_w, .int s_h, .int s_leads, .int s_lines, .ref q_ax, .ref q_ay, .ref q_bx, .ref q_by, .int s_joints, .ref q_x, .ref q_y, .ref q_d, .int s_pieces, .ref q_from, .ref q_to, .ref q_firm])), (q_d, .inl (ky 1, 240, .inr (.inl s_d))), (q_x, .inl (ky 1, 240, .inr (.inl s_x))), (q_y, .inl (ky 1, 240, .inr (.inl s_y)))] := hD
      replace hl : lv_has ls 8 [(0, .ref q_), (1, .long a1), (3, .long a3), (5, .long a5), (7, .int v4)] := hl
      refine W.eq (g2 := F0 m 25 ls []) rfl ?_
      refine lv_iload hx hb dX10_find_25 (lv_at hl 4 rfl) ?_
      cases h
      exact ret _ _ _ _ dX10_find_27 hP hD hS
    · skip
      obtain ⟨v5, rfl⟩ : ∃ z, z = t := ⟨_, rfl⟩
      replace h := dm1_of h
      intro H locs ls hP hD hS hl
      replace hP : va_P D vwCl [(q_, .inr (10, [.int s_w, .int s_h, .int s_leads, .int s_lines, .ref q_ax, .ref q_ay, .ref q_bx, .ref q_by, .int s_joints, .ref q_x, .ref q_y, .ref q_d, .int s_pieces, .ref q_from, .ref q_to, .ref q_firm])), (q_d, .inl (ky 1, 240, .inr (.inl s_d))), (q_x, .inl (ky 1, 240, .inr (.inl s_x))), (q_y, .inl (ky 1, 240, .inr (.inl s_y)))] H := hP
      replace hD : va_D A [(q_, .inr (10, [.int s_w, .int s_h, .int s_leads, .int s_lines, .ref q_ax, .ref q_ay, .ref q_bx, .ref q_by, .int s_joints, .ref q_x, .ref q_y, .ref q_d, .int s_pieces, .ref q_from, .ref q_to, .ref q_firm])), (q_d, .inl (ky 1, 240, .inr (.inl s_d))), (q_x, .inl (ky 1, 240, .inr (.inl s_x))), (q_y, .inl (ky 1, 240, .inr (.inl s_y)))] := hD
      replace hl : lv_has ls 8 [(0, .ref q_), (1, .long a1), (3, .long a3), (5, .long a5), (7, .int v5)] := hl
      refine W.eq (g2 := F0 m 34 ls []) rfl ?_
      refine lv_iconst (v := (-1)) hx hb dX10_find_34 (by decide) ?_
      cases h
      exact ret _ _ _ _ dX10_find_35 hP hD hS

