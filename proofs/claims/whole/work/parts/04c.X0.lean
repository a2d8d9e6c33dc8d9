def sX0_clear  (s_boxes : Int32) : Option (Int32) := some (0 : Int32)
abbrev rmX0_clear : Room := { frames := 0, cells := 0, slots := 0, locals := 0 }
set_option maxHeartbeats 4000000 in
set_option maxRecDepth 100000 in
theorem c_X0_clear (l : Launch) (D : va_G) (ky : Nat → ClassId) (q_ q_wide q_high q_turnable q_leastHeight q_fewest : Nat) (s_boxes : Int32) {o_boxes : Int32} (h : sX0_clear s_boxes = some o_boxes) : MtV l D ky yX0_clear wsX0_clear rmX0_clear [.ref q_] [(q_, .inr (0, [.int s_boxes, .ref q_wide, .ref q_high, .ref q_turnable, .ref q_leastHeight, .ref q_fewest]))] [(q_, .inr (0, [.int o_boxes, .ref q_wide, .ref q_high, .ref q_turnable, .ref q_leastHeight, .ref q_fewest]))] 0 0 := by
  refine MtV.of (cc := cX0_clear) (maxL := 1) (by decide +kernel) rfl (Nat.le_of_ble_eq_true rfl) ?_
  intro p e R s m args below meth c A Q ls hR hx hb hts hown hnm hml hP hK hD hA ret hl
  subst hR
  obtain ⟨H, hH⟩ : ∃ H, H = s.heap := ⟨_, rfl⟩
  obtain ⟨locs, hlocs⟩ : ∃ locs : List Loc, locs = [] := ⟨_, rfl⟩
  have hS : va_S A s.heap H locs := by rw [hH, hlocs]; exact va_S.rf
  rw [← hH] at hP
  suffices hgo : W p l e rmX0_clear s m args below meth c H locs 0 0 Q (F0 m 0 ls []) by rw [hH, hlocs] at hgo; exact hgo
  clear hH hlocs
  replace hl : lv_has ls 1 [(0, .ref q_)] := hl
  replace hown : s.vm.findClass RX0 = some m.cls := hown
  have hi_X0 : ∀ w ∈ u_ws RX0 TX0 6, w ∈ wsX0_clear := fun _ h9 => List.mem_cons_of_mem _ (List.mem_append_right _ h9)
  have hf_28 := hts (.fieldLink RX0 28 "GlazierBench$Cutter" "boxes" "I") (by decide +kernel)
  unfold sX0_clear at h
  refine lv_aload_n hx hb dX0_clear_0 rfl (lv_at hl 0 rfl) ?_
  refine lv_iconst (v := 0) hx hb dX0_clear_1 (by decide) ?_
  refine va_put (D := D) (ci := 0) (v := .int (0 : Int32)) (ty := .int) (C := RX0) (T := TX0) (N := 6) hx hb hts hi_X0 tyX0 tyX0_ok nmX0 hown hK.1 hP hD hS 0 rfl rfl 0 (by decide) hf_28 (fun _ h9 => h9) rfl (by decide +kernel) rfl rfl (Nat.le_of_ble_eq_true rfl) dX0_clear_2 (fun H locs hP hD hS => ?_)
  replace hP : va_P D vwCl [(q_, .inr (0, [.int (0 : Int32), .ref q_wide, .ref q_high, .ref q_turnable, .ref q_leastHeight, .ref q_fewest]))] H := hP
  replace hD : va_D A [(q_, .inr (0, [.int (0 : Int32), .ref q_wide, .ref q_high, .ref q_turnable, .ref q_leastHeight, .ref q_fewest]))] := hD
  cases h
  exact ret _ _ _ _ dX0_clear_5 hP hD hS

def sX0_append (a1 : Int32) (a2 : Int32) (a3 : Int32) (s_boxes : Int32) (s_high : Nat → Int32) (s_turnable : Nat → Int32) (s_wide : Nat → Int32) : Option (Int32 × (Nat → Int32) × (Nat → Int32) × (Nat → Int32)) := if s_boxes < (6 : Int32) then gd (¬ (s_boxes < 0 ∨ 6 ≤ s_boxes.toNatClampNeg)) (lt (upd s_wide s_boxes.toNatClampNeg a1) (fun f1 => gd (¬ (s_boxes < 0 ∨ 6 ≤ s_boxes.toNatClampNeg)) (lt (upd s_high s_boxes.toNatClampNeg a2) (fun f2 => gd (¬ (s_boxes < 0 ∨ 6 ≤ s_boxes.toNatClampNeg)) (lt (upd s_turnable s_boxes.toNatClampNeg (vp_nar .boolean a3)) (fun f3 => lt (s_boxes + (1 : Int32)) (fun x4 => some (x4, f2, f3, f1)))))))) else some (s_boxes, s_high, s_turnable, s_wide)
abbrev rmX0_append : Room := { frames := 0, cells := 0, slots := 0, locals := 0 }
set_option maxHeartbeats 4000000 in
set_option maxRecDepth 100000 in
theorem c_X0_append (l : Launch) (D : va_G) (ky : Nat → ClassId) (q_ q_wide q_high q_turnable q_leastHeight q_fewest : Nat) (a1 : Int32) (a2 : Int32) (a3 : Int32) (s_boxes : Int32) (s_high : Nat → Int32) (s_turnable : Nat → Int32) (s_wide : Nat → Int32) {o_boxes : Int32} {o_high : Nat → Int32} {o_turnable : Nat → Int32} {o_wide : Nat → Int32} (h : sX0_append a1 a2 a3 s_boxes s_high s_turnable s_wide = some (o_boxes, o_high, o_turnable, o_wide)) : MtV l D ky yX0_append wsX0_append rmX0_append [.ref q_, .int a1, .int a2, .int a3] [(q_, .inr (0, [.int s_boxes, .ref q_wide, .ref q_high, .ref q_turnable, .ref q_leastHeight, .ref q_fewest])), (q_high, .inl (ky 0, 6, .inl s_high)), (q_turnable, .inl (ky 2, 6, .inl s_turnable)), (q_wide, .inl (ky 0, 6, .inl s_wide))] [(q_, .inr (0, [.int o_boxes, .ref q_wide, .ref q_high, .ref q_turnable, .ref q_leastHeight, .ref q_fewest])), (q_high, .inl (ky 0, 6, .inl o_high)), (q_turnable, .inl (ky 2, 6, .inl o_turnable)), (q_wide, .inl (ky 0, 6, .inl o_wide))] 0 0 := by
  refine MtV.of (cc := cX0_append) (maxL := 4) (by decide +kernel) rfl (Nat.le_of_ble_eq_true rfl) ?_
  intro p e R s m args below meth c A Q ls hR hx hb hts hown hnm hml hP hK hD hA ret hl
  have rt := rtV (dc := fun pc => decode cX0_append pc = .ok (.return_, 1)) (o_boxes, o_high, o_turnable, o_wide) (fun t => [(q_, .inr (0, [.int t.1, .ref q_wide, .ref q_high, .ref q_turnable, .ref q_leastHeight, .ref q_fewest])), (q_high, .inl (ky 0, 6, .inl t.2.1)), (q_turnable, .inl (ky 2, 6, .inl t.2.2.1)), (q_wide, .inl (ky 0, 6, .inl t.2.2.2))]) ret
  subst hR
  obtain ⟨H, hH⟩ : ∃ H, H = s.heap := ⟨_, rfl⟩
  obtain ⟨locs, hlocs⟩ : ∃ locs : List Loc, locs = [] := ⟨_, rfl⟩
  have hS : va_S A s.heap H locs := by rw [hH, hlocs]; exact va_S.rf
  rw [← hH] at hP
  suffices hgo : W p l e rmX0_append s m args below meth c H locs 0 0 Q (F0 m 0 ls []) by rw [hH, hlocs] at hgo; exact hgo
  clear hH hlocs
  replace hl : lv_has ls 4 [(0, .ref q_), (1, .int a1), (2, .int a2), (3, .int a3)] := hl
  replace hown : s.vm.findClass RX0 = some m.cls := hown
  have hi_X0 : ∀ w ∈ u_ws RX0 TX0 6, w ∈ wsX0_append := fun _ h9 => List.mem_cons_of_mem _ (List.mem_append_right _ h9)
  have hf_28 := hts (.fieldLink RX0 28 "GlazierBench$Cutter" "boxes" "I") (by decide +kernel)
  have hf_9 := hts (.fieldLink RX0 9 "GlazierBench$Cutter" "wide" "[I") (by decide +kernel)
  have hf_15 := hts (.fieldLink RX0 15 "GlazierBench$Cutter" "high" "[I") (by decide +kernel)
  have hf_18 := hts (.fieldLink RX0 18 "GlazierBench$Cutter" "turnable" "[Z") (by decide +kernel)
  unfold sX0_append at h
  refine lv_aload_n hx hb dX0_append_0 rfl (lv_at hl 0 rfl) ?_
  refine va_get (D := D) (ci := 0) (v := .int s_boxes) (C := RX0) (T := TX0) (N := 6) hx hb hts hi_X0 hown hK.1 hP 0 rfl rfl 0 (by decide) hf_28 (fun _ h9 => h9) rfl dX0_append_1 ?_
  refine lv_bipush (v := 6) hx hb dX0_append_4 (by decide) ?_
  refine lv_icmp_lt (tgt := 10) hx hb dX0_append_6 (by decide) (fun hc => ?_) (fun hc => ?_)
  · replace h := if_t hc h
    refine lv_aload_n hx hb dX0_append_10 rfl (lv_at hl 0 rfl) ?_
    refine va_get (D := D) (ci := 0) (v := .ref q_wide) (C := RX0) (T := TX0) (N := 6) hx hb hts hi_X0 hown hK.1 hP 0 rfl rfl 1 (by decide) hf_9 (fun _ h9 => h9) rfl dX0_append_11 ?_
    refine lv_aload_n hx hb dX0_append_14 rfl (lv_at hl 0 rfl) ?_
    refine va_get (D := D) (ci := 0) (v := .int s_boxes) (C := RX0) (T := TX0) (N := 6) hx hb hts hi_X0 hown hK.1 hP 0 rfl rfl 0 (by decide) hf_28 (fun _ h9 => h9) rfl dX0_append_15 ?_
    refine lv_iload_n hx hb dX0_append_18 rfl (lv_at hl 1 rfl) ?_
    obtain ⟨hg, h⟩ := gd_of h
    refine r_iast hx hb hK.1 hP hD hS 3 0 rfl rfl hg dX0_append_19 (fun f1 ef1 H locs hP hD hS => ?_)
    replace h := lt_at ef1 h
    replace hP : va_P D vwCl [(q_, .inr (0, [.int s_boxes, .ref q_wide, .ref q_high, .ref q_turnable, .ref q_leastHeight, .ref q_fewest])), (q_high, .inl (ky 0, 6, .inl s_high)), (q_turnable, .inl (ky 2, 6, .inl s_turnable)), (q_wide, .inl (ky 0, 6, .inl f1))] H := hP
    replace hD : va_D A [(q_, .inr (0, [.int s_boxes, .ref q_wide, .ref q_high, .ref q_turnable, .ref q_leastHeight, .ref q_fewest])), (q_high, .inl (ky 0, 6, .inl s_high)), (q_turnable, .inl (ky 2, 6, .inl s_turnable)), (q_wide, .inl (ky 0, 6, .inl f1))] := hD
    refine lv_aload_n hx hb dX0_append_20 rfl (lv_at hl 0 rfl) ?_
    refine va_get (D := D) (ci := 0) (v := .ref q_high) (C := RX0) (T := TX0) (N := 6) hx hb hts hi_X0 hown hK.1 hP 0 rfl rfl 2 (by decide) hf_15 (fun _ h9 => h9) rfl dX0_append_21 ?_
    refine lv_aload_n hx hb dX0_append_24 rfl (lv_at hl 0 rfl) ?_
    refine va_get (D := D) (ci := 0) (v := .int s_boxes) (C := RX0) (T := TX0) (N := 6) hx hb hts hi_X0 hown hK.1 hP 0 rfl rfl 0 (by decide) hf_28 (fun _ h9 => h9) rfl dX0_append_25 ?_
    refine lv_iload_n hx hb dX0_append_28 rfl (lv_at hl 2 rfl) ?_
    obtain ⟨hg, h⟩ := gd_of h
    refine r_iast hx hb hK.1 hP hD hS 1 0 rfl rfl hg dX0_append_29 (fun f2 ef2 H locs hP hD hS => ?_)
    replace h := lt_at ef2 h
    replace hP : va_P D vwCl [(q_, .inr (0, [.int s_boxes, .ref q_wide, .ref q_high, .ref q_turnable, .ref q_leastHeight, .ref q_fewest])), (q_high, .inl (ky 0, 6, .inl f2)), (q_turnable, .inl (ky 2, 6, .inl s_turnable)), (q_wide, .inl (ky 0, 6, .inl f1))] H := hP
    replace hD : va_D A [(q_, .inr (0, [.int s_boxes, .ref q_wide, .ref q_high, .ref q_turnable, .ref q_leastHeight, .ref q_fewest])), (q_high, .inl (ky 0, 6, .inl f2)), (q_turnable, .inl (ky 2, 6, .inl s_turnable)), (q_wide, .inl (ky 0, 6, .inl f1))] := hD
    refine lv_aload_n hx hb dX0_append_30 rfl (lv_at hl 0 rfl) ?_
    refine va_get (D := D) (ci := 0) (v := .ref q_turnable) (C := RX0) (T := TX0) (N := 6) hx hb hts hi_X0 hown hK.1 hP 0 rfl rfl 3 (by decide) hf_18 (fun _ h9 => h9) rfl dX0_append_31 ?_
    refine lv_aload_n hx hb dX0_append_34 rfl (lv_at hl 0 rfl) ?_
    refine va_get (D := D) (ci := 0) (v := .int s_boxes) (C := RX0) (T := TX0) (N := 6) hx hb hts hi_X0 hown hK.1 hP 0 rfl rfl 0 (by decide) hf_28 (fun _ h9 => h9) rfl dX0_append_35 ?_
    refine lv_iload_n hx hb dX0_append_38 rfl (lv_at hl 3 rfl) ?_
    obtain ⟨hg, h⟩ := gd_of h
    refine r_zast hx hb hK.1 hP hD hS 2 2 rfl rfl hg dX0_append_39 (fun f3 ef3 H locs hP hD hS => ?_)
    replace h := lt_at ef3 h
    replace hP : va_P D vwCl [(q_, .inr (0, [.int s_boxes, .ref q_wide, .ref q_high, .ref q_turnable, .ref q_leastHeight, .ref q_fewest])), (q_high, .inl (ky 0, 6, .inl f2)), (q_turnable, .inl (ky 2, 6, .inl f3)), (q_wide, .inl (ky 0, 6, .inl f1))] H := hP
    replace hD : va_D A [(q_, .inr (0, [.int s_boxes, .ref q_wide, .ref q_high, .ref q_turnable, .ref q_leastHeight, .ref q_fewest])), (q_high, .inl (ky 0, 6, .inl f2)), (q_turnable, .inl (ky 2, 6, .inl f3)), (q_wide, .inl (ky 0, 6, .inl f1))] := hD
    refine lv_aload_n hx hb dX0_append_40 rfl (lv_at hl 0 rfl) ?_
    refine lv_dup hx hb dX0_append_41 rfl ?_
    refine va_get (D := D) (ci := 0) (v := .int s_boxes) (C := RX0) (T := TX0) (N := 6) hx hb hts hi_X0 hown hK.1 hP 0 rfl rfl 0 (by decide) hf_28 (fun _ h9 => h9) rfl dX0_append_42 ?_
    refine lv_iconst (v := 1) hx hb dX0_append_45 (by decide) ?_
    refine lv_iadd hx hb dX0_append_46 ?_
    refine lv_topi (fun x4 ex4 => ?_)
    replace h := lt_at ex4 h
    refine va_put (D := D) (ci := 0) (v := .int x4) (ty := .int) (C := RX0) (T := TX0) (N := 6) hx hb hts hi_X0 tyX0 tyX0_ok nmX0 hown hK.1 hP hD hS 0 rfl rfl 0 (by decide) hf_28 (fun _ h9 => h9) rfl (by decide +kernel) rfl rfl (Nat.le_of_ble_eq_true rfl) dX0_append_47 (fun H locs hP hD hS => ?_)
    replace hP : va_P D vwCl [(q_, .inr (0, [.int x4, .ref q_wide, .ref q_high, .ref q_turnable, .ref q_leastHeight, .ref q_fewest])), (q_high, .inl (ky 0, 6, .inl f2)), (q_turnable, .inl (ky 2, 6, .inl f3)), (q_wide, .inl (ky 0, 6, .inl f1))] H := hP
    replace hD : va_D A [(q_, .inr (0, [.int x4, .ref q_wide, .ref q_high, .ref q_turnable, .ref q_leastHeight, .ref q_fewest])), (q_high, .inl (ky 0, 6, .inl f2)), (q_turnable, .inl (ky 2, 6, .inl f3)), (q_wide, .inl (ky 0, 6, .inl f1))] := hD
    exact rt _ h _ _ _ _ dX0_append_50 hP hD hS
  · replace h := if_f hc h
    exact rt _ h _ _ _ _ dX0_append_9 hP hD hS

def bX0_heightForOne_7 (a1 : Int32) (a2 : Int32) (s_boxes : Int32) (s_high : Nat → Int32) (s_turnable : Nat → Int32) (s_wide : Nat → Int32) (t : Int32 × Int32) : Option (Nat × (Int32 × Int32)) := dm2 t (fun (v1 : Int32) (v2 : Int32) => if s_boxes ≤ v2 then some (1, (v1, v2)) else ob (if ¬ a1 = ((1 : Int32) <<< (v2 &&& 31)) then some v1 else gd (¬ (v2 < 0 ∨ 6 ≤ v2.toNatClampNeg)) (ob (if a2 < (s_wide v2.toNatClampNeg) then some v1 else gd (¬ (v2 < 0 ∨ 6 ≤ v2.toNatClampNeg)) (lt (s_high v2.toNatClampNeg) (fun x7 => some x7))) (fun t => dm1 t (fun (v5 : Int32) => gd (¬ (v2 < 0 ∨ 6 ≤ v2.toNatClampNeg)) (if (s_turnable v2.toNatClampNeg) = 0 then some v5 else gd (¬ (v2 < 0 ∨ 6 ≤ v2.toNatClampNeg)) (if a2 < (s_high v2.toNatClampNeg) then some v5 else gd (¬ (v2 < 0 ∨ 6 ≤ v2.toNatClampNeg)) (lt (if (s_wide v2.toNatClampNeg) < v5 then (s_wide v2.toNatClampNeg) else v5) (fun x6 => some x6)))))))) (fun t => dm1 t (fun (v3 : Int32) => lt (v2 + 1) (fun x4 => some (0, (v3, x4))))))
def sX0_heightForOne (a1 : Int32) (a2 : Int32) (s_boxes : Int32) (s_high : Nat → Int32) (s_turnable : Nat → Int32) (s_wide : Nat → Int32) : Option (Int32) := ob (iter (bX0_heightForOne_7 a1 a2 s_boxes s_high s_turnable s_wide) FU ((1000 : Int32), (0 : Int32))) (fun kt => ex1 kt (fun t => dm2 t (fun (v8 : Int32) (v9 : Int32) => some v8)))
abbrev rmX0_heightForOne : Room := { frames := 1, cells := 0, slots := 0, locals := 40 }
set_option maxHeartbeats 4000000 in
set_option maxRecDepth 100000 in
theorem c_X0_heightForOne (l : Launch) (D : va_G) (ky : Nat → ClassId) (q_ q_wide q_high q_turnable q_leastHeight q_fewest : Nat) (a1 : Int32) (a2 : Int32) (s_boxes : Int32) (s_high : Nat → Int32) (s_turnable : Nat → Int32) (s_wide : Nat → Int32) {o_r : Int32} (h : sX0_heightForOne a1 a2 s_boxes s_high s_turnable s_wide = some o_r) : MtI l D ky yX0_heightForOne wsX0_heightForOne rmX0_heightForOne [.ref q_, .int a1, .int a2] [(q_, .inr (0, [.int s_boxes, .ref q_wide, .ref q_high, .ref q_turnable, .ref q_leastHeight, .ref q_fewest])), (q_high, .inl (ky 0, 6, .inl s_high)), (q_turnable, .inl (ky 2, 6, .inl s_turnable)), (q_wide, .inl (ky 0, 6, .inl s_wide))] [(q_, .inr (0, [.int s_boxes, .ref q_wide, .ref q_high, .ref q_turnable, .ref q_leastHeight, .ref q_fewest])), (q_high, .inl (ky 0, 6, .inl s_high)), (q_turnable, .inl (ky 2, 6, .inl s_turnable)), (q_wide, .inl (ky 0, 6, .inl s_wide))] o_r 0 0 := by
  refine MtI.of (cc := cX0_heightForOne) (maxL := 5) (by decide +kernel) rfl (Nat.le_of_ble_eq_true rfl) ?_
  intro p e R s m args below meth c A Q ls hR hx hb hts hown hnm hml hP hK hD hA ret hl
  subst hR
  obtain ⟨H, hH⟩ : ∃ H, H = s.heap := ⟨_, rfl⟩
  obtain ⟨locs, hlocs⟩ : ∃ locs : List Loc, locs = [] := ⟨_, rfl⟩
  have hS : va_S A s.heap H locs := by rw [hH, hlocs]; exact va_S.rf
  rw [← hH] at hP
  suffices hgo : W p l e rmX0_heightForOne s m args below meth c H locs 0 0 Q (F0 m 0 ls []) by rw [hH, hlocs] at hgo; exact hgo
  clear hH hlocs
  replace hl : lv_has ls 5 [(0, .ref q_), (1, .int a1), (2, .int a2)] := hl
  replace hown : s.vm.findClass RX0 = some m.cls := hown
  have hi_X0 : ∀ w ∈ u_ws RX0 TX0 6, w ∈ wsX0_heightForOne := fun _ h9 => List.mem_cons_of_mem _ (List.mem_append_right _ h9)
  have hf_28 := hts (.fieldLink RX0 28 "GlazierBench$Cutter" "boxes" "I") (by decide +kernel)
  have hf_9 := hts (.fieldLink RX0 9 "GlazierBench$Cutter" "wide" "[I") (by decide +kernel)
  have hf_18 := hts (.fieldLink RX0 18 "GlazierBench$Cutter" "turnable" "[Z") (by decide +kernel)
  have hf_15 := hts (.fieldLink RX0 15 "GlazierBench$Cutter" "high" "[I") (by decide +kernel)
  have hm_40 := hts (.methodLink RX0 40 Lib.Math.min.name) (by decide +kernel)
  have hs_mmin := hts (.static Lib.Math.min.name) (by decide +kernel)
  have hini_Math := hts (.initialized "java/lang/Math") (by decide +kernel)
  have hco_mmin := hts (.code Lib.Math.min.name Lib.Math.min.code 2 (some .int)) (by decide +kernel)
  unfold sX0_heightForOne at h
  refine lv_sipush (v := 1000) hx hb dX0_heightForOne_0 (by decide) ?_
  refine lv_istore_n (lv' := [(3, .int (1000 : Int32)), (0, .ref q_), (1, .int a1), (2, .int a2)]) hx hb dX0_heightForOne_3 rfl hl (by decide) rfl (fun ls hl => ?_)
  refine lv_iconst (v := 0) hx hb dX0_heightForOne_4 (by decide) ?_
  refine lv_istore (lv' := [(4, .int (0 : Int32)), (3, .int (1000 : Int32)), (0, .ref q_), (1, .int a1), (2, .int a2)]) hx hb dX0_heightForOne_5 hl (by decide) rfl (fun ls hl => ?_)
  obtain ⟨⟨k, t⟩, hi, h⟩ := ob_of h
  refine iter_rule (P := fun (k : Nat) (t : Int32 × Int32) => ∀ (H : Heap) (locs : List Loc) (ls : Array Slot), va_P D vwCl [(q_, .inr (0, [.int s_boxes, .ref q_wide, .ref q_high, .ref q_turnable, .ref q_leastHeight, .ref q_fewest])), (q_high, .inl (ky 0, 6, .inl s_high)), (q_turnable, .inl (ky 2, 6, .inl s_turnable)), (q_wide, .inl (ky 0, 6, .inl s_wide))] H → va_D A [(q_, .inr (0, [.int s_boxes, .ref q_wide, .ref q_high, .ref q_turnable, .ref q_leastHeight, .ref q_fewest])), (q_high, .inl (ky 0, 6, .inl s_high)), (q_turnable, .inl (ky 2, 6, .inl s_turnable)), (q_wide, .inl (ky 0, 6, .inl s_wide))] → va_S A s.heap H locs → lv_has ls 5 [(0, .ref q_), (1, .int a1), (2, .int a2), (3, .int t.1), (4, .int t.2)] → W p l e rmX0_heightForOne s m args below meth c H locs 0 0 Q (F0 m ([7, 82].getD k 0) ls [])) ?_ _ _ _ _ hi ?_ H locs ls hP hD hS (lv_sub hl [2, 3, 4, 1, 0] rfl)
  · clear h hi hP hD hS hl
    intro t k t' h K
    obtain ⟨v1, v2⟩ := t
    intro H locs ls hP hD hS hl
    replace h := dm2_of h
    replace hP : va_P D vwCl [(q_, .inr (0, [.int s_boxes, .ref q_wide, .ref q_high, .ref q_turnable, .ref q_leastHeight, .ref q_fewest])), (q_high, .inl (ky 0, 6, .inl s_high)), (q_turnable, .inl (ky 2, 6, .inl s_turnable)), (q_wide, .inl (ky 0, 6, .inl s_wide))] H := hP
    replace hD : va_D A [(q_, .inr (0, [.int s_boxes, .ref q_wide, .ref q_high, .ref q_turnable, .ref q_leastHeight, .ref q_fewest])), (q_high, .inl (ky 0, 6, .inl s_high)), (q_turnable, .inl (ky 2, 6, .inl s_turnable)), (q_wide, .inl (ky 0, 6, .inl s_wide))] := hD
    replace hl : lv_has ls 5 [(0, .ref q_), (1, .int a1), (2, .int a2), (3, .int v1), (4, .int v2)] := hl
    refine lv_iload hx hb dX0_heightForOne_7 (lv_at hl 4 rfl) ?_
    refine lv_aload_n hx hb dX0_heightForOne_9 rfl (lv_at hl 0 rfl) ?_
    refine va_get (D := D) (ci := 0) (v := .int s_boxes) (C := RX0) (T := TX0) (N := 6) hx hb hts hi_X0 hown hK.1 hP 0 rfl rfl 0 (by decide) hf_28 (fun _ h9 => h9) rfl dX0_heightForOne_10 ?_
    refine lv_icmp_ge (tgt := 82) hx hb dX0_heightForOne_13 (by decide) (fun hc => ?_) (fun hc => ?_)
    · replace h := if_t hc h
      cases h
      exact K _ _ _ hP hD hS (lv_sub hl [0, 1, 2, 3, 4] rfl)
    · replace h := if_f hc h
      refine lv_iload_n hx hb dX0_heightForOne_16 rfl (lv_at hl 1 rfl) ?_
      refine lv_iconst (v := 1) hx hb dX0_heightForOne_17 (by decide) ?_
      refine lv_iload hx hb dX0_heightForOne_18 (lv_at hl 4 rfl) ?_
      refine lv_ishl hx hb dX0_heightForOne_20 ?_
      obtain ⟨t, hd, h⟩ := ob_of h
      have K : ∀ (H : Heap) (locs : List Loc) (ls : Array Slot), va_P D vwCl [(q_, .inr (0, [.int s_boxes, .ref q_wide, .ref q_high, .ref q_turnable, .ref q_leastHeight, .ref q_fewest])), (q_high, .inl (ky 0, 6, .inl s_high)), (q_turnable, .inl (ky 2, 6, .inl s_turnable)), (q_wide, .inl (ky 0, 6, .inl s_wide))] H → va_D A [(q_, .inr (0, [.int s_boxes, .ref q_wide, .ref q_high, .ref q_turnable, .ref q_leastHeight, .ref q_fewest])), (q_high, .inl (ky 0, 6, .inl s_high)), (q_turnable, .inl (ky 2, 6, .inl s_turnable)), (q_wide, .inl (ky 0, 6, .inl s_wide))] → va_S A s.heap H locs → lv_has ls 5 [(0, .ref q_), (1, .int a1), (2, .int a2), (3, .int t), (4, .int v2)] → W p l e rmX0_heightForOne s m args below meth c H locs 0 0 Q (F0 m 76 ls []) := by
        clear hd hP hD hS hl
        obtain ⟨v3, rfl⟩ : ∃ z, z = t := ⟨_, rfl⟩
        replace h := dm1_of h
        intro H locs ls hP hD hS hl
        replace hP : va_P D vwCl [(q_, .inr (0, [.int s_boxes, .ref q_wide, .ref q_high, .ref q_turnable, .ref q_leastHeight, .ref q_fewest])), (q_high, .inl (ky 0, 6, .inl s_high)), (q_turnable, .inl (ky 2, 6, .inl s_turnable)), (q_wide, .inl (ky 0, 6, .inl s_wide))] H := hP
        replace hD : va_D A [(q_, .inr (0, [.int s_boxes, .ref q_wide, .ref q_high, .ref q_turnable, .ref q_leastHeight, .ref q_fewest])), (q_high, .inl (ky 0, 6, .inl s_high)), (q_turnable, .inl (ky 2, 6, .inl s_turnable)), (q_wide, .inl (ky 0, 6, .inl s_wide))] := hD
        replace hl : lv_has ls 5 [(0, .ref q_), (1, .int a1), (2, .int a2), (3, .int v3), (4, .int v2)] := hl
        refine W.eq (g2 := F0 m 76 ls []) rfl ?_
        obtain ⟨x4, ex4⟩ : ∃ z : Int32, z = v2 + 1 := ⟨_, rfl⟩
        replace h := lt_at ex4 h
        refine lv_iinc (v := x4) (lv' := [(4, .int x4), (0, .ref q_), (1, .int a1), (2, .int a2), (3, .int v3)]) hx hb dX0_heightForOne_76 hl (k := 4) rfl (by rw [ex4]; rfl) (by decide) rfl (fun ls hl => ?_)
        refine lv_goto (tgt := 7) hx hb dX0_heightForOne_79 (by decide) ?_
        cases h
        exact K _ _ _ hP hD hS (lv_sub hl [1, 2, 3, 4, 0] rfl)
      replace h := hd
      clear hd
      refine lv_icmp_ne (tgt := 76) hx hb dX0_heightForOne_21 (by decide) (fun hc => ?_) (fun hc => ?_)
      · replace h := if_t hc h
        cases h
        exact K _ _ _ hP hD hS (lv_sub hl [0, 1, 2, 3, 4] rfl)
      · replace h := if_f (fun z => z hc) h
        refine lv_aload_n hx hb dX0_heightForOne_24 rfl (lv_at hl 0 rfl) ?_
        refine va_get (D := D) (ci := 0) (v := .ref q_wide) (C := RX0) (T := TX0) (N := 6) hx hb hts hi_X0 hown hK.1 hP 0 rfl rfl 1 (by decide) hf_9 (fun _ h9 => h9) rfl dX0_heightForOne_25 ?_
        refine lv_iload hx hb dX0_heightForOne_28 (lv_at hl 4 rfl) ?_
        obtain ⟨hg, h⟩ := gd_of h
        refine va_iald hx hb hK.1 hP 3 0 rfl rfl hg dX0_heightForOne_30 ?_
        refine lv_iload_n hx hb dX0_heightForOne_31 rfl (lv_at hl 2 rfl) ?_
        obtain ⟨t, hd, h⟩ := ob_of h
        have K : ∀ (H : Heap) (locs : List Loc) (ls : Array Slot), va_P D vwCl [(q_, .inr (0, [.int s_boxes, .ref q_wide, .ref q_high, .ref q_turnable, .ref q_leastHeight, .ref q_fewest])), (q_high, .inl (ky 0, 6, .inl s_high)), (q_turnable, .inl (ky 2, 6, .inl s_turnable)), (q_wide, .inl (ky 0, 6, .inl s_wide))] H → va_D A [(q_, .inr (0, [.int s_boxes, .ref q_wide, .ref q_high, .ref q_turnable, .ref q_leastHeight, .ref q_fewest])), (q_high, .inl (ky 0, 6, .inl s_high)), (q_turnable, .inl (ky 2, 6, .inl s_turnable)), (q_wide, .inl (ky 0, 6, .inl s_wide))] → va_S A s.heap H locs → lv_has ls 5 [(0, .ref q_), (1, .int a1), (2, .int a2), (3, .int t), (4, .int v2)] → W p l e rmX0_heightForOne s m args below meth c H locs 0 0 Q (F0 m 43 ls []) := by
          clear hd hP hD hS hl
          obtain ⟨v5, rfl⟩ : ∃ z, z = t := ⟨_, rfl⟩
          replace h := dm1_of h
          intro H locs ls hP hD hS hl
          replace hP : va_P D vwCl [(q_, .inr (0, [.int s_boxes, .ref q_wide, .ref q_high, .ref q_turnable, .ref q_leastHeight, .ref q_fewest])), (q_high, .inl (ky 0, 6, .inl s_high)), (q_turnable, .inl (ky 2, 6, .inl s_turnable)), (q_wide, .inl (ky 0, 6, .inl s_wide))] H := hP
          replace hD : va_D A [(q_, .inr (0, [.int s_boxes, .ref q_wide, .ref q_high, .ref q_turnable, .ref q_leastHeight, .ref q_fewest])), (q_high, .inl (ky 0, 6, .inl s_high)), (q_turnable, .inl (ky 2, 6, .inl s_turnable)), (q_wide, .inl (ky 0, 6, .inl s_wide))] := hD
          replace hl : lv_has ls 5 [(0, .ref q_), (1, .int a1), (2, .int a2), (3, .int v5), (4, .int v2)] := hl
          refine W.eq (g2 := F0 m 43 ls []) rfl ?_
          refine lv_aload_n hx hb dX0_heightForOne_43 rfl (lv_at hl 0 rfl) ?_
          refine va_get (D := D) (ci := 0) (v := .ref q_turnable) (C := RX0) (T := TX0) (N := 6) hx hb hts hi_X0 hown hK.1 hP 0 rfl rfl 3 (by decide) hf_18 (fun _ h9 => h9) rfl dX0_heightForOne_44 ?_
          refine lv_iload hx hb dX0_heightForOne_47 (lv_at hl 4 rfl) ?_
          obtain ⟨hg, h⟩ := gd_of h
          refine va_zald hx hb hK.1 hP 2 2 rfl rfl hg dX0_heightForOne_49 ?_
          refine lv_if_eq (tgt := 76) hx hb dX0_heightForOne_50 (by decide) (fun hc => ?_) (fun hc => ?_)
          · replace h := if_t hc h
            cases h
            exact K _ _ _ hP hD hS (lv_sub hl [0, 1, 2, 3, 4] rfl)
          · replace h := if_f hc h
            refine lv_aload_n hx hb dX0_heightForOne_53 rfl (lv_at hl 0 rfl) ?_
            refine va_get (D := D) (ci := 0) (v := .ref q_high) (C := RX0) (T := TX0) (N := 6) hx hb hts hi_X0 hown hK.1 hP 0 rfl rfl 2 (by decide) hf_15 (fun _ h9 => h9) rfl dX0_heightForOne_54 ?_
            refine lv_iload hx hb dX0_heightForOne_57 (lv_at hl 4 rfl) ?_
            obtain ⟨hg, h⟩ := gd_of h
            refine va_iald hx hb hK.1 hP 1 0 rfl rfl hg dX0_heightForOne_59 ?_
            refine lv_iload_n hx hb dX0_heightForOne_60 rfl (lv_at hl 2 rfl) ?_
            refine lv_icmp_gt (tgt := 76) hx hb dX0_heightForOne_61 (by decide) (fun hc => ?_) (fun hc => ?_)
            · replace h := if_t hc h
              cases h
              exact K _ _ _ hP hD hS (lv_sub hl [0, 1, 2, 3, 4] rfl)
            · replace h := if_f hc h
              refine lv_iload_n hx hb dX0_heightForOne_64 rfl (lv_at hl 3 rfl) ?_
              refine lv_aload_n hx hb dX0_heightForOne_65 rfl (lv_at hl 0 rfl) ?_
              refine va_get (D := D) (ci := 0) (v := .ref q_wide) (C := RX0) (T := TX0) (N := 6) hx hb hts hi_X0 hown hK.1 hP 0 rfl rfl 1 (by decide) hf_9 (fun _ h9 => h9) rfl dX0_heightForOne_66 ?_
              refine lv_iload hx hb dX0_heightForOne_69 (lv_at hl 4 rfl) ?_
              obtain ⟨hg, h⟩ := gd_of h
              refine va_iald hx hb hK.1 hP 3 0 rfl rfl hg dX0_heightForOne_71 ?_
              refine va_mmin hx hb (hml.trans hl.1.symm) hown hm_40 hs_mmin hini_Math hco_mmin (Nat.le_of_ble_eq_true rfl) (Nat.le_of_ble_eq_true rfl) (Nat.le_of_ble_eq_true rfl) (Nat.le_of_ble_eq_true rfl) dX0_heightForOne_72 ?_
              refine lv_topi (fun x6 ex6 => ?_)
              replace h := lt_at ex6 h
              refine lv_istore_n (lv' := [(3, .int x6), (0, .ref q_), (1, .int a1), (2, .int a2), (4, .int v2)]) hx hb dX0_heightForOne_75 rfl hl (by decide) rfl (fun ls hl => ?_)
              cases h
              exact K _ _ _ hP hD hS (lv_sub hl [1, 2, 3, 0, 4] rfl)
        replace h := hd
        clear hd
        refine lv_icmp_gt (tgt := 43) hx hb dX0_heightForOne_32 (by decide) (fun hc => ?_) (fun hc => ?_)
        · replace h := if_t hc h
          cases h
          exact K _ _ _ hP hD hS (lv_sub hl [0, 1, 2, 3, 4] rfl)
        · replace h := if_f hc h
          refine lv_aload_n hx hb dX0_heightForOne_35 rfl (lv_at hl 0 rfl) ?_
          refine va_get (D := D) (ci := 0) (v := .ref q_high) (C := RX0) (T := TX0) (N := 6) hx hb hts hi_X0 hown hK.1 hP 0 rfl rfl 2 (by decide) hf_15 (fun _ h9 => h9) rfl dX0_heightForOne_36 ?_
          refine lv_iload hx hb dX0_heightForOne_39 (lv_at hl 4 rfl) ?_
          obtain ⟨hg, h⟩ := gd_of h
          refine va_iald hx hb hK.1 hP 1 0 rfl rfl hg dX0_heightForOne_41 ?_
          refine lv_topi (fun x7 ex7 => ?_)
          replace h := lt_at ex7 h
          refine lv_istore_n (lv' := [(3, .int x7), (0, .ref q_), (1, .int a1), (2, .int a2), (4, .int v2)]) hx hb dX0_heightForOne_42 rfl hl (by decide) rfl (fun ls hl => ?_)
          cases h
          exact K _ _ _ hP hD hS (lv_sub hl [1, 2, 3, 0, 4] rfl)
  · have h1 := ex1_of h
    clear h hi
    rcases h1 with ⟨rfl, h⟩
    obtain ⟨v8, v9⟩ := t
    replace h := dm2_of h
    intro H locs ls hP hD hS hl
    replace hP : va_P D vwCl [(q_, .inr (0, [.int s_boxes, .ref q_wide, .ref q_high, .ref q_turnable, .ref q_leastHeight, .ref q_fewest])), (q_high, .inl (ky 0, 6, .inl s_high)), (q_turnable, .inl (ky 2, 6, .inl s_turnable)), (q_wide, .inl (ky 0, 6, .inl s_wide))] H := hP
    replace hD : va_D A [(q_, .inr (0, [.int s_boxes, .ref q_wide, .ref q_high, .ref q_turnable, .ref q_leastHeight, .ref q_fewest])), (q_high, .inl (ky 0, 6, .inl s_high)), (q_turnable, .inl (ky 2, 6, .inl s_turnable)), (q_wide, .inl (ky 0, 6, .inl s_wide))] := hD
    replace hl : lv_has ls 5 [(0, .ref q_), (1, .int a1), (2, .int a2), (3, .int v8), (4, .int v9)] := hl
    refine W.eq (g2 := F0 m 82 ls []) rfl ?_
    refine lv_iload_n hx hb dX0_heightForOne_82 rfl (lv_at hl 3 rfl) ?_
    cases h
    exact ret _ _ _ _ dX0_heightForOne_83 hP hD hS

def bX0_heightForTwo_28 (a1 : Int32) (a2 : Int32) (a3 : Int32) (s_leastHeight : Nat → Int32) (t : Int32 × Int32) : Option (Nat × (Int32 × Int32)) := dm2 t (fun (v2 : Int32) (v3 : Int32) => if a3 ≤ v3 then some (1, (v2, v3)) else gd (¬ (((a1 * (13 : Int32)) + v3) < 0 ∨ 832 ≤ ((a1 * (13 : Int32)) + v3).toNatClampNeg)) (lt (s_leastHeight ((a1 * (13 : Int32)) + v3).toNatClampNeg) (fun x4 => gd (¬ ((((a2 * (13 : Int32)) + a3) - v3) < 0 ∨ 832 ≤ (((a2 * (13 : Int32)) + a3) - v3).toNatClampNeg)) (lt (s_leastHeight (((a2 * (13 : Int32)) + a3) - v3).toNatClampNeg) (fun x5 => lt (if (if x4 < x5 then x5 else x4) < v2 then (if x4 < x5 then x5 else x4) else v2) (fun x6 => lt (v3 + 1) (fun x7 => some (0, (x6, x7)))))))))
def sX0_heightForTwo (a1 : Int32) (a2 : Int32) (a3 : Int32) (s_leastHeight : Nat → Int32) : Option (Int32) := gd (¬ (((a1 * (13 : Int32)) + a3) < 0 ∨ 832 ≤ ((a1 * (13 : Int32)) + a3).toNatClampNeg)) (gd (¬ (((a2 * (13 : Int32)) + a3) < 0 ∨ 832 ≤ ((a2 * (13 : Int32)) + a3).toNatClampNeg)) (lt ((s_leastHeight ((a1 * (13 : Int32)) + a3).toNatClampNeg) + (s_leastHeight ((a2 * (13 : Int32)) + a3).toNatClampNeg)) (fun x1 => ob (iter (bX0_heightForTwo_28 a1 a2 a3 s_leastHeight) FU (x1, (1 : Int32))) (fun kt => ex1 kt (fun t => dm2 t (fun (v8 : Int32) (v9 : Int32) => some v8))))))
abbrev rmX0_heightForTwo : Room := { frames := 1, cells := 0, slots := 0, locals := 40 }
set_option maxHeartbeats 4000000 in
set_option maxRecDepth 100000 in
theorem c_X0_heightForTwo (l : Launch) (D : va_G) (ky : Nat → ClassId) (q_ q_wide q_high q_turnable q_leastHeight q_fewest : Nat) (a1 : Int32) (a2 : Int32) (a3 : Int32) (s_boxes : Int32) (s_leastHeight : Nat → Int32) {o_r : Int32} (h : sX0_heightForTwo a1 a2 a3 s_leastHeight = some o_r) : MtI l D ky yX0_heightForTwo wsX0_heightForTwo rmX0_heightForTwo [.ref q_, .int a1, .int a2, .int a3] [(q_, .inr (0, [.int s_boxes, .ref q_wide, .ref q_high, .ref q_turnable, .ref q_leastHeight, .ref q_fewest])), (q_leastHeight, .inl (ky 0, 832, .inl s_leastHeight))] [(q_, .inr (0, [.int s_boxes, .ref q_wide, .ref q_high, .ref q_turnable, .ref q_leastHeight, .ref q_fewest])), (q_leastHeight, .inl (ky 0, 832, .inl s_leastHeight))] o_r 0 0 := by
  refine MtI.of (cc := cX0_heightForTwo) (maxL := 8) (by decide +kernel) rfl (Nat.le_of_ble_eq_true rfl) ?_
  intro p e R s m args below meth c A Q ls hR hx hb hts hown hnm hml hP hK hD hA ret hl
  subst hR
  obtain ⟨H, hH⟩ : ∃ H, H = s.heap := ⟨_, rfl⟩
  obtain ⟨locs, hlocs⟩ : ∃ locs : List Loc, locs = [] := ⟨_, rfl⟩
  have hS : va_S A s.heap H locs := by rw [hH, hlocs]; exact va_S.rf
  rw [← hH] at hP
  suffices hgo : W p l e rmX0_heightForTwo s m args below meth c H locs 0 0 Q (F0 m 0 ls []) by rw [hH, hlocs] at hgo; exact hgo
  clear hH hlocs
  replace hl : lv_has ls 8 [(0, .ref q_), (1, .int a1), (2, .int a2), (3, .int a3)] := hl
  replace hown : s.vm.findClass RX0 = some m.cls := hown
  have hi_X0 : ∀ w ∈ u_ws RX0 TX0 6, w ∈ wsX0_heightForTwo := fun _ h9 => List.mem_cons_of_mem _ (List.mem_append_right _ h9)
  have hf_22 := hts (.fieldLink RX0 22 "GlazierBench$Cutter" "leastHeight" "[I") (by decide +kernel)
  have hm_51 := hts (.methodLink RX0 51 Lib.Math.max.name) (by decide +kernel)
  have hs_mmax := hts (.static Lib.Math.max.name) (by decide +kernel)
  have hini_Math := hts (.initialized "java/lang/Math") (by decide +kernel)
  have hco_mmax := hts (.code Lib.Math.max.name Lib.Math.max.code 2 (some .int)) (by decide +kernel)
  have hm_40 := hts (.methodLink RX0 40 Lib.Math.min.name) (by decide +kernel)
  have hs_mmin := hts (.static Lib.Math.min.name) (by decide +kernel)
  have hco_mmin := hts (.code Lib.Math.min.name Lib.Math.min.code 2 (some .int)) (by decide +kernel)
  unfold sX0_heightForTwo at h
  refine lv_aload_n hx hb dX0_heightForTwo_0 rfl (lv_at hl 0 rfl) ?_
  refine va_get (D := D) (ci := 0) (v := .ref q_leastHeight) (C := RX0) (T := TX0) (N := 6) hx hb hts hi_X0 hown hK.1 hP 0 rfl rfl 4 (by decide) hf_22 (fun _ h9 => h9) rfl dX0_heightForTwo_1 ?_
  refine lv_iload_n hx hb dX0_heightForTwo_4 rfl (lv_at hl 1 rfl) ?_
  refine lv_bipush (v := 13) hx hb dX0_heightForTwo_5 (by decide) ?_
  refine lv_imul hx hb dX0_heightForTwo_7 ?_
  refine lv_iload_n hx hb dX0_heightForTwo_8 rfl (lv_at hl 3 rfl) ?_
  refine lv_iadd hx hb dX0_heightForTwo_9 ?_
  obtain ⟨hg, h⟩ := gd_of h
  refine va_iald hx hb hK.1 hP 1 0 rfl rfl hg dX0_heightForTwo_10 ?_
  refine lv_aload_n hx hb dX0_heightForTwo_11 rfl (lv_at hl 0 rfl) ?_
  refine va_get (D := D) (ci := 0) (v := .ref q_leastHeight) (C := RX0) (T := TX0) (N := 6) hx hb hts hi_X0 hown hK.1 hP 0 rfl rfl 4 (by decide) hf_22 (fun _ h9 => h9) rfl dX0_heightForTwo_12 ?_
  refine lv_iload_n hx hb dX0_heightForTwo_15 rfl (lv_at hl 2 rfl) ?_
  refine lv_bipush (v := 13) hx hb dX0_heightForTwo_16 (by decide) ?_
  refine lv_imul hx hb dX0_heightForTwo_18 ?_
  refine lv_iload_n hx hb dX0_heightForTwo_19 rfl (lv_at hl 3 rfl) ?_
  refine lv_iadd hx hb dX0_heightForTwo_20 ?_
  obtain ⟨hg, h⟩ := gd_of h
  refine va_iald hx hb hK.1 hP 1 0 rfl rfl hg dX0_heightForTwo_21 ?_
  refine lv_iadd hx hb dX0_heightForTwo_22 ?_
  refine lv_topi (fun x1 ex1 => ?_)
  replace h := lt_at ex1 h
  refine lv_istore (lv' := [(4, .int x1), (0, .ref q_), (1, .int a1), (2, .int a2), (3, .int a3)]) hx hb dX0_heightForTwo_23 hl (by decide) rfl (fun ls hl => ?_)
  refine lv_iconst (v := 1) hx hb dX0_heightForTwo_25 (by decide) ?_
  refine lv_istore (lv' := [(5, .int (1 : Int32)), (4, .int x1), (0, .ref q_), (1, .int a1), (2, .int a2), (3, .int a3)]) hx hb dX0_heightForTwo_26 hl (by decide) rfl (fun ls hl => ?_)
  obtain ⟨⟨k, t⟩, hi, h⟩ := ob_of h
  refine iter_rule (P := fun (k : Nat) (t : Int32 × Int32) => ∀ (H : Heap) (locs : List Loc) (ls : Array Slot), va_P D vwCl [(q_, .inr (0, [.int s_boxes, .ref q_wide, .ref q_high, .ref q_turnable, .ref q_leastHeight, .ref q_fewest])), (q_leastHeight, .inl (ky 0, 832, .inl s_leastHeight))] H → va_D A [(q_, .inr (0, [.int s_boxes, .ref q_wide, .ref q_high, .ref q_turnable, .ref q_leastHeight, .ref q_fewest])), (q_leastHeight, .inl (ky 0, 832, .inl s_leastHeight))] → va_S A s.heap H locs → lv_has ls 8 [(0, .ref q_), (1, .int a1), (2, .int a2), (3, .int a3), (4, .int t.1), (5, .int t.2)] → W p l e rmX0_heightForTwo s m args below meth c H locs 0 0 Q (F0 m ([28, 84].getD k 0) ls [])) ?_ _ _ _ _ hi ?_ H locs ls hP hD hS (lv_sub hl [2, 3, 4, 5, 1, 0] rfl)
  · clear h hi hP hD hS hl
    intro t k t' h K
    obtain ⟨v2, v3⟩ := t
    intro H locs ls hP hD hS hl
    replace h := dm2_of h
    replace hP : va_P D vwCl [(q_, .inr (0, [.int s_boxes, .ref q_wide, .ref q_high, .ref q_turnable, .ref q_leastHeight, .ref q_fewest])), (q_leastHeight, .inl (ky 0, 832, .inl s_leastHeight))] H := hP
    replace hD : va_D A [(q_, .inr (0, [.int s_boxes, .ref q_wide, .ref q_high, .ref q_turnable, .ref q_leastHeight, .ref q_fewest])), (q_leastHeight, .inl (ky 0, 832, .inl s_leastHeight))] := hD
    replace hl : lv_has ls 8 [(0, .ref q_), (1, .int a1), (2, .int a2), (3, .int a3), (4, .int v2), (5, .int v3)] := hl
    refine lv_iload hx hb dX0_heightForTwo_28 (lv_at hl 5 rfl) ?_
    refine lv_iload_n hx hb dX0_heightForTwo_30 rfl (lv_at hl 3 rfl) ?_
    refine lv_icmp_ge (tgt := 84) hx hb dX0_heightForTwo_31 (by decide) (fun hc => ?_) (fun hc => ?_)
    · replace h := if_t hc h
      cases h
      exact K _ _ _ hP hD hS (lv_sub hl [0, 1, 2, 3, 4, 5] rfl)
    · replace h := if_f hc h
      refine lv_aload_n hx hb dX0_heightForTwo_34 rfl (lv_at hl 0 rfl) ?_
      refine va_get (D := D) (ci := 0) (v := .ref q_leastHeight) (C := RX0) (T := TX0) (N := 6) hx hb hts hi_X0 hown hK.1 hP 0 rfl rfl 4 (by decide) hf_22 (fun _ h9 => h9) rfl dX0_heightForTwo_35 ?_
      refine lv_iload_n hx hb dX0_heightForTwo_38 rfl (lv_at hl 1 rfl) ?_
      refine lv_bipush (v := 13) hx hb dX0_heightForTwo_39 (by decide) ?_
      refine lv_imul hx hb dX0_heightForTwo_41 ?_
      refine lv_iload hx hb dX0_heightForTwo_42 (lv_at hl 5 rfl) ?_
      refine lv_iadd hx hb dX0_heightForTwo_44 ?_
      obtain ⟨hg, h⟩ := gd_of h
      refine va_iald hx hb hK.1 hP 1 0 rfl rfl hg dX0_heightForTwo_45 ?_
      refine lv_topi (fun x4 ex4 => ?_)
      replace h := lt_at ex4 h
      refine lv_istore (lv' := [(6, .int x4), (0, .ref q_), (1, .int a1), (2, .int a2), (3, .int a3), (4, .int v2), (5, .int v3)]) hx hb dX0_heightForTwo_46 hl (by decide) rfl (fun ls hl => ?_)
      refine lv_aload_n hx hb dX0_heightForTwo_48 rfl (lv_at hl 1 rfl) ?_
      refine va_get (D := D) (ci := 0) (v := .ref q_leastHeight) (C := RX0) (T := TX0) (N := 6) hx hb hts hi_X0 hown hK.1 hP 0 rfl rfl 4 (by decide) hf_22 (fun _ h9 => h9) rfl dX0_heightForTwo_49 ?_
      refine lv_iload_n hx hb dX0_heightForTwo_52 rfl (lv_at hl 3 rfl) ?_
      refine lv_bipush (v := 13) hx hb dX0_heightForTwo_53 (by decide) ?_
      refine lv_imul hx hb dX0_heightForTwo_55 ?_
      refine lv_iload_n hx hb dX0_heightForTwo_56 rfl (lv_at hl 4 rfl) ?_
      refine lv_iadd hx hb dX0_heightForTwo_57 ?_
      refine lv_iload hx hb dX0_heightForTwo_58 (lv_at hl 6 rfl) ?_
      refine lv_isub hx hb dX0_heightForTwo_60 ?_
      obtain ⟨hg, h⟩ := gd_of h
      refine va_iald hx hb hK.1 hP 1 0 rfl rfl hg dX0_heightForTwo_61 ?_
      refine lv_topi (fun x5 ex5 => ?_)
      replace h := lt_at ex5 h
      refine lv_istore (lv' := [(7, .int x5), (6, .int x4), (0, .ref q_), (1, .int a1), (2, .int a2), (3, .int a3), (4, .int v2), (5, .int v3)]) hx hb dX0_heightForTwo_62 hl (by decide) rfl (fun ls hl => ?_)
      refine lv_iload hx hb dX0_heightForTwo_64 (lv_at hl 6 rfl) ?_
      refine lv_iload hx hb dX0_heightForTwo_66 (lv_at hl 1 rfl) ?_
      refine lv_iload hx hb dX0_heightForTwo_68 (lv_at hl 0 rfl) ?_
      refine va_mmax hx hb (hml.trans hl.1.symm) hown hm_51 hs_mmax hini_Math hco_mmax (Nat.le_of_ble_eq_true rfl) (Nat.le_of_ble_eq_true rfl) (Nat.le_of_ble_eq_true rfl) (Nat.le_of_ble_eq_true rfl) dX0_heightForTwo_70 ?_
      refine va_mmin hx hb (hml.trans hl.1.symm) hown hm_40 hs_mmin hini_Math hco_mmin (Nat.le_of_ble_eq_true rfl) (Nat.le_of_ble_eq_true rfl) (Nat.le_of_ble_eq_true rfl) (Nat.le_of_ble_eq_true rfl) dX0_heightForTwo_73 ?_
      refine lv_topi (fun x6 ex6 => ?_)
      replace h := lt_at ex6 h
      refine lv_istore (lv' := [(4, .int x6), (7, .int x5), (6, .int x4), (0, .ref q_), (1, .int a1), (2, .int a2), (3, .int a3), (5, .int v3)]) hx hb dX0_heightForTwo_76 hl (by decide) rfl (fun ls hl => ?_)
      obtain ⟨x7, ex7⟩ : ∃ z : Int32, z = v3 + 1 := ⟨_, rfl⟩
      replace h := lt_at ex7 h
      refine lv_iinc (v := x7) (lv' := [(5, .int x7), (4, .int x6), (7, .int x5), (6, .int x4), (0, .ref q_), (1, .int a1), (2, .int a2), (3, .int a3)]) hx hb dX0_heightForTwo_78 hl (k := 7) rfl (by rw [ex7]; rfl) (by decide) rfl (fun ls hl => ?_)
      refine lv_goto (tgt := 28) hx hb dX0_heightForTwo_81 (by decide) ?_
      cases h
      exact K _ _ _ hP hD hS (lv_sub hl [4, 5, 6, 7, 1, 0] rfl)
  · have h1 := ex1_of h
    clear h hi
    rcases h1 with ⟨rfl, h⟩
    obtain ⟨v8, v9⟩ := t
    replace h := dm2_of h
    intro H locs ls hP hD hS hl
    replace hP : va_P D vwCl [(q_, .inr (0, [.int s_boxes, .ref q_wide, .ref q_high, .ref q_turnable, .ref q_leastHeight, .ref q_fewest])), (q_leastHeight, .inl (ky 0, 832, .inl s_leastHeight))] H := hP
    replace hD : va_D A [(q_, .inr (0, [.int s_boxes, .ref q_wide, .ref q_high, .ref q_turnable, .ref q_leastHeight, .ref q_fewest])), (q_leastHeight, .inl (ky 0, 832, .inl s_leastHeight))] := hD
    replace hl : lv_has ls 8 [(0, .ref q_), (1, .int a1), (2, .int a2), (3, .int a3), (4, .int v8), (5, .int v9)] := hl
    refine W.eq (g2 := F0 m 84 ls []) rfl ?_
    refine lv_iload hx hb dX0_heightForTwo_84 (lv_at hl 4 rfl) ?_
    cases h
    exact ret _ _ _ _ dX0_heightForTwo_86 hP hD hS

def bX0_heightFor_22 (a1 : Int32) (a2 : Int32) (s_leastHeight : Nat → Int32) (t : Int32 × Int32) : Option (Nat × (Int32 × Int32)) := dm2 t (fun (v1 : Int32) (v2 : Int32) => if a1 ≤ v2 then some (1, (v1, v2)) else ob (if ¬ (v2 &&& a1) = v2 then some v1 else ob (sX0_heightForTwo v2 (a1 ^^^ v2) a2 s_leastHeight) (fun o => dm1 o (fun (r5 : Int32) => lt (if r5 < v1 then r5 else v1) (fun x6 => some x6)))) (fun t => dm1 t (fun (v3 : Int32) => lt (v2 + 1) (fun x4 => some (0, (v3, x4))))))
def sX0_heightFor (a1 : Int32) (a2 : Int32) (s_boxes : Int32) (s_high : Nat → Int32) (s_leastHeight : Nat → Int32) (s_turnable : Nat → Int32) (s_wide : Nat → Int32) : Option (Int32) := if ¬ (a1 &&& (a1 - (1 : Int32))) = 0 then ob (iter (bX0_heightFor_22 a1 a2 s_leastHeight) FU ((1000 : Int32), (1 : Int32))) (fun kt => ex1 kt (fun t => dm2 t (fun (v7 : Int32) (v8 : Int32) => some v7))) else ob (sX0_heightForOne a1 a2 s_boxes s_high s_turnable s_wide) (fun o => dm1 o (fun (r9 : Int32) => some r9))
abbrev rmX0_heightFor : Room := { frames := 2, cells := 0, slots := 0, locals := 67 }
set_option maxHeartbeats 4000000 in
set_option maxRecDepth 100000 in
theorem c_X0_heightFor (l : Launch) (D : va_G) (ky : Nat → ClassId) (q_ q_wide q_high q_turnable q_leastHeight q_fewest : Nat) (a1 : Int32) (a2 : Int32) (s_boxes : Int32) (s_high : Nat → Int32) (s_leastHeight : Nat → Int32) (s_turnable : Nat → Int32) (s_wide : Nat → Int32) {o_r : Int32} (h : sX0_heightFor a1 a2 s_boxes s_high s_leastHeight s_turnable s_wide = some o_r) : MtI l D ky yX0_heightFor wsX0_heightFor rmX0_heightFor [.ref q_, .int a1, .int a2] [(q_, .inr (0, [.int s_boxes, .ref q_wide, .ref q_high, .ref q_turnable, .ref q_leastHeight, .ref q_fewest])), (q_high, .inl (ky 0, 6, .inl s_high)), (q_leastHeight, .inl (ky 0, 832, .inl s_leastHeight)), (q_turnable, .inl (ky 2, 6, .inl s_turnable)), (q_wide, .inl (ky 0, 6, .inl s_wide))] [(q_, .inr (0, [.int s_boxes, .ref q_wide, .ref q_high, .ref q_turnable, .ref q_leastHeight, .ref q_fewest])), (q_high, .inl (ky 0, 6, .inl s_high)), (q_leastHeight, .inl (ky 0, 832, .inl s_leastHeight)), (q_turnable, .inl (ky 2, 6, .inl s_turnable)), (q_wide, .inl (ky 0, 6, .inl s_wide))] o_r 0 0 := by
  refine MtI.of (cc := cX0_heightFor) (maxL := 5) (by decide +kernel) rfl (Nat.le_of_ble_eq_true rfl) ?_
  intro p e R s m args below meth c A Q ls hR hx hb hts hown hnm hml hP hK hD hA ret hl
  subst hR
  obtain ⟨H, hH⟩ : ∃ H, H = s.heap := ⟨_, rfl⟩
  obtain ⟨locs, hlocs⟩ : ∃ locs : List Loc, locs = [] := ⟨_, rfl⟩
  have hS : va_S A s.heap H locs := by rw [hH, hlocs]; exact va_S.rf
  rw [← hH] at hP
  suffices hgo : W p l e rmX0_heightFor s m args below meth c H locs 0 0 Q (F0 m 0 ls []) by rw [hH, hlocs] at hgo; exact hgo
  clear hH hlocs
  replace hl : lv_has ls 5 [(0, .ref q_), (1, .int a1), (2, .int a2)] := hl
  replace hown : s.vm.findClass RX0 = some m.cls := hown
  have hm_40 := hts (.methodLink RX0 40 Lib.Math.min.name) (by decide +kernel)
  have hs_mmin := hts (.static Lib.Math.min.name) (by decide +kernel)
  have hini_Math := hts (.initialized "java/lang/Math") (by decide +kernel)
  have hco_mmin := hts (.code Lib.Math.min.name Lib.Math.min.code 2 (some .int)) (by decide +kernel)
  unfold sX0_heightFor at h
  refine lv_iload_n hx hb dX0_heightFor_0 rfl (lv_at hl 1 rfl) ?_
  refine lv_iload_n hx hb dX0_heightFor_1 rfl (lv_at hl 1 rfl) ?_
  refine lv_iconst (v := 1) hx hb dX0_heightFor_2 (by decide) ?_
  refine lv_isub hx hb dX0_heightFor_3 ?_
  refine lv_iand hx hb dX0_heightFor_4 ?_
  refine lv_if_ne (tgt := 15) hx hb dX0_heightFor_5 (by decide) (fun hc => ?_) (fun hc => ?_)
  · replace h := if_t hc h
    refine lv_sipush (v := 1000) hx hb dX0_heightFor_15 (by decide) ?_
    refine lv_istore_n (lv' := [(3, .int (1000 : Int32)), (0, .ref q_), (1, .int a1), (2, .int a2)]) hx hb dX0_heightFor_18 rfl hl (by decide) rfl (fun ls hl => ?_)
    refine lv_iconst (v := 1) hx hb dX0_heightFor_19 (by decide) ?_
    refine lv_istore (lv' := [(4, .int (1 : Int32)), (3, .int (1000 : Int32)), (0, .ref q_), (1, .int a1), (2, .int a2)]) hx hb dX0_heightFor_20 hl (by decide) rfl (fun ls hl => ?_)
    obtain ⟨⟨k, t⟩, hi, h⟩ := ob_of h
    refine iter_rule (P := fun (k : Nat) (t : Int32 × Int32) => ∀ (H : Heap) (locs : List Loc) (ls : Array Slot), va_P D vwCl [(q_, .inr (0, [.int s_boxes, .ref q_wide, .ref q_high, .ref q_turnable, .ref q_leastHeight, .ref q_fewest])), (q_high, .inl (ky 0, 6, .inl s_high)), (q_leastHeight, .inl (ky 0, 832, .inl s_leastHeight)), (q_turnable, .inl (ky 2, 6, .inl s_turnable)), (q_wide, .inl (ky 0, 6, .inl s_wide))] H → va_D A [(q_, .inr (0, [.int s_boxes, .ref q_wide, .ref q_high, .ref q_turnable, .ref q_leastHeight, .ref q_fewest])), (q_high, .inl (ky 0, 6, .inl s_high)), (q_leastHeight, .inl (ky 0, 832, .inl s_leastHeight)), (q_turnable, .inl (ky 2, 6, .inl s_turnable)), (q_wide, .inl (ky 0, 6, .inl s_wide))] → va_S A s.heap H locs → lv_has ls 5 [(0, .ref q_), (1, .int a1), (2, .int a2), (3, .int t.1), (4, .int t.2)] → W p l e rmX0_heightFor s m args below meth c H locs 0 0 Q (F0 m ([22, 59].getD k 0) ls [])) ?_ _ _ _ _ hi ?_ H locs ls hP hD hS (lv_sub hl [2, 3, 4, 1, 0] rfl)
    · clear h hi hP hD hS hl
      intro t k t' h K
      obtain ⟨v1, v2⟩ := t
      intro H locs ls hP hD hS hl
      replace h := dm2_of h
      replace hP : va_P D vwCl [(q_, .inr (0, [.int s_boxes, .ref q_wide, .ref q_high, .ref q_turnable, .ref q_leastHeight, .ref q_fewest])), (q_high, .inl (ky 0, 6, .inl s_high)), (q_leastHeight, .inl (ky 0, 832, .inl s_leastHeight)), (q_turnable, .inl (ky 2, 6, .inl s_turnable)), (q_wide, .inl (ky 0, 6, .inl s_wide))] H := hP
      replace hD : va_D A [(q_, .inr (0, [.int s_boxes, .ref q_wide, .ref q_high, .ref q_turnable, .ref q_leastHeight, .ref q_fewest])), (q_high, .inl (ky 0, 6, .inl s_high)), (q_leastHeight, .inl (ky 0, 832, .inl s_leastHeight)), (q_turnable, .inl (ky 2, 6, .inl s_turnable)), (q_wide, .inl (ky 0, 6, .inl s_wide))] := hD
      replace hl : lv_has ls 5 [(0, .ref q_), (1, .int a1), (2, .int a2), (3, .int v1), (4, .int v2)] := hl
      refine lv_iload hx hb dX0_heightFor_22 (lv_at hl 4 rfl) ?_
      refine lv_iload_n hx hb dX0_heightFor_24 rfl (lv_at hl 1 rfl) ?_
      refine lv_icmp_ge (tgt := 59) hx hb dX0_heightFor_25 (by decide) (fun hc => ?_) (fun hc => ?_)
      · replace h := if_t hc h
        cases h
        exact K _ _ _ hP hD hS (lv_sub hl [0, 1, 2, 3, 4] rfl)
      · replace h := if_f hc h
        refine lv_iload hx hb dX0_heightFor_28 (lv_at hl 4 rfl) ?_
        refine lv_iload_n hx hb dX0_heightFor_30 rfl (lv_at hl 1 rfl) ?_
        refine lv_iand hx hb dX0_heightFor_31 ?_
        refine lv_iload hx hb dX0_heightFor_32 (lv_at hl 4 rfl) ?_
        obtain ⟨t, hd, h⟩ := ob_of h
        have K : ∀ (H : Heap) (locs : List Loc) (ls : Array Slot), va_P D vwCl [(q_, .inr (0, [.int s_boxes, .ref q_wide, .ref q_high, .ref q_turnable, .ref q_leastHeight, .ref q_fewest])), (q_high, .inl (ky 0, 6, .inl s_high)), (q_leastHeight, .inl (ky 0, 832, .inl s_leastHeight)), (q_turnable, .inl (ky 2, 6, .inl s_turnable)), (q_wide, .inl (ky 0, 6, .inl s_wide))] H → va_D A [(q_, .inr (0, [.int s_boxes, .ref q_wide, .ref q_high, .ref q_turnable, .ref q_leastHeight, .ref q_fewest])), (q_high, .inl (ky 0, 6, .inl s_high)), (q_leastHeight, .inl (ky 0, 832, .inl s_leastHeight)), (q_turnable, .inl (ky 2, 6, .inl s_turnable)), (q_wide, .inl (ky 0, 6, .inl s_wide))] → va_S A s.heap H locs → lv_has ls 5 [(0, .ref q_), (1, .int a1), (2, .int a2), (3, .int t), (4, .int v2)] → W p l e rmX0_heightFor s m args below meth c H locs 0 0 Q (F0 m 53 ls []) := by
          clear hd hP hD hS hl
          obtain ⟨v3, rfl⟩ : ∃ z, z = t := ⟨_, rfl⟩
          replace h := dm1_of h
          intro H locs ls hP hD hS hl
          replace hP : va_P D vwCl [(q_, .inr (0, [.int s_boxes, .ref q_wide, .ref q_high, .ref q_turnable, .ref q_leastHeight, .ref q_fewest])), (q_high, .inl (ky 0, 6, .inl s_high)), (q_leastHeight, .inl (ky 0, 832, .inl s_leastHeight)), (q_turnable, .inl (ky 2, 6, .inl s_turnable)), (q_wide, .inl (ky 0, 6, .inl s_wide))] H := hP
          replace hD : va_D A [(q_, .inr (0, [.int s_boxes, .ref q_wide, .ref q_high, .ref q_turnable, .ref q_leastHeight, .ref q_fewest])), (q_high, .inl (ky 0, 6, .inl s_high)), (q_leastHeight, .inl (ky 0, 832, .inl s_leastHeight)), (q_turnable, .inl (ky 2, 6, .inl s_turnable)), (q_wide, .inl (ky 0, 6, .inl s_wide))] := hD
          replace hl : lv_has ls 5 [(0, .ref q_), (1, .int a1), (2, .int a2), (3, .int v3), (4, .int v2)] := hl
          refine W.eq (g2 := F0 m 53 ls []) rfl ?_
          obtain ⟨x4, ex4⟩ : ∃ z : Int32, z = v2 + 1 := ⟨_, rfl⟩
          replace h := lt_at ex4 h
          refine lv_iinc (v := x4) (lv' := [(4, .int x4), (0, .ref q_), (1, .int a1), (2, .int a2), (3, .int v3)]) hx hb dX0_heightFor_53 hl (k := 4) rfl (by rw [ex4]; rfl) (by decide) rfl (fun ls hl => ?_)
          refine lv_goto (tgt := 22) hx hb dX0_heightFor_56 (by decide) ?_
          cases h
          exact K _ _ _ hP hD hS (lv_sub hl [1, 2, 3, 4, 0] rfl)
        replace h := hd
        clear hd
        refine lv_icmp_ne (tgt := 53) hx hb dX0_heightFor_34 (by decide) (fun hc => ?_) (fun hc => ?_)
        · replace h := if_t hc h
          cases h
          exact K _ _ _ hP hD hS (lv_sub hl [0, 1, 2, 3, 4] rfl)
        · replace h := if_f (fun z => z hc) h
          refine lv_iload_n hx hb dX0_heightFor_37 rfl (lv_at hl 3 rfl) ?_
          refine lv_aload_n hx hb dX0_heightFor_38 rfl (lv_at hl 0 rfl) ?_
          refine lv_iload hx hb dX0_heightFor_39 (lv_at hl 4 rfl) ?_
          refine lv_iload_n hx hb dX0_heightFor_41 rfl (lv_at hl 1 rfl) ?_
          refine lv_iload hx hb dX0_heightFor_42 (lv_at hl 4 rfl) ?_
          refine lv_ixor hx hb dX0_heightFor_44 ?_
          refine lv_iload_n hx hb dX0_heightFor_45 rfl (lv_at hl 2 rfl) ?_
          obtain ⟨r5, hc, h⟩ := ob_of h
          replace h := dm1_of h
          refine cv_i (As := [.int v2, .int (a1 ^^^ v2), .int a2]) (rest := [.int v1]) (wr := [(q_high, .inl (ky 0, 6, .inl s_high)), (q_turnable, .inl (ky 2, 6, .inl s_turnable)), (q_wide, .inl (ky 0, 6, .inl s_wide))]) (wn := [(q_, .inr (0, [.int s_boxes, .ref q_wide, .ref q_high, .ref q_turnable, .ref q_leastHeight, .ref q_fewest])), (q_high, .inl (ky 0, 6, .inl s_high)), (q_leastHeight, .inl (ky 0, 832, .inl s_leastHeight)), (q_turnable, .inl (ky 2, 6, .inl s_turnable)), (q_wide, .inl (ky 0, 6, .inl s_wide))]) ⟨hx, hb, hml, hown, hts⟩ (c_X0_heightForTwo l D ky q_ q_wide q_high q_turnable q_leastHeight q_fewest v2 (a1 ^^^ v2) a2 s_boxes s_leastHeight hc) (cwV 3 hts gX0_heightFor_X0_heightForTwo rfl rfl rfl (by decide +kernel) ⟨Nat.le_of_ble_eq_true rfl, Nat.le_of_ble_eq_true rfl⟩) (rcv hK.1 hP (q0 := 0) rfl rfl) hP hD hK hS hA [0, 2] [1, 3, 4] [3, 0, 4, 1, 2] rfl (by decide +kernel) rfl (by decide +kernel) (by decide +kernel) (by decide +kernel) rfl rfl rfl hl.1 (Nat.le_of_ble_eq_true rfl) dX0_heightFor_46 ⟨Nat.le_of_ble_eq_true rfl, Nat.le_of_ble_eq_true rfl⟩ (fun H locs hP hD hS => ?_)
          refine va_mmin hx hb (hml.trans hl.1.symm) hown hm_40 hs_mmin hini_Math hco_mmin (Nat.le_of_ble_eq_true rfl) (Nat.le_of_ble_eq_true rfl) (Nat.le_of_ble_eq_true rfl) (Nat.le_of_ble_eq_true rfl) dX0_heightFor_49 ?_
          refine lv_topi (fun x6 ex6 => ?_)
          replace h := lt_at ex6 h
          refine lv_istore_n (lv' := [(3, .int x6), (0, .ref q_), (1, .int a1), (2, .int a2), (4, .int v2)]) hx hb dX0_heightFor_52 rfl hl (by decide) rfl (fun ls hl => ?_)
          cases h
          exact K _ _ _ hP hD hS (lv_sub hl [1, 2, 3, 0, 4] rfl)
    · have h1 := ex1_of h
      clear h hi
      rcases h1 with ⟨rfl, h⟩
      obtain ⟨v7, v8⟩ := t
      replace h := dm2_of h
      intro H locs ls hP hD hS hl
      replace hP : va_P D vwCl [(q_, .inr (0, [.int s_boxes, .ref q_wide, .ref q_high, .ref q_turnable, .ref q_leastHeight, .ref q_fewest])), (q_high, .inl (ky 0, 6, .inl s_high)), (q_leastHeight, .inl (ky 0, 832, .inl s_leastHeight)), (q_turnable, .inl (ky 2, 6, .inl s_turnable)), (q_wide, .inl (ky 0, 6, .inl s_wide))] H := hP
      replace hD : va_D A [(q_, .inr (0, [.int s_boxes, .ref q_wide, .ref q_high, .ref q_turnable, .ref q_leastHeight, .ref q_fewest])), (q_high, .inl (ky 0, 6, .inl s_high)), (q_leastHeight, .inl (ky 0, 832, .inl s_leastHeight)), (q_turnable, .inl (ky 2, 6, .inl s_turnable)), (q_wide, .inl (ky 0, 6, .inl s_wide))] := hD
      replace hl : lv_has ls 5 [(0, .ref q_), (1, .int a1), (2, .int a2), (3, .int v7), (4, .int v8)] := hl
      refine W.eq (g2 := F0 m 59 ls []) rfl ?_
      refine lv_iload_n hx hb dX0_heightFor_59 rfl (lv_at hl 3 rfl) ?_
      cases h
      exact ret _ _ _ _ dX0_heightFor_60 hP hD hS
  · replace h := if_f (fun z => z hc) h
    refine lv_aload_n hx hb dX0_heightFor_8 rfl (lv_at hl 0 rfl) ?_
    refine lv_iload_n hx hb dX0_heightFor_9 rfl (lv_at hl 1 rfl) ?_
    refine lv_iload_n hx hb dX0_heightFor_10 rfl (lv_at hl 2 rfl) ?_
    obtain ⟨r9, hc, h⟩ := ob_of h
    replace h := dm1_of h
    refine cv_i (As := [.int a1, .int a2]) (rest := []) (wr := [(q_leastHeight, .inl (ky 0, 832, .inl s_leastHeight))]) (wn := [(q_, .inr (0, [.int s_boxes, .ref q_wide, .ref q_high, .ref q_turnable, .ref q_leastHeight, .ref q_fewest])), (q_high, .inl (ky 0, 6, .inl s_high)), (q_leastHeight, .inl (ky 0, 832, .inl s_leastHeight)), (q_turnable, .inl (ky 2, 6, .inl s_turnable)), (q_wide, .inl (ky 0, 6, .inl s_wide))]) ⟨hx, hb, hml, hown, hts⟩ (c_X0_heightForOne l D ky q_ q_wide q_high q_turnable q_leastHeight q_fewest a1 a2 s_boxes s_high s_turnable s_wide hc) (cwV 2 hts gX0_heightFor_X0_heightForOne rfl rfl rfl (by decide +kernel) ⟨Nat.le_of_ble_eq_true rfl, Nat.le_of_ble_eq_true rfl⟩) (rcv hK.1 hP (q0 := 0) rfl rfl) hP hD hK hS hA [0, 1, 3, 4] [2] [1, 2, 0, 3, 4] rfl (by decide +kernel) rfl (by decide +kernel) (by decide +kernel) (by decide +kernel) rfl rfl rfl hl.1 (Nat.le_of_ble_eq_true rfl) dX0_heightFor_11 ⟨Nat.le_of_ble_eq_true rfl, Nat.le_of_ble_eq_true rfl⟩ (fun H locs hP hD hS => ?_)
    cases h
    exact ret _ _ _ _ dX0_heightFor_14 hP hD hS

def bX0_fewestFor_8 (a1 : Int32) (a2 : Int32) (a3 : Int32) (s_fewest : Nat → Int32) (s_leastHeight : Nat → Int32) (t : Int32 × Int32) : Option (Nat × (Int32 × Int32)) := dm2 t (fun (v1 : Int32) (v2 : Int32) => if a1 < v2 then some (1, (v1, v2)) else ob (if ¬ (v2 &&& a1) = v2 then some v1 else gd (¬ (((v2 * (13 : Int32)) + a2) < 0 ∨ 832 ≤ ((v2 * (13 : Int32)) + a2).toNatClampNeg)) (if a3 < (s_leastHeight ((v2 * (13 : Int32)) + a2).toNatClampNeg) then some v1 else gd (¬ ((a1 ^^^ v2) < 0 ∨ 64 ≤ (a1 ^^^ v2).toNatClampNeg)) (lt (if ((1 : Int32) + (s_fewest (a1 ^^^ v2).toNatClampNeg)) < v1 then ((1 : Int32) + (s_fewest (a1 ^^^ v2).toNatClampNeg)) else v1) (fun x5 => some x5)))) (fun t => dm1 t (fun (v3 : Int32) => lt (v2 + 1) (fun x4 => some (0, (v3, x4))))))
def sX0_fewestFor (a1 : Int32) (a2 : Int32) (a3 : Int32) (s_fewest : Nat → Int32) (s_leastHeight : Nat → Int32) : Option (Int32) := ob (iter (bX0_fewestFor_8 a1 a2 a3 s_fewest s_leastHeight) FU ((1000 : Int32), (1 : Int32))) (fun kt => ex1 kt (fun t => dm2 t (fun (v6 : Int32) (v7 : Int32) => some v6)))
abbrev rmX0_fewestFor : Room := { frames := 1, cells := 0, slots := 0, locals := 40 }
set_option maxHeartbeats 4000000 in
set_option maxRecDepth 100000 in
theorem c_X0_fewestFor (l : Launch) (D : va_G) (ky : Nat → ClassId) (q_ q_wide q_high q_turnable q_leastHeight q_fewest : Nat) (a1 : Int32) (a2 : Int32) (a3 : Int32) (s_boxes : Int32) (s_fewest : Nat → Int32) (s_leastHeight : Nat → Int32) {o_r : Int32} (h : sX0_fewestFor a1 a2 a3 s_fewest s_leastHeight = some o_r) : MtI l D ky yX0_fewestFor wsX0_fewestFor rmX0_fewestFor [.ref q_, .int a1, .int a2, .int a3] [(q_, .inr (0, [.int s_boxes, .ref q_wide, .ref q_high, .ref q_turnable, .ref q_leastHeight, .ref q_fewest])), (q_fewest, .inl (ky 0, 64, .inl s_fewest)), (q_leastHeight, .inl (ky 0, 832, .inl s_leastHeight))] [(q_, .inr (0, [.int s_boxes, .ref q_wide, .ref q_high, .ref q_turnable, .ref q_leastHeight, .ref q_fewest])), (q_fewest, .inl (ky 0, 64, .inl s_fewest)), (q_leastHeight, .inl (ky 0, 832, .inl s_leastHeight))] o_r 0 0 := by
  refine MtI.of (cc := cX0_fewestFor) (maxL := 6) (by decide +kernel) rfl (Nat.le_of_ble_eq_true rfl) ?_
  intro p e R s m args below meth c A Q ls hR hx hb hts hown hnm hml hP hK hD hA ret hl
  subst hR
  obtain ⟨H, hH⟩ : ∃ H, H = s.heap := ⟨_, rfl⟩
  obtain ⟨locs, hlocs⟩ : ∃ locs : List Loc, locs = [] := ⟨_, rfl⟩
  have hS : va_S A s.heap H locs := by rw [hH, hlocs]; exact va_S.rf
  rw [← hH] at hP
  suffices hgo : W p l e rmX0_fewestFor s m args below meth c H locs 0 0 Q (F0 m 0 ls []) by rw [hH, hlocs] at hgo; exact hgo
  clear hH hlocs
  replace hl : lv_has ls 6 [(0, .ref q_), (1, .int a1), (2, .int a2), (3, .int a3)] := hl
  replace hown : s.vm.findClass RX0 = some m.cls := hown
  have hi_X0 : ∀ w ∈ u_ws RX0 TX0 6, w ∈ wsX0_fewestFor := fun _ h9 => List.mem_cons_of_mem _ (List.mem_append_right _ h9)
  have hf_22 := hts (.fieldLink RX0 22 "GlazierBench$Cutter" "leastHeight" "[I") (by decide +kernel)
  have hf_25 := hts (.fieldLink RX0 25 "GlazierBench$Cutter" "fewest" "[I") (by decide +kernel)
  have hm_40 := hts (.methodLink RX0 40 Lib.Math.min.name) (by decide +kernel)
  have hs_mmin := hts (.static Lib.Math.min.name) (by decide +kernel)
  have hini_Math := hts (.initialized "java/lang/Math") (by decide +kernel)
  have hco_mmin := hts (.code Lib.Math.min.name Lib.Math.min.code 2 (some .int)) (by decide +kernel)
  unfold sX0_fewestFor at h
  refine lv_sipush (v := 1000) hx hb dX0_fewestFor_0 (by decide) ?_
  refine lv_istore (lv' := [(4, .int (1000 : Int32)), (0, .ref q_), (1, .int a1), (2, .int a2), (3, .int a3)]) hx hb dX0_fewestFor_3 hl (by decide) rfl (fun ls hl => ?_)
  refine lv_iconst (v := 1) hx hb dX0_fewestFor_5 (by decide) ?_
  refine lv_istore (lv' := [(5, .int (1 : Int32)), (4, .int (1000 : Int32)), (0, .ref q_), (1, .int a1), (2, .int a2), (3, .int a3)]) hx hb dX0_fewestFor_6 hl (by decide) rfl (fun ls hl => ?_)
  obtain ⟨⟨k, t⟩, hi, h⟩ := ob_of h
  refine iter_rule (P := fun (k : Nat) (t : Int32 × Int32) => ∀ (H : Heap) (locs : List Loc) (ls : Array Slot), va_P D vwCl [(q_, .inr (0, [.int s_boxes, .ref q_wide, .ref q_high, .ref q_turnable, .ref q_leastHeight, .ref q_fewest])), (q_fewest, .inl (ky 0, 64, .inl s_fewest)), (q_leastHeight, .inl (ky 0, 832, .inl s_leastHeight))] H → va_D A [(q_, .inr (0, [.int s_boxes, .ref q_wide, .ref q_high, .ref q_turnable, .ref q_leastHeight, .ref q_fewest])), (q_fewest, .inl (ky 0, 64, .inl s_fewest)), (q_leastHeight, .inl (ky 0, 832, .inl s_leastHeight))] → va_S A s.heap H locs → lv_has ls 6 [(0, .ref q_), (1, .int a1), (2, .int a2), (3, .int a3), (4, .int t.1), (5, .int t.2)] → W p l e rmX0_fewestFor s m args below meth c H locs 0 0 Q (F0 m ([8, 63].getD k 0) ls [])) ?_ _ _ _ _ hi ?_ H locs ls hP hD hS (lv_sub hl [2, 3, 4, 5, 1, 0] rfl)
  · clear h hi hP hD hS hl
    intro t k t' h K
    obtain ⟨v1, v2⟩ := t
    intro H locs ls hP hD hS hl
    replace h := dm2_of h
    replace hP : va_P D vwCl [(q_, .inr (0, [.int s_boxes, .ref q_wide, .ref q_high, .ref q_turnable, .ref q_leastHeight, .ref q_fewest])), (q_fewest, .inl (ky 0, 64, .inl s_fewest)), (q_leastHeight, .inl (ky 0, 832, .inl s_leastHeight))] H := hP
    replace hD : va_D A [(q_, .inr (0, [.int s_boxes, .ref q_wide, .ref q_high, .ref q_turnable, .ref q_leastHeight, .ref q_fewest])), (q_fewest, .inl (ky 0, 64, .inl s_fewest)), (q_leastHeight, .inl (ky 0, 832, .inl s_leastHeight))] := hD
    replace hl : lv_has ls 6 [(0, .ref q_), (1, .int a1), (2, .int a2), (3, .int a3), (4, .int v1), (5, .int v2)] := hl
    refine lv_iload hx hb dX0_fewestFor_8 (lv_at hl 5 rfl) ?_
    refine lv_iload_n hx hb dX0_fewestFor_10 rfl (lv_at hl 1 rfl) ?_
    refine lv_icmp_gt (tgt := 63) hx hb dX0_fewestFor_11 (by decide) (fun hc => ?_) (fun hc => ?_)
    · replace h := if_t hc h
      cases h
      exact K _ _ _ hP hD hS (lv_sub hl [0, 1, 2, 3, 4, 5] rfl)
    · replace h := if_f hc h
      refine lv_iload hx hb dX0_fewestFor_14 (lv_at hl 5 rfl) ?_
      refine lv_iload_n hx hb dX0_fewestFor_16 rfl (lv_at hl 1 rfl) ?_
      refine lv_iand hx hb dX0_fewestFor_17 ?_
      refine lv_iload hx hb dX0_fewestFor_18 (lv_at hl 5 rfl) ?_
      obtain ⟨t, hd, h⟩ := ob_of h
      have K : ∀ (H : Heap) (locs : List Loc) (ls : Array Slot), va_P D vwCl [(q_, .inr (0, [.int s_boxes, .ref q_wide, .ref q_high, .ref q_turnable, .ref q_leastHeight, .ref q_fewest])), (q_fewest, .inl (ky 0, 64, .inl s_fewest)), (q_leastHeight, .inl (ky 0, 832, .inl s_leastHeight))] H → va_D A [(q_, .inr (0, [.int s_boxes, .ref q_wide, .ref q_high, .ref q_turnable, .ref q_leastHeight, .ref q_fewest])), (q_fewest, .inl (ky 0, 64, .inl s_fewest)), (q_leastHeight, .inl (ky 0, 832, .inl s_leastHeight))] → va_S A s.heap H locs → lv_has ls 6 [(0, .ref q_), (1, .int a1), (2, .int a2), (3, .int a3), (4, .int t), (5, .int v2)] → W p l e rmX0_fewestFor s m args below meth c H locs 0 0 Q (F0 m 57 ls []) := by
        clear hd hP hD hS hl
        obtain ⟨v3, rfl⟩ : ∃ z, z = t := ⟨_, rfl⟩
        replace h := dm1_of h
        intro H locs ls hP hD hS hl
        replace hP : va_P D vwCl [(q_, .inr (0, [.int s_boxes, .ref q_wide, .ref q_high, .ref q_turnable, .ref q_leastHeight, .ref q_fewest])), (q_fewest, .inl (ky 0, 64, .inl s_fewest)), (q_leastHeight, .inl (ky 0, 832, .inl s_leastHeight))] H := hP
        replace hD : va_D A [(q_, .inr (0, [.int s_boxes, .ref q_wide, .ref q_high, .ref q_turnable, .ref q_leastHeight, .ref q_fewest])), (q_fewest, .inl (ky 0, 64, .inl s_fewest)), (q_leastHeight, .inl (ky 0, 832, .inl s_leastHeight))] := hD
        replace hl : lv_has ls 6 [(0, .ref q_), (1, .int a1), (2, .int a2), (3, .int a3), (4, .int v3), (5, .int v2)] := hl
        refine W.eq (g2 := F0 m 57 ls []) rfl ?_
        obtain ⟨x4, ex4⟩ : ∃ z : Int32, z = v2 + 1 := ⟨_, rfl⟩
        replace h := lt_at ex4 h
        refine lv_iinc (v := x4) (lv' := [(5, .int x4), (0, .ref q_), (1, .int a1), (2, .int a2), (3, .int a3), (4, .int v3)]) hx hb dX0_fewestFor_57 hl (k := 5) rfl (by rw [ex4]; rfl) (by decide) rfl (fun ls hl => ?_)
        refine lv_goto (tgt := 8) hx hb dX0_fewestFor_60 (by decide) ?_
        cases h
        exact K _ _ _ hP hD hS (lv_sub hl [1, 2, 3, 4, 5, 0] rfl)
      replace h := hd
      clear hd
      refine lv_icmp_ne (tgt := 57) hx hb dX0_fewestFor_20 (by decide) (fun hc => ?_) (fun hc => ?_)
      · replace h := if_t hc h
        cases h
        exact K _ _ _ hP hD hS (lv_sub hl [0, 1, 2, 3, 4, 5] rfl)
      · replace h := if_f (fun z => z hc) h
        refine lv_aload_n hx hb dX0_fewestFor_23 rfl (lv_at hl 0 rfl) ?_
        refine va_get (D := D) (ci := 0) (v := .ref q_leastHeight) (C := RX0) (T := TX0) (N := 6) hx hb hts hi_X0 hown hK.1 hP 0 rfl rfl 4 (by decide) hf_22 (fun _ h9 => h9) rfl dX0_fewestFor_24 ?_
        refine lv_iload hx hb dX0_fewestFor_27 (lv_at hl 5 rfl) ?_
        refine lv_bipush (v := 13) hx hb dX0_fewestFor_29 (by decide) ?_
        refine lv_imul hx hb dX0_fewestFor_31 ?_
        refine lv_iload_n hx hb dX0_fewestFor_32 rfl (lv_at hl 2 rfl) ?_
        refine lv_iadd hx hb dX0_fewestFor_33 ?_
        obtain ⟨hg, h⟩ := gd_of h
        refine va_iald hx hb hK.1 hP 2 0 rfl rfl hg dX0_fewestFor_34 ?_
        refine lv_iload_n hx hb dX0_fewestFor_35 rfl (lv_at hl 3 rfl) ?_
        refine lv_icmp_gt (tgt := 57) hx hb dX0_fewestFor_36 (by decide) (fun hc => ?_) (fun hc => ?_)
        · replace h := if_t hc h
          cases h
          exact K _ _ _ hP hD hS (lv_sub hl [0, 1, 2, 3, 4, 5] rfl)
        · replace h := if_f hc h
          refine lv_iload hx hb dX0_fewestFor_39 (lv_at hl 4 rfl) ?_
          refine lv_iconst (v := 1) hx hb dX0_fewestFor_41 (by decide) ?_
          refine lv_aload_n hx hb dX0_fewestFor_42 rfl (lv_at hl 0 rfl) ?_
          refine va_get (D := D) (ci := 0) (v := .ref q_fewest) (C := RX0) (T := TX0) (N := 6) hx hb hts hi_X0 hown hK.1 hP 0 rfl rfl 5 (by decide) hf_25 (fun _ h9 => h9) rfl dX0_fewestFor_43 ?_
          refine lv_iload_n hx hb dX0_fewestFor_46 rfl (lv_at hl 1 rfl) ?_
          refine lv_iload hx hb dX0_fewestFor_47 (lv_at hl 5 rfl) ?_
          refine lv_ixor hx hb dX0_fewestFor_49 ?_
          obtain ⟨hg, h⟩ := gd_of h
          refine va_iald hx hb hK.1 hP 1 0 rfl rfl hg dX0_fewestFor_50 ?_
          refine lv_iadd hx hb dX0_fewestFor_51 ?_
          refine va_mmin hx hb (hml.trans hl.1.symm) hown hm_40 hs_mmin hini_Math hco_mmin (Nat.le_of_ble_eq_true rfl) (Nat.le_of_ble_eq_true rfl) (Nat.le_of_ble_eq_true rfl) (Nat.le_of_ble_eq_true rfl) dX0_fewestFor_52 ?_
          refine lv_topi (fun x5 ex5 => ?_)
          replace h := lt_at ex5 h
          refine lv_istore (lv' := [(4, .int x5), (0, .ref q_), (1, .int a1), (2, .int a2), (3, .int a3), (5, .int v2)]) hx hb dX0_fewestFor_55 hl (by decide) rfl (fun ls hl => ?_)
          cases h
          exact K _ _ _ hP hD hS (lv_sub hl [1, 2, 3, 4, 0, 5] rfl)
  · have h1 := ex1_of h
    clear h hi
    rcases h1 with ⟨rfl, h⟩
    obtain ⟨v6, v7⟩ := t
    replace h := dm2_of h
    intro H locs ls hP hD hS hl
    replace hP : va_P D vwCl [(q_, .inr (0, [.int s_boxes, .ref q_wide, .ref q_high, .ref q_turnable, .ref q_leastHeight, .ref q_fewest])), (q_fewest, .inl (ky 0, 64, .inl s_fewest)), (q_leastHeight, .inl (ky 0, 832, .inl s_leastHeight))] H := hP
    replace hD : va_D A [(q_, .inr (0, [.int s_boxes, .ref q_wide, .ref q_high, .ref q_turnable, .ref q_leastHeight, .ref q_fewest])), (q_fewest, .inl (ky 0, 64, .inl s_fewest)), (q_leastHeight, .inl (ky 0, 832, .inl s_leastHeight))] := hD
    replace hl : lv_has ls 6 [(0, .ref q_), (1, .int a1), (2, .int a2), (3, .int a3), (4, .int v6), (5, .int v7)] := hl
    refine W.eq (g2 := F0 m 63 ls []) rfl ?_
    refine lv_iload hx hb dX0_fewestFor_63 (lv_at hl 4 rfl) ?_
    cases h
    exact ret _ _ _ _ dX0_fewestFor_65 hP hD hS

def bX0_fewestSheets_19 (a1 : Int32) (s_boxes : Int32) (s_high : Nat → Int32) (s_turnable : Nat → Int32) (s_wide : Nat → Int32) (v2 : Int32) (t : Int32 × (Nat → Int32)) : Option (Nat × (Int32 × (Nat → Int32))) := dm2 t (fun (v4 : Int32) (v5 : Nat → Int32) => if a1 < v4 then some (1, (v4, v5)) else ob (sX0_heightFor v2 v4 s_boxes s_high v5 s_turnable s_wide) (fun o => dm1 o (fun (r6 : Int32) => gd (¬ (((v2 * (13 : Int32)) + v4) < 0 ∨ 832 ≤ ((v2 * (13 : Int32)) + v4).toNatClampNeg)) (lt (upd v5 ((v2 * (13 : Int32)) + v4).toNatClampNeg r6) (fun f7 => lt (v4 + 1) (fun x8 => some (0, (x8, f7))))))))
def bX0_fewestSheets_10 (a1 : Int32) (s_boxes : Int32) (s_high : Nat → Int32) (s_turnable : Nat → Int32) (s_wide : Nat → Int32) (x1 : Int32) (t : Int32 × (Nat → Int32)) : Option (Nat × (Int32 × (Nat → Int32))) := dm2 t (fun (v2 : Int32) (v3 : Nat → Int32) => if x1 ≤ v2 then some (1, (v2, v3)) else ob (iter (bX0_fewestSheets_19 a1 s_boxes s_high s_turnable s_wide v2) FU ((1 : Int32), v3)) (fun kt => ex1 kt (fun t => dm2 t (fun (v9 : Int32) (v10 : Nat → Int32) => lt (v2 + 1) (fun x11 => some (0, (x11, v10)))))))
def bX0_fewestSheets_68 (a1 : Int32) (a2 : Int32) (x1 : Int32) (v13 : Nat → Int32) (t : Int32 × (Nat → Int32)) : Option (Nat × (Int32 × (Nat → Int32))) := dm2 t (fun (v15 : Int32) (v16 : Nat → Int32) => if x1 ≤ v15 then some (1, (v15, v16)) else ob (sX0_fewestFor v15 a1 a2 v16 v13) (fun o => dm1 o (fun (r17 : Int32) => gd (¬ (v15 < 0 ∨ 64 ≤ v15.toNatClampNeg)) (lt (upd v16 v15.toNatClampNeg r17) (fun f18 => lt (v15 + 1) (fun x19 => some (0, (x19, f18))))))))
def sX0_fewestSheets (a1 : Int32) (a2 : Int32) (s_boxes : Int32) (s_fewest : Nat → Int32) (s_high : Nat → Int32) (s_leastHeight : Nat → Int32) (s_turnable : Nat → Int32) (s_wide : Nat → Int32) : Option (Int32 × (Nat → Int32) × (Nat → Int32)) := lt ((1 : Int32) <<< (s_boxes &&& 31)) (fun x1 => ob (iter (bX0_fewestSheets_10 a1 s_boxes s_high s_turnable s_wide x1) FU ((1 : Int32), s_leastHeight)) (fun kt => ex1 kt (fun t => dm2 t (fun (v12 : Int32) (v13 : Nat → Int32) => gd (¬ ((0 : Int32) < 0 ∨ 64 ≤ (0 : Int32).toNatClampNeg)) (lt (upd s_fewest (0 : Int32).toNatClampNeg (0 : Int32)) (fun f14 => ob (iter (bX0_fewestSheets_68 a1 a2 x1 v13) FU ((1 : Int32), f14)) (fun kt => ex1 kt (fun t => dm2 t (fun (v20 : Int32) (v21 : Nat → Int32) => gd (¬ ((x1 - (1 : Int32)) < 0 ∨ 64 ≤ (x1 - (1 : Int32)).toNatClampNeg)) (if (v21 (x1 - (1 : Int32)).toNatClampNeg) < (1000 : Int32) then gd (¬ ((x1 - (1 : Int32)) < 0 ∨ 64 ≤ (x1 - (1 : Int32)).toNatClampNeg)) (some ((v21 (x1 - (1 : Int32)).toNatClampNeg), v21, v13)) else some ((-1 : Int32), v21, v13)))))))))))
abbrev rmX0_fewestSheets : Room := { frames := 3, cells := 0, slots := 0, locals := 91 }
set_option maxHeartbeats 4000000 in
set_option maxRecDepth 100000 in
theorem c_X0_fewestSheets (l : Launch) (D : va_G) (ky : Nat → ClassId) (q_ q_wide q_high q_turnable q_leastHeight q_fewest : Nat) (a1 : Int32) (a2 : Int32) (s_boxes : Int32) (s_fewest : Nat → Int32) (s_high : Nat → Int32) (s_leastHeight : Nat → Int32) (s_turnable : Nat → Int32) (s_wide : Nat → Int32) {o_r : Int32} {o_fewest : Nat → Int32} {o_leastHeight : Nat → Int32} (h : sX0_fewestSheets a1 a2 s_boxes s_fewest s_high s_leastHeight s_turnable s_wide = some (o_r, o_fewest, o_leastHeight)) : MtI l D ky yX0_fewestSheets wsX0_fewestSheets rmX0_fewestSheets [.ref q_, .int a1, .int a2] [(q_, .inr (0, [.int s_boxes, .ref q_wide, .ref q_high, .ref q_turnable, .ref q_leastHeight, .ref q_fewest])), (q_fewest, .inl (ky 0, 64, .inl s_fewest)), (q_high, .inl (ky 0, 6, .inl s_high)), (q_leastHeight, .inl (ky 0, 832, .inl s_leastHeight)), (q_turnable, .inl (ky 2, 6, .inl s_turnable)), (q_wide, .inl (ky 0, 6, .inl s_wide))] [(q_, .inr (0, [.int s_boxes, .ref q_wide, .ref q_high, .ref q_turnable, .ref q_leastHeight, .ref q_fewest])), (q_fewest, .inl (ky 0, 64, .inl o_fewest)), (q_high, .inl (ky 0, 6, .inl s_high)), (q_leastHeight, .inl (ky 0, 832, .inl o_leastHeight)), (q_turnable, .inl (ky 2, 6, .inl s_turnable)), (q_wide, .inl (ky 0, 6, .inl s_wide))] o_r 0 0 := by
  refine MtI.of (cc := cX0_fewestSheets) (maxL := 6) (by decide +kernel) rfl (Nat.le_of_ble_eq_true rfl) ?_
  intro p e R s m args below meth c A Q ls hR hx hb hts hown hnm hml hP hK hD hA ret hl
  have rt := rtI (dc := fun pc => decode cX0_fewestSheets pc = .ok (.ireturn, 1)) (o_r, o_fewest, o_leastHeight) (fun t => [(q_, .inr (0, [.int s_boxes, .ref q_wide, .ref q_high, .ref q_turnable, .ref q_leastHeight, .ref q_fewest])), (q_fewest, .inl (ky 0, 64, .inl t.2.1)), (q_high, .inl (ky 0, 6, .inl s_high)), (q_leastHeight, .inl (ky 0, 832, .inl t.2.2)), (q_turnable, .inl (ky 2, 6, .inl s_turnable)), (q_wide, .inl (ky 0, 6, .inl s_wide))]) (fun t => t.1) ret
  subst hR
  obtain ⟨H, hH⟩ : ∃ H, H = s.heap := ⟨_, rfl⟩
  obtain ⟨locs, hlocs⟩ : ∃ locs : List Loc, locs = [] := ⟨_, rfl⟩
  have hS : va_S A s.heap H locs := by rw [hH, hlocs]; exact va_S.rf
  rw [← hH] at hP
  suffices hgo : W p l e rmX0_fewestSheets s m args below meth c H locs 0 0 Q (F0 m 0 ls []) by rw [hH, hlocs] at hgo; exact hgo
  clear hH hlocs
  replace hl : lv_has ls 6 [(0, .ref q_), (1, .int a1), (2, .int a2)] := hl
  replace hown : s.vm.findClass RX0 = some m.cls := hown
  have hi_X0 : ∀ w ∈ u_ws RX0 TX0 6, w ∈ wsX0_fewestSheets := fun _ h9 => List.mem_cons_of_mem _ (List.mem_append_right _ h9)
  have hf_28 := hts (.fieldLink RX0 28 "GlazierBench$Cutter" "boxes" "I") (by decide +kernel)
  have hf_22 := hts (.fieldLink RX0 22 "GlazierBench$Cutter" "leastHeight" "[I") (by decide +kernel)
  have hf_25 := hts (.fieldLink RX0 25 "GlazierBench$Cutter" "fewest" "[I") (by decide +kernel)
  unfold sX0_fewestSheets at h
  refine lv_iconst (v := 1) hx hb dX0_fewestSheets_0 (by decide) ?_
  refine lv_aload_n hx hb dX0_fewestSheets_1 rfl (lv_at hl 0 rfl) ?_
  refine va_get (D := D) (ci := 0) (v := .int s_boxes) (C := RX0) (T := TX0) (N := 6) hx hb hts hi_X0 hown hK.1 hP 0 rfl rfl 0 (by decide) hf_28 (fun _ h9 => h9) rfl dX0_fewestSheets_2 ?_
  refine lv_ishl hx hb dX0_fewestSheets_5 ?_
  refine lv_topi (fun x1 ex1 => ?_)
  replace h := lt_at ex1 h
  refine lv_istore_n (lv' := [(3, .int x1), (0, .ref q_), (1, .int a1), (2, .int a2)]) hx hb dX0_fewestSheets_6 rfl hl (by decide) rfl (fun ls hl => ?_)
  refine lv_iconst (v := 1) hx hb dX0_fewestSheets_7 (by decide) ?_
  refine lv_istore (lv' := [(4, .int (1 : Int32)), (3, .int x1), (0, .ref q_), (1, .int a1), (2, .int a2)]) hx hb dX0_fewestSheets_8 hl (by decide) rfl (fun ls hl => ?_)
  obtain ⟨⟨k, t⟩, hi, h⟩ := ob_of h
  refine iter_rule (P := fun (k : Nat) (t : Int32 × (Nat → Int32)) => ∀ (H : Heap) (locs : List Loc) (ls : Array Slot), va_P D vwCl [(q_, .inr (0, [.int s_boxes, .ref q_wide, .ref q_high, .ref q_turnable, .ref q_leastHeight, .ref q_fewest])), (q_fewest, .inl (ky 0, 64, .inl s_fewest)), (q_high, .inl (ky 0, 6, .inl s_high)), (q_leastHeight, .inl (ky 0, 832, .inl t.2)), (q_turnable, .inl (ky 2, 6, .inl s_turnable)), (q_wide, .inl (ky 0, 6, .inl s_wide))] H → va_D A [(q_, .inr (0, [.int s_boxes, .ref q_wide, .ref q_high, .ref q_turnable, .ref q_leastHeight, .ref q_fewest])), (q_fewest, .inl (ky 0, 64, .inl s_fewest)), (q_high, .inl (ky 0, 6, .inl s_high)), (q_leastHeight, .inl (ky 0, 832, .inl t.2)), (q_turnable, .inl (ky 2, 6, .inl s_turnable)), (q_wide, .inl (ky 0, 6, .inl s_wide))] → va_S A s.heap H locs → lv_has ls 6 [(0, .ref q_), (1, .int a1), (2, .int a2), (3, .int x1), (4, .int t.1)] → W p l e rmX0_fewestSheets s m args below meth c H locs 0 0 Q (F0 m ([10, 58].getD k 0) ls [])) ?_ _ _ _ _ hi ?_ H locs ls hP hD hS (lv_sub hl [2, 3, 4, 1, 0] rfl)
  · clear h hi hP hD hS hl
    intro t k t' h K
    obtain ⟨v2, v3⟩ := t
    intro H locs ls hP hD hS hl
    replace h := dm2_of h
    replace hP : va_P D vwCl [(q_, .inr (0, [.int s_boxes, .ref q_wide, .ref q_high, .ref q_turnable, .ref q_leastHeight, .ref q_fewest])), (q_fewest, .inl (ky 0, 64, .inl s_fewest)), (q_high, .inl (ky 0, 6, .inl s_high)), (q_leastHeight, .inl (ky 0, 832, .inl v3)), (q_turnable, .inl (ky 2, 6, .inl s_turnable)), (q_wide, .inl (ky 0, 6, .inl s_wide))] H := hP
    replace hD : va_D A [(q_, .inr (0, [.int s_boxes, .ref q_wide, .ref q_high, .ref q_turnable, .ref q_leastHeight, .ref q_fewest])), (q_fewest, .inl (ky 0, 64, .inl s_fewest)), (q_high, .inl (ky 0, 6, .inl s_high)), (q_leastHeight, .inl (ky 0, 832, .inl v3)), (q_turnable, .inl (ky 2, 6, .inl s_turnable)), (q_wide, .inl (ky 0, 6, .inl s_wide))] := hD
    replace hl : lv_has ls 6 [(0, .ref q_), (1, .int a1), (2, .int a2), (3, .int x1), (4, .int v2)] := hl
    refine lv_iload hx hb dX0_fewestSheets_10 (lv_at hl 4 rfl) ?_
    refine lv_iload_n hx hb dX0_fewestSheets_12 rfl (lv_at hl 3 rfl) ?_
    refine lv_icmp_ge (tgt := 58) hx hb dX0_fewestSheets_13 (by decide) (fun hc => ?_) (fun hc => ?_)
    · replace h := if_t hc h
      cases h
      exact K _ _ _ hP hD hS (lv_sub hl [0, 1, 2, 3, 4] rfl)
    · replace h := if_f hc h
      refine lv_iconst (v := 1) hx hb dX0_fewestSheets_16 (by decide) ?_
      refine lv_istore (lv' := [(5, .int (1 : Int32)), (0, .ref q_), (1, .int a1), (2, .int a2), (3, .int x1), (4, .int v2)]) hx hb dX0_fewestSheets_17 hl (by decide) rfl (fun ls hl => ?_)
      obtain ⟨⟨k, t⟩, hi, h⟩ := ob_of h
      refine iter_rule (P := fun (k : Nat) (t : Int32 × (Nat → Int32)) => ∀ (H : Heap) (locs : List Loc) (ls : Array Slot), va_P D vwCl [(q_, .inr (0, [.int s_boxes, .ref q_wide, .ref q_high, .ref q_turnable, .ref q_leastHeight, .ref q_fewest])), (q_fewest, .inl (ky 0, 64, .inl s_fewest)), (q_high, .inl (ky 0, 6, .inl s_high)), (q_leastHeight, .inl (ky 0, 832, .inl t.2)), (q_turnable, .inl (ky 2, 6, .inl s_turnable)), (q_wide, .inl (ky 0, 6, .inl s_wide))] H → va_D A [(q_, .inr (0, [.int s_boxes, .ref q_wide, .ref q_high, .ref q_turnable, .ref q_leastHeight, .ref q_fewest])), (q_fewest, .inl (ky 0, 64, .inl s_fewest)), (q_high, .inl (ky 0, 6, .inl s_high)), (q_leastHeight, .inl (ky 0, 832, .inl t.2)), (q_turnable, .inl (ky 2, 6, .inl s_turnable)), (q_wide, .inl (ky 0, 6, .inl s_wide))] → va_S A s.heap H locs → lv_has ls 6 [(0, .ref q_), (1, .int a1), (2, .int a2), (3, .int x1), (4, .int v2), (5, .int t.1)] → W p l e rmX0_fewestSheets s m args below meth c H locs 0 0 Q (F0 m ([19, 52].getD k 0) ls [])) ?_ _ _ _ _ hi ?_ H locs ls hP hD hS (lv_sub hl [1, 2, 3, 4, 5, 0] rfl)
      · clear h hi hP hD hS hl
        intro t k t' h K
        obtain ⟨v4, v5⟩ := t
        intro H locs ls hP hD hS hl
        replace h := dm2_of h
        replace hP : va_P D vwCl [(q_, .inr (0, [.int s_boxes, .ref q_wide, .ref q_high, .ref q_turnable, .ref q_leastHeight, .ref q_fewest])), (q_fewest, .inl (ky 0, 64, .inl s_fewest)), (q_high, .inl (ky 0, 6, .inl s_high)), (q_leastHeight, .inl (ky 0, 832, .inl v5)), (q_turnable, .inl (ky 2, 6, .inl s_turnable)), (q_wide, .inl (ky 0, 6, .inl s_wide))] H := hP
        replace hD : va_D A [(q_, .inr (0, [.int s_boxes, .ref q_wide, .ref q_high, .ref q_turnable, .ref q_leastHeight, .ref q_fewest])), (q_fewest, .inl (ky 0, 64, .inl s_fewest)), (q_high, .inl (ky 0, 6, .inl s_high)), (q_leastHeight, .inl (ky 0, 832, .inl v5)), (q_turnable, .inl (ky 2, 6, .inl s_turnable)), (q_wide, .inl (ky 0, 6, .inl s_wide))] := hD
        replace hl : lv_has ls 6 [(0, .ref q_), (1, .int a1), (2, .int a2), (3, .int x1), (4, .int v2), (5, .int v4)] := hl
        refine lv_iload hx hb dX0_fewestSheets_19 (lv_at hl 5 rfl) ?_
        refine lv_iload_n hx hb dX0_fewestSheets_21 rfl (lv_at hl 1 rfl) ?_
        refine lv_icmp_gt (tgt := 52) hx hb dX0_fewestSheets_22 (by decide) (fun hc => ?_) (fun hc => ?_)
        · replace h := if_t hc h
          cases h
          exact K _ _ _ hP hD hS (lv_sub hl [0, 1, 2, 3, 4, 5] rfl)
        · replace h := if_f hc h
          refine lv_aload_n hx hb dX0_fewestSheets_25 rfl (lv_at hl 0 rfl) ?_
          refine va_get (D := D) (ci := 0) (v := .ref q_leastHeight) (C := RX0) (T := TX0) (N := 6) hx hb hts hi_X0 hown hK.1 hP 0 rfl rfl 4 (by decide) hf_22 (fun _ h9 => h9) rfl dX0_fewestSheets_26 ?_
          refine lv_iload hx hb dX0_fewestSheets_29 (lv_at hl 4 rfl) ?_
          refine lv_bipush (v := 13) hx hb dX0_fewestSheets_31 (by decide) ?_
          refine lv_imul hx hb dX0_fewestSheets_33 ?_
          refine lv_iload hx hb dX0_fewestSheets_34 (lv_at hl 5 rfl) ?_
          refine lv_iadd hx hb dX0_fewestSheets_36 ?_
          refine lv_aload_n hx hb dX0_fewestSheets_37 rfl (lv_at hl 0 rfl) ?_
          refine lv_iload hx hb dX0_fewestSheets_38 (lv_at hl 4 rfl) ?_
          refine lv_iload hx hb dX0_fewestSheets_40 (lv_at hl 5 rfl) ?_
          obtain ⟨r6, hc, h⟩ := ob_of h
          replace h := dm1_of h
          refine cv_i (As := [.int v2, .int v4]) (rest := [.int ((v2 * (13 : Int32)) + v4), .ref q_leastHeight]) (wr := [(q_fewest, .inl (ky 0, 64, .inl s_fewest))]) (wn := [(q_, .inr (0, [.int s_boxes, .ref q_wide, .ref q_high, .ref q_turnable, .ref q_leastHeight, .ref q_fewest])), (q_fewest, .inl (ky 0, 64, .inl s_fewest)), (q_high, .inl (ky 0, 6, .inl s_high)), (q_leastHeight, .inl (ky 0, 832, .inl v5)), (q_turnable, .inl (ky 2, 6, .inl s_turnable)), (q_wide, .inl (ky 0, 6, .inl s_wide))]) ⟨hx, hb, hml, hown, hts⟩ (c_X0_heightFor l D ky q_ q_wide q_high q_turnable q_leastHeight q_fewest v2 v4 s_boxes s_high v5 s_turnable s_wide hc) (cwV 2 hts gX0_fewestSheets_X0_heightFor rfl rfl rfl (by decide +kernel) ⟨Nat.le_of_ble_eq_true rfl, Nat.le_of_ble_eq_true rfl⟩) (rcv hK.1 hP (q0 := 0) rfl rfl) hP hD hK hS hA [0, 2, 3, 4, 5] [1] [1, 0, 2, 3, 4, 5] rfl (by decide +kernel) rfl (by decide +kernel) (by decide +kernel) (by decide +kernel) rfl rfl rfl hl.1 (Nat.le_of_ble_eq_true rfl) dX0_fewestSheets_42 ⟨Nat.le_of_ble_eq_true rfl, Nat.le_of_ble_eq_true rfl⟩ (fun H locs hP hD hS => ?_)
          obtain ⟨hg, h⟩ := gd_of h
          refine r_iast hx hb hK.1 hP hD hS 3 0 rfl rfl hg dX0_fewestSheets_45 (fun f7 ef7 H locs hP hD hS => ?_)
          replace h := lt_at ef7 h
          replace hP : va_P D vwCl [(q_, .inr (0, [.int s_boxes, .ref q_wide, .ref q_high, .ref q_turnable, .ref q_leastHeight, .ref q_fewest])), (q_fewest, .inl (ky 0, 64, .inl s_fewest)), (q_high, .inl (ky 0, 6, .inl s_high)), (q_leastHeight, .inl (ky 0, 832, .inl f7)), (q_turnable, .inl (ky 2, 6, .inl s_turnable)), (q_wide, .inl (ky 0, 6, .inl s_wide))] H := hP
          replace hD : va_D A [(q_, .inr (0, [.int s_boxes, .ref q_wide, .ref q_high, .ref q_turnable, .ref q_leastHeight, .ref q_fewest])), (q_fewest, .inl (ky 0, 64, .inl s_fewest)), (q_high, .inl (ky 0, 6, .inl s_high)), (q_leastHeight, .inl (ky 0, 832, .inl f7)), (q_turnable, .inl (ky 2, 6, .inl s_turnable)), (q_wide, .inl (ky 0, 6, .inl s_wide))] := hD
          obtain ⟨x8, ex8⟩ : ∃ z : Int32, z = v4 + 1 := ⟨_, rfl⟩
          replace h := lt_at ex8 h
          refine lv_iinc (v := x8) (lv' := [(5, .int x8), (0, .ref q_), (1, .int a1), (2, .int a2), (3, .int x1), (4, .int v2)]) hx hb dX0_fewestSheets_46 hl (k := 5) rfl (by rw [ex8]; rfl) (by decide) rfl (fun ls hl => ?_)
          refine lv_goto (tgt := 19) hx hb dX0_fewestSheets_49 (by decide) ?_
          cases h
          exact K _ _ _ hP hD hS (lv_sub hl [1, 2, 3, 4, 5, 0] rfl)
      · have h1 := ex1_of h
        clear h hi
        rcases h1 with ⟨rfl, h⟩
        obtain ⟨v9, v10⟩ := t
        replace h := dm2_of h
        intro H locs ls hP hD hS hl
        replace hP : va_P D vwCl [(q_, .inr (0, [.int s_boxes, .ref q_wide, .ref q_high, .ref q_turnable, .ref q_leastHeight, .ref q_fewest])), (q_fewest, .inl (ky 0, 64, .inl s_fewest)), (q_high, .inl (ky 0, 6, .inl s_high)), (q_leastHeight, .inl (ky 0, 832, .inl v10)), (q_turnable, .inl (ky 2, 6, .inl s_turnable)), (q_wide, .inl (ky 0, 6, .inl s_wide))] H := hP
        replace hD : va_D A [(q_, .inr (0, [.int s_boxes, .ref q_wide, .ref q_high, .ref q_turnable, .ref q_leastHeight, .ref q_fewest])), (q_fewest, .inl (ky 0, 64, .inl s_fewest)), (q_high, .inl (ky 0, 6, .inl s_high)), (q_leastHeight, .inl (ky 0, 832, .inl v10)), (q_turnable, .inl (ky 2, 6, .inl s_turnable)), (q_wide, .inl (ky 0, 6, .inl s_wide))] := hD
        replace hl : lv_has ls 6 [(0, .ref q_), (1, .int a1), (2, .int a2), (3, .int x1), (4, .int v2), (5, .int v9)] := hl
        refine W.eq (g2 := F0 m 52 ls []) rfl ?_
        obtain ⟨x11, ex11⟩ : ∃ z : Int32, z = v2 + 1 := ⟨_, rfl⟩
        replace h := lt_at ex11 h
        refine lv_iinc (v := x11) (lv' := [(4, .int x11), (0, .ref q_), (1, .int a1), (2, .int a2), (3, .int x1), (5, .int v9)]) hx hb dX0_fewestSheets_52 hl (k := 4) rfl (by rw [ex11]; rfl) (by decide) rfl (fun ls hl => ?_)
        refine lv_goto (tgt := 10) hx hb dX0_fewestSheets_55 (by decide) ?_
        cases h
        exact K _ _ _ hP hD hS (lv_sub hl [1, 2, 3, 4, 0] rfl)
  · have h1 := ex1_of h
    clear h hi
    rcases h1 with ⟨rfl, h⟩
    obtain ⟨v12, v13⟩ := t
    replace h := dm2_of h
    intro H locs ls hP hD hS hl
    replace hP : va_P D vwCl [(q_, .inr (0, [.int s_boxes, .ref q_wide, .ref q_high, .ref q_turnable, .ref q_leastHeight, .ref q_fewest])), (q_fewest, .inl (ky 0, 64, .inl s_fewest)), (q_high, .inl (ky 0, 6, .inl s_high)), (q_leastHeight, .inl (ky 0, 832, .inl v13)), (q_turnable, .inl (ky 2, 6, .inl s_turnable)), (q_wide, .inl (ky 0, 6, .inl s_wide))] H := hP
    replace hD : va_D A [(q_, .inr (0, [.int s_boxes, .ref q_wide, .ref q_high, .ref q_turnable, .ref q_leastHeight, .ref q_fewest])), (q_fewest, .inl (ky 0, 64, .inl s_fewest)), (q_high, .inl (ky 0, 6, .inl s_high)), (q_leastHeight, .inl (ky 0, 832, .inl v13)), (q_turnable, .inl (ky 2, 6, .inl s_turnable)), (q_wide, .inl (ky 0, 6, .inl s_wide))] := hD
    replace hl : lv_has ls 6 [(0, .ref q_), (1, .int a1), (2, .int a2), (3, .int x1), (4, .int v12)] := hl
    refine W.eq (g2 := F0 m 58 ls []) rfl ?_
    refine lv_aload_n hx hb dX0_fewestSheets_58 rfl (lv_at hl 0 rfl) ?_
    refine va_get (D := D) (ci := 0) (v := .ref q_fewest) (C := RX0) (T := TX0) (N := 6) hx hb hts hi_X0 hown hK.1 hP 0 rfl rfl 5 (by decide) hf_25 (fun _ h9 => h9) rfl dX0_fewestSheets_59 ?_
    refine lv_iconst (v := 0) hx hb dX0_fewestSheets_62 (by decide) ?_
    refine lv_iconst (v := 0) hx hb dX0_fewestSheets_63 (by decide) ?_
    obtain ⟨hg, h⟩ := gd_of h
    refine r_iast hx hb hK.1 hP hD hS 1 0 rfl rfl hg dX0_fewestSheets_64 (fun f14 ef14 H locs hP hD hS => ?_)
    replace h := lt_at ef14 h
    replace hP : va_P D vwCl [(q_, .inr (0, [.int s_boxes, .ref q_wide, .ref q_high, .ref q_turnable, .ref q_leastHeight, .ref q_fewest])), (q_fewest, .inl (ky 0, 64, .inl f14)), (q_high, .inl (ky 0, 6, .inl s_high)), (q_leastHeight, .inl (ky 0, 832, .inl v13)), (q_turnable, .inl (ky 2, 6, .inl s_turnable)), (q_wide, .inl (ky 0, 6, .inl s_wide))] H := hP
    replace hD : va_D A [(q_, .inr (0, [.int s_boxes, .ref q_wide, .ref q_high, .ref q_turnable, .ref q_leastHeight, .ref q_fewest])), (q_fewest, .inl (ky 0, 64, .inl f14)), (q_high, .inl (ky 0, 6, .inl s_high)), (q_leastHeight, .inl (ky 0, 832, .inl v13)), (q_turnable, .inl (ky 2, 6, .inl s_turnable)), (q_wide, .inl (ky 0, 6, .inl s_wide))] := hD
    refine lv_iconst (v := 1) hx hb dX0_fewestSheets_65 (by decide) ?_
    refine lv_istore (lv' := [(4, .int (1 : Int32)), (0, .ref q_), (1, .int a1), (2, .int a2), (3, .int x1)]) hx hb dX0_fewestSheets_66 hl (by decide) rfl (fun ls hl => ?_)
    obtain ⟨⟨k, t⟩, hi, h⟩ := ob_of h
    refine iter_rule (P := fun (k : Nat) (t : Int32 × (Nat → Int32)) => ∀ (H : Heap) (locs : List Loc) (ls : Array Slot), va_P D vwCl [(q_, .inr (0, [.int s_boxes, .ref q_wide, .ref q_high, .ref q_turnable, .ref q_leastHeight, .ref q_fewest])), (q_fewest, .inl (ky 0, 64, .inl t.2)), (q_high, .inl (ky 0, 6, .inl s_high)), (q_leastHeight, .inl (ky 0, 832, .inl v13)), (q_turnable, .inl (ky 2, 6, .inl s_turnable)), (q_wide, .inl (ky 0, 6, .inl s_wide))] H → va_D A [(q_, .inr (0, [.int s_boxes, .ref q_wide, .ref q_high, .ref q_turnable, .ref q_leastHeight, .ref q_fewest])), (q_fewest, .inl (ky 0, 64, .inl t.2)), (q_high, .inl (ky 0, 6, .inl s_high)), (q_leastHeight, .inl (ky 0, 832, .inl v13)), (q_turnable, .inl (ky 2, 6, .inl s_turnable)), (q_wide, .inl (ky 0, 6, .inl s_wide))] → va_S A s.heap H locs → lv_has ls 6 [(0, .ref q_), (1, .int a1), (2, .int a2), (3, .int x1), (4, .int t.1)] → W p l e rmX0_fewestSheets s m args below meth c H locs 0 0 Q (F0 m ([68, 95].getD k 0) ls [])) ?_ _ _ _ _ hi ?_ H locs ls hP hD hS (lv_sub hl [1, 2, 3, 4, 0] rfl)
    · clear h hi hP hD hS hl
      intro t k t' h K
      obtain ⟨v15, v16⟩ := t
      intro H locs ls hP hD hS hl
      replace h := dm2_of h
      replace hP : va_P D vwCl [(q_, .inr (0, [.int s_boxes, .ref q_wide, .ref q_high, .ref q_turnable, .ref q_leastHeight, .ref q_fewest])), (q_fewest, .inl (ky 0, 64, .inl v16)), (q_high, .inl (ky 0, 6, .inl s_high)), (q_leastHeight, .inl (ky 0, 832, .inl v13)), (q_turnable, .inl (ky 2, 6, .inl s_turnable)), (q_wide, .inl (ky 0, 6, .inl s_wide))] H := hP
      replace hD : va_D A [(q_, .inr (0, [.int s_boxes, .ref q_wide, .ref q_high, .ref q_turnable, .ref q_leastHeight, .ref q_fewest])), (q_fewest, .inl (ky 0, 64, .inl v16)), (q_high, .inl (ky 0, 6, .inl s_high)), (q_leastHeight, .inl (ky 0, 832, .inl v13)), (q_turnable, .inl (ky 2, 6, .inl s_turnable)), (q_wide, .inl (ky 0, 6, .inl s_wide))] := hD
      replace hl : lv_has ls 6 [(0, .ref q_), (1, .int a1), (2, .int a2), (3, .int x1), (4, .int v15)] := hl
      refine lv_iload hx hb dX0_fewestSheets_68 (lv_at hl 4 rfl) ?_
      refine lv_iload_n hx hb dX0_fewestSheets_70 rfl (lv_at hl 3 rfl) ?_
      refine lv_icmp_ge (tgt := 95) hx hb dX0_fewestSheets_71 (by decide) (fun hc => ?_) (fun hc => ?_)
      · replace h := if_t hc h
        cases h
        exact K _ _ _ hP hD hS (lv_sub hl [0, 1, 2, 3, 4] rfl)
      · replace h := if_f hc h
        refine lv_aload_n hx hb dX0_fewestSheets_74 rfl (lv_at hl 0 rfl) ?_
        refine va_get (D := D) (ci := 0) (v := .ref q_fewest) (C := RX0) (T := TX0) (N := 6) hx hb hts hi_X0 hown hK.1 hP 0 rfl rfl 5 (by decide) hf_25 (fun _ h9 => h9) rfl dX0_fewestSheets_75 ?_
        refine lv_iload hx hb dX0_fewestSheets_78 (lv_at hl 4 rfl) ?_
        refine lv_aload_n hx hb dX0_fewestSheets_80 rfl (lv_at hl 0 rfl) ?_
        refine lv_iload hx hb dX0_fewestSheets_81 (lv_at hl 4 rfl) ?_
        refine lv_iload_n hx hb dX0_fewestSheets_83 rfl (lv_at hl 1 rfl) ?_
        refine lv_iload_n hx hb dX0_fewestSheets_84 rfl (lv_at hl 2 rfl) ?_
        obtain ⟨r17, hc, h⟩ := ob_of h
        replace h := dm1_of h
        refine cv_i (As := [.int v15, .int a1, .int a2]) (rest := [.int v15, .ref q_fewest]) (wr := [(q_high, .inl (ky 0, 6, .inl s_high)), (q_turnable, .inl (ky 2, 6, .inl s_turnable)), (q_wide, .inl (ky 0, 6, .inl s_wide))]) (wn := [(q_, .inr (0, [.int s_boxes, .ref q_wide, .ref q_high, .ref q_turnable, .ref q_leastHeight, .ref q_fewest])), (q_fewest, .inl (ky 0, 64, .inl v16)), (q_high, .inl (ky 0, 6, .inl s_high)), (q_leastHeight, .inl (ky 0, 832, .inl v13)), (q_turnable, .inl (ky 2, 6, .inl s_turnable)), (q_wide, .inl (ky 0, 6, .inl s_wide))]) ⟨hx, hb, hml, hown, hts⟩ (c_X0_fewestFor l D ky q_ q_wide q_high q_turnable q_leastHeight q_fewest v15 a1 a2 s_boxes v16 v13 hc) (cwV 3 hts gX0_fewestSheets_X0_fewestFor rfl rfl rfl (by decide +kernel) ⟨Nat.le_of_ble_eq_true rfl, Nat.le_of_ble_eq_true rfl⟩) (rcv hK.1 hP (q0 := 0) rfl rfl) hP hD hK hS hA [0, 1, 3] [2, 4, 5] [3, 4, 0, 5, 1, 2] rfl (by decide +kernel) rfl (by decide +kernel) (by decide +kernel) (by decide +kernel) rfl rfl rfl hl.1 (Nat.le_of_ble_eq_true rfl) dX0_fewestSheets_85 ⟨Nat.le_of_ble_eq_true rfl, Nat.le_of_ble_eq_true rfl⟩ (fun H locs hP hD hS => ?_)
        obtain ⟨hg, h⟩ := gd_of h
        refine r_iast hx hb hK.1 hP hD hS 1 0 rfl rfl hg dX0_fewestSheets_88 (fun f18 ef18 H locs hP hD hS => ?_)
        replace h := lt_at ef18 h
        replace hP : va_P D vwCl [(q_, .inr (0, [.int s_boxes, .ref q_wide, .ref q_high, .ref q_turnable, .ref q_leastHeight, .ref q_fewest])), (q_fewest, .inl (ky 0, 64, .inl f18)), (q_high, .inl (ky 0, 6, .inl s_high)), (q_leastHeight, .inl (ky 0, 832, .inl v13)), (q_turnable, .inl (ky 2, 6, .inl s_turnable)), (q_wide, .inl (ky 0, 6, .inl s_wide))] H := hP
        replace hD : va_D A [(q_, .inr (0, [.int s_boxes, .ref q_wide, .ref q_high, .ref q_turnable, .ref q_leastHeight, .ref q_fewest])), (q_fewest, .inl (ky 0, 64, .inl f18)), (q_high, .inl (ky 0, 6, .inl s_high)), (q_leastHeight, .inl (ky 0, 832, .inl v13)), (q_turnable, .inl (ky 2, 6, .inl s_turnable)), (q_wide, .inl (ky 0, 6, .inl s_wide))] := hD
        obtain ⟨x19, ex19⟩ : ∃ z : Int32, z = v15 + 1 := ⟨_, rfl⟩
        replace h := lt_at ex19 h
        refine lv_iinc (v := x19) (lv' := [(4, .int x19), (0, .ref q_), (1, .int a1), (2, .int a2), (3, .int x1)]) hx hb dX0_fewestSheets_89 hl (k := 4) rfl (by rw [ex19]; rfl) (by decide) rfl (fun ls hl => ?_)
        refine lv_goto (tgt := 68) hx hb dX0_fewestSheets_92 (by decide) ?_
        cases h
        exact K _ _ _ hP hD hS (lv_sub hl [1, 2, 3, 4, 0] rfl)
    · have h1 := ex1_of h
      clear h hi
      rcases h1 with ⟨rfl, h⟩
      obtain ⟨v20, v21⟩ := t
      replace h := dm2_of h
      intro H locs ls hP hD hS hl
      replace hP : va_P D vwCl [(q_, .inr (0, [.int s_boxes, .ref q_wide, .ref q_high, .ref q_turnable, .ref q_leastHeight, .ref q_fewest])), (q_fewest, .inl (ky 0, 64, .inl v21)), (q_high, .inl (ky 0, 6, .inl s_high)), (q_leastHeight, .inl (ky 0, 832, .inl v13)), (q_turnable, .inl (ky 2, 6, .inl s_turnable)), (q_wide, .inl (ky 0, 6, .inl s_wide))] H := hP
      replace hD : va_D A [(q_, .inr (0, [.int s_boxes, .ref q_wide, .ref q_high, .ref q_turnable, .ref q_leastHeight, .ref q_fewest])), (q_fewest, .inl (ky 0, 64, .inl v21)), (q_high, .inl (ky 0, 6, .inl s_high)), (q_leastHeight, .inl (ky 0, 832, .inl v13)), (q_turnable, .inl (ky 2, 6, .inl s_turnable)), (q_wide, .inl (ky 0, 6, .inl s_wide))] := hD
      replace hl : lv_has ls 6 [(0, .ref q_), (1, .int a1), (2, .int a2), (3, .int x1), (4, .int v20)] := hl
      refine W.eq (g2 := F0 m 95 ls []) rfl ?_
      refine lv_aload_n hx hb dX0_fewestSheets_95 rfl (lv_at hl 0 rfl) ?_
      refine va_get (D := D) (ci := 0) (v := .ref q_fewest) (C := RX0) (T := TX0) (N := 6) hx hb hts hi_X0 hown hK.1 hP 0 rfl rfl 5 (by decide) hf_25 (fun _ h9 => h9) rfl dX0_fewestSheets_96 ?_
      refine lv_iload_n hx hb dX0_fewestSheets_99 rfl (lv_at hl 3 rfl) ?_
      refine lv_iconst (v := 1) hx hb dX0_fewestSheets_100 (by decide) ?_
      refine lv_isub hx hb dX0_fewestSheets_101 ?_
      obtain ⟨hg, h⟩ := gd_of h
      refine va_iald hx hb hK.1 hP 1 0 rfl rfl hg dX0_fewestSheets_102 ?_
      refine lv_sipush (v := 1000) hx hb dX0_fewestSheets_103 (by decide) ?_
      refine lv_icmp_lt (tgt := 113) hx hb dX0_fewestSheets_106 (by decide) (fun hc => ?_) (fun hc => ?_)
      · replace h := if_t hc h
        refine lv_aload_n hx hb dX0_fewestSheets_113 rfl (lv_at hl 0 rfl) ?_
        refine va_get (D := D) (ci := 0) (v := .ref q_fewest) (C := RX0) (T := TX0) (N := 6) hx hb hts hi_X0 hown hK.1 hP 0 rfl rfl 5 (by decide) hf_25 (fun _ h9 => h9) rfl dX0_fewestSheets_114 ?_
        refine lv_iload_n hx hb dX0_fewestSheets_117 rfl (lv_at hl 3 rfl) ?_
        refine lv_iconst (v := 1) hx hb dX0_fewestSheets_118 (by decide) ?_
        refine lv_isub hx hb dX0_fewestSheets_119 ?_
        obtain ⟨hg, h⟩ := gd_of h
        refine va_iald hx hb hK.1 hP 1 0 rfl rfl hg dX0_fewestSheets_120 ?_
        exact rt _ h _ _ _ _ dX0_fewestSheets_121 hP hD hS
      · replace h := if_f hc h
        refine lv_iconst (v := (-1)) hx hb dX0_fewestSheets_109 (by decide) ?_
        refine lv_goto (tgt := 121) hx hb dX0_fewestSheets_110 (by decide) ?_
        exact rt _ h _ _ _ _ dX0_fewestSheets_121 hP hD hS

