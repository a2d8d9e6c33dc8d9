def sX4_ask (a1 : Int32) (a2 : Int32) (a3 : Int32) (s_under : Nat → Int32) (s_x : Nat → Int32) (s_y : Nat → Int32) : Option ((Nat → Int32) × (Nat → Int32) × (Nat → Int32)) := gd (¬ ((128 : Int32) < 0 ∨ 129 ≤ (128 : Int32).toNatClampNeg)) (lt (upd s_x (128 : Int32).toNatClampNeg a1) (fun f1 => gd (¬ ((128 : Int32) < 0 ∨ 129 ≤ (128 : Int32).toNatClampNeg)) (lt (upd s_y (128 : Int32).toNatClampNeg a2) (fun f2 => gd (¬ ((128 : Int32) < 0 ∨ 129 ≤ (128 : Int32).toNatClampNeg)) (lt (upd s_under (128 : Int32).toNatClampNeg a3) (fun f3 => some (f3, f1, f2)))))))
abbrev rmX4_ask : Room := { frames := 0, cells := 0, slots := 0, locals := 0 }
set_option maxHeartbeats 4000000 in
set_option maxRecDepth 100000 in
theorem c_X4_ask (l : Launch) (D : va_G) (ky : Nat → ClassId) (q_ q_x q_y q_under : Nat) (a1 : Int32) (a2 : Int32) (a3 : Int32) (s_total : Int32) (s_under : Nat → Int32) (s_x : Nat → Int32) (s_y : Nat → Int32) {o_under : Nat → Int32} {o_x : Nat → Int32} {o_y : Nat → Int32} (h : sX4_ask a1 a2 a3 s_under s_x s_y = some (o_under, o_x, o_y)) : MtV l D ky yX4_ask wsX4_ask rmX4_ask [.ref q_, .int a1, .int a2, .int a3] [(q_, .inr (4, [.int s_total, .ref q_x, .ref q_y, .ref q_under])), (q_under, .inl (ky 0, 129, .inl s_under)), (q_x, .inl (ky 0, 129, .inl s_x)), (q_y, .inl (ky 0, 129, .inl s_y))] [(q_, .inr (4, [.int s_total, .ref q_x, .ref q_y, .ref q_under])), (q_under, .inl (ky 0, 129, .inl o_under)), (q_x, .inl (ky 0, 129, .inl o_x)), (q_y, .inl (ky 0, 129, .inl o_y))] 0 0 := by
  refine MtV.of (cc := cX4_ask) (maxL := 4) (by decide +kernel) rfl (Nat.le_of_ble_eq_true rfl) ?_
  intro p e R s m args below meth c A Q ls hR hx hb hts hown hnm hml hP hK hD hA ret hl
  have rt := rtV (dc := fun pc => decode cX4_ask pc = .ok (.return_, 1)) (o_under, o_x, o_y) (fun t => [(q_, .inr (4, [.int s_total, .ref q_x, .ref q_y, .ref q_under])), (q_under, .inl (ky 0, 129, .inl t.1)), (q_x, .inl (ky 0, 129, .inl t.2.1)), (q_y, .inl (ky 0, 129, .inl t.2.2))]) ret
  subst hR
  obtain ⟨H, hH⟩ : ∃ H, H = s.heap := ⟨_, rfl⟩
  obtain ⟨locs, hlocs⟩ : ∃ locs : List Loc, locs = [] := ⟨_, rfl⟩
  have hS : va_S A s.heap H locs := by rw [hH, hlocs]; exact va_S.rf
  rw [← hH] at hP
  suffices hgo : W p l e rmX4_ask s m args below meth c H locs 0 0 Q (F0 m 0 ls []) by rw [hH, hlocs] at hgo; exact hgo
  clear hH hlocs
  replace hl : lv_has ls 4 [(0, .ref q_), (1, .int a1), (2, .int a2), (3, .int a3)] := hl
  replace hown : s.vm.findClass RX4 = some m.cls := hown
  have hi_X4 : ∀ w ∈ u_ws RX4 TX4 4, w ∈ wsX4_ask := fun _ h9 => List.mem_cons_of_mem _ (List.mem_append_right _ h9)
  have hf_9 := hts (.fieldLink RX4 9 "GlazierBench$Joints" "x" "[I") (by decide +kernel)
  have hf_15 := hts (.fieldLink RX4 15 "GlazierBench$Joints" "y" "[I") (by decide +kernel)
  have hf_18 := hts (.fieldLink RX4 18 "GlazierBench$Joints" "under" "[I") (by decide +kernel)
  unfold sX4_ask at h
  refine lv_aload_n hx hb dX4_ask_0 rfl (lv_at hl 0 rfl) ?_
  refine va_get (D := D) (ci := 4) (v := .ref q_x) (C := RX4) (T := TX4) (N := 4) hx hb hts hi_X4 hown hK.1 hP 0 rfl rfl 1 (by decide) hf_9 (fun _ h9 => h9) rfl dX4_ask_1 ?_
  refine lv_sipush (v := 128) hx hb dX4_ask_4 (by decide) ?_
  refine lv_iload_n hx hb dX4_ask_7 rfl (lv_at hl 1 rfl) ?_
  obtain ⟨hg, h⟩ := gd_of h
  refine r_iast hx hb hK.1 hP hD hS 2 0 rfl rfl hg dX4_ask_8 (fun f1 ef1 H locs hP hD hS => ?_)
  replace h := lt_at ef1 h
  replace hP : va_P D vwCl [(q_, .inr (4, [.int s_total, .ref q_x, .ref q_y, .ref q_under])), (q_under, .inl (ky 0, 129, .inl s_under)), (q_x, .inl (ky 0, 129, .inl f1)), (q_y, .inl (ky 0, 129, .inl s_y))] H := hP
  replace hD : va_D A [(q_, .inr (4, [.int s_total, .ref q_x, .ref q_y, .ref q_under])), (q_under, .inl (ky 0, 129, .inl s_under)), (q_x, .inl (ky 0, 129, .inl f1)), (q_y, .inl (ky 0, 129, .inl s_y))] := hD
  refine lv_aload_n hx hb dX4_ask_9 rfl (lv_at hl 0 rfl) ?_
  refine va_get (D := D) (ci := 4) (v := .ref q_y) (C := RX4) (T := TX4) (N := 4) hx hb hts hi_X4 hown hK.1 hP 0 rfl rfl 2 (by decide) hf_15 (fun _ h9 => h9) rfl dX4_ask_10 ?_
  refine lv_sipush (v := 128) hx hb dX4_ask_13 (by decide) ?_
  refine lv_iload_n hx hb dX4_ask_16 rfl (lv_at hl 2 rfl) ?_
  obtain ⟨hg, h⟩ := gd_of h
  refine r_iast hx hb hK.1 hP hD hS 3 0 rfl rfl hg dX4_ask_17 (fun f2 ef2 H locs hP hD hS => ?_)
  replace h := lt_at ef2 h
  replace hP : va_P D vwCl [(q_, .inr (4, [.int s_total, .ref q_x, .ref q_y, .ref q_under])), (q_under, .inl (ky 0, 129, .inl s_under)), (q_x, .inl (ky 0, 129, .inl f1)), (q_y, .inl (ky 0, 129, .inl f2))] H := hP
  replace hD : va_D A [(q_, .inr (4, [.int s_total, .ref q_x, .ref q_y, .ref q_under])), (q_under, .inl (ky 0, 129, .inl s_under)), (q_x, .inl (ky 0, 129, .inl f1)), (q_y, .inl (ky 0, 129, .inl f2))] := hD
  refine lv_aload_n hx hb dX4_ask_18 rfl (lv_at hl 0 rfl) ?_
  refine va_get (D := D) (ci := 4) (v := .ref q_under) (C := RX4) (T := TX4) (N := 4) hx hb hts hi_X4 hown hK.1 hP 0 rfl rfl 3 (by decide) hf_18 (fun _ h9 => h9) rfl dX4_ask_19 ?_
  refine lv_sipush (v := 128) hx hb dX4_ask_22 (by decide) ?_
  refine lv_iload_n hx hb dX4_ask_25 rfl (lv_at hl 3 rfl) ?_
  obtain ⟨hg, h⟩ := gd_of h
  refine r_iast hx hb hK.1 hP hD hS 1 0 rfl rfl hg dX4_ask_26 (fun f3 ef3 H locs hP hD hS => ?_)
  replace h := lt_at ef3 h
  replace hP : va_P D vwCl [(q_, .inr (4, [.int s_total, .ref q_x, .ref q_y, .ref q_under])), (q_under, .inl (ky 0, 129, .inl f3)), (q_x, .inl (ky 0, 129, .inl f1)), (q_y, .inl (ky 0, 129, .inl f2))] H := hP
  replace hD : va_D A [(q_, .inr (4, [.int s_total, .ref q_x, .ref q_y, .ref q_under])), (q_under, .inl (ky 0, 129, .inl f3)), (q_x, .inl (ky 0, 129, .inl f1)), (q_y, .inl (ky 0, 129, .inl f2))] := hD
  exact rt _ h _ _ _ _ dX4_ask_27 hP hD hS

def sX4_order (a1 : Int32) (a2 : Int32) (s_under : Nat → Int32) (s_x : Nat → Int32) (s_y : Nat → Int32) : Option (Int32) := gd (¬ (a1 < 0 ∨ 129 ≤ a1.toNatClampNeg)) (gd (¬ (a2 < 0 ∨ 129 ≤ a2.toNatClampNeg)) (gd (¬ (a2 < 0 ∨ 129 ≤ a2.toNatClampNeg)) (gd (¬ (a1 < 0 ∨ 129 ≤ a1.toNatClampNeg)) (lt (((s_y a1.toNatClampNeg) * (s_under a2.toNatClampNeg)) - ((s_y a2.toNatClampNeg) * (s_under a1.toNatClampNeg))) (fun x1 => gd (¬ (a1 < 0 ∨ 129 ≤ a1.toNatClampNeg)) (gd (¬ (a2 < 0 ∨ 129 ≤ a2.toNatClampNeg)) (gd (¬ (a2 < 0 ∨ 129 ≤ a2.toNatClampNeg)) (gd (¬ (a1 < 0 ∨ 129 ≤ a1.toNatClampNeg)) (lt (((s_x a1.toNatClampNeg) * (s_under a2.toNatClampNeg)) - ((s_x a2.toNatClampNeg) * (s_under a1.toNatClampNeg))) (fun x2 => if x1 = 0 then some x2 else some x1))))))))))
abbrev rmX4_order : Room := { frames := 0, cells := 0, slots := 0, locals := 0 }
set_option maxHeartbeats 4000000 in
set_option maxRecDepth 100000 in
theorem c_X4_order (l : Launch) (D : va_G) (ky : Nat → ClassId) (q_ q_x q_y q_under : Nat) (a1 : Int32) (a2 : Int32) (s_total : Int32) (s_under : Nat → Int32) (s_x : Nat → Int32) (s_y : Nat → Int32) {o_r : Int32} (h : sX4_order a1 a2 s_under s_x s_y = some o_r) : MtI l D ky yX4_order wsX4_order rmX4_order [.ref q_, .int a1, .int a2] [(q_, .inr (4, [.int s_total, .ref q_x, .ref q_y, .ref q_under])), (q_under, .inl (ky 0, 129, .inl s_under)), (q_x, .inl (ky 0, 129, .inl s_x)), (q_y, .inl (ky 0, 129, .inl s_y))] [(q_, .inr (4, [.int s_total, .ref q_x, .ref q_y, .ref q_under])), (q_under, .inl (ky 0, 129, .inl s_under)), (q_x, .inl (ky 0, 129, .inl s_x)), (q_y, .inl (ky 0, 129, .inl s_y))] o_r 0 0 := by
  refine MtI.of (cc := cX4_order) (maxL := 5) (by decide +kernel) rfl (Nat.le_of_ble_eq_true rfl) ?_
  intro p e R s m args below meth c A Q ls hR hx hb hts hown hnm hml hP hK hD hA ret hl
  subst hR
  obtain ⟨H, hH⟩ : ∃ H, H = s.heap := ⟨_, rfl⟩
  obtain ⟨locs, hlocs⟩ : ∃ locs : List Loc, locs = [] := ⟨_, rfl⟩
  have hS : va_S A s.heap H locs := by rw [hH, hlocs]; exact va_S.rf
  rw [← hH] at hP
  suffices hgo : W p l e rmX4_order s m args below meth c H locs 0 0 Q (F0 m 0 ls []) by rw [hH, hlocs] at hgo; exact hgo
  clear hH hlocs
  replace hl : lv_has ls 5 [(0, .ref q_), (1, .int a1), (2, .int a2)] := hl
  replace hown : s.vm.findClass RX4 = some m.cls := hown
  have hi_X4 : ∀ w ∈ u_ws RX4 TX4 4, w ∈ wsX4_order := fun _ h9 => List.mem_cons_of_mem _ (List.mem_append_right _ h9)
  have hf_15 := hts (.fieldLink RX4 15 "GlazierBench$Joints" "y" "[I") (by decide +kernel)
  have hf_18 := hts (.fieldLink RX4 18 "GlazierBench$Joints" "under" "[I") (by decide +kernel)
  have hf_9 := hts (.fieldLink RX4 9 "GlazierBench$Joints" "x" "[I") (by decide +kernel)
  unfold sX4_order at h
  refine lv_aload_n hx hb dX4_order_0 rfl (lv_at hl 0 rfl) ?_
  refine va_get (D := D) (ci := 4) (v := .ref q_y) (C := RX4) (T := TX4) (N := 4) hx hb hts hi_X4 hown hK.1 hP 0 rfl rfl 2 (by decide) hf_15 (fun _ h9 => h9) rfl dX4_order_1 ?_
  refine lv_iload_n hx hb dX4_order_4 rfl (lv_at hl 1 rfl) ?_
  obtain ⟨hg, h⟩ := gd_of h
  refine va_iald hx hb hK.1 hP 3 0 rfl rfl hg dX4_order_5 ?_
  refine lv_aload_n hx hb dX4_order_6 rfl (lv_at hl 0 rfl) ?_
  refine va_get (D := D) (ci := 4) (v := .ref q_under) (C := RX4) (T := TX4) (N := 4) hx hb hts hi_X4 hown hK.1 hP 0 rfl rfl 3 (by decide) hf_18 (fun _ h9 => h9) rfl dX4_order_7 ?_
  refine lv_iload_n hx hb dX4_order_10 rfl (lv_at hl 2 rfl) ?_
  obtain ⟨hg, h⟩ := gd_of h
  refine va_iald hx hb hK.1 hP 1 0 rfl rfl hg dX4_order_11 ?_
  refine lv_imul hx hb dX4_order_12 ?_
  refine lv_aload_n hx hb dX4_order_13 rfl (lv_at hl 0 rfl) ?_
  refine va_get (D := D) (ci := 4) (v := .ref q_y) (C := RX4) (T := TX4) (N := 4) hx hb hts hi_X4 hown hK.1 hP 0 rfl rfl 2 (by decide) hf_15 (fun _ h9 => h9) rfl dX4_order_14 ?_
  refine lv_iload_n hx hb dX4_order_17 rfl (lv_at hl 2 rfl) ?_
  obtain ⟨hg, h⟩ := gd_of h
  refine va_iald hx hb hK.1 hP 3 0 rfl rfl hg dX4_order_18 ?_
  refine lv_aload_n hx hb dX4_order_19 rfl (lv_at hl 0 rfl) ?_
  refine va_get (D := D) (ci := 4) (v := .ref q_under) (C := RX4) (T := TX4) (N := 4) hx hb hts hi_X4 hown hK.1 hP 0 rfl rfl 3 (by decide) hf_18 (fun _ h9 => h9) rfl dX4_order_20 ?_
  refine lv_iload_n hx hb dX4_order_23 rfl (lv_at hl 1 rfl) ?_
  obtain ⟨hg, h⟩ := gd_of h
  refine va_iald hx hb hK.1 hP 1 0 rfl rfl hg dX4_order_24 ?_
  refine lv_imul hx hb dX4_order_25 ?_
  refine lv_isub hx hb dX4_order_26 ?_
  refine lv_topi (fun x1 ex1 => ?_)
  replace h := lt_at ex1 h
  refine lv_istore_n (lv' := [(3, .int x1), (0, .ref q_), (1, .int a1), (2, .int a2)]) hx hb dX4_order_27 rfl hl (by decide) rfl (fun ls hl => ?_)
  refine lv_aload_n hx hb dX4_order_28 rfl (lv_at hl 1 rfl) ?_
  refine va_get (D := D) (ci := 4) (v := .ref q_x) (C := RX4) (T := TX4) (N := 4) hx hb hts hi_X4 hown hK.1 hP 0 rfl rfl 1 (by decide) hf_9 (fun _ h9 => h9) rfl dX4_order_29 ?_
  refine lv_iload_n hx hb dX4_order_32 rfl (lv_at hl 2 rfl) ?_
  obtain ⟨hg, h⟩ := gd_of h
  refine va_iald hx hb hK.1 hP 2 0 rfl rfl hg dX4_order_33 ?_
  refine lv_aload_n hx hb dX4_order_34 rfl (lv_at hl 1 rfl) ?_
  refine va_get (D := D) (ci := 4) (v := .ref q_under) (C := RX4) (T := TX4) (N := 4) hx hb hts hi_X4 hown hK.1 hP 0 rfl rfl 3 (by decide) hf_18 (fun _ h9 => h9) rfl dX4_order_35 ?_
  refine lv_iload_n hx hb dX4_order_38 rfl (lv_at hl 3 rfl) ?_
  obtain ⟨hg, h⟩ := gd_of h
  refine va_iald hx hb hK.1 hP 1 0 rfl rfl hg dX4_order_39 ?_
  refine lv_imul hx hb dX4_order_40 ?_
  refine lv_aload_n hx hb dX4_order_41 rfl (lv_at hl 1 rfl) ?_
  refine va_get (D := D) (ci := 4) (v := .ref q_x) (C := RX4) (T := TX4) (N := 4) hx hb hts hi_X4 hown hK.1 hP 0 rfl rfl 1 (by decide) hf_9 (fun _ h9 => h9) rfl dX4_order_42 ?_
  refine lv_iload_n hx hb dX4_order_45 rfl (lv_at hl 3 rfl) ?_
  obtain ⟨hg, h⟩ := gd_of h
  refine va_iald hx hb hK.1 hP 2 0 rfl rfl hg dX4_order_46 ?_
  refine lv_aload_n hx hb dX4_order_47 rfl (lv_at hl 1 rfl) ?_
  refine va_get (D := D) (ci := 4) (v := .ref q_under) (C := RX4) (T := TX4) (N := 4) hx hb hts hi_X4 hown hK.1 hP 0 rfl rfl 3 (by decide) hf_18 (fun _ h9 => h9) rfl dX4_order_48 ?_
  refine lv_iload_n hx hb dX4_order_51 rfl (lv_at hl 2 rfl) ?_
  obtain ⟨hg, h⟩ := gd_of h
  refine va_iald hx hb hK.1 hP 1 0 rfl rfl hg dX4_order_52 ?_
  refine lv_imul hx hb dX4_order_53 ?_
  refine lv_isub hx hb dX4_order_54 ?_
  refine lv_topi (fun x2 ex2 => ?_)
  replace h := lt_at ex2 h
  refine lv_istore (lv' := [(4, .int x2), (3, .int x1), (0, .ref q_), (1, .int a1), (2, .int a2)]) hx hb dX4_order_55 hl (by decide) rfl (fun ls hl => ?_)
  refine lv_iload_n hx hb dX4_order_57 rfl (lv_at hl 1 rfl) ?_
  refine lv_if_eq (tgt := 65) hx hb dX4_order_58 (by decide) (fun hc => ?_) (fun hc => ?_)
  · replace h := if_t hc h
    refine lv_iload hx hb dX4_order_65 (lv_at hl 0 rfl) ?_
    cases h
    exact ret _ _ _ _ dX4_order_67 hP hD hS
  · replace h := if_f hc h
    refine lv_iload_n hx hb dX4_order_61 rfl (lv_at hl 1 rfl) ?_
    refine lv_goto (tgt := 67) hx hb dX4_order_62 (by decide) ?_
    cases h
    exact ret _ _ _ _ dX4_order_67 hP hD hS

def sX4_take (a1 : Int32) (a2 : Int32) (s_under : Nat → Int32) (s_x : Nat → Int32) (s_y : Nat → Int32) : Option ((Nat → Int32) × (Nat → Int32) × (Nat → Int32)) := gd (¬ (a2 < 0 ∨ 129 ≤ a2.toNatClampNeg)) (gd (¬ (a1 < 0 ∨ 129 ≤ a1.toNatClampNeg)) (lt (upd s_x a1.toNatClampNeg (s_x a2.toNatClampNeg)) (fun f1 => gd (¬ (a2 < 0 ∨ 129 ≤ a2.toNatClampNeg)) (gd (¬ (a1 < 0 ∨ 129 ≤ a1.toNatClampNeg)) (lt (upd s_y a1.toNatClampNeg (s_y a2.toNatClampNeg)) (fun f2 => gd (¬ (a2 < 0 ∨ 129 ≤ a2.toNatClampNeg)) (gd (¬ (a1 < 0 ∨ 129 ≤ a1.toNatClampNeg)) (lt (upd s_under a1.toNatClampNeg (s_under a2.toNatClampNeg)) (fun f3 => some (f3, f1, f2))))))))))
abbrev rmX4_take : Room := { frames := 0, cells := 0, slots := 0, locals := 0 }
set_option maxHeartbeats 4000000 in
set_option maxRecDepth 100000 in
theorem c_X4_take (l : Launch) (D : va_G) (ky : Nat → ClassId) (q_ q_x q_y q_under : Nat) (a1 : Int32) (a2 : Int32) (s_total : Int32) (s_under : Nat → Int32) (s_x : Nat → Int32) (s_y : Nat → Int32) {o_under : Nat → Int32} {o_x : Nat → Int32} {o_y : Nat → Int32} (h : sX4_take a1 a2 s_under s_x s_y = some (o_under, o_x, o_y)) : MtV l D ky yX4_take wsX4_take rmX4_take [.ref q_, .int a1, .int a2] [(q_, .inr (4, [.int s_total, .ref q_x, .ref q_y, .ref q_under])), (q_under, .inl (ky 0, 129, .inl s_under)), (q_x, .inl (ky 0, 129, .inl s_x)), (q_y, .inl (ky 0, 129, .inl s_y))] [(q_, .inr (4, [.int s_total, .ref q_x, .ref q_y, .ref q_under])), (q_under, .inl (ky 0, 129, .inl o_under)), (q_x, .inl (ky 0, 129, .inl o_x)), (q_y, .inl (ky 0, 129, .inl o_y))] 0 0 := by
  refine MtV.of (cc := cX4_take) (maxL := 3) (by decide +kernel) rfl (Nat.le_of_ble_eq_true rfl) ?_
  intro p e R s m args below meth c A Q ls hR hx hb hts hown hnm hml hP hK hD hA ret hl
  have rt := rtV (dc := fun pc => decode cX4_take pc = .ok (.return_, 1)) (o_under, o_x, o_y) (fun t => [(q_, .inr (4, [.int s_total, .ref q_x, .ref q_y, .ref q_under])), (q_under, .inl (ky 0, 129, .inl t.1)), (q_x, .inl (ky 0, 129, .inl t.2.1)), (q_y, .inl (ky 0, 129, .inl t.2.2))]) ret
  subst hR
  obtain ⟨H, hH⟩ : ∃ H, H = s.heap := ⟨_, rfl⟩
  obtain ⟨locs, hlocs⟩ : ∃ locs : List Loc, locs = [] := ⟨_, rfl⟩
  have hS : va_S A s.heap H locs := by rw [hH, hlocs]; exact va_S.rf
  rw [← hH] at hP
  suffices hgo : W p l e rmX4_take s m args below meth c H locs 0 0 Q (F0 m 0 ls []) by rw [hH, hlocs] at hgo; exact hgo
  clear hH hlocs
  replace hl : lv_has ls 3 [(0, .ref q_), (1, .int a1), (2, .int a2)] := hl
  replace hown : s.vm.findClass RX4 = some m.cls := hown
  have hi_X4 : ∀ w ∈ u_ws RX4 TX4 4, w ∈ wsX4_take := fun _ h9 => List.mem_cons_of_mem _ (List.mem_append_right _ h9)
  have hf_9 := hts (.fieldLink RX4 9 "GlazierBench$Joints" "x" "[I") (by decide +kernel)
  have hf_15 := hts (.fieldLink RX4 15 "GlazierBench$Joints" "y" "[I") (by decide +kernel)
  have hf_18 := hts (.fieldLink RX4 18 "GlazierBench$Joints" "under" "[I") (by decide +kernel)
  unfold sX4_take at h
  refine lv_aload_n hx hb dX4_take_0 rfl (lv_at hl 0 rfl) ?_
  refine va_get (D := D) (ci := 4) (v := .ref q_x) (C := RX4) (T := TX4) (N := 4) hx hb hts hi_X4 hown hK.1 hP 0 rfl rfl 1 (by decide) hf_9 (fun _ h9 => h9) rfl dX4_take_1 ?_
  refine lv_iload_n hx hb dX4_take_4 rfl (lv_at hl 1 rfl) ?_
  refine lv_aload_n hx hb dX4_take_5 rfl (lv_at hl 0 rfl) ?_
  refine va_get (D := D) (ci := 4) (v := .ref q_x) (C := RX4) (T := TX4) (N := 4) hx hb hts hi_X4 hown hK.1 hP 0 rfl rfl 1 (by decide) hf_9 (fun _ h9 => h9) rfl dX4_take_6 ?_
  refine lv_iload_n hx hb dX4_take_9 rfl (lv_at hl 2 rfl) ?_
  obtain ⟨hg, h⟩ := gd_of h
  refine va_iald hx hb hK.1 hP 2 0 rfl rfl hg dX4_take_10 ?_
  obtain ⟨hg, h⟩ := gd_of h
  refine r_iast hx hb hK.1 hP hD hS 2 0 rfl rfl hg dX4_take_11 (fun f1 ef1 H locs hP hD hS => ?_)
  replace h := lt_at ef1 h
  replace hP : va_P D vwCl [(q_, .inr (4, [.int s_total, .ref q_x, .ref q_y, .ref q_under])), (q_under, .inl (ky 0, 129, .inl s_under)), (q_x, .inl (ky 0, 129, .inl f1)), (q_y, .inl (ky 0, 129, .inl s_y))] H := hP
  replace hD : va_D A [(q_, .inr (4, [.int s_total, .ref q_x, .ref q_y, .ref q_under])), (q_under, .inl (ky 0, 129, .inl s_under)), (q_x, .inl (ky 0, 129, .inl f1)), (q_y, .inl (ky 0, 129, .inl s_y))] := hD
  refine lv_aload_n hx hb dX4_take_12 rfl (lv_at hl 0 rfl) ?_
  refine va_get (D := D) (ci := 4) (v := .ref q_y) (C := RX4) (T := TX4) (N := 4) hx hb hts hi_X4 hown hK.1 hP 0 rfl rfl 2 (by decide) hf_15 (fun _ h9 => h9) rfl dX4_take_13 ?_
  refine lv_iload_n hx hb dX4_take_16 rfl (lv_at hl 1 rfl) ?_
  refine lv_aload_n hx hb dX4_take_17 rfl (lv_at hl 0 rfl) ?_
  refine va_get (D := D) (ci := 4) (v := .ref q_y) (C := RX4) (T := TX4) (N := 4) hx hb hts hi_X4 hown hK.1 hP 0 rfl rfl 2 (by decide) hf_15 (fun _ h9 => h9) rfl dX4_take_18 ?_
  refine lv_iload_n hx hb dX4_take_21 rfl (lv_at hl 2 rfl) ?_
  obtain ⟨hg, h⟩ := gd_of h
  refine va_iald hx hb hK.1 hP 3 0 rfl rfl hg dX4_take_22 ?_
  obtain ⟨hg, h⟩ := gd_of h
  refine r_iast hx hb hK.1 hP hD hS 3 0 rfl rfl hg dX4_take_23 (fun f2 ef2 H locs hP hD hS => ?_)
  replace h := lt_at ef2 h
  replace hP : va_P D vwCl [(q_, .inr (4, [.int s_total, .ref q_x, .ref q_y, .ref q_under])), (q_under, .inl (ky 0, 129, .inl s_under)), (q_x, .inl (ky 0, 129, .inl f1)), (q_y, .inl (ky 0, 129, .inl f2))] H := hP
  replace hD : va_D A [(q_, .inr (4, [.int s_total, .ref q_x, .ref q_y, .ref q_under])), (q_under, .inl (ky 0, 129, .inl s_under)), (q_x, .inl (ky 0, 129, .inl f1)), (q_y, .inl (ky 0, 129, .inl f2))] := hD
  refine lv_aload_n hx hb dX4_take_24 rfl (lv_at hl 0 rfl) ?_
  refine va_get (D := D) (ci := 4) (v := .ref q_under) (C := RX4) (T := TX4) (N := 4) hx hb hts hi_X4 hown hK.1 hP 0 rfl rfl 3 (by decide) hf_18 (fun _ h9 => h9) rfl dX4_take_25 ?_
  refine lv_iload_n hx hb dX4_take_28 rfl (lv_at hl 1 rfl) ?_
  refine lv_aload_n hx hb dX4_take_29 rfl (lv_at hl 0 rfl) ?_
  refine va_get (D := D) (ci := 4) (v := .ref q_under) (C := RX4) (T := TX4) (N := 4) hx hb hts hi_X4 hown hK.1 hP 0 rfl rfl 3 (by decide) hf_18 (fun _ h9 => h9) rfl dX4_take_30 ?_
  refine lv_iload_n hx hb dX4_take_33 rfl (lv_at hl 2 rfl) ?_
  obtain ⟨hg, h⟩ := gd_of h
  refine va_iald hx hb hK.1 hP 1 0 rfl rfl hg dX4_take_34 ?_
  obtain ⟨hg, h⟩ := gd_of h
  refine r_iast hx hb hK.1 hP hD hS 1 0 rfl rfl hg dX4_take_35 (fun f3 ef3 H locs hP hD hS => ?_)
  replace h := lt_at ef3 h
  replace hP : va_P D vwCl [(q_, .inr (4, [.int s_total, .ref q_x, .ref q_y, .ref q_under])), (q_under, .inl (ky 0, 129, .inl f3)), (q_x, .inl (ky 0, 129, .inl f1)), (q_y, .inl (ky 0, 129, .inl f2))] H := hP
  replace hD : va_D A [(q_, .inr (4, [.int s_total, .ref q_x, .ref q_y, .ref q_under])), (q_under, .inl (ky 0, 129, .inl f3)), (q_x, .inl (ky 0, 129, .inl f1)), (q_y, .inl (ky 0, 129, .inl f2))] := hD
  exact rt _ h _ _ _ _ dX4_take_36 hP hD hS

def bX4_insert_37 (s_total : Int32) (o3 : Nat → Int32) (o4 : Nat → Int32) (o5 : Nat → Int32) (t : Int32) : Option (Nat × (Int32)) := dm1 t (fun (v6 : Int32) => if s_total ≤ v6 then some (1, v6) else ob (sX4_order v6 (128 : Int32) o3 o4 o5) (fun o => dm1 o (fun (r7 : Int32) => if 0 ≤ r7 then some (1, v6) else lt (v6 + 1) (fun x8 => some (0, x8)))))
def bX4_insert_114 (v9 : Int32) (t : Int32 × (Nat → Int32) × (Nat → Int32) × (Nat → Int32)) : Option (Nat × (Int32 × (Nat → Int32) × (Nat → Int32) × (Nat → Int32))) := dm4 t (fun (v11 : Int32) (v12 : Nat → Int32) (v13 : Nat → Int32) (v14 : Nat → Int32) => if v11 ≤ v9 then some (1, (v11, v12, v13, v14)) else ob (sX4_take v11 (v11 - (1 : Int32)) v12 v13 v14) (fun o => dm3 o (fun (o15 : Nat → Int32) (o16 : Nat → Int32) (o17 : Nat → Int32) => lt (v11 + (-1)) (fun x18 => some (0, (x18, o15, o16, o17))))))
def sX4_insert (a1 : Int32) (a2 : Int32) (a3 : Int32) (s_total : Int32) (s_under : Nat → Int32) (s_x : Nat → Int32) (s_y : Nat → Int32) : Option (Int32 × (Nat → Int32) × (Nat → Int32) × (Nat → Int32)) := ob (sX9_greatestCommon a1 a2) (fun o => dm1 o (fun (r1 : Int32) => ob (sX9_greatestCommon r1 a3) (fun o => dm1 o (fun (r2 : Int32) => if (1 : Int32) ≤ r2 then gd (¬ r2 = 0) (gd (¬ r2 = 0) (gd (¬ r2 = 0) (ob (sX4_ask (a1 / r2) (a2 / r2) (a3 / r2) s_under s_x s_y) (fun o => dm3 o (fun (o3 : Nat → Int32) (o4 : Nat → Int32) (o5 : Nat → Int32) => ob (iter (bX4_insert_37 s_total o3 o4 o5) FU (0 : Int32)) (fun kt => ex1 kt (fun t => dm1 t (fun (v9 : Int32) => ob (if s_total ≤ v9 then some (0 : Int32) else ob (sX4_order v9 (128 : Int32) o3 o4 o5) (fun o => dm1 o (fun (r27 : Int32) => if ¬ r27 = 0 then some (0 : Int32) else some (1 : Int32)))) (fun t => dm1 t (fun (v10 : Int32) => if ¬ v10 = 0 then some (s_total, o3, o4, o5) else if s_total < (128 : Int32) then ob (iter (bX4_insert_114 v9) FU (s_total, o3, o4, o5)) (fun kt => ex1 kt (fun t => dm4 t (fun (v19 : Int32) (v20 : Nat → Int32) (v21 : Nat → Int32) (v22 : Nat → Int32) => ob (sX4_take v9 (128 : Int32) v20 v21 v22) (fun o => dm3 o (fun (o23 : Nat → Int32) (o24 : Nat → Int32) (o25 : Nat → Int32) => lt (s_total + (1 : Int32)) (fun x26 => some (x26, o23, o24, o25))))))) else some (s_total, o3, o4, o5))))))))))) else some (s_total, s_under, s_x, s_y)))))
abbrev rmX4_insert : Room := { frames := 1, cells := 0, slots := 0, locals := 25 }
set_option maxHeartbeats 4000000 in
set_option maxRecDepth 100000 in
theorem c_X4_insert (l : Launch) (D : va_G) (ky : Nat → ClassId) (q_ q_x q_y q_under : Nat) (a1 : Int32) (a2 : Int32) (a3 : Int32) (s_total : Int32) (s_under : Nat → Int32) (s_x : Nat → Int32) (s_y : Nat → Int32) {o_total : Int32} {o_under : Nat → Int32} {o_x : Nat → Int32} {o_y : Nat → Int32} (h : sX4_insert a1 a2 a3 s_total s_under s_x s_y = some (o_total, o_under, o_x, o_y)) : MtV l D ky yX4_insert wsX4_insert rmX4_insert [.ref q_, .int a1, .int a2, .int a3] [(q_, .inr (4, [.int s_total, .ref q_x, .ref q_y, .ref q_under])), (q_under, .inl (ky 0, 129, .inl s_under)), (q_x, .inl (ky 0, 129, .inl s_x)), (q_y, .inl (ky 0, 129, .inl s_y))] [(q_, .inr (4, [.int o_total, .ref q_x, .ref q_y, .ref q_under])), (q_under, .inl (ky 0, 129, .inl o_under)), (q_x, .inl (ky 0, 129, .inl o_x)), (q_y, .inl (ky 0, 129, .inl o_y))] 0 0 := by
  refine MtV.of (cc := cX4_insert) (maxL := 8) (by decide +kernel) rfl (Nat.le_of_ble_eq_true rfl) ?_
  intro p e R s m args below meth c A Q ls hR hx hb hts hown hnm hml hP hK hD hA ret hl
  have rt := rtV (dc := fun pc => decode cX4_insert pc = .ok (.return_, 1)) (o_total, o_under, o_x, o_y) (fun t => [(q_, .inr (4, [.int t.1, .ref q_x, .ref q_y, .ref q_under])), (q_under, .inl (ky 0, 129, .inl t.2.1)), (q_x, .inl (ky 0, 129, .inl t.2.2.1)), (q_y, .inl (ky 0, 129, .inl t.2.2.2))]) ret
  subst hR
  obtain ⟨H, hH⟩ : ∃ H, H = s.heap := ⟨_, rfl⟩
  obtain ⟨locs, hlocs⟩ : ∃ locs : List Loc, locs = [] := ⟨_, rfl⟩
  have hS : va_S A s.heap H locs := by rw [hH, hlocs]; exact va_S.rf
  rw [← hH] at hP
  suffices hgo : W p l e rmX4_insert s m args below meth c H locs 0 0 Q (F0 m 0 ls []) by rw [hH, hlocs] at hgo; exact hgo
  clear hH hlocs
  replace hl : lv_has ls 8 [(0, .ref q_), (1, .int a1), (2, .int a2), (3, .int a3)] := hl
  replace hown : s.vm.findClass RX4 = some m.cls := hown
  have hn_46 := hK.2 (.methodLinkNest RX4 46 yX9_greatestCommon RX9) (by decide +kernel)
  have hini_X9 := hts (.initialized RX9) (by decide +kernel)
  have hst_X9_greatestCommon := hts (.static yX9_greatestCommon) (by decide +kernel)
  have hi_X4 : ∀ w ∈ u_ws RX4 TX4 4, w ∈ wsX4_insert := fun _ h9 => List.mem_cons_of_mem _ (List.mem_append_right _ h9)
  have hf_21 := hts (.fieldLink RX4 21 "GlazierBench$Joints" "total" "I") (by decide +kernel)
  unfold sX4_insert at h
  refine lv_iload_n hx hb dX4_insert_0 rfl (lv_at hl 1 rfl) ?_
  refine lv_iload_n hx hb dX4_insert_1 rfl (lv_at hl 2 rfl) ?_
  obtain ⟨r1, hc, h⟩ := ob_of h
  replace h := dm1_of h
  refine cn_i (As := [.int a1, .int a2]) (rest := []) (wr := [(q_, .inr (4, [.int s_total, .ref q_x, .ref q_y, .ref q_under])), (q_under, .inl (ky 0, 129, .inl s_under)), (q_x, .inl (ky 0, 129, .inl s_x)), (q_y, .inl (ky 0, 129, .inl s_y))]) (wn := [(q_, .inr (4, [.int s_total, .ref q_x, .ref q_y, .ref q_under])), (q_under, .inl (ky 0, 129, .inl s_under)), (q_x, .inl (ky 0, 129, .inl s_x)), (q_y, .inl (ky 0, 129, .inl s_y))]) ⟨hx, hb, hml, hown, hts⟩ (c_X9_greatestCommon l D ky a1 a2 hc) ⟨va_cnB 2 hts gX4_insert_X9_greatestCommon_n46 rfl rfl rfl hn_46 hini_X9 (by decide +kernel) ⟨Nat.le_of_ble_eq_true rfl, Nat.le_of_ble_eq_true rfl⟩, hst_X9_greatestCommon, trivial⟩ hP hD hK hS hA [] [0, 1, 2, 3] [0, 1, 2, 3] rfl (by decide +kernel) rfl (by decide +kernel) (by decide +kernel) (by decide +kernel) rfl rfl rfl hl.1 (Nat.le_of_ble_eq_true rfl) dX4_insert_2 ⟨Nat.le_of_ble_eq_true rfl, Nat.le_of_ble_eq_true rfl⟩ (fun H locs hP hD hS => ?_)
  refine lv_iload_n hx hb dX4_insert_5 rfl (lv_at hl 3 rfl) ?_
  obtain ⟨r2, hc, h⟩ := ob_of h
  replace h := dm1_of h
  refine cn_i (As := [.int r1, .int a3]) (rest := []) (wr := [(q_, .inr (4, [.int s_total, .ref q_x, .ref q_y, .ref q_under])), (q_under, .inl (ky 0, 129, .inl s_under)), (q_x, .inl (ky 0, 129, .inl s_x)), (q_y, .inl (ky 0, 129, .inl s_y))]) (wn := [(q_, .inr (4, [.int s_total, .ref q_x, .ref q_y, .ref q_under])), (q_under, .inl (ky 0, 129, .inl s_under)), (q_x, .inl (ky 0, 129, .inl s_x)), (q_y, .inl (ky 0, 129, .inl s_y))]) ⟨hx, hb, hml, hown, hts⟩ (c_X9_greatestCommon l D ky r1 a3 hc) ⟨va_cnB 2 hts gX4_insert_X9_greatestCommon_n46 rfl rfl rfl hn_46 hini_X9 (by decide +kernel) ⟨Nat.le_of_ble_eq_true rfl, Nat.le_of_ble_eq_true rfl⟩, hst_X9_greatestCommon, trivial⟩ hP hD hK hS hA [] [0, 1, 2, 3] [0, 1, 2, 3] rfl (by decide +kernel) rfl (by decide +kernel) (by decide +kernel) (by decide +kernel) rfl rfl rfl hl.1 (Nat.le_of_ble_eq_true rfl) dX4_insert_6 ⟨Nat.le_of_ble_eq_true rfl, Nat.le_of_ble_eq_true rfl⟩ (fun H locs hP hD hS => ?_)
  refine lv_istore (lv' := [(4, .int r2), (0, .ref q_), (1, .int a1), (2, .int a2), (3, .int a3)]) hx hb dX4_insert_9 hl (by decide) rfl (fun ls hl => ?_)
  refine lv_iload hx hb dX4_insert_11 (lv_at hl 0 rfl) ?_
  refine lv_iconst (v := 1) hx hb dX4_insert_13 (by decide) ?_
  refine lv_icmp_ge (tgt := 18) hx hb dX4_insert_14 (by decide) (fun hc => ?_) (fun hc => ?_)
  · replace h := if_t hc h
    refine lv_aload_n hx hb dX4_insert_18 rfl (lv_at hl 1 rfl) ?_
    refine lv_iload_n hx hb dX4_insert_19 rfl (lv_at hl 2 rfl) ?_
    refine lv_iload hx hb dX4_insert_20 (lv_at hl 0 rfl) ?_
    obtain ⟨hg, h⟩ := gd_of h
    refine lv_idiv hx hb dX4_insert_22 hg ?_
    refine lv_iload_n hx hb dX4_insert_23 rfl (lv_at hl 3 rfl) ?_
    refine lv_iload hx hb dX4_insert_24 (lv_at hl 0 rfl) ?_
    obtain ⟨hg, h⟩ := gd_of h
    refine lv_idiv hx hb dX4_insert_26 hg ?_
    refine lv_iload_n hx hb dX4_insert_27 rfl (lv_at hl 4 rfl) ?_
    refine lv_iload hx hb dX4_insert_28 (lv_at hl 0 rfl) ?_
    obtain ⟨hg, h⟩ := gd_of h
    refine lv_idiv hx hb dX4_insert_30 hg ?_
    obtain ⟨⟨o3, o4, o5⟩, hc, h⟩ := ob_of h
    replace h := dm3_of h
    refine cv_v (As := [.int (a1 / r2), .int (a2 / r2), .int (a3 / r2)]) (rest := []) (wr := []) (wn := [(q_, .inr (4, [.int s_total, .ref q_x, .ref q_y, .ref q_under])), (q_under, .inl (ky 0, 129, .inl o3)), (q_x, .inl (ky 0, 129, .inl o4)), (q_y, .inl (ky 0, 129, .inl o5))]) ⟨hx, hb, hml, hown, hts⟩ (c_X4_ask l D ky q_ q_x q_y q_under (a1 / r2) (a2 / r2) (a3 / r2) s_total s_under s_x s_y hc) (cwV 3 hts gX4_insert_X4_ask rfl rfl rfl (by decide +kernel) ⟨Nat.le_of_ble_eq_true rfl, Nat.le_of_ble_eq_true rfl⟩) (rcv hK.1 hP (q0 := 0) rfl rfl) hP hD hK hS hA [0, 1, 2, 3] [] [0, 1, 2, 3] rfl (by decide +kernel) rfl (by decide +kernel) (by decide +kernel) (by decide +kernel) rfl rfl rfl hl.1 (Nat.le_of_ble_eq_true rfl) dX4_insert_31 ⟨Nat.le_of_ble_eq_true rfl, Nat.le_of_ble_eq_true rfl⟩ (fun H locs hP hD hS => ?_)
    refine lv_iconst (v := 0) hx hb dX4_insert_34 (by decide) ?_
    refine lv_istore (lv' := [(5, .int (0 : Int32)), (4, .int r2), (0, .ref q_), (1, .int a1), (2, .int a2), (3, .int a3)]) hx hb dX4_insert_35 hl (by decide) rfl (fun ls hl => ?_)
    obtain ⟨⟨k, t⟩, hi, h⟩ := ob_of h
    refine iter_rule (P := fun (k : Nat) (t : Int32) => ∀ (H : Heap) (locs : List Loc) (ls : Array Slot), va_P D vwCl [(q_, .inr (4, [.int s_total, .ref q_x, .ref q_y, .ref q_under])), (q_under, .inl (ky 0, 129, .inl o3)), (q_x, .inl (ky 0, 129, .inl o4)), (q_y, .inl (ky 0, 129, .inl o5))] H → va_D A [(q_, .inr (4, [.int s_total, .ref q_x, .ref q_y, .ref q_under])), (q_under, .inl (ky 0, 129, .inl o3)), (q_x, .inl (ky 0, 129, .inl o4)), (q_y, .inl (ky 0, 129, .inl o5))] → va_S A s.heap H locs → lv_has ls 8 [(0, .ref q_), (5, .int t)] → W p l e rmX4_insert s m args below meth c H locs 0 0 Q (F0 m ([37, 64].getD k 0) ls [])) ?_ _ _ _ _ hi ?_ H locs ls hP hD hS (lv_sub hl [2, 0] rfl)
    · clear h hi hP hD hS hl
      intro t k t' h K
      obtain ⟨v6, rfl⟩ : ∃ z, z = t := ⟨_, rfl⟩
      intro H locs ls hP hD hS hl
      replace h := dm1_of h
      replace hP : va_P D vwCl [(q_, .inr (4, [.int s_total, .ref q_x, .ref q_y, .ref q_under])), (q_under, .inl (ky 0, 129, .inl o3)), (q_x, .inl (ky 0, 129, .inl o4)), (q_y, .inl (ky 0, 129, .inl o5))] H := hP
      replace hD : va_D A [(q_, .inr (4, [.int s_total, .ref q_x, .ref q_y, .ref q_under])), (q_under, .inl (ky 0, 129, .inl o3)), (q_x, .inl (ky 0, 129, .inl o4)), (q_y, .inl (ky 0, 129, .inl o5))] := hD
      replace hl : lv_has ls 8 [(0, .ref q_), (5, .int v6)] := hl
      refine lv_iload hx hb dX4_insert_37 (lv_at hl 1 rfl) ?_
      refine lv_aload_n hx hb dX4_insert_39 rfl (lv_at hl 0 rfl) ?_
      refine va_get (D := D) (ci := 4) (v := .int s_total) (C := RX4) (T := TX4) (N := 4) hx hb hts hi_X4 hown hK.1 hP 0 rfl rfl 0 (by decide) hf_21 (fun _ h9 => h9) rfl dX4_insert_40 ?_
      refine lv_icmp_ge (tgt := 64) hx hb dX4_insert_43 (by decide) (fun hc => ?_) (fun hc => ?_)
      · replace h := if_t hc h
        cases h
        exact K _ _ _ hP hD hS (lv_sub hl [0, 1] rfl)
      · replace h := if_f hc h
        refine lv_aload_n hx hb dX4_insert_46 rfl (lv_at hl 0 rfl) ?_
        refine lv_iload hx hb dX4_insert_47 (lv_at hl 1 rfl) ?_
        refine lv_sipush (v := 128) hx hb dX4_insert_49 (by decide) ?_
        obtain ⟨r7, hc, h⟩ := ob_of h
        replace h := dm1_of h
        refine cv_i (As := [.int v6, .int (128 : Int32)]) (rest := []) (wr := []) (wn := [(q_, .inr (4, [.int s_total, .ref q_x, .ref q_y, .ref q_under])), (q_under, .inl (ky 0, 129, .inl o3)), (q_x, .inl (ky 0, 129, .inl o4)), (q_y, .inl (ky 0, 129, .inl o5))]) ⟨hx, hb, hml, hown, hts⟩ (c_X4_order l D ky q_ q_x q_y q_under v6 (128 : Int32) s_total o3 o4 o5 hc) (cwV 2 hts gX4_insert_X4_order rfl rfl rfl (by decide +kernel) ⟨Nat.le_of_ble_eq_true rfl, Nat.le_of_ble_eq_true rfl⟩) (rcv hK.1 hP (q0 := 0) rfl rfl) hP hD hK hS hA [0, 1, 2, 3] [] [0, 1, 2, 3] rfl (by decide +kernel) rfl (by decide +kernel) (by decide +kernel) (by decide +kernel) rfl rfl rfl hl.1 (Nat.le_of_ble_eq_true rfl) dX4_insert_52 ⟨Nat.le_of_ble_eq_true rfl, Nat.le_of_ble_eq_true rfl⟩ (fun H locs hP hD hS => ?_)
        refine lv_if_ge (tgt := 64) hx hb dX4_insert_55 (by decide) (fun hc => ?_) (fun hc => ?_)
        · replace h := if_t hc h
          cases h
          exact K _ _ _ hP hD hS (lv_sub hl [0, 1] rfl)
        · replace h := if_f hc h
          obtain ⟨x8, ex8⟩ : ∃ z : Int32, z = v6 + 1 := ⟨_, rfl⟩
          replace h := lt_at ex8 h
          refine lv_iinc (v := x8) (lv' := [(5, .int x8), (0, .ref q_)]) hx hb dX4_insert_58 hl (k := 1) rfl (by rw [ex8]; rfl) (by decide) rfl (fun ls hl => ?_)
          refine lv_goto (tgt := 37) hx hb dX4_insert_61 (by decide) ?_
          cases h
          exact K _ _ _ hP hD hS (lv_sub hl [1, 0] rfl)
    · have h1 := ex1_of h
      clear h hi
      rcases h1 with ⟨rfl, h⟩
      obtain ⟨v9, rfl⟩ : ∃ z, z = t := ⟨_, rfl⟩
      replace h := dm1_of h
      intro H locs ls hP hD hS hl
      replace hP : va_P D vwCl [(q_, .inr (4, [.int s_total, .ref q_x, .ref q_y, .ref q_under])), (q_under, .inl (ky 0, 129, .inl o3)), (q_x, .inl (ky 0, 129, .inl o4)), (q_y, .inl (ky 0, 129, .inl o5))] H := hP
      replace hD : va_D A [(q_, .inr (4, [.int s_total, .ref q_x, .ref q_y, .ref q_under])), (q_under, .inl (ky 0, 129, .inl o3)), (q_x, .inl (ky 0, 129, .inl o4)), (q_y, .inl (ky 0, 129, .inl o5))] := hD
      replace hl : lv_has ls 8 [(0, .ref q_), (5, .int v9)] := hl
      refine W.eq (g2 := F0 m 64 ls []) rfl ?_
      refine lv_iload hx hb dX4_insert_64 (lv_at hl 1 rfl) ?_
      refine lv_aload_n hx hb dX4_insert_66 rfl (lv_at hl 0 rfl) ?_
      refine va_get (D := D) (ci := 4) (v := .int s_total) (C := RX4) (T := TX4) (N := 4) hx hb hts hi_X4 hown hK.1 hP 0 rfl rfl 0 (by decide) hf_21 (fun _ h9 => h9) rfl dX4_insert_67 ?_
      obtain ⟨t, hd, h⟩ := ob_of h
      have K : ∀ (H : Heap) (locs : List Loc) (ls : Array Slot), va_P D vwCl [(q_, .inr (4, [.int s_total, .ref q_x, .ref q_y, .ref q_under])), (q_under, .inl (ky 0, 129, .inl o3)), (q_x, .inl (ky 0, 129, .inl o4)), (q_y, .inl (ky 0, 129, .inl o5))] H → va_D A [(q_, .inr (4, [.int s_total, .ref q_x, .ref q_y, .ref q_under])), (q_under, .inl (ky 0, 129, .inl o3)), (q_x, .inl (ky 0, 129, .inl o4)), (q_y, .inl (ky 0, 129, .inl o5))] → va_S A s.heap H locs → lv_has ls 8 [(0, .ref q_), (5, .int v9)] → W p l e rmX4_insert s m args below meth c H locs 0 0 Q (F0 m 90 ls [.int t]) := by
        clear hd hP hD hS hl
        obtain ⟨v10, rfl⟩ : ∃ z, z = t := ⟨_, rfl⟩
        replace h := dm1_of h
        intro H locs ls hP hD hS hl
        replace hP : va_P D vwCl [(q_, .inr (4, [.int s_total, .ref q_x, .ref q_y, .ref q_under])), (q_under, .inl (ky 0, 129, .inl o3)), (q_x, .inl (ky 0, 129, .inl o4)), (q_y, .inl (ky 0, 129, .inl o5))] H := hP
        replace hD : va_D A [(q_, .inr (4, [.int s_total, .ref q_x, .ref q_y, .ref q_under])), (q_under, .inl (ky 0, 129, .inl o3)), (q_x, .inl (ky 0, 129, .inl o4)), (q_y, .inl (ky 0, 129, .inl o5))] := hD
        replace hl : lv_has ls 8 [(0, .ref q_), (5, .int v9)] := hl
        refine W.eq (g2 := F0 m 90 ls [.int v10]) rfl ?_
        refine lv_istore (lv' := [(6, .int v10), (0, .ref q_), (5, .int v9)]) hx hb dX4_insert_90 hl (by decide) rfl (fun ls hl => ?_)
        refine lv_iload hx hb dX4_insert_92 (lv_at hl 0 rfl) ?_
        refine lv_if_ne (tgt := 107) hx hb dX4_insert_94 (by decide) (fun hc => ?_) (fun hc => ?_)
        · replace h := if_t hc h
          exact rt _ h _ _ _ _ dX4_insert_107 hP hD hS
        · replace h := if_f (fun z => z hc) h
          refine lv_aload_n hx hb dX4_insert_97 rfl (lv_at hl 1 rfl) ?_
          refine va_get (D := D) (ci := 4) (v := .int s_total) (C := RX4) (T := TX4) (N := 4) hx hb hts hi_X4 hown hK.1 hP 0 rfl rfl 0 (by decide) hf_21 (fun _ h9 => h9) rfl dX4_insert_98 ?_
          refine lv_sipush (v := 128) hx hb dX4_insert_101 (by decide) ?_
          refine lv_icmp_lt (tgt := 108) hx hb dX4_insert_104 (by decide) (fun hc => ?_) (fun hc => ?_)
          · replace h := if_t hc h
            refine lv_aload_n hx hb dX4_insert_108 rfl (lv_at hl 1 rfl) ?_
            refine va_get (D := D) (ci := 4) (v := .int s_total) (C := RX4) (T := TX4) (N := 4) hx hb hts hi_X4 hown hK.1 hP 0 rfl rfl 0 (by decide) hf_21 (fun _ h9 => h9) rfl dX4_insert_109 ?_
            refine lv_istore (lv' := [(7, .int s_total), (6, .int v10), (0, .ref q_), (5, .int v9)]) hx hb dX4_insert_112 hl (by decide) rfl (fun ls hl => ?_)
            obtain ⟨⟨k, t⟩, hi, h⟩ := ob_of h
            refine iter_rule (P := fun (k : Nat) (t : Int32 × (Nat → Int32) × (Nat → Int32) × (Nat → Int32)) => ∀ (H : Heap) (locs : List Loc) (ls : Array Slot), va_P D vwCl [(q_, .inr (4, [.int s_total, .ref q_x, .ref q_y, .ref q_under])), (q_under, .inl (ky 0, 129, .inl t.2.1)), (q_x, .inl (ky 0, 129, .inl t.2.2.1)), (q_y, .inl (ky 0, 129, .inl t.2.2.2))] H → va_D A [(q_, .inr (4, [.int s_total, .ref q_x, .ref q_y, .ref q_under])), (q_under, .inl (ky 0, 129, .inl t.2.1)), (q_x, .inl (ky 0, 129, .inl t.2.2.1)), (q_y, .inl (ky 0, 129, .inl t.2.2.2))] → va_S A s.heap H locs → lv_has ls 8 [(0, .ref q_), (5, .int v9), (7, .int t.1)] → W p l e rmX4_insert s m args below meth c H locs 0 0 Q (F0 m ([114, 137].getD k 0) ls [])) ?_ _ _ _ _ hi ?_ H locs ls hP hD hS (lv_sub hl [2, 3, 0] rfl)
            · clear h hi hP hD hS hl
              intro t k t' h K
              obtain ⟨v11, v12, v13, v14⟩ := t
              intro H locs ls hP hD hS hl
              replace h := dm4_of h
              replace hP : va_P D vwCl [(q_, .inr (4, [.int s_total, .ref q_x, .ref q_y, .ref q_under])), (q_under, .inl (ky 0, 129, .inl v12)), (q_x, .inl (ky 0, 129, .inl v13)), (q_y, .inl (ky 0, 129, .inl v14))] H := hP
              replace hD : va_D A [(q_, .inr (4, [.int s_total, .ref q_x, .ref q_y, .ref q_under])), (q_under, .inl (ky 0, 129, .inl v12)), (q_x, .inl (ky 0, 129, .inl v13)), (q_y, .inl (ky 0, 129, .inl v14))] := hD
              replace hl : lv_has ls 8 [(0, .ref q_), (5, .int v9), (7, .int v11)] := hl
              refine lv_iload hx hb dX4_insert_114 (lv_at hl 2 rfl) ?_
              refine lv_iload hx hb dX4_insert_116 (lv_at hl 1 rfl) ?_
              refine lv_icmp_le (tgt := 137) hx hb dX4_insert_118 (by decide) (fun hc => ?_) (fun hc => ?_)
              · replace h := if_t hc h
                cases h
                exact K _ _ _ hP hD hS (lv_sub hl [0, 1, 2] rfl)
              · replace h := if_f hc h
                refine lv_aload_n hx hb dX4_insert_121 rfl (lv_at hl 0 rfl) ?_
                refine lv_iload hx hb dX4_insert_122 (lv_at hl 2 rfl) ?_
                refine lv_iload hx hb dX4_insert_124 (lv_at hl 2 rfl) ?_
                refine lv_iconst (v := 1) hx hb dX4_insert_126 (by decide) ?_
                refine lv_isub hx hb dX4_insert_127 ?_
                obtain ⟨⟨o15, o16, o17⟩, hc, h⟩ := ob_of h
                replace h := dm3_of h
                refine cv_v (As := [.int v11, .int (v11 - (1 : Int32))]) (rest := []) (wr := []) (wn := [(q_, .inr (4, [.int s_total, .ref q_x, .ref q_y, .ref q_under])), (q_under, .inl (ky 0, 129, .inl o15)), (q_x, .inl (ky 0, 129, .inl o16)), (q_y, .inl (ky 0, 129, .inl o17))]) ⟨hx, hb, hml, hown, hts⟩ (c_X4_take l D ky q_ q_x q_y q_under v11 (v11 - (1 : Int32)) s_total v12 v13 v14 hc) (cwV 2 hts gX4_insert_X4_take rfl rfl rfl (by decide +kernel) ⟨Nat.le_of_ble_eq_true rfl, Nat.le_of_ble_eq_true rfl⟩) (rcv hK.1 hP (q0 := 0) rfl rfl) hP hD hK hS hA [0, 1, 2, 3] [] [0, 1, 2, 3] rfl (by decide +kernel) rfl (by decide +kernel) (by decide +kernel) (by decide +kernel) rfl rfl rfl hl.1 (Nat.le_of_ble_eq_true rfl) dX4_insert_128 ⟨Nat.le_of_ble_eq_true rfl, Nat.le_of_ble_eq_true rfl⟩ (fun H locs hP hD hS => ?_)
                obtain ⟨x18, ex18⟩ : ∃ z : Int32, z = v11 + (-1) := ⟨_, rfl⟩
                replace h := lt_at ex18 h
                refine lv_iinc (v := x18) (lv' := [(7, .int x18), (0, .ref q_), (5, .int v9)]) hx hb dX4_insert_131 hl (k := 2) rfl (by rw [ex18]; rfl) (by decide) rfl (fun ls hl => ?_)
                refine lv_goto (tgt := 114) hx hb dX4_insert_134 (by decide) ?_
                cases h
                exact K _ _ _ hP hD hS (lv_sub hl [1, 2, 0] rfl)
            · have h1 := ex1_of h
              clear h hi
              rcases h1 with ⟨rfl, h⟩
              obtain ⟨v19, v20, v21, v22⟩ := t
              replace h := dm4_of h
              intro H locs ls hP hD hS hl
              replace hP : va_P D vwCl [(q_, .inr (4, [.int s_total, .ref q_x, .ref q_y, .ref q_under])), (q_under, .inl (ky 0, 129, .inl v20)), (q_x, .inl (ky 0, 129, .inl v21)), (q_y, .inl (ky 0, 129, .inl v22))] H := hP
              replace hD : va_D A [(q_, .inr (4, [.int s_total, .ref q_x, .ref q_y, .ref q_under])), (q_under, .inl (ky 0, 129, .inl v20)), (q_x, .inl (ky 0, 129, .inl v21)), (q_y, .inl (ky 0, 129, .inl v22))] := hD
              replace hl : lv_has ls 8 [(0, .ref q_), (5, .int v9), (7, .int v19)] := hl
              refine W.eq (g2 := F0 m 137 ls []) rfl ?_
              refine lv_aload_n hx hb dX4_insert_137 rfl (lv_at hl 0 rfl) ?_
              refine lv_iload hx hb dX4_insert_138 (lv_at hl 1 rfl) ?_
              refine lv_sipush (v := 128) hx hb dX4_insert_140 (by decide) ?_
              obtain ⟨⟨o23, o24, o25⟩, hc, h⟩ := ob_of h
              replace h := dm3_of h
              refine cv_v (As := [.int v9, .int (128 : Int32)]) (rest := []) (wr := []) (wn := [(q_, .inr (4, [.int s_total, .ref q_x, .ref q_y, .ref q_under])), (q_under, .inl (ky 0, 129, .inl o23)), (q_x, .inl (ky 0, 129, .inl o24)), (q_y, .inl (ky 0, 129, .inl o25))]) ⟨hx, hb, hml, hown, hts⟩ (c_X4_take l D ky q_ q_x q_y q_under v9 (128 : Int32) s_total v20 v21 v22 hc) (cwV 2 hts gX4_insert_X4_take rfl rfl rfl (by decide +kernel) ⟨Nat.le_of_ble_eq_true rfl, Nat.le_of_ble_eq_true rfl⟩) (rcv hK.1 hP (q0 := 0) rfl rfl) hP hD hK hS hA [0, 1, 2, 3] [] [0, 1, 2, 3] rfl (by decide +kernel) rfl (by decide +kernel) (by decide +kernel) (by decide +kernel) rfl rfl rfl hl.1 (Nat.le_of_ble_eq_true rfl) dX4_insert_143 ⟨Nat.le_of_ble_eq_true rfl, Nat.le_of_ble_eq_true rfl⟩ (fun H locs hP hD hS => ?_)
              refine lv_aload_n hx hb dX4_insert_146 rfl (lv_at hl 0 rfl) ?_
              refine lv_dup hx hb dX4_insert_147 rfl ?_
              refine va_get (D := D) (ci := 4) (v := .int s_total) (C := RX4) (T := TX4) (N := 4) hx hb hts hi_X4 hown hK.1 hP 0 rfl rfl 0 (by decide) hf_21 (fun _ h9 => h9) rfl dX4_insert_148 ?_
              refine lv_iconst (v := 1) hx hb dX4_insert_151 (by decide) ?_
              refine lv_iadd hx hb dX4_insert_152 ?_
              refine lv_topi (fun x26 ex26 => ?_)
              replace h := lt_at ex26 h
              refine va_put (D := D) (ci := 4) (v := .int x26) (ty := .int) (C := RX4) (T := TX4) (N := 4) hx hb hts hi_X4 tyX4 tyX4_ok nmX4 hown hK.1 hP hD hS 0 rfl rfl 0 (by decide) hf_21 (fun _ h9 => h9) rfl (by decide +kernel) rfl rfl (Nat.le_of_ble_eq_true rfl) dX4_insert_153 (fun H locs hP hD hS => ?_)
              replace hP : va_P D vwCl [(q_, .inr (4, [.int x26, .ref q_x, .ref q_y, .ref q_under])), (q_under, .inl (ky 0, 129, .inl o23)), (q_x, .inl (ky 0, 129, .inl o24)), (q_y, .inl (ky 0, 129, .inl o25))] H := hP
              replace hD : va_D A [(q_, .inr (4, [.int x26, .ref q_x, .ref q_y, .ref q_under])), (q_under, .inl (ky 0, 129, .inl o23)), (q_x, .inl (ky 0, 129, .inl o24)), (q_y, .inl (ky 0, 129, .inl o25))] := hD
              exact rt _ h _ _ _ _ dX4_insert_156 hP hD hS
          · replace h := if_f hc h
            exact rt _ h _ _ _ _ dX4_insert_107 hP hD hS
      replace h := hd
      clear hd
      refine lv_icmp_ge (tgt := 89) hx hb dX4_insert_70 (by decide) (fun hc => ?_) (fun hc => ?_)
      · replace h := if_t hc h
        refine lv_iconst (v := 0) hx hb dX4_insert_89 (by decide) ?_
        cases h
        exact K _ _ _ hP hD hS (lv_sub hl [0, 1] rfl)
      · replace h := if_f hc h
        refine lv_aload_n hx hb dX4_insert_73 rfl (lv_at hl 0 rfl) ?_
        refine lv_iload hx hb dX4_insert_74 (lv_at hl 1 rfl) ?_
        refine lv_sipush (v := 128) hx hb dX4_insert_76 (by decide) ?_
        obtain ⟨r27, hc, h⟩ := ob_of h
        replace h := dm1_of h
        refine cv_i (As := [.int v9, .int (128 : Int32)]) (rest := []) (wr := []) (wn := [(q_, .inr (4, [.int s_total, .ref q_x, .ref q_y, .ref q_under])), (q_under, .inl (ky 0, 129, .inl o3)), (q_x, .inl (ky 0, 129, .inl o4)), (q_y, .inl (ky 0, 129, .inl o5))]) ⟨hx, hb, hml, hown, hts⟩ (c_X4_order l D ky q_ q_x q_y q_under v9 (128 : Int32) s_total o3 o4 o5 hc) (cwV 2 hts gX4_insert_X4_order rfl rfl rfl (by decide +kernel) ⟨Nat.le_of_ble_eq_true rfl, Nat.le_of_ble_eq_true rfl⟩) (rcv hK.1 hP (q0 := 0) rfl rfl) hP hD hK hS hA [0, 1, 2, 3] [] [0, 1, 2, 3] rfl (by decide +kernel) rfl (by decide +kernel) (by decide +kernel) (by decide +kernel) rfl rfl rfl hl.1 (Nat.le_of_ble_eq_true rfl) dX4_insert_79 ⟨Nat.le_of_ble_eq_true rfl, Nat.le_of_ble_eq_true rfl⟩ (fun H locs hP hD hS => ?_)
        refine lv_if_ne (tgt := 89) hx hb dX4_insert_82 (by decide) (fun hc => ?_) (fun hc => ?_)
        · replace h := if_t hc h
          refine lv_iconst (v := 0) hx hb dX4_insert_89 (by decide) ?_
          cases h
          exact K _ _ _ hP hD hS (lv_sub hl [0, 1] rfl)
        · replace h := if_f (fun z => z hc) h
          refine lv_iconst (v := 1) hx hb dX4_insert_85 (by decide) ?_
          refine lv_goto (tgt := 90) hx hb dX4_insert_86 (by decide) ?_
          cases h
          exact K _ _ _ hP hD hS (lv_sub hl [0, 1] rfl)
  · replace h := if_f hc h
    exact rt _ h _ _ _ _ dX4_insert_17 hP hD hS

def sX4_insertCrossing (a2 : Int32) (a3 : Int32) (s_total : Int32) (s_under : Nat → Int32) (s_x : Nat → Int32) (s_y : Nat → Int32) (s_a1_u : Nat → Int32) (s_a1_v : Nat → Int32) (s_a1_x : Nat → Int32) (s_a1_y : Nat → Int32) : Option (Int32 × (Nat → Int32) × (Nat → Int32) × (Nat → Int32)) := gd (¬ (a2 < 0 ∨ 18 ≤ a2.toNatClampNeg)) (gd (¬ (a2 < 0 ∨ 18 ≤ a2.toNatClampNeg)) (lt ((s_a1_u a2.toNatClampNeg) - (s_a1_x a2.toNatClampNeg)) (fun x1 => gd (¬ (a2 < 0 ∨ 18 ≤ a2.toNatClampNeg)) (gd (¬ (a2 < 0 ∨ 18 ≤ a2.toNatClampNeg)) (lt ((s_a1_v a2.toNatClampNeg) - (s_a1_y a2.toNatClampNeg)) (fun x2 => gd (¬ (a3 < 0 ∨ 18 ≤ a3.toNatClampNeg)) (gd (¬ (a3 < 0 ∨ 18 ≤ a3.toNatClampNeg)) (lt ((s_a1_u a3.toNatClampNeg) - (s_a1_x a3.toNatClampNeg)) (fun x3 => gd (¬ (a3 < 0 ∨ 18 ≤ a3.toNatClampNeg)) (gd (¬ (a3 < 0 ∨ 18 ≤ a3.toNatClampNeg)) (lt ((s_a1_v a3.toNatClampNeg) - (s_a1_y a3.toNatClampNeg)) (fun x4 => lt ((x1 * x4) - (x2 * x3)) (fun x5 => if ¬ x5 = 0 then ob (if 0 ≤ x5 then some (1 : Int32) else some (-1 : Int32)) (fun t => dm1 t (fun (v6 : Int32) => gd (¬ (a3 < 0 ∨ 18 ≤ a3.toNatClampNeg)) (gd (¬ (a2 < 0 ∨ 18 ≤ a2.toNatClampNeg)) (lt ((s_a1_x a3.toNatClampNeg) - (s_a1_x a2.toNatClampNeg)) (fun x7 => gd (¬ (a3 < 0 ∨ 18 ≤ a3.toNatClampNeg)) (gd (¬ (a2 < 0 ∨ 18 ≤ a2.toNatClampNeg)) (lt ((s_a1_y a3.toNatClampNeg) - (s_a1_y a2.toNatClampNeg)) (fun x8 => lt (v6 * ((x7 * x4) - (x8 * x3))) (fun x9 => lt (v6 * ((x7 * x2) - (x8 * x1))) (fun x10 => lt (v6 * x5) (fun x11 => if x9 < 0 then some (s_total, s_under, s_x, s_y) else if x11 < x9 then some (s_total, s_under, s_x, s_y) else if x10 < 0 then some (s_total, s_under, s_x, s_y) else if x10 ≤ x11 then gd (¬ (a2 < 0 ∨ 18 ≤ a2.toNatClampNeg)) (gd (¬ (a2 < 0 ∨ 18 ≤ a2.toNatClampNeg)) (ob (sX4_insert (((s_a1_x a2.toNatClampNeg) * x11) + (x9 * x1)) (((s_a1_y a2.toNatClampNeg) * x11) + (x9 * x2)) x11 s_total s_under s_x s_y) (fun o => dm4 o (fun (o12 : Int32) (o13 : Nat → Int32) (o14 : Nat → Int32) (o15 : Nat → Int32) => some (o12, o13, o14, o15))))) else some (s_total, s_under, s_x, s_y)))))))))))) else some (s_total, s_under, s_x, s_y))))))))))))))
abbrev rmX4_insertCrossing : Room := { frames := 2, cells := 0, slots := 0, locals := 52 }
set_option maxHeartbeats 4000000 in
set_option maxRecDepth 100000 in
theorem c_X4_insertCrossing (l : Launch) (D : va_G) (ky : Nat → ClassId) (q_ q_x q_y q_under q_a1 q_a1_x q_a1_y q_a1_u q_a1_v : Nat) (a2 : Int32) (a3 : Int32) (s_total : Int32) (s_under : Nat → Int32) (s_x : Nat → Int32) (s_y : Nat → Int32) (s_a1_width : Int32) (s_a1_height : Int32) (s_a1_lines : Int32) (s_a1_u : Nat → Int32) (s_a1_v : Nat → Int32) (s_a1_x : Nat → Int32) (s_a1_y : Nat → Int32) {o_total : Int32} {o_under : Nat → Int32} {o_x : Nat → Int32} {o_y : Nat → Int32} (h : sX4_insertCrossing a2 a3 s_total s_under s_x s_y s_a1_u s_a1_v s_a1_x s_a1_y = some (o_total, o_under, o_x, o_y)) : MtV l D ky yX4_insertCrossing wsX4_insertCrossing rmX4_insertCrossing [.ref q_, .ref q_a1, .int a2, .int a3] [(q_, .inr (4, [.int s_total, .ref q_x, .ref q_y, .ref q_under])), (q_under, .inl (ky 0, 129, .inl s_under)), (q_x, .inl (ky 0, 129, .inl s_x)), (q_y, .inl (ky 0, 129, .inl s_y)), (q_a1, .inr (1, [.int s_a1_width, .int s_a1_height, .int s_a1_lines, .ref q_a1_x, .ref q_a1_y, .ref q_a1_u, .ref q_a1_v])), (q_a1_u, .inl (ky 0, 18, .inl s_a1_u)), (q_a1_v, .inl (ky 0, 18, .inl s_a1_v)), (q_a1_x, .inl (ky 0, 18, .inl s_a1_x)), (q_a1_y, .inl (ky 0, 18, .inl s_a1_y))] [(q_, .inr (4, [.int o_total, .ref q_x, .ref q_y, .ref q_under])), (q_under, .inl (ky 0, 129, .inl o_under)), (q_x, .inl (ky 0, 129, .inl o_x)), (q_y, .inl (ky 0, 129, .inl o_y)), (q_a1, .inr (1, [.int s_a1_width, .int s_a1_height, .int s_a1_lines, .ref q_a1_x, .ref q_a1_y, .ref q_a1_u, .ref q_a1_v])), (q_a1_u, .inl (ky 0, 18, .inl s_a1_u)), (q_a1_v, .inl (ky 0, 18, .inl s_a1_v)), (q_a1_x, .inl (ky 0, 18, .inl s_a1_x)), (q_a1_y, .inl (ky 0, 18, .inl s_a1_y))] 0 0 := by
  refine MtV.of (cc := cX4_insertCrossing) (maxL := 14) (by decide +kernel) rfl (Nat.le_of_ble_eq_true rfl) ?_
  intro p e R s m args below meth c A Q ls hR hx hb hts hown hnm hml hP hK hD hA ret hl
  have rt := rtV (dc := fun pc => decode cX4_insertCrossing pc = .ok (.return_, 1)) (o_total, o_under, o_x, o_y) (fun t => [(q_, .inr (4, [.int t.1, .ref q_x, .ref q_y, .ref q_under])), (q_under, .inl (ky 0, 129, .inl t.2.1)), (q_x, .inl (ky 0, 129, .inl t.2.2.1)), (q_y, .inl (ky 0, 129, .inl t.2.2.2)), (q_a1, .inr (1, [.int s_a1_width, .int s_a1_height, .int s_a1_lines, .ref q_a1_x, .ref q_a1_y, .ref q_a1_u, .ref q_a1_v])), (q_a1_u, .inl (ky 0, 18, .inl s_a1_u)), (q_a1_v, .inl (ky 0, 18, .inl s_a1_v)), (q_a1_x, .inl (ky 0, 18, .inl s_a1_x)), (q_a1_y, .inl (ky 0, 18, .inl s_a1_y))]) ret
  subst hR
  obtain ⟨H, hH⟩ : ∃ H, H = s.heap := ⟨_, rfl⟩
  obtain ⟨locs, hlocs⟩ : ∃ locs : List Loc, locs = [] := ⟨_, rfl⟩
  have hS : va_S A s.heap H locs := by rw [hH, hlocs]; exact va_S.rf
  rw [← hH] at hP
  suffices hgo : W p l e rmX4_insertCrossing s m args below meth c H locs 0 0 Q (F0 m 0 ls []) by rw [hH, hlocs] at hgo; exact hgo
  clear hH hlocs
  replace hl : lv_has ls 14 [(0, .ref q_), (1, .ref q_a1), (2, .int a2), (3, .int a3)] := hl
  replace hown : s.vm.findClass RX4 = some m.cls := hown
  have hi_X1 : ∀ w ∈ u_ws RX1 TX1 7, w ∈ wsX4_insertCrossing := fun _ h9 => List.mem_cons_of_mem _ (List.mem_append_left _ (List.mem_append_right _ h9))
  have hf_36 := hts (.fieldLink RX4 36 "GlazierBench$Drawing" "u" "[I") (by decide +kernel)
  have hf_30 := hts (.fieldLink RX4 30 "GlazierBench$Drawing" "x" "[I") (by decide +kernel)
  have hf_39 := hts (.fieldLink RX4 39 "GlazierBench$Drawing" "v" "[I") (by decide +kernel)
  have hf_31 := hts (.fieldLink RX4 31 "GlazierBench$Drawing" "y" "[I") (by decide +kernel)
  unfold sX4_insertCrossing at h
  refine lv_aload_n hx hb dX4_insertCrossing_0 rfl (lv_at hl 1 rfl) ?_
  refine va_get (D := D) (ci := 1) (v := .ref q_a1_u) (C := RX1) (T := TX1) (N := 7) hx hb hts hi_X1 hown hK.1 hP 4 rfl rfl 5 (by decide) hf_36 (fun _ h9 => h9) rfl dX4_insertCrossing_1 ?_
  refine lv_iload_n hx hb dX4_insertCrossing_4 rfl (lv_at hl 2 rfl) ?_
  obtain ⟨hg, h⟩ := gd_of h
  refine va_iald hx hb hK.1 hP 5 0 rfl rfl hg dX4_insertCrossing_5 ?_
  refine lv_aload_n hx hb dX4_insertCrossing_6 rfl (lv_at hl 1 rfl) ?_
  refine va_get (D := D) (ci := 1) (v := .ref q_a1_x) (C := RX1) (T := TX1) (N := 7) hx hb hts hi_X1 hown hK.1 hP 4 rfl rfl 3 (by decide) hf_30 (fun _ h9 => h9) rfl dX4_insertCrossing_7 ?_
  refine lv_iload_n hx hb dX4_insertCrossing_10 rfl (lv_at hl 2 rfl) ?_
  obtain ⟨hg, h⟩ := gd_of h
  refine va_iald hx hb hK.1 hP 7 0 rfl rfl hg dX4_insertCrossing_11 ?_
  refine lv_isub hx hb dX4_insertCrossing_12 ?_
  refine lv_topi (fun x1 ex1 => ?_)
  replace h := lt_at ex1 h
  refine lv_istore (lv' := [(4, .int x1), (0, .ref q_), (1, .ref q_a1), (2, .int a2), (3, .int a3)]) hx hb dX4_insertCrossing_13 hl (by decide) rfl (fun ls hl => ?_)
  refine lv_aload_n hx hb dX4_insertCrossing_15 rfl (lv_at hl 2 rfl) ?_
  refine va_get (D := D) (ci := 1) (v := .ref q_a1_v) (C := RX1) (T := TX1) (N := 7) hx hb hts hi_X1 hown hK.1 hP 4 rfl rfl 6 (by decide) hf_39 (fun _ h9 => h9) rfl dX4_insertCrossing_16 ?_
  refine lv_iload_n hx hb dX4_insertCrossing_19 rfl (lv_at hl 3 rfl) ?_
  obtain ⟨hg, h⟩ := gd_of h
  refine va_iald hx hb hK.1 hP 6 0 rfl rfl hg dX4_insertCrossing_20 ?_
  refine lv_aload_n hx hb dX4_insertCrossing_21 rfl (lv_at hl 2 rfl) ?_
  refine va_get (D := D) (ci := 1) (v := .ref q_a1_y) (C := RX1) (T := TX1) (N := 7) hx hb hts hi_X1 hown hK.1 hP 4 rfl rfl 4 (by decide) hf_31 (fun _ h9 => h9) rfl dX4_insertCrossing_22 ?_
  refine lv_iload_n hx hb dX4_insertCrossing_25 rfl (lv_at hl 3 rfl) ?_
  obtain ⟨hg, h⟩ := gd_of h
  refine va_iald hx hb hK.1 hP 8 0 rfl rfl hg dX4_insertCrossing_26 ?_
  refine lv_isub hx hb dX4_insertCrossing_27 ?_
  refine lv_topi (fun x2 ex2 => ?_)
  replace h := lt_at ex2 h
  refine lv_istore (lv' := [(5, .int x2), (4, .int x1), (0, .ref q_), (1, .ref q_a1), (2, .int a2), (3, .int a3)]) hx hb dX4_insertCrossing_28 hl (by decide) rfl (fun ls hl => ?_)
  refine lv_aload_n hx hb dX4_insertCrossing_30 rfl (lv_at hl 3 rfl) ?_
  refine va_get (D := D) (ci := 1) (v := .ref q_a1_u) (C := RX1) (T := TX1) (N := 7) hx hb hts hi_X1 hown hK.1 hP 4 rfl rfl 5 (by decide) hf_36 (fun _ h9 => h9) rfl dX4_insertCrossing_31 ?_
  refine lv_iload_n hx hb dX4_insertCrossing_34 rfl (lv_at hl 5 rfl) ?_
  obtain ⟨hg, h⟩ := gd_of h
  refine va_iald hx hb hK.1 hP 5 0 rfl rfl hg dX4_insertCrossing_35 ?_
  refine lv_aload_n hx hb dX4_insertCrossing_36 rfl (lv_at hl 3 rfl) ?_
  refine va_get (D := D) (ci := 1) (v := .ref q_a1_x) (C := RX1) (T := TX1) (N := 7) hx hb hts hi_X1 hown hK.1 hP 4 rfl rfl 3 (by decide) hf_30 (fun _ h9 => h9) rfl dX4_insertCrossing_37 ?_
  refine lv_iload_n hx hb dX4_insertCrossing_40 rfl (lv_at hl 5 rfl) ?_
  obtain ⟨hg, h⟩ := gd_of h
  refine va_iald hx hb hK.1 hP 7 0 rfl rfl hg dX4_insertCrossing_41 ?_
  refine lv_isub hx hb dX4_insertCrossing_42 ?_
  refine lv_topi (fun x3 ex3 => ?_)
  replace h := lt_at ex3 h
  refine lv_istore (lv' := [(6, .int x3), (5, .int x2), (4, .int x1), (0, .ref q_), (1, .ref q_a1), (2, .int a2), (3, .int a3)]) hx hb dX4_insertCrossing_43 hl (by decide) rfl (fun ls hl => ?_)
  refine lv_aload_n hx hb dX4_insertCrossing_45 rfl (lv_at hl 4 rfl) ?_
  refine va_get (D := D) (ci := 1) (v := .ref q_a1_v) (C := RX1) (T := TX1) (N := 7) hx hb hts hi_X1 hown hK.1 hP 4 rfl rfl 6 (by decide) hf_39 (fun _ h9 => h9) rfl dX4_insertCrossing_46 ?_
  refine lv_iload_n hx hb dX4_insertCrossing_49 rfl (lv_at hl 6 rfl) ?_
  obtain ⟨hg, h⟩ := gd_of h
  refine va_iald hx hb hK.1 hP 6 0 rfl rfl hg dX4_insertCrossing_50 ?_
  refine lv_aload_n hx hb dX4_insertCrossing_51 rfl (lv_at hl 4 rfl) ?_
  refine va_get (D := D) (ci := 1) (v := .ref q_a1_y) (C := RX1) (T := TX1) (N := 7) hx hb hts hi_X1 hown hK.1 hP 4 rfl rfl 4 (by decide) hf_31 (fun _ h9 => h9) rfl dX4_insertCrossing_52 ?_
  refine lv_iload_n hx hb dX4_insertCrossing_55 rfl (lv_at hl 6 rfl) ?_
  obtain ⟨hg, h⟩ := gd_of h
  refine va_iald hx hb hK.1 hP 8 0 rfl rfl hg dX4_insertCrossing_56 ?_
  refine lv_isub hx hb dX4_insertCrossing_57 ?_
  refine lv_topi (fun x4 ex4 => ?_)
  replace h := lt_at ex4 h
  refine lv_istore (lv' := [(7, .int x4), (6, .int x3), (5, .int x2), (4, .int x1), (0, .ref q_), (1, .ref q_a1), (2, .int a2), (3, .int a3)]) hx hb dX4_insertCrossing_58 hl (by decide) rfl (fun ls hl => ?_)
  refine lv_iload hx hb dX4_insertCrossing_60 (lv_at hl 3 rfl) ?_
  refine lv_iload hx hb dX4_insertCrossing_62 (lv_at hl 0 rfl) ?_
  refine lv_imul hx hb dX4_insertCrossing_64 ?_
  refine lv_iload hx hb dX4_insertCrossing_65 (lv_at hl 2 rfl) ?_
  refine lv_iload hx hb dX4_insertCrossing_67 (lv_at hl 1 rfl) ?_
  refine lv_imul hx hb dX4_insertCrossing_69 ?_
  refine lv_isub hx hb dX4_insertCrossing_70 ?_
  refine lv_topi (fun x5 ex5 => ?_)
  replace h := lt_at ex5 h
  refine lv_istore (lv' := [(8, .int x5), (7, .int x4), (6, .int x3), (5, .int x2), (4, .int x1), (0, .ref q_), (1, .ref q_a1), (2, .int a2), (3, .int a3)]) hx hb dX4_insertCrossing_71 hl (by decide) rfl (fun ls hl => ?_)
  refine lv_iload hx hb dX4_insertCrossing_73 (lv_at hl 0 rfl) ?_
  refine lv_if_ne (tgt := 79) hx hb dX4_insertCrossing_75 (by decide) (fun hc => ?_) (fun hc => ?_)
  · replace h := if_t hc h
    refine lv_iload hx hb dX4_insertCrossing_79 (lv_at hl 0 rfl) ?_
    obtain ⟨t, hd, h⟩ := ob_of h
    have K : ∀ (H : Heap) (locs : List Loc) (ls : Array Slot), va_P D vwCl [(q_, .inr (4, [.int s_total, .ref q_x, .ref q_y, .ref q_under])), (q_under, .inl (ky 0, 129, .inl s_under)), (q_x, .inl (ky 0, 129, .inl s_x)), (q_y, .inl (ky 0, 129, .inl s_y)), (q_a1, .inr (1, [.int s_a1_width, .int s_a1_height, .int s_a1_lines, .ref q_a1_x, .ref q_a1_y, .ref q_a1_u, .ref q_a1_v])), (q_a1_u, .inl (ky 0, 18, .inl s_a1_u)), (q_a1_v, .inl (ky 0, 18, .inl s_a1_v)), (q_a1_x, .inl (ky 0, 18, .inl s_a1_x)), (q_a1_y, .inl (ky 0, 18, .inl s_a1_y))] H → va_D A [(q_, .inr (4, [.int s_total, .ref q_x, .ref q_y, .ref q_under])), (q_under, .inl (ky 0, 129, .inl s_under)), (q_x, .inl (ky 0, 129, .inl s_x)), (q_y, .inl (ky 0, 129, .inl s_y)), (q_a1, .inr (1, [.int s_a1_width, .int s_a1_height, .int s_a1_lines, .ref q_a1_x, .ref q_a1_y, .ref q_a1_u, .ref q_a1_v])), (q_a1_u, .inl (ky 0, 18, .inl s_a1_u)), (q_a1_v, .inl (ky 0, 18, .inl s_a1_v)), (q_a1_x, .inl (ky 0, 18, .inl s_a1_x)), (q_a1_y, .inl (ky 0, 18, .inl s_a1_y))] → va_S A s.heap H locs → lv_has ls 14 [(0, .ref q_), (1, .ref q_a1), (2, .int a2), (3, .int a3), (4, .int x1), (5, .int x2), (6, .int x3), (7, .int x4), (8, .int x5)] → W p l e rmX4_insertCrossing s m args below meth c H locs 0 0 Q (F0 m 89 ls [.int t]) := by
      clear hd hP hD hS hl
      obtain ⟨v6, rfl⟩ : ∃ z, z = t := ⟨_, rfl⟩
      replace h := dm1_of h
      intro H locs ls hP hD hS hl
      replace hP : va_P D vwCl [(q_, .inr (4, [.int s_total, .ref q_x, .ref q_y, .ref q_under])), (q_under, .inl (ky 0, 129, .inl s_under)), (q_x, .inl (ky 0, 129, .inl s_x)), (q_y, .inl (ky 0, 129, .inl s_y)), (q_a1, .inr (1, [.int s_a1_width, .int s_a1_height, .int s_a1_lines, .ref q_a1_x, .ref q_a1_y, .ref q_a1_u, .ref q_a1_v])), (q_a1_u, .inl (ky 0, 18, .inl s_a1_u)), (q_a1_v, .inl (ky 0, 18, .inl s_a1_v)), (q_a1_x, .inl (ky 0, 18, .inl s_a1_x)), (q_a1_y, .inl (ky 0, 18, .inl s_a1_y))] H := hP
      replace hD : va_D A [(q_, .inr (4, [.int s_total, .ref q_x, .ref q_y, .ref q_under])), (q_under, .inl (ky 0, 129, .inl s_under)), (q_x, .inl (ky 0, 129, .inl s_x)), (q_y, .inl (ky 0, 129, .inl s_y)), (q_a1, .inr (1, [.int s_a1_width, .int s_a1_height, .int s_a1_lines, .ref q_a1_x, .ref q_a1_y, .ref q_a1_u, .ref q_a1_v])), (q_a1_u, .inl (ky 0, 18, .inl s_a1_u)), (q_a1_v, .inl (ky 0, 18, .inl s_a1_v)), (q_a1_x, .inl (ky 0, 18, .inl s_a1_x)), (q_a1_y, .inl (ky 0, 18, .inl s_a1_y))] := hD
      replace hl : lv_has ls 14 [(0, .ref q_), (1, .ref q_a1), (2, .int a2), (3, .int a3), (4, .int x1), (5, .int x2), (6, .int x3), (7, .int x4), (8, .int x5)] := hl
      refine W.eq (g2 := F0 m 89 ls [.int v6]) rfl ?_
      refine lv_istore (lv' := [(9, .int v6), (0, .ref q_), (1, .ref q_a1), (2, .int a2), (3, .int a3), (4, .int x1), (5, .int x2), (6, .int x3), (7, .int x4), (8, .int x5)]) hx hb dX4_insertCrossing_89 hl (by decide) rfl (fun ls hl => ?_)
      refine lv_aload_n hx hb dX4_insertCrossing_91 rfl (lv_at hl 2 rfl) ?_
      refine va_get (D := D) (ci := 1) (v := .ref q_a1_x) (C := RX1) (T := TX1) (N := 7) hx hb hts hi_X1 hown hK.1 hP 4 rfl rfl 3 (by decide) hf_30 (fun _ h9 => h9) rfl dX4_insertCrossing_92 ?_
      refine lv_iload_n hx hb dX4_insertCrossing_95 rfl (lv_at hl 4 rfl) ?_
      obtain ⟨hg, h⟩ := gd_of h
      refine va_iald hx hb hK.1 hP 7 0 rfl rfl hg dX4_insertCrossing_96 ?_
      refine lv_aload_n hx hb dX4_insertCrossing_97 rfl (lv_at hl 2 rfl) ?_
      refine va_get (D := D) (ci := 1) (v := .ref q_a1_x) (C := RX1) (T := TX1) (N := 7) hx hb hts hi_X1 hown hK.1 hP 4 rfl rfl 3 (by decide) hf_30 (fun _ h9 => h9) rfl dX4_insertCrossing_98 ?_
      refine lv_iload_n hx hb dX4_insertCrossing_101 rfl (lv_at hl 3 rfl) ?_
      obtain ⟨hg, h⟩ := gd_of h
      refine va_iald hx hb hK.1 hP 7 0 rfl rfl hg dX4_insertCrossing_102 ?_
      refine lv_isub hx hb dX4_insertCrossing_103 ?_
      refine lv_topi (fun x7 ex7 => ?_)
      replace h := lt_at ex7 h
      refine lv_istore (lv' := [(10, .int x7), (9, .int v6), (0, .ref q_), (1, .ref q_a1), (2, .int a2), (3, .int a3), (4, .int x1), (5, .int x2), (6, .int x3), (7, .int x4), (8, .int x5)]) hx hb dX4_insertCrossing_104 hl (by decide) rfl (fun ls hl => ?_)
      refine lv_aload_n hx hb dX4_insertCrossing_106 rfl (lv_at hl 3 rfl) ?_
      refine va_get (D := D) (ci := 1) (v := .ref q_a1_y) (C := RX1) (T := TX1) (N := 7) hx hb hts hi_X1 hown hK.1 hP 4 rfl rfl 4 (by decide) hf_31 (fun _ h9 => h9) rfl dX4_insertCrossing_107 ?_
      refine lv_iload_n hx hb dX4_insertCrossing_110 rfl (lv_at hl 5 rfl) ?_
      obtain ⟨hg, h⟩ := gd_of h
      refine va_iald hx hb hK.1 hP 8 0 rfl rfl hg dX4_insertCrossing_111 ?_
      refine lv_aload_n hx hb dX4_insertCrossing_112 rfl (lv_at hl 3 rfl) ?_
      refine va_get (D := D) (ci := 1) (v := .ref q_a1_y) (C := RX1) (T := TX1) (N := 7) hx hb hts hi_X1 hown hK.1 hP 4 rfl rfl 4 (by decide) hf_31 (fun _ h9 => h9) rfl dX4_insertCrossing_113 ?_
      refine lv_iload_n hx hb dX4_insertCrossing_116 rfl (lv_at hl 4 rfl) ?_
      obtain ⟨hg, h⟩ := gd_of h
      refine va_iald hx hb hK.1 hP 8 0 rfl rfl hg dX4_insertCrossing_117 ?_
      refine lv_isub hx hb dX4_insertCrossing_118 ?_
      refine lv_topi (fun x8 ex8 => ?_)
      replace h := lt_at ex8 h
      refine lv_istore (lv' := [(11, .int x8), (10, .int x7), (9, .int v6), (0, .ref q_), (1, .ref q_a1), (2, .int a2), (3, .int a3), (4, .int x1), (5, .int x2), (6, .int x3), (7, .int x4), (8, .int x5)]) hx hb dX4_insertCrossing_119 hl (by decide) rfl (fun ls hl => ?_)
      refine lv_iload hx hb dX4_insertCrossing_121 (lv_at hl 2 rfl) ?_
      refine lv_iload hx hb dX4_insertCrossing_123 (lv_at hl 1 rfl) ?_
      refine lv_iload hx hb dX4_insertCrossing_125 (lv_at hl 10 rfl) ?_
      refine lv_imul hx hb dX4_insertCrossing_127 ?_
      refine lv_iload hx hb dX4_insertCrossing_128 (lv_at hl 0 rfl) ?_
      refine lv_iload hx hb dX4_insertCrossing_130 (lv_at hl 9 rfl) ?_
      refine lv_imul hx hb dX4_insertCrossing_132 ?_
      refine lv_isub hx hb dX4_insertCrossing_133 ?_
      refine lv_imul hx hb dX4_insertCrossing_134 ?_
      refine lv_topi (fun x9 ex9 => ?_)
      replace h := lt_at ex9 h
      refine lv_istore (lv' := [(12, .int x9), (11, .int x8), (10, .int x7), (9, .int v6), (0, .ref q_), (1, .ref q_a1), (2, .int a2), (3, .int a3), (4, .int x1), (5, .int x2), (6, .int x3), (7, .int x4), (8, .int x5)]) hx hb dX4_insertCrossing_135 hl (by decide) rfl (fun ls hl => ?_)
      refine lv_iload hx hb dX4_insertCrossing_137 (lv_at hl 3 rfl) ?_
      refine lv_iload hx hb dX4_insertCrossing_139 (lv_at hl 2 rfl) ?_
      refine lv_iload hx hb dX4_insertCrossing_141 (lv_at hl 9 rfl) ?_
      refine lv_imul hx hb dX4_insertCrossing_143 ?_
      refine lv_iload hx hb dX4_insertCrossing_144 (lv_at hl 1 rfl) ?_
      refine lv_iload hx hb dX4_insertCrossing_146 (lv_at hl 8 rfl) ?_
      refine lv_imul hx hb dX4_insertCrossing_148 ?_
      refine lv_isub hx hb dX4_insertCrossing_149 ?_
      refine lv_imul hx hb dX4_insertCrossing_150 ?_
      refine lv_topi (fun x10 ex10 => ?_)
      replace h := lt_at ex10 h
      refine lv_istore (lv' := [(13, .int x10), (12, .int x9), (11, .int x8), (10, .int x7), (9, .int v6), (0, .ref q_), (1, .ref q_a1), (2, .int a2), (3, .int a3), (4, .int x1), (5, .int x2), (6, .int x3), (7, .int x4), (8, .int x5)]) hx hb dX4_insertCrossing_151 hl (by decide) rfl (fun ls hl => ?_)
      refine lv_iload hx hb dX4_insertCrossing_153 (lv_at hl 4 rfl) ?_
      refine lv_iload hx hb dX4_insertCrossing_155 (lv_at hl 13 rfl) ?_
      refine lv_imul hx hb dX4_insertCrossing_157 ?_
      refine lv_topi (fun x11 ex11 => ?_)
      replace h := lt_at ex11 h
      refine lv_istore (lv' := [(8, .int x11), (13, .int x10), (12, .int x9), (11, .int x8), (10, .int x7), (9, .int v6), (0, .ref q_), (1, .ref q_a1), (2, .int a2), (3, .int a3), (4, .int x1), (5, .int x2), (6, .int x3), (7, .int x4)]) hx hb dX4_insertCrossing_158 hl (by decide) rfl (fun ls hl => ?_)
      refine lv_iload hx hb dX4_insertCrossing_160 (lv_at hl 2 rfl) ?_
      refine lv_if_lt (tgt := 184) hx hb dX4_insertCrossing_162 (by decide) (fun hc => ?_) (fun hc => ?_)
      · replace h := if_t hc h
        exact rt _ h _ _ _ _ dX4_insertCrossing_184 hP hD hS
      · replace h := if_f hc h
        refine lv_iload hx hb dX4_insertCrossing_165 (lv_at hl 2 rfl) ?_
        refine lv_iload hx hb dX4_insertCrossing_167 (lv_at hl 0 rfl) ?_
        refine lv_icmp_gt (tgt := 184) hx hb dX4_insertCrossing_169 (by decide) (fun hc => ?_) (fun hc => ?_)
        · replace h := if_t hc h
          exact rt _ h _ _ _ _ dX4_insertCrossing_184 hP hD hS
        · replace h := if_f hc h
          refine lv_iload hx hb dX4_insertCrossing_172 (lv_at hl 1 rfl) ?_
          refine lv_if_lt (tgt := 184) hx hb dX4_insertCrossing_174 (by decide) (fun hc => ?_) (fun hc => ?_)
          · replace h := if_t hc h
            exact rt _ h _ _ _ _ dX4_insertCrossing_184 hP hD hS
          · replace h := if_f hc h
            refine lv_iload hx hb dX4_insertCrossing_177 (lv_at hl 1 rfl) ?_
            refine lv_iload hx hb dX4_insertCrossing_179 (lv_at hl 0 rfl) ?_
            refine lv_icmp_le (tgt := 185) hx hb dX4_insertCrossing_181 (by decide) (fun hc => ?_) (fun hc => ?_)
            · replace h := if_t hc h
              refine lv_aload_n hx hb dX4_insertCrossing_185 rfl (lv_at hl 6 rfl) ?_
              refine lv_aload_n hx hb dX4_insertCrossing_186 rfl (lv_at hl 7 rfl) ?_
              refine va_get (D := D) (ci := 1) (v := .ref q_a1_x) (C := RX1) (T := TX1) (N := 7) hx hb hts hi_X1 hown hK.1 hP 4 rfl rfl 3 (by decide) hf_30 (fun _ h9 => h9) rfl dX4_insertCrossing_187 ?_
              refine lv_iload_n hx hb dX4_insertCrossing_190 rfl (lv_at hl 8 rfl) ?_
              obtain ⟨hg, h⟩ := gd_of h
              refine va_iald hx hb hK.1 hP 7 0 rfl rfl hg dX4_insertCrossing_191 ?_
              refine lv_iload hx hb dX4_insertCrossing_192 (lv_at hl 0 rfl) ?_
              refine lv_imul hx hb dX4_insertCrossing_194 ?_
              refine lv_iload hx hb dX4_insertCrossing_195 (lv_at hl 2 rfl) ?_
              refine lv_iload hx hb dX4_insertCrossing_197 (lv_at hl 10 rfl) ?_
              refine lv_imul hx hb dX4_insertCrossing_199 ?_
              refine lv_iadd hx hb dX4_insertCrossing_200 ?_
              refine lv_aload_n hx hb dX4_insertCrossing_201 rfl (lv_at hl 7 rfl) ?_
              refine va_get (D := D) (ci := 1) (v := .ref q_a1_y) (C := RX1) (T := TX1) (N := 7) hx hb hts hi_X1 hown hK.1 hP 4 rfl rfl 4 (by decide) hf_31 (fun _ h9 => h9) rfl dX4_insertCrossing_202 ?_
              refine lv_iload_n hx hb dX4_insertCrossing_205 rfl (lv_at hl 8 rfl) ?_
              obtain ⟨hg, h⟩ := gd_of h
              refine va_iald hx hb hK.1 hP 8 0 rfl rfl hg dX4_insertCrossing_206 ?_
              refine lv_iload hx hb dX4_insertCrossing_207 (lv_at hl 0 rfl) ?_
              refine lv_imul hx hb dX4_insertCrossing_209 ?_
              refine lv_iload hx hb dX4_insertCrossing_210 (lv_at hl 2 rfl) ?_
              refine lv_iload hx hb dX4_insertCrossing_212 (lv_at hl 11 rfl) ?_
              refine lv_imul hx hb dX4_insertCrossing_214 ?_
              refine lv_iadd hx hb dX4_insertCrossing_215 ?_
              refine lv_iload hx hb dX4_insertCrossing_216 (lv_at hl 0 rfl) ?_
              obtain ⟨⟨o12, o13, o14, o15⟩, hc, h⟩ := ob_of h
              replace h := dm4_of h
              refine cv_v (As := [.int (((s_a1_x a2.toNatClampNeg) * x11) + (x9 * x1)), .int (((s_a1_y a2.toNatClampNeg) * x11) + (x9 * x2)), .int x11]) (rest := []) (wr := [(q_a1, .inr (1, [.int s_a1_width, .int s_a1_height, .int s_a1_lines, .ref q_a1_x, .ref q_a1_y, .ref q_a1_u, .ref q_a1_v])), (q_a1_u, .inl (ky 0, 18, .inl s_a1_u)), (q_a1_v, .inl (ky 0, 18, .inl s_a1_v)), (q_a1_x, .inl (ky 0, 18, .inl s_a1_x)), (q_a1_y, .inl (ky 0, 18, .inl s_a1_y))]) (wn := [(q_, .inr (4, [.int o12, .ref q_x, .ref q_y, .ref q_under])), (q_under, .inl (ky 0, 129, .inl o13)), (q_x, .inl (ky 0, 129, .inl o14)), (q_y, .inl (ky 0, 129, .inl o15)), (q_a1, .inr (1, [.int s_a1_width, .int s_a1_height, .int s_a1_lines, .ref q_a1_x, .ref q_a1_y, .ref q_a1_u, .ref q_a1_v])), (q_a1_u, .inl (ky 0, 18, .inl s_a1_u)), (q_a1_v, .inl (ky 0, 18, .inl s_a1_v)), (q_a1_x, .inl (ky 0, 18, .inl s_a1_x)), (q_a1_y, .inl (ky 0, 18, .inl s_a1_y))]) ⟨hx, hb, hml, hown, hts⟩ (c_X4_insert l D ky q_ q_x q_y q_under (((s_a1_x a2.toNatClampNeg) * x11) + (x9 * x1)) (((s_a1_y a2.toNatClampNeg) * x11) + (x9 * x2)) x11 s_total s_under s_x s_y hc) (cwV 3 hts gX4_insertCrossing_X4_insert rfl rfl rfl (by decide +kernel) ⟨Nat.le_of_ble_eq_true rfl, Nat.le_of_ble_eq_true rfl⟩) (rcv hK.1 hP (q0 := 0) rfl rfl) hP hD hK hS hA [0, 1, 2, 3] [4, 5, 6, 7, 8] [5, 6, 7, 8, 0, 1, 2, 3, 4] rfl (by decide +kernel) rfl (by decide +kernel) (by decide +kernel) (by decide +kernel) rfl rfl rfl hl.1 (Nat.le_of_ble_eq_true rfl) dX4_insertCrossing_218 ⟨Nat.le_of_ble_eq_true rfl, Nat.le_of_ble_eq_true rfl⟩ (fun H locs hP hD hS => ?_)
              exact rt _ h _ _ _ _ dX4_insertCrossing_221 hP hD hS
            · replace h := if_f hc h
              exact rt _ h _ _ _ _ dX4_insertCrossing_184 hP hD hS
    replace h := hd
    clear hd
    refine lv_if_ge (tgt := 88) hx hb dX4_insertCrossing_81 (by decide) (fun hc => ?_) (fun hc => ?_)
    · replace h := if_t hc h
      refine lv_iconst (v := 1) hx hb dX4_insertCrossing_88 (by decide) ?_
      cases h
      exact K _ _ _ hP hD hS (lv_sub hl [5, 6, 7, 8, 4, 3, 2, 1, 0] rfl)
    · replace h := if_f hc h
      refine lv_iconst (v := (-1)) hx hb dX4_insertCrossing_84 (by decide) ?_
      refine lv_goto (tgt := 89) hx hb dX4_insertCrossing_85 (by decide) ?_
      cases h
      exact K _ _ _ hP hD hS (lv_sub hl [5, 6, 7, 8, 4, 3, 2, 1, 0] rfl)
  · replace h := if_f (fun z => z hc) h
    exact rt _ h _ _ _ _ dX4_insertCrossing_78 hP hD hS

def bX4_gather_7 (s_a1_lines : Int32) (s_a1_u : Nat → Int32) (s_a1_v : Nat → Int32) (s_a1_x : Nat → Int32) (s_a1_y : Nat → Int32) (t : Int32 × Int32 × (Nat → Int32) × (Nat → Int32) × (Nat → Int32)) : Option (Nat × (Int32 × Int32 × (Nat → Int32) × (Nat → Int32) × (Nat → Int32))) := dm5 t (fun (v1 : Int32) (v2 : Int32) (v3 : Nat → Int32) (v4 : Nat → Int32) (v5 : Nat → Int32) => if s_a1_lines ≤ v1 then some (1, (v1, v2, v3, v4, v5)) else gd (¬ (v1 < 0 ∨ 18 ≤ v1.toNatClampNeg)) (gd (¬ (v1 < 0 ∨ 18 ≤ v1.toNatClampNeg)) (ob (sX4_insert (s_a1_x v1.toNatClampNeg) (s_a1_y v1.toNatClampNeg) (1 : Int32) v2 v3 v4 v5) (fun o => dm4 o (fun (o6 : Int32) (o7 : Nat → Int32) (o8 : Nat → Int32) (o9 : Nat → Int32) => gd (¬ (v1 < 0 ∨ 18 ≤ v1.toNatClampNeg)) (gd (¬ (v1 < 0 ∨ 18 ≤ v1.toNatClampNeg)) (ob (sX4_insert (s_a1_u v1.toNatClampNeg) (s_a1_v v1.toNatClampNeg) (1 : Int32) o6 o7 o8 o9) (fun o => dm4 o (fun (o10 : Int32) (o11 : Nat → Int32) (o12 : Nat → Int32) (o13 : Nat → Int32) => lt (v1 + 1) (fun x14 => some (0, (x14, o10, o11, o12, o13))))))))))))
def bX4_gather_67 (s_a1_u : Nat → Int32) (s_a1_v : Nat → Int32) (s_a1_x : Nat → Int32) (s_a1_y : Nat → Int32) (v20 : Int32) (t : Int32 × Int32 × (Nat → Int32) × (Nat → Int32) × (Nat → Int32)) : Option (Nat × (Int32 × Int32 × (Nat → Int32) × (Nat → Int32) × (Nat → Int32))) := dm5 t (fun (v25 : Int32) (v26 : Int32) (v27 : Nat → Int32) (v28 : Nat → Int32) (v29 : Nat → Int32) => if v20 ≤ v25 then some (1, (v25, v26, v27, v28, v29)) else ob (sX4_insertCrossing v20 v25 v26 v27 v28 v29 s_a1_u s_a1_v s_a1_x s_a1_y) (fun o => dm4 o (fun (o30 : Int32) (o31 : Nat → Int32) (o32 : Nat → Int32) (o33 : Nat → Int32) => lt (v25 + 1) (fun x34 => some (0, (x34, o30, o31, o32, o33))))))
def bX4_gather_57 (s_a1_lines : Int32) (s_a1_u : Nat → Int32) (s_a1_v : Nat → Int32) (s_a1_x : Nat → Int32) (s_a1_y : Nat → Int32) (t : Int32 × Int32 × (Nat → Int32) × (Nat → Int32) × (Nat → Int32)) : Option (Nat × (Int32 × Int32 × (Nat → Int32) × (Nat → Int32) × (Nat → Int32))) := dm5 t (fun (v20 : Int32) (v21 : Int32) (v22 : Nat → Int32) (v23 : Nat → Int32) (v24 : Nat → Int32) => if s_a1_lines ≤ v20 then some (1, (v20, v21, v22, v23, v24)) else ob (iter (bX4_gather_67 s_a1_u s_a1_v s_a1_x s_a1_y v20) FU ((0 : Int32), v21, v22, v23, v24)) (fun kt => ex1 kt (fun t => dm5 t (fun (v35 : Int32) (v36 : Int32) (v37 : Nat → Int32) (v38 : Nat → Int32) (v39 : Nat → Int32) => lt (v20 + 1) (fun x40 => some (0, (x40, v36, v37, v38, v39)))))))
def sX4_gather  (s_total : Int32) (s_under : Nat → Int32) (s_x : Nat → Int32) (s_y : Nat → Int32) (s_a1_lines : Int32) (s_a1_u : Nat → Int32) (s_a1_v : Nat → Int32) (s_a1_x : Nat → Int32) (s_a1_y : Nat → Int32) : Option (Int32 × (Nat → Int32) × (Nat → Int32) × (Nat → Int32)) := ob (iter (bX4_gather_7 s_a1_lines s_a1_u s_a1_v s_a1_x s_a1_y) FU ((0 : Int32), (0 : Int32), s_under, s_x, s_y)) (fun kt => ex1 kt (fun t => dm5 t (fun (v15 : Int32) (v16 : Int32) (v17 : Nat → Int32) (v18 : Nat → Int32) (v19 : Nat → Int32) => ob (iter (bX4_gather_57 s_a1_lines s_a1_u s_a1_v s_a1_x s_a1_y) FU ((0 : Int32), v16, v17, v18, v19)) (fun kt => ex1 kt (fun t => dm5 t (fun (v41 : Int32) (v42 : Int32) (v43 : Nat → Int32) (v44 : Nat → Int32) (v45 : Nat → Int32) => some (v42, v43, v44, v45)))))))
abbrev rmX4_gather : Room := { frames := 3, cells := 0, slots := 0, locals := 85 }
set_option maxHeartbeats 4000000 in
set_option maxRecDepth 100000 in
theorem c_X4_gather (l : Launch) (D : va_G) (ky : Nat → ClassId) (q_ q_x q_y q_under q_a1 q_a1_x q_a1_y q_a1_u q_a1_v : Nat) (s_total : Int32) (s_under : Nat → Int32) (s_x : Nat → Int32) (s_y : Nat → Int32) (s_a1_width : Int32) (s_a1_height : Int32) (s_a1_lines : Int32) (s_a1_u : Nat → Int32) (s_a1_v : Nat → Int32) (s_a1_x : Nat → Int32) (s_a1_y : Nat → Int32) {o_total : Int32} {o_under : Nat → Int32} {o_x : Nat → Int32} {o_y : Nat → Int32} (h : sX4_gather s_total s_under s_x s_y s_a1_lines s_a1_u s_a1_v s_a1_x s_a1_y = some (o_total, o_under, o_x, o_y)) : MtV l D ky yX4_gather wsX4_gather rmX4_gather [.ref q_, .ref q_a1] [(q_, .inr (4, [.int s_total, .ref q_x, .ref q_y, .ref q_under])), (q_under, .inl (ky 0, 129, .inl s_under)), (q_x, .inl (ky 0, 129, .inl s_x)), (q_y, .inl (ky 0, 129, .inl s_y)), (q_a1, .inr (1, [.int s_a1_width, .int s_a1_height, .int s_a1_lines, .ref q_a1_x, .ref q_a1_y, .ref q_a1_u, .ref q_a1_v])), (q_a1_u, .inl (ky 0, 18, .inl s_a1_u)), (q_a1_v, .inl (ky 0, 18, .inl s_a1_v)), (q_a1_x, .inl (ky 0, 18, .inl s_a1_x)), (q_a1_y, .inl (ky 0, 18, .inl s_a1_y))] [(q_, .inr (4, [.int o_total, .ref q_x, .ref q_y, .ref q_under])), (q_under, .inl (ky 0, 129, .inl o_under)), (q_x, .inl (ky 0, 129, .inl o_x)), (q_y, .inl (ky 0, 129, .inl o_y)), (q_a1, .inr (1, [.int s_a1_width, .int s_a1_height, .int s_a1_lines, .ref q_a1_x, .ref q_a1_y, .ref q_a1_u, .ref q_a1_v])), (q_a1_u, .inl (ky 0, 18, .inl s_a1_u)), (q_a1_v, .inl (ky 0, 18, .inl s_a1_v)), (q_a1_x, .inl (ky 0, 18, .inl s_a1_x)), (q_a1_y, .inl (ky 0, 18, .inl s_a1_y))] 0 0 := by
  refine MtV.of (cc := cX4_gather) (maxL := 4) (by decide +kernel) rfl (Nat.le_of_ble_eq_true rfl) ?_
  intro p e R s m args below meth c A Q ls hR hx hb hts hown hnm hml hP hK hD hA ret hl
  have rt := rtV (dc := fun pc => decode cX4_gather pc = .ok (.return_, 1)) (o_total, o_under, o_x, o_y) (fun t => [(q_, .inr (4, [.int t.1, .ref q_x, .ref q_y, .ref q_under])), (q_under, .inl (ky 0, 129, .inl t.2.1)), (q_x, .inl (ky 0, 129, .inl t.2.2.1)), (q_y, .inl (ky 0, 129, .inl t.2.2.2)), (q_a1, .inr (1, [.int s_a1_width, .int s_a1_height, .int s_a1_lines, .ref q_a1_x, .ref q_a1_y, .ref q_a1_u, .ref q_a1_v])), (q_a1_u, .inl (ky 0, 18, .inl s_a1_u)), (q_a1_v, .inl (ky 0, 18, .inl s_a1_v)), (q_a1_x, .inl (ky 0, 18, .inl s_a1_x)), (q_a1_y, .inl (ky 0, 18, .inl s_a1_y))]) ret
  subst hR
  obtain ⟨H, hH⟩ : ∃ H, H = s.heap := ⟨_, rfl⟩
  obtain ⟨locs, hlocs⟩ : ∃ locs : List Loc, locs = [] := ⟨_, rfl⟩
  have hS : va_S A s.heap H locs := by rw [hH, hlocs]; exact va_S.rf
  rw [← hH] at hP
  suffices hgo : W p l e rmX4_gather s m args below meth c H locs 0 0 Q (F0 m 0 ls []) by rw [hH, hlocs] at hgo; exact hgo
  clear hH hlocs
  replace hl : lv_has ls 4 [(0, .ref q_), (1, .ref q_a1)] := hl
  replace hown : s.vm.findClass RX4 = some m.cls := hown
  have hi_X4 : ∀ w ∈ u_ws RX4 TX4 4, w ∈ wsX4_gather := fun _ h9 => List.mem_cons_of_mem _ (List.mem_append_left _ (List.mem_append_right _ h9))
  have hf_21 := hts (.fieldLink RX4 21 "GlazierBench$Joints" "total" "I") (by decide +kernel)
  have hi_X1 : ∀ w ∈ u_ws RX1 TX1 7, w ∈ wsX4_gather := fun _ h9 => List.mem_cons_of_mem _ (List.mem_append_right _ h9)
  have hf_25 := hts (.fieldLink RX4 25 "GlazierBench$Drawing" "lines" "I") (by decide +kernel)
  have hf_30 := hts (.fieldLink RX4 30 "GlazierBench$Drawing" "x" "[I") (by decide +kernel)
  have hf_31 := hts (.fieldLink RX4 31 "GlazierBench$Drawing" "y" "[I") (by decide +kernel)
  have hf_36 := hts (.fieldLink RX4 36 "GlazierBench$Drawing" "u" "[I") (by decide +kernel)
  have hf_39 := hts (.fieldLink RX4 39 "GlazierBench$Drawing" "v" "[I") (by decide +kernel)
  unfold sX4_gather at h
  refine lv_aload_n hx hb dX4_gather_0 rfl (lv_at hl 0 rfl) ?_
  refine lv_iconst (v := 0) hx hb dX4_gather_1 (by decide) ?_
  refine va_put (D := D) (ci := 4) (v := .int (0 : Int32)) (ty := .int) (C := RX4) (T := TX4) (N := 4) hx hb hts hi_X4 tyX4 tyX4_ok nmX4 hown hK.1 hP hD hS 0 rfl rfl 0 (by decide) hf_21 (fun _ h9 => h9) rfl (by decide +kernel) rfl rfl (Nat.le_of_ble_eq_true rfl) dX4_gather_2 (fun H locs hP hD hS => ?_)
  replace hP : va_P D vwCl [(q_, .inr (4, [.int (0 : Int32), .ref q_x, .ref q_y, .ref q_under])), (q_under, .inl (ky 0, 129, .inl s_under)), (q_x, .inl (ky 0, 129, .inl s_x)), (q_y, .inl (ky 0, 129, .inl s_y)), (q_a1, .inr (1, [.int s_a1_width, .int s_a1_height, .int s_a1_lines, .ref q_a1_x, .ref q_a1_y, .ref q_a1_u, .ref q_a1_v])), (q_a1_u, .inl (ky 0, 18, .inl s_a1_u)), (q_a1_v, .inl (ky 0, 18, .inl s_a1_v)), (q_a1_x, .inl (ky 0, 18, .inl s_a1_x)), (q_a1_y, .inl (ky 0, 18, .inl s_a1_y))] H := hP
  replace hD : va_D A [(q_, .inr (4, [.int (0 : Int32), .ref q_x, .ref q_y, .ref q_under])), (q_under, .inl (ky 0, 129, .inl s_under)), (q_x, .inl (ky 0, 129, .inl s_x)), (q_y, .inl (ky 0, 129, .inl s_y)), (q_a1, .inr (1, [.int s_a1_width, .int s_a1_height, .int s_a1_lines, .ref q_a1_x, .ref q_a1_y, .ref q_a1_u, .ref q_a1_v])), (q_a1_u, .inl (ky 0, 18, .inl s_a1_u)), (q_a1_v, .inl (ky 0, 18, .inl s_a1_v)), (q_a1_x, .inl (ky 0, 18, .inl s_a1_x)), (q_a1_y, .inl (ky 0, 18, .inl s_a1_y))] := hD
  refine lv_iconst (v := 0) hx hb dX4_gather_5 (by decide) ?_
  refine lv_istore_n (lv' := [(2, .int (0 : Int32)), (0, .ref q_), (1, .ref q_a1)]) hx hb dX4_gather_6 rfl hl (by decide) rfl (fun ls hl => ?_)
  obtain ⟨⟨k, t⟩, hi, h⟩ := ob_of h
  refine iter_rule (P := fun (k : Nat) (t : Int32 × Int32 × (Nat → Int32) × (Nat → Int32) × (Nat → Int32)) => ∀ (H : Heap) (locs : List Loc) (ls : Array Slot), va_P D vwCl [(q_, .inr (4, [.int t.2.1, .ref q_x, .ref q_y, .ref q_under])), (q_under, .inl (ky 0, 129, .inl t.2.2.1)), (q_x, .inl (ky 0, 129, .inl t.2.2.2.1)), (q_y, .inl (ky 0, 129, .inl t.2.2.2.2)), (q_a1, .inr (1, [.int s_a1_width, .int s_a1_height, .int s_a1_lines, .ref q_a1_x, .ref q_a1_y, .ref q_a1_u, .ref q_a1_v])), (q_a1_u, .inl (ky 0, 18, .inl s_a1_u)), (q_a1_v, .inl (ky 0, 18, .inl s_a1_v)), (q_a1_x, .inl (ky 0, 18, .inl s_a1_x)), (q_a1_y, .inl (ky 0, 18, .inl s_a1_y))] H → va_D A [(q_, .inr (4, [.int t.2.1, .ref q_x, .ref q_y, .ref q_under])), (q_under, .inl (ky 0, 129, .inl t.2.2.1)), (q_x, .inl (ky 0, 129, .inl t.2.2.2.1)), (q_y, .inl (ky 0, 129, .inl t.2.2.2.2)), (q_a1, .inr (1, [.int s_a1_width, .int s_a1_height, .int s_a1_lines, .ref q_a1_x, .ref q_a1_y, .ref q_a1_u, .ref q_a1_v])), (q_a1_u, .inl (ky 0, 18, .inl s_a1_u)), (q_a1_v, .inl (ky 0, 18, .inl s_a1_v)), (q_a1_x, .inl (ky 0, 18, .inl s_a1_x)), (q_a1_y, .inl (ky 0, 18, .inl s_a1_y))] → va_S A s.heap H locs → lv_has ls 4 [(0, .ref q_), (1, .ref q_a1), (2, .int t.1)] → W p l e rmX4_gather s m args below meth c H locs 0 0 Q (F0 m ([7, 55].getD k 0) ls [])) ?_ _ _ _ _ hi ?_ H locs ls hP hD hS (lv_sub hl [1, 2, 0] rfl)
  · clear h hi hP hD hS hl
    intro t k t' h K
    obtain ⟨v1, v2, v3, v4, v5⟩ := t
    intro H locs ls hP hD hS hl
    replace h := dm5_of h
    replace hP : va_P D vwCl [(q_, .inr (4, [.int v2, .ref q_x, .ref q_y, .ref q_under])), (q_under, .inl (ky 0, 129, .inl v3)), (q_x, .inl (ky 0, 129, .inl v4)), (q_y, .inl (ky 0, 129, .inl v5)), (q_a1, .inr (1, [.int s_a1_width, .int s_a1_height, .int s_a1_lines, .ref q_a1_x, .ref q_a1_y, .ref q_a1_u, .ref q_a1_v])), (q_a1_u, .inl (ky 0, 18, .inl s_a1_u)), (q_a1_v, .inl (ky 0, 18, .inl s_a1_v)), (q_a1_x, .inl (ky 0, 18, .inl s_a1_x)), (q_a1_y, .inl (ky 0, 18, .inl s_a1_y))] H := hP
    replace hD : va_D A [(q_, .inr (4, [.int v2, .ref q_x, .ref q_y, .ref q_under])), (q_under, .inl (ky 0, 129, .inl v3)), (q_x, .inl (ky 0, 129, .inl v4)), (q_y, .inl (ky 0, 129, .inl v5)), (q_a1, .inr (1, [.int s_a1_width, .int s_a1_height, .int s_a1_lines, .ref q_a1_x, .ref q_a1_y, .ref q_a1_u, .ref q_a1_v])), (q_a1_u, .inl (ky 0, 18, .inl s_a1_u)), (q_a1_v, .inl (ky 0, 18, .inl s_a1_v)), (q_a1_x, .inl (ky 0, 18, .inl s_a1_x)), (q_a1_y, .inl (ky 0, 18, .inl s_a1_y))] := hD
    replace hl : lv_has ls 4 [(0, .ref q_), (1, .ref q_a1), (2, .int v1)] := hl
    refine lv_iload_n hx hb dX4_gather_7 rfl (lv_at hl 2 rfl) ?_
    refine lv_aload_n hx hb dX4_gather_8 rfl (lv_at hl 1 rfl) ?_
    refine va_get (D := D) (ci := 1) (v := .int s_a1_lines) (C := RX1) (T := TX1) (N := 7) hx hb hts hi_X1 hown hK.1 hP 4 rfl rfl 2 (by decide) hf_25 (fun _ h9 => h9) rfl dX4_gather_9 ?_
    refine lv_icmp_ge (tgt := 55) hx hb dX4_gather_12 (by decide) (fun hc => ?_) (fun hc => ?_)
    · replace h := if_t hc h
      cases h
      exact K _ _ _ hP hD hS (lv_sub hl [0, 1, 2] rfl)
    · replace h := if_f hc h
      refine lv_aload_n hx hb dX4_gather_15 rfl (lv_at hl 0 rfl) ?_
      refine lv_aload_n hx hb dX4_gather_16 rfl (lv_at hl 1 rfl) ?_
      refine va_get (D := D) (ci := 1) (v := .ref q_a1_x) (C := RX1) (T := TX1) (N := 7) hx hb hts hi_X1 hown hK.1 hP 4 rfl rfl 3 (by decide) hf_30 (fun _ h9 => h9) rfl dX4_gather_17 ?_
      refine lv_iload_n hx hb dX4_gather_20 rfl (lv_at hl 2 rfl) ?_
      obtain ⟨hg, h⟩ := gd_of h
      refine va_iald hx hb hK.1 hP 7 0 rfl rfl hg dX4_gather_21 ?_
      refine lv_aload_n hx hb dX4_gather_22 rfl (lv_at hl 1 rfl) ?_
      refine va_get (D := D) (ci := 1) (v := .ref q_a1_y) (C := RX1) (T := TX1) (N := 7) hx hb hts hi_X1 hown hK.1 hP 4 rfl rfl 4 (by decide) hf_31 (fun _ h9 => h9) rfl dX4_gather_23 ?_
      refine lv_iload_n hx hb dX4_gather_26 rfl (lv_at hl 2 rfl) ?_
      obtain ⟨hg, h⟩ := gd_of h
      refine va_iald hx hb hK.1 hP 8 0 rfl rfl hg dX4_gather_27 ?_
      refine lv_iconst (v := 1) hx hb dX4_gather_28 (by decide) ?_
      obtain ⟨⟨o6, o7, o8, o9⟩, hc, h⟩ := ob_of h
      replace h := dm4_of h
      refine cv_v (As := [.int (s_a1_x v1.toNatClampNeg), .int (s_a1_y v1.toNatClampNeg), .int (1 : Int32)]) (rest := []) (wr := [(q_a1, .inr (1, [.int s_a1_width, .int s_a1_height, .int s_a1_lines, .ref q_a1_x, .ref q_a1_y, .ref q_a1_u, .ref q_a1_v])), (q_a1_u, .inl (ky 0, 18, .inl s_a1_u)), (q_a1_v, .inl (ky 0, 18, .inl s_a1_v)), (q_a1_x, .inl (ky 0, 18, .inl s_a1_x)), (q_a1_y, .inl (ky 0, 18, .inl s_a1_y))]) (wn := [(q_, .inr (4, [.int o6, .ref q_x, .ref q_y, .ref q_under])), (q_under, .inl (ky 0, 129, .inl o7)), (q_x, .inl (ky 0, 129, .inl o8)), (q_y, .inl (ky 0, 129, .inl o9)), (q_a1, .inr (1, [.int s_a1_width, .int s_a1_height, .int s_a1_lines, .ref q_a1_x, .ref q_a1_y, .ref q_a1_u, .ref q_a1_v])), (q_a1_u, .inl (ky 0, 18, .inl s_a1_u)), (q_a1_v, .inl (ky 0, 18, .inl s_a1_v)), (q_a1_x, .inl (ky 0, 18, .inl s_a1_x)), (q_a1_y, .inl (ky 0, 18, .inl s_a1_y))]) ⟨hx, hb, hml, hown, hts⟩ (c_X4_insert l D ky q_ q_x q_y q_under (s_a1_x v1.toNatClampNeg) (s_a1_y v1.toNatClampNeg) (1 : Int32) v2 v3 v4 v5 hc) (cwV 3 hts gX4_gather_X4_insert rfl rfl rfl (by decide +kernel) ⟨Nat.le_of_ble_eq_true rfl, Nat.le_of_ble_eq_true rfl⟩) (rcv hK.1 hP (q0 := 0) rfl rfl) hP hD hK hS hA [0, 1, 2, 3] [4, 5, 6, 7, 8] [5, 6, 7, 8, 0, 1, 2, 3, 4] rfl (by decide +kernel) rfl (by decide +kernel) (by decide +kernel) (by decide +kernel) rfl rfl rfl hl.1 (Nat.le_of_ble_eq_true rfl) dX4_gather_29 ⟨Nat.le_of_ble_eq_true rfl, Nat.le_of_ble_eq_true rfl⟩ (fun H locs hP hD hS => ?_)
      refine lv_aload_n hx hb dX4_gather_32 rfl (lv_at hl 0 rfl) ?_
      refine lv_aload_n hx hb dX4_gather_33 rfl (lv_at hl 1 rfl) ?_
      refine va_get (D := D) (ci := 1) (v := .ref q_a1_u) (C := RX1) (T := TX1) (N := 7) hx hb hts hi_X1 hown hK.1 hP 4 rfl rfl 5 (by decide) hf_36 (fun _ h9 => h9) rfl dX4_gather_34 ?_
      refine lv_iload_n hx hb dX4_gather_37 rfl (lv_at hl 2 rfl) ?_
      obtain ⟨hg, h⟩ := gd_of h
      refine va_iald hx hb hK.1 hP 5 0 rfl rfl hg dX4_gather_38 ?_
      refine lv_aload_n hx hb dX4_gather_39 rfl (lv_at hl 1 rfl) ?_
      refine va_get (D := D) (ci := 1) (v := .ref q_a1_v) (C := RX1) (T := TX1) (N := 7) hx hb hts hi_X1 hown hK.1 hP 4 rfl rfl 6 (by decide) hf_39 (fun _ h9 => h9) rfl dX4_gather_40 ?_
      refine lv_iload_n hx hb dX4_gather_43 rfl (lv_at hl 2 rfl) ?_
      obtain ⟨hg, h⟩ := gd_of h
      refine va_iald hx hb hK.1 hP 6 0 rfl rfl hg dX4_gather_44 ?_
      refine lv_iconst (v := 1) hx hb dX4_gather_45 (by decide) ?_
      obtain ⟨⟨o10, o11, o12, o13⟩, hc, h⟩ := ob_of h
      replace h := dm4_of h
      refine cv_v (As := [.int (s_a1_u v1.toNatClampNeg), .int (s_a1_v v1.toNatClampNeg), .int (1 : Int32)]) (rest := []) (wr := [(q_a1, .inr (1, [.int s_a1_width, .int s_a1_height, .int s_a1_lines, .ref q_a1_x, .ref q_a1_y, .ref q_a1_u, .ref q_a1_v])), (q_a1_u, .inl (ky 0, 18, .inl s_a1_u)), (q_a1_v, .inl (ky 0, 18, .inl s_a1_v)), (q_a1_x, .inl (ky 0, 18, .inl s_a1_x)), (q_a1_y, .inl (ky 0, 18, .inl s_a1_y))]) (wn := [(q_, .inr (4, [.int o10, .ref q_x, .ref q_y, .ref q_under])), (q_under, .inl (ky 0, 129, .inl o11)), (q_x, .inl (ky 0, 129, .inl o12)), (q_y, .inl (ky 0, 129, .inl o13)), (q_a1, .inr (1, [.int s_a1_width, .int s_a1_height, .int s_a1_lines, .ref q_a1_x, .ref q_a1_y, .ref q_a1_u, .ref q_a1_v])), (q_a1_u, .inl (ky 0, 18, .inl s_a1_u)), (q_a1_v, .inl (ky 0, 18, .inl s_a1_v)), (q_a1_x, .inl (ky 0, 18, .inl s_a1_x)), (q_a1_y, .inl (ky 0, 18, .inl s_a1_y))]) ⟨hx, hb, hml, hown, hts⟩ (c_X4_insert l D ky q_ q_x q_y q_under (s_a1_u v1.toNatClampNeg) (s_a1_v v1.toNatClampNeg) (1 : Int32) o6 o7 o8 o9 hc) (cwV 3 hts gX4_gather_X4_insert rfl rfl rfl (by decide +kernel) ⟨Nat.le_of_ble_eq_true rfl, Nat.le_of_ble_eq_true rfl⟩) (rcv hK.1 hP (q0 := 0) rfl rfl) hP hD hK hS hA [0, 1, 2, 3] [4, 5, 6, 7, 8] [5, 6, 7, 8, 0, 1, 2, 3, 4] rfl (by decide +kernel) rfl (by decide +kernel) (by decide +kernel) (by decide +kernel) rfl rfl rfl hl.1 (Nat.le_of_ble_eq_true rfl) dX4_gather_46 ⟨Nat.le_of_ble_eq_true rfl, Nat.le_of_ble_eq_true rfl⟩ (fun H locs hP hD hS => ?_)
      obtain ⟨x14, ex14⟩ : ∃ z : Int32, z = v1 + 1 := ⟨_, rfl⟩
      replace h := lt_at ex14 h
      refine lv_iinc (v := x14) (lv' := [(2, .int x14), (0, .ref q_), (1, .ref q_a1)]) hx hb dX4_gather_49 hl (k := 2) rfl (by rw [ex14]; rfl) (by decide) rfl (fun ls hl => ?_)
      refine lv_goto (tgt := 7) hx hb dX4_gather_52 (by decide) ?_
      cases h
      exact K _ _ _ hP hD hS (lv_sub hl [1, 2, 0] rfl)
  · have h1 := ex1_of h
    clear h hi
    rcases h1 with ⟨rfl, h⟩
    obtain ⟨v15, v16, v17, v18, v19⟩ := t
    replace h := dm5_of h
    intro H locs ls hP hD hS hl
    replace hP : va_P D vwCl [(q_, .inr (4, [.int v16, .ref q_x, .ref q_y, .ref q_under])), (q_under, .inl (ky 0, 129, .inl v17)), (q_x, .inl (ky 0, 129, .inl v18)), (q_y, .inl (ky 0, 129, .inl v19)), (q_a1, .inr (1, [.int s_a1_width, .int s_a1_height, .int s_a1_lines, .ref q_a1_x, .ref q_a1_y, .ref q_a1_u, .ref q_a1_v])), (q_a1_u, .inl (ky 0, 18, .inl s_a1_u)), (q_a1_v, .inl (ky 0, 18, .inl s_a1_v)), (q_a1_x, .inl (ky 0, 18, .inl s_a1_x)), (q_a1_y, .inl (ky 0, 18, .inl s_a1_y))] H := hP
    replace hD : va_D A [(q_, .inr (4, [.int v16, .ref q_x, .ref q_y, .ref q_under])), (q_under, .inl (ky 0, 129, .inl v17)), (q_x, .inl (ky 0, 129, .inl v18)), (q_y, .inl (ky 0, 129, .inl v19)), (q_a1, .inr (1, [.int s_a1_width, .int s_a1_height, .int s_a1_lines, .ref q_a1_x, .ref q_a1_y, .ref q_a1_u, .ref q_a1_v])), (q_a1_u, .inl (ky 0, 18, .inl s_a1_u)), (q_a1_v, .inl (ky 0, 18, .inl s_a1_v)), (q_a1_x, .inl (ky 0, 18, .inl s_a1_x)), (q_a1_y, .inl (ky 0, 18, .inl s_a1_y))] := hD
    replace hl : lv_has ls 4 [(0, .ref q_), (1, .ref q_a1), (2, .int v15)] := hl
    refine W.eq (g2 := F0 m 55 ls []) rfl ?_
    refine lv_iconst (v := 0) hx hb dX4_gather_55 (by decide) ?_
    refine lv_istore_n (lv' := [(2, .int (0 : Int32)), (0, .ref q_), (1, .ref q_a1)]) hx hb dX4_gather_56 rfl hl (by decide) rfl (fun ls hl => ?_)
    obtain ⟨⟨k, t⟩, hi, h⟩ := ob_of h
    refine iter_rule (P := fun (k : Nat) (t : Int32 × Int32 × (Nat → Int32) × (Nat → Int32) × (Nat → Int32)) => ∀ (H : Heap) (locs : List Loc) (ls : Array Slot), va_P D vwCl [(q_, .inr (4, [.int t.2.1, .ref q_x, .ref q_y, .ref q_under])), (q_under, .inl (ky 0, 129, .inl t.2.2.1)), (q_x, .inl (ky 0, 129, .inl t.2.2.2.1)), (q_y, .inl (ky 0, 129, .inl t.2.2.2.2)), (q_a1, .inr (1, [.int s_a1_width, .int s_a1_height, .int s_a1_lines, .ref q_a1_x, .ref q_a1_y, .ref q_a1_u, .ref q_a1_v])), (q_a1_u, .inl (ky 0, 18, .inl s_a1_u)), (q_a1_v, .inl (ky 0, 18, .inl s_a1_v)), (q_a1_x, .inl (ky 0, 18, .inl s_a1_x)), (q_a1_y, .inl (ky 0, 18, .inl s_a1_y))] H → va_D A [(q_, .inr (4, [.int t.2.1, .ref q_x, .ref q_y, .ref q_under])), (q_under, .inl (ky 0, 129, .inl t.2.2.1)), (q_x, .inl (ky 0, 129, .inl t.2.2.2.1)), (q_y, .inl (ky 0, 129, .inl t.2.2.2.2)), (q_a1, .inr (1, [.int s_a1_width, .int s_a1_height, .int s_a1_lines, .ref q_a1_x, .ref q_a1_y, .ref q_a1_u, .ref q_a1_v])), (q_a1_u, .inl (ky 0, 18, .inl s_a1_u)), (q_a1_v, .inl (ky 0, 18, .inl s_a1_v)), (q_a1_x, .inl (ky 0, 18, .inl s_a1_x)), (q_a1_y, .inl (ky 0, 18, .inl s_a1_y))] → va_S A s.heap H locs → lv_has ls 4 [(0, .ref q_), (1, .ref q_a1), (2, .int t.1)] → W p l e rmX4_gather s m args below meth c H locs 0 0 Q (F0 m ([57, 91].getD k 0) ls [])) ?_ _ _ _ _ hi ?_ H locs ls hP hD hS (lv_sub hl [1, 2, 0] rfl)
    · clear h hi hP hD hS hl
      intro t k t' h K
      obtain ⟨v20, v21, v22, v23, v24⟩ := t
      intro H locs ls hP hD hS hl
      replace h := dm5_of h
      replace hP : va_P D vwCl [(q_, .inr (4, [.int v21, .ref q_x, .ref q_y, .ref q_under])), (q_under, .inl (ky 0, 129, .inl v22)), (q_x, .inl (ky 0, 129, .inl v23)), (q_y, .inl (ky 0, 129, .inl v24)), (q_a1, .inr (1, [.int s_a1_width, .int s_a1_height, .int s_a1_lines, .ref q_a1_x, .ref q_a1_y, .ref q_a1_u, .ref q_a1_v])), (q_a1_u, .inl (ky 0, 18, .inl s_a1_u)), (q_a1_v, .inl (ky 0, 18, .inl s_a1_v)), (q_a1_x, .inl (ky 0, 18, .inl s_a1_x)), (q_a1_y, .inl (ky 0, 18, .inl s_a1_y))] H := hP
      replace hD : va_D A [(q_, .inr (4, [.int v21, .ref q_x, .ref q_y, .ref q_under])), (q_under, .inl (ky 0, 129, .inl v22)), (q_x, .inl (ky 0, 129, .inl v23)), (q_y, .inl (ky 0, 129, .inl v24)), (q_a1, .inr (1, [.int s_a1_width, .int s_a1_height, .int s_a1_lines, .ref q_a1_x, .ref q_a1_y, .ref q_a1_u, .ref q_a1_v])), (q_a1_u, .inl (ky 0, 18, .inl s_a1_u)), (q_a1_v, .inl (ky 0, 18, .inl s_a1_v)), (q_a1_x, .inl (ky 0, 18, .inl s_a1_x)), (q_a1_y, .inl (ky 0, 18, .inl s_a1_y))] := hD
      replace hl : lv_has ls 4 [(0, .ref q_), (1, .ref q_a1), (2, .int v20)] := hl
      refine lv_iload_n hx hb dX4_gather_57 rfl (lv_at hl 2 rfl) ?_
      refine lv_aload_n hx hb dX4_gather_58 rfl (lv_at hl 1 rfl) ?_
      refine va_get (D := D) (ci := 1) (v := .int s_a1_lines) (C := RX1) (T := TX1) (N := 7) hx hb hts hi_X1 hown hK.1 hP 4 rfl rfl 2 (by decide) hf_25 (fun _ h9 => h9) rfl dX4_gather_59 ?_
      refine lv_icmp_ge (tgt := 91) hx hb dX4_gather_62 (by decide) (fun hc => ?_) (fun hc => ?_)
      · replace h := if_t hc h
        cases h
        exact K _ _ _ hP hD hS (lv_sub hl [0, 1, 2] rfl)
      · replace h := if_f hc h
        refine lv_iconst (v := 0) hx hb dX4_gather_65 (by decide) ?_
        refine lv_istore_n (lv' := [(3, .int (0 : Int32)), (0, .ref q_), (1, .ref q_a1), (2, .int v20)]) hx hb dX4_gather_66 rfl hl (by decide) rfl (fun ls hl => ?_)
        obtain ⟨⟨k, t⟩, hi, h⟩ := ob_of h
        refine iter_rule (P := fun (k : Nat) (t : Int32 × Int32 × (Nat → Int32) × (Nat → Int32) × (Nat → Int32)) => ∀ (H : Heap) (locs : List Loc) (ls : Array Slot), va_P D vwCl [(q_, .inr (4, [.int t.2.1, .ref q_x, .ref q_y, .ref q_under])), (q_under, .inl (ky 0, 129, .inl t.2.2.1)), (q_x, .inl (ky 0, 129, .inl t.2.2.2.1)), (q_y, .inl (ky 0, 129, .inl t.2.2.2.2)), (q_a1, .inr (1, [.int s_a1_width, .int s_a1_height, .int s_a1_lines, .ref q_a1_x, .ref q_a1_y, .ref q_a1_u, .ref q_a1_v])), (q_a1_u, .inl (ky 0, 18, .inl s_a1_u)), (q_a1_v, .inl (ky 0, 18, .inl s_a1_v)), (q_a1_x, .inl (ky 0, 18, .inl s_a1_x)), (q_a1_y, .inl (ky 0, 18, .inl s_a1_y))] H → va_D A [(q_, .inr (4, [.int t.2.1, .ref q_x, .ref q_y, .ref q_under])), (q_under, .inl (ky 0, 129, .inl t.2.2.1)), (q_x, .inl (ky 0, 129, .inl t.2.2.2.1)), (q_y, .inl (ky 0, 129, .inl t.2.2.2.2)), (q_a1, .inr (1, [.int s_a1_width, .int s_a1_height, .int s_a1_lines, .ref q_a1_x, .ref q_a1_y, .ref q_a1_u, .ref q_a1_v])), (q_a1_u, .inl (ky 0, 18, .inl s_a1_u)), (q_a1_v, .inl (ky 0, 18, .inl s_a1_v)), (q_a1_x, .inl (ky 0, 18, .inl s_a1_x)), (q_a1_y, .inl (ky 0, 18, .inl s_a1_y))] → va_S A s.heap H locs → lv_has ls 4 [(0, .ref q_), (1, .ref q_a1), (2, .int v20), (3, .int t.1)] → W p l e rmX4_gather s m args below meth c H locs 0 0 Q (F0 m ([67, 85].getD k 0) ls [])) ?_ _ _ _ _ hi ?_ H locs ls hP hD hS (lv_sub hl [1, 2, 3, 0] rfl)
        · clear h hi hP hD hS hl
          intro t k t' h K
          obtain ⟨v25, v26, v27, v28, v29⟩ := t
          intro H locs ls hP hD hS hl
          replace h := dm5_of h
          replace hP : va_P D vwCl [(q_, .inr (4, [.int v26, .ref q_x, .ref q_y, .ref q_under])), (q_under, .inl (ky 0, 129, .inl v27)), (q_x, .inl (ky 0, 129, .inl v28)), (q_y, .inl (ky 0, 129, .inl v29)), (q_a1, .inr (1, [.int s_a1_width, .int s_a1_height, .int s_a1_lines, .ref q_a1_x, .ref q_a1_y, .ref q_a1_u, .ref q_a1_v])), (q_a1_u, .inl (ky 0, 18, .inl s_a1_u)), (q_a1_v, .inl (ky 0, 18, .inl s_a1_v)), (q_a1_x, .inl (ky 0, 18, .inl s_a1_x)), (q_a1_y, .inl (ky 0, 18, .inl s_a1_y))] H := hP
          replace hD : va_D A [(q_, .inr (4, [.int v26, .ref q_x, .ref q_y, .ref q_under])), (q_under, .inl (ky 0, 129, .inl v27)), (q_x, .inl (ky 0, 129, .inl v28)), (q_y, .inl (ky 0, 129, .inl v29)), (q_a1, .inr (1, [.int s_a1_width, .int s_a1_height, .int s_a1_lines, .ref q_a1_x, .ref q_a1_y, .ref q_a1_u, .ref q_a1_v])), (q_a1_u, .inl (ky 0, 18, .inl s_a1_u)), (q_a1_v, .inl (ky 0, 18, .inl s_a1_v)), (q_a1_x, .inl (ky 0, 18, .inl s_a1_x)), (q_a1_y, .inl (ky 0, 18, .inl s_a1_y))] := hD
          replace hl : lv_has ls 4 [(0, .ref q_), (1, .ref q_a1), (2, .int v20), (3, .int v25)] := hl
          refine lv_iload_n hx hb dX4_gather_67 rfl (lv_at hl 3 rfl) ?_
          refine lv_iload_n hx hb dX4_gather_68 rfl (lv_at hl 2 rfl) ?_
          refine lv_icmp_ge (tgt := 85) hx hb dX4_gather_69 (by decide) (fun hc => ?_) (fun hc => ?_)
          · replace h := if_t hc h
            cases h
            exact K _ _ _ hP hD hS (lv_sub hl [0, 1, 2, 3] rfl)
          · replace h := if_f hc h
            refine lv_aload_n hx hb dX4_gather_72 rfl (lv_at hl 0 rfl) ?_
            refine lv_aload_n hx hb dX4_gather_73 rfl (lv_at hl 1 rfl) ?_
            refine lv_iload_n hx hb dX4_gather_74 rfl (lv_at hl 2 rfl) ?_
            refine lv_iload_n hx hb dX4_gather_75 rfl (lv_at hl 3 rfl) ?_
            obtain ⟨⟨o30, o31, o32, o33⟩, hc, h⟩ := ob_of h
            replace h := dm4_of h
            refine cv_v (As := [.ref q_a1, .int v20, .int v25]) (rest := []) (wr := []) (wn := [(q_, .inr (4, [.int o30, .ref q_x, .ref q_y, .ref q_under])), (q_under, .inl (ky 0, 129, .inl o31)), (q_x, .inl (ky 0, 129, .inl o32)), (q_y, .inl (ky 0, 129, .inl o33)), (q_a1, .inr (1, [.int s_a1_width, .int s_a1_height, .int s_a1_lines, .ref q_a1_x, .ref q_a1_y, .ref q_a1_u, .ref q_a1_v])), (q_a1_u, .inl (ky 0, 18, .inl s_a1_u)), (q_a1_v, .inl (ky 0, 18, .inl s_a1_v)), (q_a1_x, .inl (ky 0, 18, .inl s_a1_x)), (q_a1_y, .inl (ky 0, 18, .inl s_a1_y))]) ⟨hx, hb, hml, hown, hts⟩ (c_X4_insertCrossing l D ky q_ q_x q_y q_under q_a1 q_a1_x q_a1_y q_a1_u q_a1_v v20 v25 v26 v27 v28 v29 s_a1_width s_a1_height s_a1_lines s_a1_u s_a1_v s_a1_x s_a1_y hc) (cwV 3 hts gX4_gather_X4_insertCrossing rfl rfl rfl (by decide +kernel) ⟨Nat.le_of_ble_eq_true rfl, Nat.le_of_ble_eq_true rfl⟩) (rcv hK.1 hP (q0 := 0) rfl rfl) hP hD hK hS hA [0, 1, 2, 3, 4, 5, 6, 7, 8] [] [0, 1, 2, 3, 4, 5, 6, 7, 8] rfl (by decide +kernel) rfl (by decide +kernel) (by decide +kernel) (by decide +kernel) rfl rfl rfl hl.1 (Nat.le_of_ble_eq_true rfl) dX4_gather_76 ⟨Nat.le_of_ble_eq_true rfl, Nat.le_of_ble_eq_true rfl⟩ (fun H locs hP hD hS => ?_)
            obtain ⟨x34, ex34⟩ : ∃ z : Int32, z = v25 + 1 := ⟨_, rfl⟩
            replace h := lt_at ex34 h
            refine lv_iinc (v := x34) (lv' := [(3, .int x34), (0, .ref q_), (1, .ref q_a1), (2, .int v20)]) hx hb dX4_gather_79 hl (k := 3) rfl (by rw [ex34]; rfl) (by decide) rfl (fun ls hl => ?_)
            refine lv_goto (tgt := 67) hx hb dX4_gather_82 (by decide) ?_
            cases h
            exact K _ _ _ hP hD hS (lv_sub hl [1, 2, 3, 0] rfl)
        · have h1 := ex1_of h
          clear h hi
          rcases h1 with ⟨rfl, h⟩
          obtain ⟨v35, v36, v37, v38, v39⟩ := t
          replace h := dm5_of h
          intro H locs ls hP hD hS hl
          replace hP : va_P D vwCl [(q_, .inr (4, [.int v36, .ref q_x, .ref q_y, .ref q_under])), (q_under, .inl (ky 0, 129, .inl v37)), (q_x, .inl (ky 0, 129, .inl v38)), (q_y, .inl (ky 0, 129, .inl v39)), (q_a1, .inr (1, [.int s_a1_width, .int s_a1_height, .int s_a1_lines, .ref q_a1_x, .ref q_a1_y, .ref q_a1_u, .ref q_a1_v])), (q_a1_u, .inl (ky 0, 18, .inl s_a1_u)), (q_a1_v, .inl (ky 0, 18, .inl s_a1_v)), (q_a1_x, .inl (ky 0, 18, .inl s_a1_x)), (q_a1_y, .inl (ky 0, 18, .inl s_a1_y))] H := hP
          replace hD : va_D A [(q_, .inr (4, [.int v36, .ref q_x, .ref q_y, .ref q_under])), (q_under, .inl (ky 0, 129, .inl v37)), (q_x, .inl (ky 0, 129, .inl v38)), (q_y, .inl (ky 0, 129, .inl v39)), (q_a1, .inr (1, [.int s_a1_width, .int s_a1_height, .int s_a1_lines, .ref q_a1_x, .ref q_a1_y, .ref q_a1_u, .ref q_a1_v])), (q_a1_u, .inl (ky 0, 18, .inl s_a1_u)), (q_a1_v, .inl (ky 0, 18, .inl s_a1_v)), (q_a1_x, .inl (ky 0, 18, .inl s_a1_x)), (q_a1_y, .inl (ky 0, 18, .inl s_a1_y))] := hD
          replace hl : lv_has ls 4 [(0, .ref q_), (1, .ref q_a1), (2, .int v20), (3, .int v35)] := hl
          refine W.eq (g2 := F0 m 85 ls []) rfl ?_
          obtain ⟨x40, ex40⟩ : ∃ z : Int32, z = v20 + 1 := ⟨_, rfl⟩
          replace h := lt_at ex40 h
          refine lv_iinc (v := x40) (lv' := [(2, .int x40), (0, .ref q_), (1, .ref q_a1), (3, .int v35)]) hx hb dX4_gather_85 hl (k := 2) rfl (by rw [ex40]; rfl) (by decide) rfl (fun ls hl => ?_)
          refine lv_goto (tgt := 57) hx hb dX4_gather_88 (by decide) ?_
          cases h
          exact K _ _ _ hP hD hS (lv_sub hl [1, 2, 0] rfl)
    · have h1 := ex1_of h
      clear h hi
      rcases h1 with ⟨rfl, h⟩
      obtain ⟨v41, v42, v43, v44, v45⟩ := t
      replace h := dm5_of h
      intro H locs ls hP hD hS hl
      replace hP : va_P D vwCl [(q_, .inr (4, [.int v42, .ref q_x, .ref q_y, .ref q_under])), (q_under, .inl (ky 0, 129, .inl v43)), (q_x, .inl (ky 0, 129, .inl v44)), (q_y, .inl (ky 0, 129, .inl v45)), (q_a1, .inr (1, [.int s_a1_width, .int s_a1_height, .int s_a1_lines, .ref q_a1_x, .ref q_a1_y, .ref q_a1_u, .ref q_a1_v])), (q_a1_u, .inl (ky 0, 18, .inl s_a1_u)), (q_a1_v, .inl (ky 0, 18, .inl s_a1_v)), (q_a1_x, .inl (ky 0, 18, .inl s_a1_x)), (q_a1_y, .inl (ky 0, 18, .inl s_a1_y))] H := hP
      replace hD : va_D A [(q_, .inr (4, [.int v42, .ref q_x, .ref q_y, .ref q_under])), (q_under, .inl (ky 0, 129, .inl v43)), (q_x, .inl (ky 0, 129, .inl v44)), (q_y, .inl (ky 0, 129, .inl v45)), (q_a1, .inr (1, [.int s_a1_width, .int s_a1_height, .int s_a1_lines, .ref q_a1_x, .ref q_a1_y, .ref q_a1_u, .ref q_a1_v])), (q_a1_u, .inl (ky 0, 18, .inl s_a1_u)), (q_a1_v, .inl (ky 0, 18, .inl s_a1_v)), (q_a1_x, .inl (ky 0, 18, .inl s_a1_x)), (q_a1_y, .inl (ky 0, 18, .inl s_a1_y))] := hD
      replace hl : lv_has ls 4 [(0, .ref q_), (1, .ref q_a1), (2, .int v41)] := hl
      refine W.eq (g2 := F0 m 91 ls []) rfl ?_
      exact rt _ h _ _ _ _ dX4_gather_91 hP hD hS

def sX4_heightOrder (a1 : Int32) (a2 : Int32) (s_under : Nat → Int32) (s_y : Nat → Int32) : Option (Int32) := gd (¬ (a1 < 0 ∨ 129 ≤ a1.toNatClampNeg)) (gd (¬ (a2 < 0 ∨ 129 ≤ a2.toNatClampNeg)) (gd (¬ (a2 < 0 ∨ 129 ≤ a2.toNatClampNeg)) (gd (¬ (a1 < 0 ∨ 129 ≤ a1.toNatClampNeg)) (some (((s_y a1.toNatClampNeg) * (s_under a2.toNatClampNeg)) - ((s_y a2.toNatClampNeg) * (s_under a1.toNatClampNeg)))))))
abbrev rmX4_heightOrder : Room := { frames := 0, cells := 0, slots := 0, locals := 0 }
set_option maxHeartbeats 4000000 in
set_option maxRecDepth 100000 in
theorem c_X4_heightOrder (l : Launch) (D : va_G) (ky : Nat → ClassId) (q_ q_x q_y q_under : Nat) (a1 : Int32) (a2 : Int32) (s_total : Int32) (s_under : Nat → Int32) (s_y : Nat → Int32) {o_r : Int32} (h : sX4_heightOrder a1 a2 s_under s_y = some o_r) : MtI l D ky yX4_heightOrder wsX4_heightOrder rmX4_heightOrder [.ref q_, .int a1, .int a2] [(q_, .inr (4, [.int s_total, .ref q_x, .ref q_y, .ref q_under])), (q_under, .inl (ky 0, 129, .inl s_under)), (q_y, .inl (ky 0, 129, .inl s_y))] [(q_, .inr (4, [.int s_total, .ref q_x, .ref q_y, .ref q_under])), (q_under, .inl (ky 0, 129, .inl s_under)), (q_y, .inl (ky 0, 129, .inl s_y))] o_r 0 0 := by
  refine MtI.of (cc := cX4_heightOrder) (maxL := 3) (by decide +kernel) rfl (Nat.le_of_ble_eq_true rfl) ?_
  intro p e R s m args below meth c A Q ls hR hx hb hts hown hnm hml hP hK hD hA ret hl
  subst hR
  obtain ⟨H, hH⟩ : ∃ H, H = s.heap := ⟨_, rfl⟩
  obtain ⟨locs, hlocs⟩ : ∃ locs : List Loc, locs = [] := ⟨_, rfl⟩
  have hS : va_S A s.heap H locs := by rw [hH, hlocs]; exact va_S.rf
  rw [← hH] at hP
  suffices hgo : W p l e rmX4_heightOrder s m args below meth c H locs 0 0 Q (F0 m 0 ls []) by rw [hH, hlocs] at hgo; exact hgo
  clear hH hlocs
  replace hl : lv_has ls 3 [(0, .ref q_), (1, .int a1), (2, .int a2)] := hl
  replace hown : s.vm.findClass RX4 = some m.cls := hown
  have hi_X4 : ∀ w ∈ u_ws RX4 TX4 4, w ∈ wsX4_heightOrder := fun _ h9 => List.mem_cons_of_mem _ (List.mem_append_right _ h9)
  have hf_15 := hts (.fieldLink RX4 15 "GlazierBench$Joints" "y" "[I") (by decide +kernel)
  have hf_18 := hts (.fieldLink RX4 18 "GlazierBench$Joints" "under" "[I") (by decide +kernel)
  unfold sX4_heightOrder at h
  refine lv_aload_n hx hb dX4_heightOrder_0 rfl (lv_at hl 0 rfl) ?_
  refine va_get (D := D) (ci := 4) (v := .ref q_y) (C := RX4) (T := TX4) (N := 4) hx hb hts hi_X4 hown hK.1 hP 0 rfl rfl 2 (by decide) hf_15 (fun _ h9 => h9) rfl dX4_heightOrder_1 ?_
  refine lv_iload_n hx hb dX4_heightOrder_4 rfl (lv_at hl 1 rfl) ?_
  obtain ⟨hg, h⟩ := gd_of h
  refine va_iald hx hb hK.1 hP 2 0 rfl rfl hg dX4_heightOrder_5 ?_
  refine lv_aload_n hx hb dX4_heightOrder_6 rfl (lv_at hl 0 rfl) ?_
  refine va_get (D := D) (ci := 4) (v := .ref q_under) (C := RX4) (T := TX4) (N := 4) hx hb hts hi_X4 hown hK.1 hP 0 rfl rfl 3 (by decide) hf_18 (fun _ h9 => h9) rfl dX4_heightOrder_7 ?_
  refine lv_iload_n hx hb dX4_heightOrder_10 rfl (lv_at hl 2 rfl) ?_
  obtain ⟨hg, h⟩ := gd_of h
  refine va_iald hx hb hK.1 hP 1 0 rfl rfl hg dX4_heightOrder_11 ?_
  refine lv_imul hx hb dX4_heightOrder_12 ?_
  refine lv_aload_n hx hb dX4_heightOrder_13 rfl (lv_at hl 0 rfl) ?_
  refine va_get (D := D) (ci := 4) (v := .ref q_y) (C := RX4) (T := TX4) (N := 4) hx hb hts hi_X4 hown hK.1 hP 0 rfl rfl 2 (by decide) hf_15 (fun _ h9 => h9) rfl dX4_heightOrder_14 ?_
  refine lv_iload_n hx hb dX4_heightOrder_17 rfl (lv_at hl 2 rfl) ?_
  obtain ⟨hg, h⟩ := gd_of h
  refine va_iald hx hb hK.1 hP 2 0 rfl rfl hg dX4_heightOrder_18 ?_
  refine lv_aload_n hx hb dX4_heightOrder_19 rfl (lv_at hl 0 rfl) ?_
  refine va_get (D := D) (ci := 4) (v := .ref q_under) (C := RX4) (T := TX4) (N := 4) hx hb hts hi_X4 hown hK.1 hP 0 rfl rfl 3 (by decide) hf_18 (fun _ h9 => h9) rfl dX4_heightOrder_20 ?_
  refine lv_iload_n hx hb dX4_heightOrder_23 rfl (lv_at hl 1 rfl) ?_
  obtain ⟨hg, h⟩ := gd_of h
  refine va_iald hx hb hK.1 hP 1 0 rfl rfl hg dX4_heightOrder_24 ?_
  refine lv_imul hx hb dX4_heightOrder_25 ?_
  refine lv_isub hx hb dX4_heightOrder_26 ?_
  cases h
  exact ret _ _ _ _ dX4_heightOrder_27 hP hD hS

def bX4_indexOf_3 (a1 : Int32) (a2 : Int32) (a3 : Int32) (s_total : Int32) (s_under : Nat → Int32) (s_x : Nat → Int32) (s_y : Nat → Int32) (t : Int32) : Option (Nat × (Int32)) := dm1 t (fun (v1 : Int32) => if s_total ≤ v1 then some (2, v1) else gd (¬ (v1 < 0 ∨ 129 ≤ v1.toNatClampNeg)) (if ¬ (s_x v1.toNatClampNeg) = a1 then lt (v1 + 1) (fun x2 => some (0, x2)) else gd (¬ (v1 < 0 ∨ 129 ≤ v1.toNatClampNeg)) (if ¬ (s_y v1.toNatClampNeg) = a2 then lt (v1 + 1) (fun x3 => some (0, x3)) else gd (¬ (v1 < 0 ∨ 129 ≤ v1.toNatClampNeg)) (if ¬ (s_under v1.toNatClampNeg) = a3 then lt (v1 + 1) (fun x4 => some (0, x4)) else some (1, v1)))))
def sX4_indexOf (a1 : Int32) (a2 : Int32) (a3 : Int32) (s_total : Int32) (s_under : Nat → Int32) (s_x : Nat → Int32) (s_y : Nat → Int32) : Option (Int32) := ob (iter (bX4_indexOf_3 a1 a2 a3 s_total s_under s_x s_y) FU (0 : Int32)) (fun kt => ex2 kt (fun t => dm1 t (fun (v5 : Int32) => some v5)) (fun t => dm1 t (fun (v6 : Int32) => some (-1 : Int32))))
abbrev rmX4_indexOf : Room := { frames := 0, cells := 0, slots := 0, locals := 0 }
set_option maxHeartbeats 4000000 in
set_option maxRecDepth 100000 in
theorem c_X4_indexOf (l : Launch) (D : va_G) (ky : Nat → ClassId) (q_ q_x q_y q_under : Nat) (a1 : Int32) (a2 : Int32) (a3 : Int32) (s_total : Int32) (s_under : Nat → Int32) (s_x : Nat → Int32) (s_y : Nat → Int32) {o_r : Int32} (h : sX4_indexOf a1 a2 a3 s_total s_under s_x s_y = some o_r) : MtI l D ky yX4_indexOf wsX4_indexOf rmX4_indexOf [.ref q_, .int a1, .int a2, .int a3] [(q_, .inr (4, [.int s_total, .ref q_x, .ref q_y, .ref q_under])), (q_under, .inl (ky 0, 129, .inl s_under)), (q_x, .inl (ky 0, 129, .inl s_x)), (q_y, .inl (ky 0, 129, .inl s_y))] [(q_, .inr (4, [.int s_total, .ref q_x, .ref q_y, .ref q_under])), (q_under, .inl (ky 0, 129, .inl s_under)), (q_x, .inl (ky 0, 129, .inl s_x)), (q_y, .inl (ky 0, 129, .inl s_y))] o_r 0 0 := by
  refine MtI.of (cc := cX4_indexOf) (maxL := 5) (by decide +kernel) rfl (Nat.le_of_ble_eq_true rfl) ?_
  intro p e R s m args below meth c A Q ls hR hx hb hts hown hnm hml hP hK hD hA ret hl
  subst hR
  obtain ⟨H, hH⟩ : ∃ H, H = s.heap := ⟨_, rfl⟩
  obtain ⟨locs, hlocs⟩ : ∃ locs : List Loc, locs = [] := ⟨_, rfl⟩
  have hS : va_S A s.heap H locs := by rw [hH, hlocs]; exact va_S.rf
  rw [← hH] at hP
  suffices hgo : W p l e rmX4_indexOf s m args below meth c H locs 0 0 Q (F0 m 0 ls []) by rw [hH, hlocs] at hgo; exact hgo
  clear hH hlocs
  replace hl : lv_has ls 5 [(0, .ref q_), (1, .int a1), (2, .int a2), (3, .int a3)] := hl
  replace hown : s.vm.findClass RX4 = some m.cls := hown
  have hi_X4 : ∀ w ∈ u_ws RX4 TX4 4, w ∈ wsX4_indexOf := fun _ h9 => List.mem_cons_of_mem _ (List.mem_append_right _ h9)
  have hf_21 := hts (.fieldLink RX4 21 "GlazierBench$Joints" "total" "I") (by decide +kernel)
  have hf_9 := hts (.fieldLink RX4 9 "GlazierBench$Joints" "x" "[I") (by decide +kernel)
  have hf_15 := hts (.fieldLink RX4 15 "GlazierBench$Joints" "y" "[I") (by decide +kernel)
  have hf_18 := hts (.fieldLink RX4 18 "GlazierBench$Joints" "under" "[I") (by decide +kernel)
  unfold sX4_indexOf at h
  refine lv_iconst (v := 0) hx hb dX4_indexOf_0 (by decide) ?_
  refine lv_istore (lv' := [(4, .int (0 : Int32)), (0, .ref q_), (1, .int a1), (2, .int a2), (3, .int a3)]) hx hb dX4_indexOf_1 hl (by decide) rfl (fun ls hl => ?_)
  obtain ⟨⟨k, t⟩, hi, h⟩ := ob_of h
  refine iter_rule (P := fun (k : Nat) (t : Int32) => ∀ (H : Heap) (locs : List Loc) (ls : Array Slot), va_P D vwCl [(q_, .inr (4, [.int s_total, .ref q_x, .ref q_y, .ref q_under])), (q_under, .inl (ky 0, 129, .inl s_under)), (q_x, .inl (ky 0, 129, .inl s_x)), (q_y, .inl (ky 0, 129, .inl s_y))] H → va_D A [(q_, .inr (4, [.int s_total, .ref q_x, .ref q_y, .ref q_under])), (q_under, .inl (ky 0, 129, .inl s_under)), (q_x, .inl (ky 0, 129, .inl s_x)), (q_y, .inl (ky 0, 129, .inl s_y))] → va_S A s.heap H locs → lv_has ls 5 [(0, .ref q_), (1, .int a1), (2, .int a2), (3, .int a3), (4, .int t)] → W p l e rmX4_indexOf s m args below meth c H locs 0 0 Q (F0 m ([3, 45, 54].getD k 0) ls [])) ?_ _ _ _ _ hi ?_ H locs ls hP hD hS (lv_sub hl [1, 2, 3, 4, 0] rfl)
  · clear h hi hP hD hS hl
    intro t k t' h K
    obtain ⟨v1, rfl⟩ : ∃ z, z = t := ⟨_, rfl⟩
    intro H locs ls hP hD hS hl
    replace h := dm1_of h
    replace hP : va_P D vwCl [(q_, .inr (4, [.int s_total, .ref q_x, .ref q_y, .ref q_under])), (q_under, .inl (ky 0, 129, .inl s_under)), (q_x, .inl (ky 0, 129, .inl s_x)), (q_y, .inl (ky 0, 129, .inl s_y))] H := hP
    replace hD : va_D A [(q_, .inr (4, [.int s_total, .ref q_x, .ref q_y, .ref q_under])), (q_under, .inl (ky 0, 129, .inl s_under)), (q_x, .inl (ky 0, 129, .inl s_x)), (q_y, .inl (ky 0, 129, .inl s_y))] := hD
    replace hl : lv_has ls 5 [(0, .ref q_), (1, .int a1), (2, .int a2), (3, .int a3), (4, .int v1)] := hl
    refine lv_iload hx hb dX4_indexOf_3 (lv_at hl 4 rfl) ?_
    refine lv_aload_n hx hb dX4_indexOf_5 rfl (lv_at hl 0 rfl) ?_
    refine va_get (D := D) (ci := 4) (v := .int s_total) (C := RX4) (T := TX4) (N := 4) hx hb hts hi_X4 hown hK.1 hP 0 rfl rfl 0 (by decide) hf_21 (fun _ h9 => h9) rfl dX4_indexOf_6 ?_
    refine lv_icmp_ge (tgt := 54) hx hb dX4_indexOf_9 (by decide) (fun hc => ?_) (fun hc => ?_)
    · replace h := if_t hc h
      cases h
      exact K _ _ _ hP hD hS (lv_sub hl [0, 1, 2, 3, 4] rfl)
    · replace h := if_f hc h
      refine lv_aload_n hx hb dX4_indexOf_12 rfl (lv_at hl 0 rfl) ?_
      refine va_get (D := D) (ci := 4) (v := .ref q_x) (C := RX4) (T := TX4) (N := 4) hx hb hts hi_X4 hown hK.1 hP 0 rfl rfl 1 (by decide) hf_9 (fun _ h9 => h9) rfl dX4_indexOf_13 ?_
      refine lv_iload hx hb dX4_indexOf_16 (lv_at hl 4 rfl) ?_
      obtain ⟨hg, h⟩ := gd_of h
      refine va_iald hx hb hK.1 hP 2 0 rfl rfl hg dX4_indexOf_18 ?_
      refine lv_iload_n hx hb dX4_indexOf_19 rfl (lv_at hl 1 rfl) ?_
      refine lv_icmp_ne (tgt := 48) hx hb dX4_indexOf_20 (by decide) (fun hc => ?_) (fun hc => ?_)
      · replace h := if_t hc h
        obtain ⟨x2, ex2⟩ : ∃ z : Int32, z = v1 + 1 := ⟨_, rfl⟩
        replace h := lt_at ex2 h
        refine lv_iinc (v := x2) (lv' := [(4, .int x2), (0, .ref q_), (1, .int a1), (2, .int a2), (3, .int a3)]) hx hb dX4_indexOf_48 hl (k := 4) rfl (by rw [ex2]; rfl) (by decide) rfl (fun ls hl => ?_)
        refine lv_goto (tgt := 3) hx hb dX4_indexOf_51 (by decide) ?_
        cases h
        exact K _ _ _ hP hD hS (lv_sub hl [1, 2, 3, 4, 0] rfl)
      · replace h := if_f (fun z => z hc) h
        refine lv_aload_n hx hb dX4_indexOf_23 rfl (lv_at hl 0 rfl) ?_
        refine va_get (D := D) (ci := 4) (v := .ref q_y) (C := RX4) (T := TX4) (N := 4) hx hb hts hi_X4 hown hK.1 hP 0 rfl rfl 2 (by decide) hf_15 (fun _ h9 => h9) rfl dX4_indexOf_24 ?_
        refine lv_iload hx hb dX4_indexOf_27 (lv_at hl 4 rfl) ?_
        obtain ⟨hg, h⟩ := gd_of h
        refine va_iald hx hb hK.1 hP 3 0 rfl rfl hg dX4_indexOf_29 ?_
        refine lv_iload_n hx hb dX4_indexOf_30 rfl (lv_at hl 2 rfl) ?_
        refine lv_icmp_ne (tgt := 48) hx hb dX4_indexOf_31 (by decide) (fun hc => ?_) (fun hc => ?_)
        · replace h := if_t hc h
          obtain ⟨x3, ex3⟩ : ∃ z : Int32, z = v1 + 1 := ⟨_, rfl⟩
          replace h := lt_at ex3 h
          refine lv_iinc (v := x3) (lv' := [(4, .int x3), (0, .ref q_), (1, .int a1), (2, .int a2), (3, .int a3)]) hx hb dX4_indexOf_48 hl (k := 4) rfl (by rw [ex3]; rfl) (by decide) rfl (fun ls hl => ?_)
          refine lv_goto (tgt := 3) hx hb dX4_indexOf_51 (by decide) ?_
          cases h
          exact K _ _ _ hP hD hS (lv_sub hl [1, 2, 3, 4, 0] rfl)
        · replace h := if_f (fun z => z hc) h
          refine lv_aload_n hx hb dX4_indexOf_34 rfl (lv_at hl 0 rfl) ?_
          refine va_get (D := D) (ci := 4) (v := .ref q_under) (C := RX4) (T := TX4) (N := 4) hx hb hts hi_X4 hown hK.1 hP 0 rfl rfl 3 (by decide) hf_18 (fun _ h9 => h9) rfl dX4_indexOf_35 ?_
          refine lv_iload hx hb dX4_indexOf_38 (lv_at hl 4 rfl) ?_
          obtain ⟨hg, h⟩ := gd_of h
          refine va_iald hx hb hK.1 hP 1 0 rfl rfl hg dX4_indexOf_40 ?_
          refine lv_iload_n hx hb dX4_indexOf_41 rfl (lv_at hl 3 rfl) ?_
          refine lv_icmp_ne (tgt := 48) hx hb dX4_indexOf_42 (by decide) (fun hc => ?_) (fun hc => ?_)
          · replace h := if_t hc h
            obtain ⟨x4, ex4⟩ : ∃ z : Int32, z = v1 + 1 := ⟨_, rfl⟩
            replace h := lt_at ex4 h
            refine lv_iinc (v := x4) (lv' := [(4, .int x4), (0, .ref q_), (1, .int a1), (2, .int a2), (3, .int a3)]) hx hb dX4_indexOf_48 hl (k := 4) rfl (by rw [ex4]; rfl) (by decide) rfl (fun ls hl => ?_)
            refine lv_goto (tgt := 3) hx hb dX4_indexOf_51 (by decide) ?_
            cases h
            exact K _ _ _ hP hD hS (lv_sub hl [1, 2, 3, 4, 0] rfl)
          · replace h := if_f (fun z => z hc) h
            cases h
            exact K _ _ _ hP hD hS (lv_sub hl [0, 1, 2, 3, 4] rfl)
  · have h1 := ex2_of h
    clear h hi
    rcases h1 with ⟨rfl, h⟩ | ⟨rfl, h⟩
    · skip
      obtain ⟨v5, rfl⟩ : ∃ z, z = t := ⟨_, rfl⟩
      replace h := dm1_of h
      intro H locs ls hP hD hS hl
      replace hP : va_P D vwCl [(q_, .inr (4, [.int s_total, .ref q_x, .ref q_y, .ref q_under])), (q_under, .inl (ky 0, 129, .inl s_under)), (q_x, .inl (ky 0, 129, .inl s_x)), (q_y, .inl (ky 0, 129, .inl s_y))] H := hP
      replace hD : va_D A [(q_, .inr (4, [.int s_total, .ref q_x, .ref q_y, .ref q_under])), (q_under, .inl (ky 0, 129, .inl s_under)), (q_x, .inl (ky 0, 129, .inl s_x)), (q_y, .inl (ky 0, 129, .inl s_y))] := hD
      replace hl : lv_has ls 5 [(0, .ref q_), (1, .int a1), (2, .int a2), (3, .int a3), (4, .int v5)] := hl
      refine W.eq (g2 := F0 m 45 ls []) rfl ?_
      refine lv_iload hx hb dX4_indexOf_45 (lv_at hl 4 rfl) ?_
      cases h
      exact ret _ _ _ _ dX4_indexOf_47 hP hD hS
    · skip
      obtain ⟨v6, rfl⟩ : ∃ z, z = t := ⟨_, rfl⟩
      replace h := dm1_of h
      intro H locs ls hP hD hS hl
      replace hP : va_P D vwCl [(q_, .inr (4, [.int s_total, .ref q_x, .ref q_y, .ref q_under])), (q_under, .inl (ky 0, 129, .inl s_under)), (q_x, .inl (ky 0, 129, .inl s_x)), (q_y, .inl (ky 0, 129, .inl s_y))] H := hP
      replace hD : va_D A [(q_, .inr (4, [.int s_total, .ref q_x, .ref q_y, .ref q_under])), (q_under, .inl (ky 0, 129, .inl s_under)), (q_x, .inl (ky 0, 129, .inl s_x)), (q_y, .inl (ky 0, 129, .inl s_y))] := hD
      replace hl : lv_has ls 5 [(0, .ref q_), (1, .int a1), (2, .int a2), (3, .int a3), (4, .int v6)] := hl
      refine W.eq (g2 := F0 m 54 ls []) rfl ?_
      refine lv_iconst (v := (-1)) hx hb dX4_indexOf_54 (by decide) ?_
      cases h
      exact ret _ _ _ _ dX4_indexOf_55 hP hD hS

def sX4_isBetween (a0 : Int32) (a1 : Int32) (a2 : Int32)  : Option (Int32) := if a0 < (if a2 < a1 then a2 else a1) then some (0 : Int32) else if (if a1 < a2 then a2 else a1) < a0 then some (0 : Int32) else some (1 : Int32)
abbrev rmX4_isBetween : Room := { frames := 1, cells := 0, slots := 0, locals := 40 }
set_option maxHeartbeats 4000000 in
set_option maxRecDepth 100000 in
theorem c_X4_isBetween (l : Launch) (D : va_G) (ky : Nat → ClassId) (a0 : Int32) (a1 : Int32) (a2 : Int32) {o_r : Int32} (h : sX4_isBetween a0 a1 a2 = some o_r) : MtI l D ky yX4_isBetween wsX4_isBetween rmX4_isBetween [.int a0, .int a1, .int a2] [] [] o_r 0 0 := by
  refine MtI.ofB (cc := cX4_isBetween) (maxL := 3) (by decide +kernel) rfl (Nat.le_of_ble_eq_true rfl) ?_
  intro p e R s m args below meth c A Q ls hR hx hb hts hown hnm hml hP hK hD hA ret hl
  subst hR
  obtain ⟨H, hH⟩ : ∃ H, H = s.heap := ⟨_, rfl⟩
  obtain ⟨locs, hlocs⟩ : ∃ locs : List Loc, locs = [] := ⟨_, rfl⟩
  have hS : va_S A s.heap H locs := by rw [hH, hlocs]; exact va_S.rf
  rw [← hH] at hP
  suffices hgo : W p l e rmX4_isBetween s m args below meth c H locs 0 0 Q (F0 m 0 ls []) by rw [hH, hlocs] at hgo; exact hgo
  clear hH hlocs
  replace hl : lv_has ls 3 [(0, .int a0), (1, .int a1), (2, .int a2)] := hl
  replace hown : s.vm.findClass RX4 = some m.cls := hown
  have hm_64 := hts (.methodLink RX4 64 Lib.Math.min.name) (by decide +kernel)
  have hs_mmin := hts (.static Lib.Math.min.name) (by decide +kernel)
  have hini_Math := hts (.initialized "java/lang/Math") (by decide +kernel)
  have hco_mmin := hts (.code Lib.Math.min.name Lib.Math.min.code 2 (some .int)) (by decide +kernel)
  have hm_69 := hts (.methodLink RX4 69 Lib.Math.max.name) (by decide +kernel)
  have hs_mmax := hts (.static Lib.Math.max.name) (by decide +kernel)
  have hco_mmax := hts (.code Lib.Math.max.name Lib.Math.max.code 2 (some .int)) (by decide +kernel)
  unfold sX4_isBetween at h
  refine lv_iload_n hx hb dX4_isBetween_0 rfl (lv_at hl 0 rfl) ?_
  refine lv_iload_n hx hb dX4_isBetween_1 rfl (lv_at hl 1 rfl) ?_
  refine lv_iload_n hx hb dX4_isBetween_2 rfl (lv_at hl 2 rfl) ?_
  refine va_mmin hx hb (hml.trans hl.1.symm) hown hm_64 hs_mmin hini_Math hco_mmin (Nat.le_of_ble_eq_true rfl) (Nat.le_of_ble_eq_true rfl) (Nat.le_of_ble_eq_true rfl) (Nat.le_of_ble_eq_true rfl) dX4_isBetween_3 ?_
  refine lv_icmp_lt (tgt := 22) hx hb dX4_isBetween_6 (by decide) (fun hc => ?_) (fun hc => ?_)
  · replace h := if_t hc h
    refine lv_iconst (v := 0) hx hb dX4_isBetween_22 (by decide) ?_
    cases h
    exact ret _ _ _ _ (Or.inl rfl) dX4_isBetween_23 hP hD hS
  · replace h := if_f hc h
    refine lv_iload_n hx hb dX4_isBetween_9 rfl (lv_at hl 0 rfl) ?_
    refine lv_iload_n hx hb dX4_isBetween_10 rfl (lv_at hl 1 rfl) ?_
    refine lv_iload_n hx hb dX4_isBetween_11 rfl (lv_at hl 2 rfl) ?_
    refine va_mmax hx hb (hml.trans hl.1.symm) hown hm_69 hs_mmax hini_Math hco_mmax (Nat.le_of_ble_eq_true rfl) (Nat.le_of_ble_eq_true rfl) (Nat.le_of_ble_eq_true rfl) (Nat.le_of_ble_eq_true rfl) dX4_isBetween_12 ?_
    refine lv_icmp_gt (tgt := 22) hx hb dX4_isBetween_15 (by decide) (fun hc => ?_) (fun hc => ?_)
    · replace h := if_t hc h
      refine lv_iconst (v := 0) hx hb dX4_isBetween_22 (by decide) ?_
      cases h
      exact ret _ _ _ _ (Or.inl rfl) dX4_isBetween_23 hP hD hS
    · replace h := if_f hc h
      refine lv_iconst (v := 1) hx hb dX4_isBetween_18 (by decide) ?_
      refine lv_goto (tgt := 23) hx hb dX4_isBetween_19 (by decide) ?_
      cases h
      exact ret _ _ _ _ (Or.inr rfl) dX4_isBetween_23 hP hD hS

def sX4_liesOn (a1 : Int32) (a3 : Int32) (s_under : Nat → Int32) (s_x : Nat → Int32) (s_y : Nat → Int32) (s_a2_u : Nat → Int32) (s_a2_v : Nat → Int32) (s_a2_x : Nat → Int32) (s_a2_y : Nat → Int32) : Option (Int32) := gd (¬ (a3 < 0 ∨ 18 ≤ a3.toNatClampNeg)) (gd (¬ (a1 < 0 ∨ 129 ≤ a1.toNatClampNeg)) (lt ((s_a2_x a3.toNatClampNeg) * (s_under a1.toNatClampNeg)) (fun x1 => gd (¬ (a3 < 0 ∨ 18 ≤ a3.toNatClampNeg)) (gd (¬ (a1 < 0 ∨ 129 ≤ a1.toNatClampNeg)) (lt ((s_a2_y a3.toNatClampNeg) * (s_under a1.toNatClampNeg)) (fun x2 => gd (¬ (a3 < 0 ∨ 18 ≤ a3.toNatClampNeg)) (gd (¬ (a1 < 0 ∨ 129 ≤ a1.toNatClampNeg)) (lt ((s_a2_u a3.toNatClampNeg) * (s_under a1.toNatClampNeg)) (fun x3 => gd (¬ (a3 < 0 ∨ 18 ≤ a3.toNatClampNeg)) (gd (¬ (a1 < 0 ∨ 129 ≤ a1.toNatClampNeg)) (lt ((s_a2_v a3.toNatClampNeg) * (s_under a1.toNatClampNeg)) (fun x4 => gd (¬ (a3 < 0 ∨ 18 ≤ a3.toNatClampNeg)) (gd (¬ (a3 < 0 ∨ 18 ≤ a3.toNatClampNeg)) (lt ((s_a2_u a3.toNatClampNeg) - (s_a2_x a3.toNatClampNeg)) (fun x5 => gd (¬ (a3 < 0 ∨ 18 ≤ a3.toNatClampNeg)) (gd (¬ (a3 < 0 ∨ 18 ≤ a3.toNatClampNeg)) (lt ((s_a2_v a3.toNatClampNeg) - (s_a2_y a3.toNatClampNeg)) (fun x6 => gd (¬ (a1 < 0 ∨ 129 ≤ a1.toNatClampNeg)) (gd (¬ (a1 < 0 ∨ 129 ≤ a1.toNatClampNeg)) (if ¬ (x5 * ((s_y a1.toNatClampNeg) - x2)) = (x6 * ((s_x a1.toNatClampNeg) - x1)) then some (0 : Int32) else gd (¬ (a1 < 0 ∨ 129 ≤ a1.toNatClampNeg)) (ob (sX4_isBetween (s_x a1.toNatClampNeg) x1 x3) (fun o => dm1 o (fun (r7 : Int32) => if r7 = 0 then some (0 : Int32) else gd (¬ (a1 < 0 ∨ 129 ≤ a1.toNatClampNeg)) (ob (sX4_isBetween (s_y a1.toNatClampNeg) x2 x4) (fun o => dm1 o (fun (r8 : Int32) => if r8 = 0 then some (0 : Int32) else some (1 : Int32)))))))))))))))))))))))))))
abbrev rmX4_liesOn : Room := { frames := 2, cells := 0, slots := 0, locals := 62 }
set_option maxHeartbeats 4000000 in
set_option maxRecDepth 100000 in
theorem c_X4_liesOn (l : Launch) (D : va_G) (ky : Nat → ClassId) (q_ q_x q_y q_under q_a2 q_a2_x q_a2_y q_a2_u q_a2_v : Nat) (a1 : Int32) (a3 : Int32) (s_total : Int32) (s_under : Nat → Int32) (s_x : Nat → Int32) (s_y : Nat → Int32) (s_a2_width : Int32) (s_a2_height : Int32) (s_a2_lines : Int32) (s_a2_u : Nat → Int32) (s_a2_v : Nat → Int32) (s_a2_x : Nat → Int32) (s_a2_y : Nat → Int32) {o_r : Int32} (h : sX4_liesOn a1 a3 s_under s_x s_y s_a2_u s_a2_v s_a2_x s_a2_y = some o_r) : MtI l D ky yX4_liesOn wsX4_liesOn rmX4_liesOn [.ref q_, .int a1, .ref q_a2, .int a3] [(q_, .inr (4, [.int s_total, .ref q_x, .ref q_y, .ref q_under])), (q_under, .inl (ky 0, 129, .inl s_under)), (q_x, .inl (ky 0, 129, .inl s_x)), (q_y, .inl (ky 0, 129, .inl s_y)), (q_a2, .inr (1, [.int s_a2_width, .int s_a2_height, .int s_a2_lines, .ref q_a2_x, .ref q_a2_y, .ref q_a2_u, .ref q_a2_v])), (q_a2_u, .inl (ky 0, 18, .inl s_a2_u)), (q_a2_v, .inl (ky 0, 18, .inl s_a2_v)), (q_a2_x, .inl (ky 0, 18, .inl s_a2_x)), (q_a2_y, .inl (ky 0, 18, .inl s_a2_y))] [(q_, .inr (4, [.int s_total, .ref q_x, .ref q_y, .ref q_under])), (q_under, .inl (ky 0, 129, .inl s_under)), (q_x, .inl (ky 0, 129, .inl s_x)), (q_y, .inl (ky 0, 129, .inl s_y)), (q_a2, .inr (1, [.int s_a2_width, .int s_a2_height, .int s_a2_lines, .ref q_a2_x, .ref q_a2_y, .ref q_a2_u, .ref q_a2_v])), (q_a2_u, .inl (ky 0, 18, .inl s_a2_u)), (q_a2_v, .inl (ky 0, 18, .inl s_a2_v)), (q_a2_x, .inl (ky 0, 18, .inl s_a2_x)), (q_a2_y, .inl (ky 0, 18, .inl s_a2_y))] o_r 0 0 := by
  refine MtI.ofB (cc := cX4_liesOn) (maxL := 10) (by decide +kernel) rfl (Nat.le_of_ble_eq_true rfl) ?_
  intro p e R s m args below meth c A Q ls hR hx hb hts hown hnm hml hP hK hD hA ret hl
  subst hR
  obtain ⟨H, hH⟩ : ∃ H, H = s.heap := ⟨_, rfl⟩
  obtain ⟨locs, hlocs⟩ : ∃ locs : List Loc, locs = [] := ⟨_, rfl⟩
  have hS : va_S A s.heap H locs := by rw [hH, hlocs]; exact va_S.rf
  rw [← hH] at hP
  suffices hgo : W p l e rmX4_liesOn s m args below meth c H locs 0 0 Q (F0 m 0 ls []) by rw [hH, hlocs] at hgo; exact hgo
  clear hH hlocs
  replace hl : lv_has ls 10 [(0, .ref q_), (1, .int a1), (2, .ref q_a2), (3, .int a3)] := hl
  replace hown : s.vm.findClass RX4 = some m.cls := hown
  have hi_X1 : ∀ w ∈ u_ws RX1 TX1 7, w ∈ wsX4_liesOn := fun _ h9 => List.mem_cons_of_mem _ (List.mem_append_left _ (List.mem_append_right _ h9))
  have hf_30 := hts (.fieldLink RX4 30 "GlazierBench$Drawing" "x" "[I") (by decide +kernel)
  have hi_X4 : ∀ w ∈ u_ws RX4 TX4 4, w ∈ wsX4_liesOn := fun _ h9 => List.mem_cons_of_mem _ (List.mem_append_right _ h9)
  have hf_18 := hts (.fieldLink RX4 18 "GlazierBench$Joints" "under" "[I") (by decide +kernel)
  have hf_31 := hts (.fieldLink RX4 31 "GlazierBench$Drawing" "y" "[I") (by decide +kernel)
  have hf_36 := hts (.fieldLink RX4 36 "GlazierBench$Drawing" "u" "[I") (by decide +kernel)
  have hf_39 := hts (.fieldLink RX4 39 "GlazierBench$Drawing" "v" "[I") (by decide +kernel)
  have hf_15 := hts (.fieldLink RX4 15 "GlazierBench$Joints" "y" "[I") (by decide +kernel)
  have hf_9 := hts (.fieldLink RX4 9 "GlazierBench$Joints" "x" "[I") (by decide +kernel)
  unfold sX4_liesOn at h
  refine lv_aload_n hx hb dX4_liesOn_0 rfl (lv_at hl 2 rfl) ?_
  refine va_get (D := D) (ci := 1) (v := .ref q_a2_x) (C := RX1) (T := TX1) (N := 7) hx hb hts hi_X1 hown hK.1 hP 4 rfl rfl 3 (by decide) hf_30 (fun _ h9 => h9) rfl dX4_liesOn_1 ?_
  refine lv_iload_n hx hb dX4_liesOn_4 rfl (lv_at hl 3 rfl) ?_
  obtain ⟨hg, h⟩ := gd_of h
  refine va_iald hx hb hK.1 hP 7 0 rfl rfl hg dX4_liesOn_5 ?_
  refine lv_aload_n hx hb dX4_liesOn_6 rfl (lv_at hl 0 rfl) ?_
  refine va_get (D := D) (ci := 4) (v := .ref q_under) (C := RX4) (T := TX4) (N := 4) hx hb hts hi_X4 hown hK.1 hP 0 rfl rfl 3 (by decide) hf_18 (fun _ h9 => h9) rfl dX4_liesOn_7 ?_
  refine lv_iload_n hx hb dX4_liesOn_10 rfl (lv_at hl 1 rfl) ?_
  obtain ⟨hg, h⟩ := gd_of h
  refine va_iald hx hb hK.1 hP 1 0 rfl rfl hg dX4_liesOn_11 ?_
  refine lv_imul hx hb dX4_liesOn_12 ?_
  refine lv_topi (fun x1 ex1 => ?_)
  replace h := lt_at ex1 h
  refine lv_istore (lv' := [(4, .int x1), (0, .ref q_), (1, .int a1), (2, .ref q_a2), (3, .int a3)]) hx hb dX4_liesOn_13 hl (by decide) rfl (fun ls hl => ?_)
  refine lv_aload_n hx hb dX4_liesOn_15 rfl (lv_at hl 3 rfl) ?_
  refine va_get (D := D) (ci := 1) (v := .ref q_a2_y) (C := RX1) (T := TX1) (N := 7) hx hb hts hi_X1 hown hK.1 hP 4 rfl rfl 4 (by decide) hf_31 (fun _ h9 => h9) rfl dX4_liesOn_16 ?_
  refine lv_iload_n hx hb dX4_liesOn_19 rfl (lv_at hl 4 rfl) ?_
  obtain ⟨hg, h⟩ := gd_of h
  refine va_iald hx hb hK.1 hP 8 0 rfl rfl hg dX4_liesOn_20 ?_
  refine lv_aload_n hx hb dX4_liesOn_21 rfl (lv_at hl 1 rfl) ?_
  refine va_get (D := D) (ci := 4) (v := .ref q_under) (C := RX4) (T := TX4) (N := 4) hx hb hts hi_X4 hown hK.1 hP 0 rfl rfl 3 (by decide) hf_18 (fun _ h9 => h9) rfl dX4_liesOn_22 ?_
  refine lv_iload_n hx hb dX4_liesOn_25 rfl (lv_at hl 2 rfl) ?_
  obtain ⟨hg, h⟩ := gd_of h
  refine va_iald hx hb hK.1 hP 1 0 rfl rfl hg dX4_liesOn_26 ?_
  refine lv_imul hx hb dX4_liesOn_27 ?_
  refine lv_topi (fun x2 ex2 => ?_)
  replace h := lt_at ex2 h
  refine lv_istore (lv' := [(5, .int x2), (4, .int x1), (0, .ref q_), (1, .int a1), (2, .ref q_a2), (3, .int a3)]) hx hb dX4_liesOn_28 hl (by decide) rfl (fun ls hl => ?_)
  refine lv_aload_n hx hb dX4_liesOn_30 rfl (lv_at hl 4 rfl) ?_
  refine va_get (D := D) (ci := 1) (v := .ref q_a2_u) (C := RX1) (T := TX1) (N := 7) hx hb hts hi_X1 hown hK.1 hP 4 rfl rfl 5 (by decide) hf_36 (fun _ h9 => h9) rfl dX4_liesOn_31 ?_
  refine lv_iload_n hx hb dX4_liesOn_34 rfl (lv_at hl 5 rfl) ?_
  obtain ⟨hg, h⟩ := gd_of h
  refine va_iald hx hb hK.1 hP 5 0 rfl rfl hg dX4_liesOn_35 ?_
  refine lv_aload_n hx hb dX4_liesOn_36 rfl (lv_at hl 2 rfl) ?_
  refine va_get (D := D) (ci := 4) (v := .ref q_under) (C := RX4) (T := TX4) (N := 4) hx hb hts hi_X4 hown hK.1 hP 0 rfl rfl 3 (by decide) hf_18 (fun _ h9 => h9) rfl dX4_liesOn_37 ?_
  refine lv_iload_n hx hb dX4_liesOn_40 rfl (lv_at hl 3 rfl) ?_
  obtain ⟨hg, h⟩ := gd_of h
  refine va_iald hx hb hK.1 hP 1 0 rfl rfl hg dX4_liesOn_41 ?_
  refine lv_imul hx hb dX4_liesOn_42 ?_
  refine lv_topi (fun x3 ex3 => ?_)
  replace h := lt_at ex3 h
  refine lv_istore (lv' := [(6, .int x3), (5, .int x2), (4, .int x1), (0, .ref q_), (1, .int a1), (2, .ref q_a2), (3, .int a3)]) hx hb dX4_liesOn_43 hl (by decide) rfl (fun ls hl => ?_)
  refine lv_aload_n hx hb dX4_liesOn_45 rfl (lv_at hl 5 rfl) ?_
  refine va_get (D := D) (ci := 1) (v := .ref q_a2_v) (C := RX1) (T := TX1) (N := 7) hx hb hts hi_X1 hown hK.1 hP 4 rfl rfl 6 (by decide) hf_39 (fun _ h9 => h9) rfl dX4_liesOn_46 ?_
  refine lv_iload_n hx hb dX4_liesOn_49 rfl (lv_at hl 6 rfl) ?_
  obtain ⟨hg, h⟩ := gd_of h
  refine va_iald hx hb hK.1 hP 6 0 rfl rfl hg dX4_liesOn_50 ?_
  refine lv_aload_n hx hb dX4_liesOn_51 rfl (lv_at hl 3 rfl) ?_
  refine va_get (D := D) (ci := 4) (v := .ref q_under) (C := RX4) (T := TX4) (N := 4) hx hb hts hi_X4 hown hK.1 hP 0 rfl rfl 3 (by decide) hf_18 (fun _ h9 => h9) rfl dX4_liesOn_52 ?_
  refine lv_iload_n hx hb dX4_liesOn_55 rfl (lv_at hl 4 rfl) ?_
  obtain ⟨hg, h⟩ := gd_of h
  refine va_iald hx hb hK.1 hP 1 0 rfl rfl hg dX4_liesOn_56 ?_
  refine lv_imul hx hb dX4_liesOn_57 ?_
  refine lv_topi (fun x4 ex4 => ?_)
  replace h := lt_at ex4 h
  refine lv_istore (lv' := [(7, .int x4), (6, .int x3), (5, .int x2), (4, .int x1), (0, .ref q_), (1, .int a1), (2, .ref q_a2), (3, .int a3)]) hx hb dX4_liesOn_58 hl (by decide) rfl (fun ls hl => ?_)
  refine lv_aload_n hx hb dX4_liesOn_60 rfl (lv_at hl 6 rfl) ?_
  refine va_get (D := D) (ci := 1) (v := .ref q_a2_u) (C := RX1) (T := TX1) (N := 7) hx hb hts hi_X1 hown hK.1 hP 4 rfl rfl 5 (by decide) hf_36 (fun _ h9 => h9) rfl dX4_liesOn_61 ?_
  refine lv_iload_n hx hb dX4_liesOn_64 rfl (lv_at hl 7 rfl) ?_
  obtain ⟨hg, h⟩ := gd_of h
  refine va_iald hx hb hK.1 hP 5 0 rfl rfl hg dX4_liesOn_65 ?_
  refine lv_aload_n hx hb dX4_liesOn_66 rfl (lv_at hl 6 rfl) ?_
  refine va_get (D := D) (ci := 1) (v := .ref q_a2_x) (C := RX1) (T := TX1) (N := 7) hx hb hts hi_X1 hown hK.1 hP 4 rfl rfl 3 (by decide) hf_30 (fun _ h9 => h9) rfl dX4_liesOn_67 ?_
  refine lv_iload_n hx hb dX4_liesOn_70 rfl (lv_at hl 7 rfl) ?_
  obtain ⟨hg, h⟩ := gd_of h
  refine va_iald hx hb hK.1 hP 7 0 rfl rfl hg dX4_liesOn_71 ?_
  refine lv_isub hx hb dX4_liesOn_72 ?_
  refine lv_topi (fun x5 ex5 => ?_)
  replace h := lt_at ex5 h
  refine lv_istore (lv' := [(8, .int x5), (7, .int x4), (6, .int x3), (5, .int x2), (4, .int x1), (0, .ref q_), (1, .int a1), (2, .ref q_a2), (3, .int a3)]) hx hb dX4_liesOn_73 hl (by decide) rfl (fun ls hl => ?_)
  refine lv_aload_n hx hb dX4_liesOn_75 rfl (lv_at hl 7 rfl) ?_
  refine va_get (D := D) (ci := 1) (v := .ref q_a2_v) (C := RX1) (T := TX1) (N := 7) hx hb hts hi_X1 hown hK.1 hP 4 rfl rfl 6 (by decide) hf_39 (fun _ h9 => h9) rfl dX4_liesOn_76 ?_
  refine lv_iload_n hx hb dX4_liesOn_79 rfl (lv_at hl 8 rfl) ?_
  obtain ⟨hg, h⟩ := gd_of h
  refine va_iald hx hb hK.1 hP 6 0 rfl rfl hg dX4_liesOn_80 ?_
  refine lv_aload_n hx hb dX4_liesOn_81 rfl (lv_at hl 7 rfl) ?_
  refine va_get (D := D) (ci := 1) (v := .ref q_a2_y) (C := RX1) (T := TX1) (N := 7) hx hb hts hi_X1 hown hK.1 hP 4 rfl rfl 4 (by decide) hf_31 (fun _ h9 => h9) rfl dX4_liesOn_82 ?_
  refine lv_iload_n hx hb dX4_liesOn_85 rfl (lv_at hl 8 rfl) ?_
  obtain ⟨hg, h⟩ := gd_of h
  refine va_iald hx hb hK.1 hP 8 0 rfl rfl hg dX4_liesOn_86 ?_
  refine lv_isub hx hb dX4_liesOn_87 ?_
  refine lv_topi (fun x6 ex6 => ?_)
  replace h := lt_at ex6 h
  refine lv_istore (lv' := [(9, .int x6), (8, .int x5), (7, .int x4), (6, .int x3), (5, .int x2), (4, .int x1), (0, .ref q_), (1, .int a1), (2, .ref q_a2), (3, .int a3)]) hx hb dX4_liesOn_88 hl (by decide) rfl (fun ls hl => ?_)
  refine lv_iload hx hb dX4_liesOn_90 (lv_at hl 1 rfl) ?_
  refine lv_aload_n hx hb dX4_liesOn_92 rfl (lv_at hl 6 rfl) ?_
  refine va_get (D := D) (ci := 4) (v := .ref q_y) (C := RX4) (T := TX4) (N := 4) hx hb hts hi_X4 hown hK.1 hP 0 rfl rfl 2 (by decide) hf_15 (fun _ h9 => h9) rfl dX4_liesOn_93 ?_
  refine lv_iload_n hx hb dX4_liesOn_96 rfl (lv_at hl 7 rfl) ?_
  obtain ⟨hg, h⟩ := gd_of h
  refine va_iald hx hb hK.1 hP 3 0 rfl rfl hg dX4_liesOn_97 ?_
  refine lv_iload hx hb dX4_liesOn_98 (lv_at hl 4 rfl) ?_
  refine lv_isub hx hb dX4_liesOn_100 ?_
  refine lv_imul hx hb dX4_liesOn_101 ?_
  refine lv_iload hx hb dX4_liesOn_102 (lv_at hl 0 rfl) ?_
  refine lv_aload_n hx hb dX4_liesOn_104 rfl (lv_at hl 6 rfl) ?_
  refine va_get (D := D) (ci := 4) (v := .ref q_x) (C := RX4) (T := TX4) (N := 4) hx hb hts hi_X4 hown hK.1 hP 0 rfl rfl 1 (by decide) hf_9 (fun _ h9 => h9) rfl dX4_liesOn_105 ?_
  refine lv_iload_n hx hb dX4_liesOn_108 rfl (lv_at hl 7 rfl) ?_
  obtain ⟨hg, h⟩ := gd_of h
  refine va_iald hx hb hK.1 hP 2 0 rfl rfl hg dX4_liesOn_109 ?_
  refine lv_iload hx hb dX4_liesOn_110 (lv_at hl 5 rfl) ?_
  refine lv_isub hx hb dX4_liesOn_112 ?_
  refine lv_imul hx hb dX4_liesOn_113 ?_
  refine lv_icmp_ne (tgt := 153) hx hb dX4_liesOn_114 (by decide) (fun hc => ?_) (fun hc => ?_)
  · replace h := if_t hc h
    refine lv_iconst (v := 0) hx hb dX4_liesOn_153 (by decide) ?_
    cases h
    exact ret _ _ _ _ (Or.inl rfl) dX4_liesOn_154 hP hD hS
  · replace h := if_f (fun z => z hc) h
    refine lv_aload_n hx hb dX4_liesOn_117 rfl (lv_at hl 6 rfl) ?_
    refine va_get (D := D) (ci := 4) (v := .ref q_x) (C := RX4) (T := TX4) (N := 4) hx hb hts hi_X4 hown hK.1 hP 0 rfl rfl 1 (by decide) hf_9 (fun _ h9 => h9) rfl dX4_liesOn_118 ?_
    refine lv_iload_n hx hb dX4_liesOn_121 rfl (lv_at hl 7 rfl) ?_
    obtain ⟨hg, h⟩ := gd_of h
    refine va_iald hx hb hK.1 hP 2 0 rfl rfl hg dX4_liesOn_122 ?_
    refine lv_iload hx hb dX4_liesOn_123 (lv_at hl 5 rfl) ?_
    refine lv_iload hx hb dX4_liesOn_125 (lv_at hl 3 rfl) ?_
    obtain ⟨r7, hc, h⟩ := ob_of h
    replace h := dm1_of h
    refine cs_i (As := [.int (s_x a1.toNatClampNeg), .int x1, .int x3]) (rest := []) (wr := [(q_, .inr (4, [.int s_total, .ref q_x, .ref q_y, .ref q_under])), (q_under, .inl (ky 0, 129, .inl s_under)), (q_x, .inl (ky 0, 129, .inl s_x)), (q_y, .inl (ky 0, 129, .inl s_y)), (q_a2, .inr (1, [.int s_a2_width, .int s_a2_height, .int s_a2_lines, .ref q_a2_x, .ref q_a2_y, .ref q_a2_u, .ref q_a2_v])), (q_a2_u, .inl (ky 0, 18, .inl s_a2_u)), (q_a2_v, .inl (ky 0, 18, .inl s_a2_v)), (q_a2_x, .inl (ky 0, 18, .inl s_a2_x)), (q_a2_y, .inl (ky 0, 18, .inl s_a2_y))]) (wn := [(q_, .inr (4, [.int s_total, .ref q_x, .ref q_y, .ref q_under])), (q_under, .inl (ky 0, 129, .inl s_under)), (q_x, .inl (ky 0, 129, .inl s_x)), (q_y, .inl (ky 0, 129, .inl s_y)), (q_a2, .inr (1, [.int s_a2_width, .int s_a2_height, .int s_a2_lines, .ref q_a2_x, .ref q_a2_y, .ref q_a2_u, .ref q_a2_v])), (q_a2_u, .inl (ky 0, 18, .inl s_a2_u)), (q_a2_v, .inl (ky 0, 18, .inl s_a2_v)), (q_a2_x, .inl (ky 0, 18, .inl s_a2_x)), (q_a2_y, .inl (ky 0, 18, .inl s_a2_y))]) ⟨hx, hb, hml, hown, hts⟩ (c_X4_isBetween l D ky (s_x a1.toNatClampNeg) x1 x3 hc) (va_cwS 3 hts gX4_liesOn_X4_isBetween rfl rfl rfl (by decide +kernel) ⟨Nat.le_of_ble_eq_true rfl, Nat.le_of_ble_eq_true rfl⟩) hP hD hK hS hA [] [0, 1, 2, 3, 4, 5, 6, 7, 8] [0, 1, 2, 3, 4, 5, 6, 7, 8] rfl (by decide +kernel) rfl (by decide +kernel) (by decide +kernel) (by decide +kernel) rfl rfl rfl hl.1 (Nat.le_of_ble_eq_true rfl) dX4_liesOn_127 ⟨Nat.le_of_ble_eq_true rfl, Nat.le_of_ble_eq_true rfl⟩ (fun H locs hP hD hS => ?_)
    refine lv_if_eq (tgt := 153) hx hb dX4_liesOn_130 (by decide) (fun hc => ?_) (fun hc => ?_)
    · replace h := if_t hc h
      refine lv_iconst (v := 0) hx hb dX4_liesOn_153 (by decide) ?_
      cases h
      exact ret _ _ _ _ (Or.inl rfl) dX4_liesOn_154 hP hD hS
    · replace h := if_f hc h
      refine lv_aload_n hx hb dX4_liesOn_133 rfl (lv_at hl 6 rfl) ?_
      refine va_get (D := D) (ci := 4) (v := .ref q_y) (C := RX4) (T := TX4) (N := 4) hx hb hts hi_X4 hown hK.1 hP 0 rfl rfl 2 (by decide) hf_15 (fun _ h9 => h9) rfl dX4_liesOn_134 ?_
      refine lv_iload_n hx hb dX4_liesOn_137 rfl (lv_at hl 7 rfl) ?_
      obtain ⟨hg, h⟩ := gd_of h
      refine va_iald hx hb hK.1 hP 3 0 rfl rfl hg dX4_liesOn_138 ?_
      refine lv_iload hx hb dX4_liesOn_139 (lv_at hl 4 rfl) ?_
      refine lv_iload hx hb dX4_liesOn_141 (lv_at hl 2 rfl) ?_
      obtain ⟨r8, hc, h⟩ := ob_of h
      replace h := dm1_of h
      refine cs_i (As := [.int (s_y a1.toNatClampNeg), .int x2, .int x4]) (rest := []) (wr := [(q_, .inr (4, [.int s_total, .ref q_x, .ref q_y, .ref q_under])), (q_under, .inl (ky 0, 129, .inl s_under)), (q_x, .inl (ky 0, 129, .inl s_x)), (q_y, .inl (ky 0, 129, .inl s_y)), (q_a2, .inr (1, [.int s_a2_width, .int s_a2_height, .int s_a2_lines, .ref q_a2_x, .ref q_a2_y, .ref q_a2_u, .ref q_a2_v])), (q_a2_u, .inl (ky 0, 18, .inl s_a2_u)), (q_a2_v, .inl (ky 0, 18, .inl s_a2_v)), (q_a2_x, .inl (ky 0, 18, .inl s_a2_x)), (q_a2_y, .inl (ky 0, 18, .inl s_a2_y))]) (wn := [(q_, .inr (4, [.int s_total, .ref q_x, .ref q_y, .ref q_under])), (q_under, .inl (ky 0, 129, .inl s_under)), (q_x, .inl (ky 0, 129, .inl s_x)), (q_y, .inl (ky 0, 129, .inl s_y)), (q_a2, .inr (1, [.int s_a2_width, .int s_a2_height, .int s_a2_lines, .ref q_a2_x, .ref q_a2_y, .ref q_a2_u, .ref q_a2_v])), (q_a2_u, .inl (ky 0, 18, .inl s_a2_u)), (q_a2_v, .inl (ky 0, 18, .inl s_a2_v)), (q_a2_x, .inl (ky 0, 18, .inl s_a2_x)), (q_a2_y, .inl (ky 0, 18, .inl s_a2_y))]) ⟨hx, hb, hml, hown, hts⟩ (c_X4_isBetween l D ky (s_y a1.toNatClampNeg) x2 x4 hc) (va_cwS 3 hts gX4_liesOn_X4_isBetween rfl rfl rfl (by decide +kernel) ⟨Nat.le_of_ble_eq_true rfl, Nat.le_of_ble_eq_true rfl⟩) hP hD hK hS hA [] [0, 1, 2, 3, 4, 5, 6, 7, 8] [0, 1, 2, 3, 4, 5, 6, 7, 8] rfl (by decide +kernel) rfl (by decide +kernel) (by decide +kernel) (by decide +kernel) rfl rfl rfl hl.1 (Nat.le_of_ble_eq_true rfl) dX4_liesOn_143 ⟨Nat.le_of_ble_eq_true rfl, Nat.le_of_ble_eq_true rfl⟩ (fun H locs hP hD hS => ?_)
      refine lv_if_eq (tgt := 153) hx hb dX4_liesOn_146 (by decide) (fun hc => ?_) (fun hc => ?_)
      · replace h := if_t hc h
        refine lv_iconst (v := 0) hx hb dX4_liesOn_153 (by decide) ?_
        cases h
        exact ret _ _ _ _ (Or.inl rfl) dX4_liesOn_154 hP hD hS
      · replace h := if_f hc h
        refine lv_iconst (v := 1) hx hb dX4_liesOn_149 (by decide) ?_
        refine lv_goto (tgt := 154) hx hb dX4_liesOn_150 (by decide) ?_
        cases h
        exact ret _ _ _ _ (Or.inr rfl) dX4_liesOn_154 hP hD hS

def sX4_side (a1 : Int32) (a2 : Int32) (a3 : Int32) (s_under : Nat → Int32) (s_x : Nat → Int32) (s_y : Nat → Int32) : Option (Int64) := gd (¬ (a1 < 0 ∨ 129 ≤ a1.toNatClampNeg)) (gd (¬ (a2 < 0 ∨ 129 ≤ a2.toNatClampNeg)) (gd (¬ (a3 < 0 ∨ 129 ≤ a3.toNatClampNeg)) (gd (¬ (a3 < 0 ∨ 129 ≤ a3.toNatClampNeg)) (gd (¬ (a2 < 0 ∨ 129 ≤ a2.toNatClampNeg)) (gd (¬ (a1 < 0 ∨ 129 ≤ a1.toNatClampNeg)) (gd (¬ (a2 < 0 ∨ 129 ≤ a2.toNatClampNeg)) (gd (¬ (a3 < 0 ∨ 129 ≤ a3.toNatClampNeg)) (gd (¬ (a3 < 0 ∨ 129 ≤ a3.toNatClampNeg)) (gd (¬ (a2 < 0 ∨ 129 ≤ a2.toNatClampNeg)) (gd (¬ (a1 < 0 ∨ 129 ≤ a1.toNatClampNeg)) (gd (¬ (a2 < 0 ∨ 129 ≤ a2.toNatClampNeg)) (gd (¬ (a3 < 0 ∨ 129 ≤ a3.toNatClampNeg)) (gd (¬ (a3 < 0 ∨ 129 ≤ a3.toNatClampNeg)) (gd (¬ (a2 < 0 ∨ 129 ≤ a2.toNatClampNeg)) (some (((((s_x a1.toNatClampNeg).toInt64) * ((((s_y a2.toNatClampNeg) * (s_under a3.toNatClampNeg)) - ((s_y a3.toNatClampNeg) * (s_under a2.toNatClampNeg))).toInt64)) - (((s_y a1.toNatClampNeg).toInt64) * ((((s_x a2.toNatClampNeg) * (s_under a3.toNatClampNeg)) - ((s_x a3.toNatClampNeg) * (s_under a2.toNatClampNeg))).toInt64))) + (((s_under a1.toNatClampNeg).toInt64) * ((((s_x a2.toNatClampNeg) * (s_y a3.toNatClampNeg)) - ((s_x a3.toNatClampNeg) * (s_y a2.toNatClampNeg))).toInt64))))))))))))))))))
abbrev rmX4_side : Room := { frames := 0, cells := 0, slots := 0, locals := 0 }
set_option maxHeartbeats 4000000 in
set_option maxRecDepth 100000 in
theorem c_X4_side (l : Launch) (D : va_G) (ky : Nat → ClassId) (q_ q_x q_y q_under : Nat) (a1 : Int32) (a2 : Int32) (a3 : Int32) (s_total : Int32) (s_under : Nat → Int32) (s_x : Nat → Int32) (s_y : Nat → Int32) {o_r : Int64} (h : sX4_side a1 a2 a3 s_under s_x s_y = some o_r) : MtL l D ky yX4_side wsX4_side rmX4_side [.ref q_, .int a1, .int a2, .int a3] [(q_, .inr (4, [.int s_total, .ref q_x, .ref q_y, .ref q_under])), (q_under, .inl (ky 0, 129, .inl s_under)), (q_x, .inl (ky 0, 129, .inl s_x)), (q_y, .inl (ky 0, 129, .inl s_y))] [(q_, .inr (4, [.int s_total, .ref q_x, .ref q_y, .ref q_under])), (q_under, .inl (ky 0, 129, .inl s_under)), (q_x, .inl (ky 0, 129, .inl s_x)), (q_y, .inl (ky 0, 129, .inl s_y))] o_r 0 0 := by
  refine MtL.of (cc := cX4_side) (maxL := 4) (by decide +kernel) rfl (Nat.le_of_ble_eq_true rfl) ?_
  intro p e R s m args below meth c A Q ls hR hx hb hts hown hnm hml hP hK hD hA ret hl
  subst hR
  obtain ⟨H, hH⟩ : ∃ H, H = s.heap := ⟨_, rfl⟩
  obtain ⟨locs, hlocs⟩ : ∃ locs : List Loc, locs = [] := ⟨_, rfl⟩
  have hS : va_S A s.heap H locs := by rw [hH, hlocs]; exact va_S.rf
  rw [← hH] at hP
  suffices hgo : W p l e rmX4_side s m args below meth c H locs 0 0 Q (F0 m 0 ls []) by rw [hH, hlocs] at hgo; exact hgo
  clear hH hlocs
  replace hl : lv_has ls 4 [(0, .ref q_), (1, .int a1), (2, .int a2), (3, .int a3)] := hl
  replace hown : s.vm.findClass RX4 = some m.cls := hown
  have hi_X4 : ∀ w ∈ u_ws RX4 TX4 4, w ∈ wsX4_side := fun _ h9 => List.mem_cons_of_mem _ (List.mem_append_right _ h9)
  have hf_9 := hts (.fieldLink RX4 9 "GlazierBench$Joints" "x" "[I") (by decide +kernel)
  have hf_15 := hts (.fieldLink RX4 15 "GlazierBench$Joints" "y" "[I") (by decide +kernel)
  have hf_18 := hts (.fieldLink RX4 18 "GlazierBench$Joints" "under" "[I") (by decide +kernel)
  unfold sX4_side at h
  refine lv_aload_n hx hb dX4_side_0 rfl (lv_at hl 0 rfl) ?_
  refine va_get (D := D) (ci := 4) (v := .ref q_x) (C := RX4) (T := TX4) (N := 4) hx hb hts hi_X4 hown hK.1 hP 0 rfl rfl 1 (by decide) hf_9 (fun _ h9 => h9) rfl dX4_side_1 ?_
  refine lv_iload_n hx hb dX4_side_4 rfl (lv_at hl 1 rfl) ?_
  obtain ⟨hg, h⟩ := gd_of h
  refine va_iald hx hb hK.1 hP 2 0 rfl rfl hg dX4_side_5 ?_
  refine lv_i2l (v := (s_x a1.toNatClampNeg).toInt64) hx hb dX4_side_6 rfl ?_
  refine lv_aload_n hx hb dX4_side_7 rfl (lv_at hl 0 rfl) ?_
  refine va_get (D := D) (ci := 4) (v := .ref q_y) (C := RX4) (T := TX4) (N := 4) hx hb hts hi_X4 hown hK.1 hP 0 rfl rfl 2 (by decide) hf_15 (fun _ h9 => h9) rfl dX4_side_8 ?_
  refine lv_iload_n hx hb dX4_side_11 rfl (lv_at hl 2 rfl) ?_
  obtain ⟨hg, h⟩ := gd_of h
  refine va_iald hx hb hK.1 hP 3 0 rfl rfl hg dX4_side_12 ?_
  refine lv_aload_n hx hb dX4_side_13 rfl (lv_at hl 0 rfl) ?_
  refine va_get (D := D) (ci := 4) (v := .ref q_under) (C := RX4) (T := TX4) (N := 4) hx hb hts hi_X4 hown hK.1 hP 0 rfl rfl 3 (by decide) hf_18 (fun _ h9 => h9) rfl dX4_side_14 ?_
  refine lv_iload_n hx hb dX4_side_17 rfl (lv_at hl 3 rfl) ?_
  obtain ⟨hg, h⟩ := gd_of h
  refine va_iald hx hb hK.1 hP 1 0 rfl rfl hg dX4_side_18 ?_
  refine lv_imul hx hb dX4_side_19 ?_
  refine lv_aload_n hx hb dX4_side_20 rfl (lv_at hl 0 rfl) ?_
  refine va_get (D := D) (ci := 4) (v := .ref q_y) (C := RX4) (T := TX4) (N := 4) hx hb hts hi_X4 hown hK.1 hP 0 rfl rfl 2 (by decide) hf_15 (fun _ h9 => h9) rfl dX4_side_21 ?_
  refine lv_iload_n hx hb dX4_side_24 rfl (lv_at hl 3 rfl) ?_
  obtain ⟨hg, h⟩ := gd_of h
  refine va_iald hx hb hK.1 hP 3 0 rfl rfl hg dX4_side_25 ?_
  refine lv_aload_n hx hb dX4_side_26 rfl (lv_at hl 0 rfl) ?_
  refine va_get (D := D) (ci := 4) (v := .ref q_under) (C := RX4) (T := TX4) (N := 4) hx hb hts hi_X4 hown hK.1 hP 0 rfl rfl 3 (by decide) hf_18 (fun _ h9 => h9) rfl dX4_side_27 ?_
  refine lv_iload_n hx hb dX4_side_30 rfl (lv_at hl 2 rfl) ?_
  obtain ⟨hg, h⟩ := gd_of h
  refine va_iald hx hb hK.1 hP 1 0 rfl rfl hg dX4_side_31 ?_
  refine lv_imul hx hb dX4_side_32 ?_
  refine lv_isub hx hb dX4_side_33 ?_
  refine lv_i2l (v := (((s_y a2.toNatClampNeg) * (s_under a3.toNatClampNeg)) - ((s_y a3.toNatClampNeg) * (s_under a2.toNatClampNeg))).toInt64) hx hb dX4_side_34 rfl ?_
  refine lv_lmul hx hb dX4_side_35 ?_
  refine lv_aload_n hx hb dX4_side_36 rfl (lv_at hl 0 rfl) ?_
  refine va_get (D := D) (ci := 4) (v := .ref q_y) (C := RX4) (T := TX4) (N := 4) hx hb hts hi_X4 hown hK.1 hP 0 rfl rfl 2 (by decide) hf_15 (fun _ h9 => h9) rfl dX4_side_37 ?_
  refine lv_iload_n hx hb dX4_side_40 rfl (lv_at hl 1 rfl) ?_
  obtain ⟨hg, h⟩ := gd_of h
  refine va_iald hx hb hK.1 hP 3 0 rfl rfl hg dX4_side_41 ?_
  refine lv_i2l (v := (s_y a1.toNatClampNeg).toInt64) hx hb dX4_side_42 rfl ?_
  refine lv_aload_n hx hb dX4_side_43 rfl (lv_at hl 0 rfl) ?_
  refine va_get (D := D) (ci := 4) (v := .ref q_x) (C := RX4) (T := TX4) (N := 4) hx hb hts hi_X4 hown hK.1 hP 0 rfl rfl 1 (by decide) hf_9 (fun _ h9 => h9) rfl dX4_side_44 ?_
  refine lv_iload_n hx hb dX4_side_47 rfl (lv_at hl 2 rfl) ?_
  obtain ⟨hg, h⟩ := gd_of h
  refine va_iald hx hb hK.1 hP 2 0 rfl rfl hg dX4_side_48 ?_
  refine lv_aload_n hx hb dX4_side_49 rfl (lv_at hl 0 rfl) ?_
  refine va_get (D := D) (ci := 4) (v := .ref q_under) (C := RX4) (T := TX4) (N := 4) hx hb hts hi_X4 hown hK.1 hP 0 rfl rfl 3 (by decide) hf_18 (fun _ h9 => h9) rfl dX4_side_50 ?_
  refine lv_iload_n hx hb dX4_side_53 rfl (lv_at hl 3 rfl) ?_
  obtain ⟨hg, h⟩ := gd_of h
  refine va_iald hx hb hK.1 hP 1 0 rfl rfl hg dX4_side_54 ?_
  refine lv_imul hx hb dX4_side_55 ?_
  refine lv_aload_n hx hb dX4_side_56 rfl (lv_at hl 0 rfl) ?_
  refine va_get (D := D) (ci := 4) (v := .ref q_x) (C := RX4) (T := TX4) (N := 4) hx hb hts hi_X4 hown hK.1 hP 0 rfl rfl 1 (by decide) hf_9 (fun _ h9 => h9) rfl dX4_side_57 ?_
  refine lv_iload_n hx hb dX4_side_60 rfl (lv_at hl 3 rfl) ?_
  obtain ⟨hg, h⟩ := gd_of h
  refine va_iald hx hb hK.1 hP 2 0 rfl rfl hg dX4_side_61 ?_
  refine lv_aload_n hx hb dX4_side_62 rfl (lv_at hl 0 rfl) ?_
  refine va_get (D := D) (ci := 4) (v := .ref q_under) (C := RX4) (T := TX4) (N := 4) hx hb hts hi_X4 hown hK.1 hP 0 rfl rfl 3 (by decide) hf_18 (fun _ h9 => h9) rfl dX4_side_63 ?_
  refine lv_iload_n hx hb dX4_side_66 rfl (lv_at hl 2 rfl) ?_
  obtain ⟨hg, h⟩ := gd_of h
  refine va_iald hx hb hK.1 hP 1 0 rfl rfl hg dX4_side_67 ?_
  refine lv_imul hx hb dX4_side_68 ?_
  refine lv_isub hx hb dX4_side_69 ?_
  refine lv_i2l (v := (((s_x a2.toNatClampNeg) * (s_under a3.toNatClampNeg)) - ((s_x a3.toNatClampNeg) * (s_under a2.toNatClampNeg))).toInt64) hx hb dX4_side_70 rfl ?_
  refine lv_lmul hx hb dX4_side_71 ?_
  refine lv_lsub hx hb dX4_side_72 ?_
  refine lv_aload_n hx hb dX4_side_73 rfl (lv_at hl 0 rfl) ?_
  refine va_get (D := D) (ci := 4) (v := .ref q_under) (C := RX4) (T := TX4) (N := 4) hx hb hts hi_X4 hown hK.1 hP 0 rfl rfl 3 (by decide) hf_18 (fun _ h9 => h9) rfl dX4_side_74 ?_
  refine lv_iload_n hx hb dX4_side_77 rfl (lv_at hl 1 rfl) ?_
  obtain ⟨hg, h⟩ := gd_of h
  refine va_iald hx hb hK.1 hP 1 0 rfl rfl hg dX4_side_78 ?_
  refine lv_i2l (v := (s_under a1.toNatClampNeg).toInt64) hx hb dX4_side_79 rfl ?_
  refine lv_aload_n hx hb dX4_side_80 rfl (lv_at hl 0 rfl) ?_
  refine va_get (D := D) (ci := 4) (v := .ref q_x) (C := RX4) (T := TX4) (N := 4) hx hb hts hi_X4 hown hK.1 hP 0 rfl rfl 1 (by decide) hf_9 (fun _ h9 => h9) rfl dX4_side_81 ?_
  refine lv_iload_n hx hb dX4_side_84 rfl (lv_at hl 2 rfl) ?_
  obtain ⟨hg, h⟩ := gd_of h
  refine va_iald hx hb hK.1 hP 2 0 rfl rfl hg dX4_side_85 ?_
  refine lv_aload_n hx hb dX4_side_86 rfl (lv_at hl 0 rfl) ?_
  refine va_get (D := D) (ci := 4) (v := .ref q_y) (C := RX4) (T := TX4) (N := 4) hx hb hts hi_X4 hown hK.1 hP 0 rfl rfl 2 (by decide) hf_15 (fun _ h9 => h9) rfl dX4_side_87 ?_
  refine lv_iload_n hx hb dX4_side_90 rfl (lv_at hl 3 rfl) ?_
  obtain ⟨hg, h⟩ := gd_of h
  refine va_iald hx hb hK.1 hP 3 0 rfl rfl hg dX4_side_91 ?_
  refine lv_imul hx hb dX4_side_92 ?_
  refine lv_aload_n hx hb dX4_side_93 rfl (lv_at hl 0 rfl) ?_
  refine va_get (D := D) (ci := 4) (v := .ref q_x) (C := RX4) (T := TX4) (N := 4) hx hb hts hi_X4 hown hK.1 hP 0 rfl rfl 1 (by decide) hf_9 (fun _ h9 => h9) rfl dX4_side_94 ?_
  refine lv_iload_n hx hb dX4_side_97 rfl (lv_at hl 3 rfl) ?_
  obtain ⟨hg, h⟩ := gd_of h
  refine va_iald hx hb hK.1 hP 2 0 rfl rfl hg dX4_side_98 ?_
  refine lv_aload_n hx hb dX4_side_99 rfl (lv_at hl 0 rfl) ?_
  refine va_get (D := D) (ci := 4) (v := .ref q_y) (C := RX4) (T := TX4) (N := 4) hx hb hts hi_X4 hown hK.1 hP 0 rfl rfl 2 (by decide) hf_15 (fun _ h9 => h9) rfl dX4_side_100 ?_
  refine lv_iload_n hx hb dX4_side_103 rfl (lv_at hl 2 rfl) ?_
  obtain ⟨hg, h⟩ := gd_of h
  refine va_iald hx hb hK.1 hP 3 0 rfl rfl hg dX4_side_104 ?_
  refine lv_imul hx hb dX4_side_105 ?_
  refine lv_isub hx hb dX4_side_106 ?_
  refine lv_i2l (v := (((s_x a2.toNatClampNeg) * (s_y a3.toNatClampNeg)) - ((s_x a3.toNatClampNeg) * (s_y a2.toNatClampNeg))).toInt64) hx hb dX4_side_107 rfl ?_
  refine lv_lmul hx hb dX4_side_108 ?_
  refine lv_ladd hx hb dX4_side_109 ?_
  cases h
  exact ret _ _ _ _ dX4_side_110 hP hD hS

def sX4_above (a1 : Int32) (a2 : Int32)  : Option (Int32) := ob (sX9_greatestCommon a1 a2) (fun o => dm1 o (fun (r1 : Int32) => if (1 : Int32) ≤ r1 then gd (¬ r1 = 0) (some (a1 / r1)) else some a1))
abbrev rmX4_above : Room := { frames := 1, cells := 0, slots := 0, locals := 25 }
set_option maxHeartbeats 4000000 in
set_option maxRecDepth 100000 in
theorem c_X4_above (l : Launch) (D : va_G) (ky : Nat → ClassId) (q_ : Nat) (a1 : Int32) (a2 : Int32) {o_r : Int32} (h : sX4_above a1 a2 = some o_r) : MtI l D ky yX4_above wsX4_above rmX4_above [.ref q_, .int a1, .int a2] [] [] o_r 0 0 := by
  refine MtI.of (cc := cX4_above) (maxL := 4) (by decide +kernel) rfl (Nat.le_of_ble_eq_true rfl) ?_
  intro p e R s m args below meth c A Q ls hR hx hb hts hown hnm hml hP hK hD hA ret hl
  subst hR
  obtain ⟨H, hH⟩ : ∃ H, H = s.heap := ⟨_, rfl⟩
  obtain ⟨locs, hlocs⟩ : ∃ locs : List Loc, locs = [] := ⟨_, rfl⟩
  have hS : va_S A s.heap H locs := by rw [hH, hlocs]; exact va_S.rf
  rw [← hH] at hP
  suffices hgo : W p l e rmX4_above s m args below meth c H locs 0 0 Q (F0 m 0 ls []) by rw [hH, hlocs] at hgo; exact hgo
  clear hH hlocs
  replace hl : lv_has ls 4 [(0, .ref q_), (1, .int a1), (2, .int a2)] := hl
  replace hown : s.vm.findClass RX4 = some m.cls := hown
  have hn_46 := hK.2 (.methodLinkNest RX4 46 yX9_greatestCommon RX9) (by decide +kernel)
  have hini_X9 := hts (.initialized RX9) (by decide +kernel)
  have hst_X9_greatestCommon := hts (.static yX9_greatestCommon) (by decide +kernel)
  unfold sX4_above at h
  refine lv_iload_n hx hb dX4_above_0 rfl (lv_at hl 1 rfl) ?_
  refine lv_iload_n hx hb dX4_above_1 rfl (lv_at hl 2 rfl) ?_
  obtain ⟨r1, hc, h⟩ := ob_of h
  replace h := dm1_of h
  refine cn_i (As := [.int a1, .int a2]) (rest := []) (wr := []) (wn := []) ⟨hx, hb, hml, hown, hts⟩ (c_X9_greatestCommon l D ky a1 a2 hc) ⟨va_cnB 2 hts gX4_above_X9_greatestCommon_n46 rfl rfl rfl hn_46 hini_X9 (by decide +kernel) ⟨Nat.le_of_ble_eq_true rfl, Nat.le_of_ble_eq_true rfl⟩, hst_X9_greatestCommon, trivial⟩ hP hD hK hS hA [] [] [] rfl (by decide +kernel) rfl (by decide +kernel) (by decide +kernel) (by decide +kernel) rfl rfl rfl hl.1 (Nat.le_of_ble_eq_true rfl) dX4_above_2 ⟨Nat.le_of_ble_eq_true rfl, Nat.le_of_ble_eq_true rfl⟩ (fun H locs hP hD hS => ?_)
  refine lv_istore_n (lv' := [(3, .int r1), (0, .ref q_), (1, .int a1), (2, .int a2)]) hx hb dX4_above_5 rfl hl (by decide) rfl (fun ls hl => ?_)
  refine lv_iload_n hx hb dX4_above_6 rfl (lv_at hl 0 rfl) ?_
  refine lv_iconst (v := 1) hx hb dX4_above_7 (by decide) ?_
  refine lv_icmp_ge (tgt := 15) hx hb dX4_above_8 (by decide) (fun hc => ?_) (fun hc => ?_)
  · replace h := if_t hc h
    refine lv_iload_n hx hb dX4_above_15 rfl (lv_at hl 2 rfl) ?_
    refine lv_iload_n hx hb dX4_above_16 rfl (lv_at hl 0 rfl) ?_
    obtain ⟨hg, h⟩ := gd_of h
    refine lv_idiv hx hb dX4_above_17 hg ?_
    cases h
    exact ret _ _ _ _ dX4_above_18 hP hD hS
  · replace h := if_f hc h
    refine lv_iload_n hx hb dX4_above_11 rfl (lv_at hl 2 rfl) ?_
    refine lv_goto (tgt := 18) hx hb dX4_above_12 (by decide) ?_
    cases h
    exact ret _ _ _ _ dX4_above_18 hP hD hS

def sX4_below (a1 : Int32) (a2 : Int32)  : Option (Int32) := ob (sX9_greatestCommon a1 a2) (fun o => dm1 o (fun (r1 : Int32) => if (1 : Int32) ≤ r1 then gd (¬ r1 = 0) (some (a2 / r1)) else some a2))
abbrev rmX4_below : Room := { frames := 1, cells := 0, slots := 0, locals := 25 }
set_option maxHeartbeats 4000000 in
set_option maxRecDepth 100000 in
theorem c_X4_below (l : Launch) (D : va_G) (ky : Nat → ClassId) (q_ : Nat) (a1 : Int32) (a2 : Int32) {o_r : Int32} (h : sX4_below a1 a2 = some o_r) : MtI l D ky yX4_below wsX4_below rmX4_below [.ref q_, .int a1, .int a2] [] [] o_r 0 0 := by
  refine MtI.of (cc := cX4_below) (maxL := 4) (by decide +kernel) rfl (Nat.le_of_ble_eq_true rfl) ?_
  intro p e R s m args below meth c A Q ls hR hx hb hts hown hnm hml hP hK hD hA ret hl
  subst hR
  obtain ⟨H, hH⟩ : ∃ H, H = s.heap := ⟨_, rfl⟩
  obtain ⟨locs, hlocs⟩ : ∃ locs : List Loc, locs = [] := ⟨_, rfl⟩
  have hS : va_S A s.heap H locs := by rw [hH, hlocs]; exact va_S.rf
  rw [← hH] at hP
  suffices hgo : W p l e rmX4_below s m args below meth c H locs 0 0 Q (F0 m 0 ls []) by rw [hH, hlocs] at hgo; exact hgo
  clear hH hlocs
  replace hl : lv_has ls 4 [(0, .ref q_), (1, .int a1), (2, .int a2)] := hl
  replace hown : s.vm.findClass RX4 = some m.cls := hown
  have hn_46 := hK.2 (.methodLinkNest RX4 46 yX9_greatestCommon RX9) (by decide +kernel)
  have hini_X9 := hts (.initialized RX9) (by decide +kernel)
  have hst_X9_greatestCommon := hts (.static yX9_greatestCommon) (by decide +kernel)
  unfold sX4_below at h
  refine lv_iload_n hx hb dX4_below_0 rfl (lv_at hl 1 rfl) ?_
  refine lv_iload_n hx hb dX4_below_1 rfl (lv_at hl 2 rfl) ?_
  obtain ⟨r1, hc, h⟩ := ob_of h
  replace h := dm1_of h
  refine cn_i (As := [.int a1, .int a2]) (rest := []) (wr := []) (wn := []) ⟨hx, hb, hml, hown, hts⟩ (c_X9_greatestCommon l D ky a1 a2 hc) ⟨va_cnB 2 hts gX4_below_X9_greatestCommon_n46 rfl rfl rfl hn_46 hini_X9 (by decide +kernel) ⟨Nat.le_of_ble_eq_true rfl, Nat.le_of_ble_eq_true rfl⟩, hst_X9_greatestCommon, trivial⟩ hP hD hK hS hA [] [] [] rfl (by decide +kernel) rfl (by decide +kernel) (by decide +kernel) (by decide +kernel) rfl rfl rfl hl.1 (Nat.le_of_ble_eq_true rfl) dX4_below_2 ⟨Nat.le_of_ble_eq_true rfl, Nat.le_of_ble_eq_true rfl⟩ (fun H locs hP hD hS => ?_)
  refine lv_istore_n (lv' := [(3, .int r1), (0, .ref q_), (1, .int a1), (2, .int a2)]) hx hb dX4_below_5 rfl hl (by decide) rfl (fun ls hl => ?_)
  refine lv_iload_n hx hb dX4_below_6 rfl (lv_at hl 0 rfl) ?_
  refine lv_iconst (v := 1) hx hb dX4_below_7 (by decide) ?_
  refine lv_icmp_ge (tgt := 15) hx hb dX4_below_8 (by decide) (fun hc => ?_) (fun hc => ?_)
  · replace h := if_t hc h
    refine lv_iload_n hx hb dX4_below_15 rfl (lv_at hl 3 rfl) ?_
    refine lv_iload_n hx hb dX4_below_16 rfl (lv_at hl 0 rfl) ?_
    obtain ⟨hg, h⟩ := gd_of h
    refine lv_idiv hx hb dX4_below_17 hg ?_
    cases h
    exact ret _ _ _ _ dX4_below_18 hP hD hS
  · replace h := if_f hc h
    refine lv_iload_n hx hb dX4_below_11 rfl (lv_at hl 3 rfl) ?_
    refine lv_goto (tgt := 18) hx hb dX4_below_12 (by decide) ?_
    cases h
    exact ret _ _ _ _ dX4_below_18 hP hD hS

