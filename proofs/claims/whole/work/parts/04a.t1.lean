def sX4_ask (a1 : Int32) (a2 : Int32) (a3 : Int32) (s_under : Nat → Int32) (s_x : Nat → Int32) (s_y : Nat → Int32) : Option ((Nat → Int32) × (Nat → Int32) × (Nat → Int32)) := gd (¬ ((128 : Int32) < 0 ∨ 129 ≤ (128 : Int32).toNatClampNeg)) (lt (upd s_x (128 : Int32).toNatClampNeg a1) (fun f1 => gd (¬ ((128 : Int32) < 0 ∨ 129 ≤ (128 : Int32).toNatClampNeg)) (lt (upd s_y (128 : Int32).toNatClampNeg a2) (fun f2 => gd (¬ ((128 : Int32) < 0 ∨ 129 ≤ (128 : Int32).toNatClampNeg)) (lt (upd s_under (128 : Int32).toNatClampNeg a3) (fun f3 => some (f3, f1, f2)))))))
abbrev rmX4_ask : Room := { frames := 0, cells := 0, slots := 0, locals := 0 }
set_option maxHeartbeats 4000000 in
set_option maxRecDepth 100000 in
theorem c_X4_ask (l : Launch) (D : va_G) (ky : Nat → ClassId) (q_ q_x q_y q_under : Nat) (a1 : Int32) (a2 : Int32) (a3 : Int32) (s_total : Int32) (s_under : Nat → Int32) (s_x : Nat → Int32) (s_y : Nat → Int32) {o_under : Nat → Int32} {o_x : Nat → Int32} {o_y : Nat → Int32} (h : sX4_ask a1 a2 a3 s_under s_x s_y = some (o_under, o_x, o_y)) : MtV l D ky yX4_ask wsX4_ask rmX4_ask [.ref q_, .int a1, .int a2, .int a3] [(q_, .inr (4, [.int s_total, .ref q_x, .ref q_y, .ref q_under])), (q_under, .inl (ky 0, 129, .inl s_under)), (q_x, .inl (ky 0, 129, .inl s_x)), (q_y, .inl (ky 0, 129, .inl s_y))] [(q_, .inr (4, [.int s_total, .ref q_x, .ref q_y, .ref q_under])), (q_under, .inl (ky 0, 129, .inl o_under)), (q_x, .inl (ky 0, 129, .inl o_x)), (q_y, .inl (ky 0, 129, .inl o_y))] 0 0 := by
  refine MtV.of (cc := cX4_ask) (maxL := 4) (by decide +kernel) rfl (Nat.le_of_ble_eq_true rfl) ?_
  intro p e R s m args below meth c A Q ls hR hx hb hts hown hnm hml hP hK hD hA ret hl
  subst hR
  have hS : va_S A s.heap s.heap [] := va_S.rf
  obtain ⟨H, hH⟩ : ∃ H, H = s.heap := ⟨_, rfl⟩
  obtain ⟨locs, hlocs⟩ : ∃ locs : List Loc, locs = [] := ⟨_, rfl⟩
  have hS : va_S A s.heap H locs := by rw [hH, hlocs]; exact va_S.rf
  rw [← hH] at hP
  suffices hgo : W p l e rmX4_ask s m args below meth c H locs 0 0 Q (F0 m 0 ls []) by rw [hH, hlocs] at hgo; exact hgo
  clear hH hlocs
  replace hl : lv_has ls 4 [(0, .ref q_), (1, .int a1), (2, .int a2), (3, .int a3)] := hl
  replace hown : s.vm.findClass RX4 = some m.cls := hown
  have hi_X4 := (by decide +kernel : ∀ w ∈ u_ws RX4 TX4 4, w ∈ wsX4_ask)
  have hf_9 := hts (.fieldLink RX4 9 "GlazierBench$Joints" "x" "[I") (by decide +kernel)
  have hf_15 := hts (.fieldLink RX4 15 "GlazierBench$Joints" "y" "[I") (by decide +kernel)
  have hf_18 := hts (.fieldLink RX4 18 "GlazierBench$Joints" "under" "[I") (by decide +kernel)
  unfold sX4_ask at h
  refine lv_aload_n hx hb dX4_ask_0 rfl (lv_at hl 0 rfl) ?_
  refine va_get (D := D) (ci := 4) (v := .ref q_x) (C := RX4) (T := TX4) (N := 4) hx hb hts hi_X4 hown hK.1 hP 0 rfl rfl 1 (by decide) hf_9 (fun _ h9 => h9) rfl dX4_ask_1 ?_
  refine lv_sipush (v := 128) hx hb dX4_ask_4 (by decide) ?_
  refine lv_iload_n hx hb dX4_ask_7 rfl (lv_at hl 1 rfl) ?_
  obtain ⟨hg, h⟩ := gd_of h
  refine r_iast hx hb hK.1 hP hD hS 2 0 rfl rfl hg dX4_ask_8 (fun f1 ef1 H locs hP hD hS => ?_)
  replace h := lt_at ef1 h
  replace hP : va_P D vwCl [(q_, .inr (4, [.int s_total, .ref q_x, .ref q_y, .ref q_under])), (q_under, .inl (ky 0, 129, .inl s_under)), (q_x, .inl (ky 0, 129, .inl f1)), (q_y, .inl (ky 0, 129, .inl s_y))] H := hP
  replace hD : va_D A [(q_, .inr (4, [.int s_total, .ref q_x, .ref q_y, .ref q_under])), (q_under, .inl (ky 0, 129, .inl s_under)), (q_x, .inl (ky 0, 129, .inl f1)), (q_y, .inl (ky 0, 129, .inl s_y))] := hD
  refine lv_aload_n hx hb dX4_ask_9 rfl (lv_at hl 0 rfl) ?_
  refine va_get (D := D) (ci := 4) (v := .ref q_y) (C := RX4) (T := TX4) (N := 4) hx hb hts hi_X4 hown hK.1 hP 0 rfl rfl 2 (by decide) hf_15 (fun _ h9 => h9) rfl dX4_ask_10 ?_
  refine lv_sipush (v := 128) hx hb dX4_ask_13 (by decide) ?_
  refine lv_iload_n hx hb dX4_ask_16 rfl (lv_at hl 2 rfl) ?_
  obtain ⟨hg, h⟩ := gd_of h
  refine r_iast hx hb hK.1 hP hD hS 3 0 rfl rfl hg dX4_ask_17 (fun f2 ef2 H locs hP hD hS => ?_)
  replace h := lt_at ef2 h
  replace hP : va_P D vwCl [(q_, .inr (4, [.int s_total, .ref q_x, .ref q_y, .ref q_under])), (q_under, .inl (ky 0, 129, .inl s_under)), (q_x, .inl (ky 0, 129, .inl f1)), (q_y, .inl (ky 0, 129, .inl f2))] H := hP
  replace hD : va_D A [(q_, .inr (4, [.int s_total, .ref q_x, .ref q_y, .ref q_under])), (q_under, .inl (ky 0, 129, .inl s_under)), (q_x, .inl (ky 0, 129, .inl f1)), (q_y, .inl (ky 0, 129, .inl f2))] := hD
  refine lv_aload_n hx hb dX4_ask_18 rfl (lv_at hl 0 rfl) ?_
  refine va_get (D := D) (ci := 4) (v := .ref q_under) (C := RX4) (T := TX4) (N := 4) hx hb hts hi_X4 hown hK.1 hP 0 rfl rfl 3 (by decide) hf_18 (fun _ h9 => h9) rfl dX4_ask_19 ?_
  refine lv_sipush (v := 128) hx hb dX4_ask_22 (by decide) ?_
  refine lv_iload_n hx hb dX4_ask_25 rfl (lv_at hl 3 rfl) ?_
  obtain ⟨hg, h⟩ := gd_of h
  refine r_iast hx hb hK.1 hP hD hS 1 0 rfl rfl hg dX4_ask_26 (fun f3 ef3 H locs hP hD hS => ?_)
  replace h := lt_at ef3 h
  replace hP : va_P D vwCl [(q_, .inr (4, [.int s_total, .ref q_x, .ref q_y, .ref q_under])), (q_under, .inl (ky 0, 129, .inl f3)), (q_x, .inl (ky 0, 129, .inl f1)), (q_y, .inl (ky 0, 129, .inl f2))] H := hP
  replace hD : va_D A [(q_, .inr (4, [.int s_total, .ref q_x, .ref q_y, .ref q_under])), (q_under, .inl (ky 0, 129, .inl f3)), (q_x, .inl (ky 0, 129, .inl f1)), (q_y, .inl (ky 0, 129, .inl f2))] := hD
  cases h
  exact ret _ _ _ _ dX4_ask_27 hP hD hS

def sX4_take (a1 : Int32) (a2 : Int32) (s_under : Nat → Int32) (s_x : Nat → Int32) (s_y : Nat → Int32) : Option ((Nat → Int32) × (Nat → Int32) × (Nat → Int32)) := gd (¬ (a2 < 0 ∨ 129 ≤ a2.toNatClampNeg)) (gd (¬ (a1 < 0 ∨ 129 ≤ a1.toNatClampNeg)) (lt (upd s_x a1.toNatClampNeg (s_x a2.toNatClampNeg)) (fun f1 => gd (¬ (a2 < 0 ∨ 129 ≤ a2.toNatClampNeg)) (gd (¬ (a1 < 0 ∨ 129 ≤ a1.toNatClampNeg)) (lt (upd s_y a1.toNatClampNeg (s_y a2.toNatClampNeg)) (fun f2 => gd (¬ (a2 < 0 ∨ 129 ≤ a2.toNatClampNeg)) (gd (¬ (a1 < 0 ∨ 129 ≤ a1.toNatClampNeg)) (lt (upd s_under a1.toNatClampNeg (s_under a2.toNatClampNeg)) (fun f3 => some (f3, f1, f2))))))))))
abbrev rmX4_take : Room := { frames := 0, cells := 0, slots := 0, locals := 0 }
set_option maxHeartbeats 4000000 in
set_option maxRecDepth 100000 in
theorem c_X4_take (l : Launch) (D : va_G) (ky : Nat → ClassId) (q_ q_x q_y q_under : Nat) (a1 : Int32) (a2 : Int32) (s_total : Int32) (s_under : Nat → Int32) (s_x : Nat → Int32) (s_y : Nat → Int32) {o_under : Nat → Int32} {o_x : Nat → Int32} {o_y : Nat → Int32} (h : sX4_take a1 a2 s_under s_x s_y = some (o_under, o_x, o_y)) : MtV l D ky yX4_take wsX4_take rmX4_take [.ref q_, .int a1, .int a2] [(q_, .inr (4, [.int s_total, .ref q_x, .ref q_y, .ref q_under])), (q_under, .inl (ky 0, 129, .inl s_under)), (q_x, .inl (ky 0, 129, .inl s_x)), (q_y, .inl (ky 0, 129, .inl s_y))] [(q_, .inr (4, [.int s_total, .ref q_x, .ref q_y, .ref q_under])), (q_under, .inl (ky 0, 129, .inl o_under)), (q_x, .inl (ky 0, 129, .inl o_x)), (q_y, .inl (ky 0, 129, .inl o_y))] 0 0 := by
  refine MtV.of (cc := cX4_take) (maxL := 3) (by decide +kernel) rfl (Nat.le_of_ble_eq_true rfl) ?_
  intro p e R s m args below meth c A Q ls hR hx hb hts hown hnm hml hP hK hD hA ret hl
  subst hR
  have hS : va_S A s.heap s.heap [] := va_S.rf
  obtain ⟨H, hH⟩ : ∃ H, H = s.heap := ⟨_, rfl⟩
  obtain ⟨locs, hlocs⟩ : ∃ locs : List Loc, locs = [] := ⟨_, rfl⟩
  have hS : va_S A s.heap H locs := by rw [hH, hlocs]; exact va_S.rf
  rw [← hH] at hP
  suffices hgo : W p l e rmX4_take s m args below meth c H locs 0 0 Q (F0 m 0 ls []) by rw [hH, hlocs] at hgo; exact hgo
  clear hH hlocs
  replace hl : lv_has ls 3 [(0, .ref q_), (1, .int a1), (2, .int a2)] := hl
  replace hown : s.vm.findClass RX4 = some m.cls := hown
  have hi_X4 := (by decide +kernel : ∀ w ∈ u_ws RX4 TX4 4, w ∈ wsX4_take)
  have hf_9 := hts (.fieldLink RX4 9 "GlazierBench$Joints" "x" "[I") (by decide +kernel)
  have hf_15 := hts (.fieldLink RX4 15 "GlazierBench$Joints" "y" "[I") (by decide +kernel)
  have hf_18 := hts (.fieldLink RX4 18 "GlazierBench$Joints" "under" "[I") (by decide +kernel)
  unfold sX4_take at h
  refine lv_aload_n hx hb dX4_take_0 rfl (lv_at hl 0 rfl) ?_
  refine va_get (D := D) (ci := 4) (v := .ref q_x) (C := RX4) (T := TX4) (N := 4) hx hb hts hi_X4 hown hK.1 hP 0 rfl rfl 1 (by decide) hf_9 (fun _ h9 => h9) rfl dX4_take_1 ?_
  refine lv_iload_n hx hb dX4_take_4 rfl (lv_at hl 1 rfl) ?_
  refine lv_aload_n hx hb dX4_take_5 rfl (lv_at hl 0 rfl) ?_
  refine va_get (D := D) (ci := 4) (v := .ref q_x) (C := RX4) (T := TX4) (N := 4) hx hb hts hi_X4 hown hK.1 hP 0 rfl rfl 1 (by decide) hf_9 (fun _ h9 => h9) rfl dX4_take_6 ?_
  refine lv_iload_n hx hb dX4_take_9 rfl (lv_at hl 2 rfl) ?_
  obtain ⟨hg, h⟩ := gd_of h
  refine va_iald hx hb hK.1 hP 2 0 rfl rfl hg dX4_take_10 ?_
  obtain ⟨hg, h⟩ := gd_of h
  refine r_iast hx hb hK.1 hP hD hS 2 0 rfl rfl hg dX4_take_11 (fun f1 ef1 H locs hP hD hS => ?_)
  replace h := lt_at ef1 h
  replace hP : va_P D vwCl [(q_, .inr (4, [.int s_total, .ref q_x, .ref q_y, .ref q_under])), (q_under, .inl (ky 0, 129, .inl s_under)), (q_x, .inl (ky 0, 129, .inl f1)), (q_y, .inl (ky 0, 129, .inl s_y))] H := hP
  replace hD : va_D A [(q_, .inr (4, [.int s_total, .ref q_x, .ref q_y, .ref q_under])), (q_under, .inl (ky 0, 129, .inl s_under)), (q_x, .inl (ky 0, 129, .inl f1)), (q_y, .inl (ky 0, 129, .inl s_y))] := hD
  refine lv_aload_n hx hb dX4_take_12 rfl (lv_at hl 0 rfl) ?_
  refine va_get (D := D) (ci := 4) (v := .ref q_y) (C := RX4) (T := TX4) (N := 4) hx hb hts hi_X4 hown hK.1 hP 0 rfl rfl 2 (by decide) hf_15 (fun _ h9 => h9) rfl dX4_take_13 ?_
  refine lv_iload_n hx hb dX4_take_16 rfl (lv_at hl 1 rfl) ?_
  refine lv_aload_n hx hb dX4_take_17 rfl (lv_at hl 0 rfl) ?_
  refine va_get (D := D) (ci := 4) (v := .ref q_y) (C := RX4) (T := TX4) (N := 4) hx hb hts hi_X4 hown hK.1 hP 0 rfl rfl 2 (by decide) hf_15 (fun _ h9 => h9) rfl dX4_take_18 ?_
  refine lv_iload_n hx hb dX4_take_21 rfl (lv_at hl 2 rfl) ?_
  obtain ⟨hg, h⟩ := gd_of h
  refine va_iald hx hb hK.1 hP 3 0 rfl rfl hg dX4_take_22 ?_
  obtain ⟨hg, h⟩ := gd_of h
  refine r_iast hx hb hK.1 hP hD hS 3 0 rfl rfl hg dX4_take_23 (fun f2 ef2 H locs hP hD hS => ?_)
  replace h := lt_at ef2 h
  replace hP : va_P D vwCl [(q_, .inr (4, [.int s_total, .ref q_x, .ref q_y, .ref q_under])), (q_under, .inl (ky 0, 129, .inl s_under)), (q_x, .inl (ky 0, 129, .inl f1)), (q_y, .inl (ky 0, 129, .inl f2))] H := hP
  replace hD : va_D A [(q_, .inr (4, [.int s_total, .ref q_x, .ref q_y, .ref q_under])), (q_under, .inl (ky 0, 129, .inl s_under)), (q_x, .inl (ky 0, 129, .inl f1)), (q_y, .inl (ky 0, 129, .inl f2))] := hD
  refine lv_aload_n hx hb dX4_take_24 rfl (lv_at hl 0 rfl) ?_
  refine va_get (D := D) (ci := 4) (v := .ref q_under) (C := RX4) (T := TX4) (N := 4) hx hb hts hi_X4 hown hK.1 hP 0 rfl rfl 3 (by decide) hf_18 (fun _ h9 => h9) rfl dX4_take_25 ?_
  refine lv_iload_n hx hb dX4_take_28 rfl (lv_at hl 1 rfl) ?_
  refine lv_aload_n hx hb dX4_take_29 rfl (lv_at hl 0 rfl) ?_
  refine va_get (D := D) (ci := 4) (v := .ref q_under) (C := RX4) (T := TX4) (N := 4) hx hb hts hi_X4 hown hK.1 hP 0 rfl rfl 3 (by decide) hf_18 (fun _ h9 => h9) rfl dX4_take_30 ?_
  refine lv_iload_n hx hb dX4_take_33 rfl (lv_at hl 2 rfl) ?_
  obtain ⟨hg, h⟩ := gd_of h
  refine va_iald hx hb hK.1 hP 1 0 rfl rfl hg dX4_take_34 ?_
  obtain ⟨hg, h⟩ := gd_of h
  refine r_iast hx hb hK.1 hP hD hS 1 0 rfl rfl hg dX4_take_35 (fun f3 ef3 H locs hP hD hS => ?_)
  replace h := lt_at ef3 h
  replace hP : va_P D vwCl [(q_, .inr (4, [.int s_total, .ref q_x, .ref q_y, .ref q_under])), (q_under, .inl (ky 0, 129, .inl f3)), (q_x, .inl (ky 0, 129, .inl f1)), (q_y, .inl (ky 0, 129, .inl f2))] H := hP
  replace hD : va_D A [(q_, .inr (4, [.int s_total, .ref q_x, .ref q_y, .ref q_under])), (q_under, .inl (ky 0, 129, .inl f3)), (q_x, .inl (ky 0, 129, .inl f1)), (q_y, .inl (ky 0, 129, .inl f2))] := hD
  cases h
  exact ret _ _ _ _ dX4_take_36 hP hD hS

def sX4_order (a1 : Int32) (a2 : Int32) (s_under : Nat → Int32) (s_x : Nat → Int32) (s_y : Nat → Int32) : Option (Int32) := gd (¬ (a1 < 0 ∨ 129 ≤ a1.toNatClampNeg)) (gd (¬ (a2 < 0 ∨ 129 ≤ a2.toNatClampNeg)) (gd (¬ (a2 < 0 ∨ 129 ≤ a2.toNatClampNeg)) (gd (¬ (a1 < 0 ∨ 129 ≤ a1.toNatClampNeg)) (lt (((s_y a1.toNatClampNeg) * (s_under a2.toNatClampNeg)) - ((s_y a2.toNatClampNeg) * (s_under a1.toNatClampNeg))) (fun x1 => gd (¬ (a1 < 0 ∨ 129 ≤ a1.toNatClampNeg)) (gd (¬ (a2 < 0 ∨ 129 ≤ a2.toNatClampNeg)) (gd (¬ (a2 < 0 ∨ 129 ≤ a2.toNatClampNeg)) (gd (¬ (a1 < 0 ∨ 129 ≤ a1.toNatClampNeg)) (lt (((s_x a1.toNatClampNeg) * (s_under a2.toNatClampNeg)) - ((s_x a2.toNatClampNeg) * (s_under a1.toNatClampNeg))) (fun x2 => if x1 = 0 then some x2 else some x1))))))))))
abbrev rmX4_order : Room := { frames := 0, cells := 0, slots := 0, locals := 0 }
set_option maxHeartbeats 4000000 in
set_option maxRecDepth 100000 in
theorem c_X4_order (l : Launch) (D : va_G) (ky : Nat → ClassId) (q_ q_x q_y q_under : Nat) (a1 : Int32) (a2 : Int32) (s_total : Int32) (s_under : Nat → Int32) (s_x : Nat → Int32) (s_y : Nat → Int32) {o_r : Int32} (h : sX4_order a1 a2 s_under s_x s_y = some o_r) : MtI l D ky yX4_order wsX4_order rmX4_order [.ref q_, .int a1, .int a2] [(q_, .inr (4, [.int s_total, .ref q_x, .ref q_y, .ref q_under])), (q_under, .inl (ky 0, 129, .inl s_under)), (q_x, .inl (ky 0, 129, .inl s_x)), (q_y, .inl (ky 0, 129, .inl s_y))] [(q_, .inr (4, [.int s_total, .ref q_x, .ref q_y, .ref q_under])), (q_under, .inl (ky 0, 129, .inl s_under)), (q_x, .inl (ky 0, 129, .inl s_x)), (q_y, .inl (ky 0, 129, .inl s_y))] o_r 0 0 := by
  refine MtI.of (cc := cX4_order) (maxL := 5) (by decide +kernel) rfl (Nat.le_of_ble_eq_true rfl) ?_
  intro p e R s m args below meth c A Q ls hR hx hb hts hown hnm hml hP hK hD hA ret hl
  subst hR
  have hS : va_S A s.heap s.heap [] := va_S.rf
  obtain ⟨H, hH⟩ : ∃ H, H = s.heap := ⟨_, rfl⟩
  obtain ⟨locs, hlocs⟩ : ∃ locs : List Loc, locs = [] := ⟨_, rfl⟩
  have hS : va_S A s.heap H locs := by rw [hH, hlocs]; exact va_S.rf
  rw [← hH] at hP
  suffices hgo : W p l e rmX4_order s m args below meth c H locs 0 0 Q (F0 m 0 ls []) by rw [hH, hlocs] at hgo; exact hgo
  clear hH hlocs
  replace hl : lv_has ls 5 [(0, .ref q_), (1, .int a1), (2, .int a2)] := hl
  replace hown : s.vm.findClass RX4 = some m.cls := hown
  have hi_X4 := (by decide +kernel : ∀ w ∈ u_ws RX4 TX4 4, w ∈ wsX4_order)
  have hf_15 := hts (.fieldLink RX4 15 "GlazierBench$Joints" "y" "[I") (by decide +kernel)
  have hf_18 := hts (.fieldLink RX4 18 "GlazierBench$Joints" "under" "[I") (by decide +kernel)
  have hf_9 := hts (.fieldLink RX4 9 "GlazierBench$Joints" "x" "[I") (by decide +kernel)
  unfold sX4_order at h
  refine lv_aload_n hx hb dX4_order_0 rfl (lv_at hl 0 rfl) ?_
  refine va_get (D := D) (ci := 4) (v := .ref q_y) (C := RX4) (T := TX4) (N := 4) hx hb hts hi_X4 hown hK.1 hP 0 rfl rfl 2 (by decide) hf_15 (fun _ h9 => h9) rfl dX4_order_1 ?_
  refine lv_iload_n hx hb dX4_order_4 rfl (lv_at hl 1 rfl) ?_
  obtain ⟨hg, h⟩ := gd_of h
  refine va_iald hx hb hK.1 hP 3 0 rfl rfl hg dX4_order_5 ?_
  refine lv_aload_n hx hb dX4_order_6 rfl (lv_at hl 0 rfl) ?_
  refine va_get (D := D) (ci := 4) (v := .ref q_under) (C := RX4) (T := TX4) (N := 4) hx hb hts hi_X4 hown hK.1 hP 0 rfl rfl 3 (by decide) hf_18 (fun _ h9 => h9) rfl dX4_order_7 ?_
  refine lv_iload_n hx hb dX4_order_10 rfl (lv_at hl 2 rfl) ?_
  obtain ⟨hg, h⟩ := gd_of h
  refine va_iald hx hb hK.1 hP 1 0 rfl rfl hg dX4_order_11 ?_
  refine lv_imul hx hb dX4_order_12 ?_
  refine lv_aload_n hx hb dX4_order_13 rfl (lv_at hl 0 rfl) ?_
  refine va_get (D := D) (ci := 4) (v := .ref q_y) (C := RX4) (T := TX4) (N := 4) hx hb hts hi_X4 hown hK.1 hP 0 rfl rfl 2 (by decide) hf_15 (fun _ h9 => h9) rfl dX4_order_14 ?_
  refine lv_iload_n hx hb dX4_order_17 rfl (lv_at hl 2 rfl) ?_
  obtain ⟨hg, h⟩ := gd_of h
  refine va_iald hx hb hK.1 hP 3 0 rfl rfl hg dX4_order_18 ?_
  refine lv_aload_n hx hb dX4_order_19 rfl (lv_at hl 0 rfl) ?_
  refine va_get (D := D) (ci := 4) (v := .ref q_under) (C := RX4) (T := TX4) (N := 4) hx hb hts hi_X4 hown hK.1 hP 0 rfl rfl 3 (by decide) hf_18 (fun _ h9 => h9) rfl dX4_order_20 ?_
  refine lv_iload_n hx hb dX4_order_23 rfl (lv_at hl 1 rfl) ?_
  obtain ⟨hg, h⟩ := gd_of h
  refine va_iald hx hb hK.1 hP 1 0 rfl rfl hg dX4_order_24 ?_
  refine lv_imul hx hb dX4_order_25 ?_
  refine lv_isub hx hb dX4_order_26 ?_
  refine lv_topi (fun x1 ex1 => ?_)
  replace h := lt_at ex1 h
  refine lv_istore_n (lv' := [(3, .int x1), (0, .ref q_), (1, .int a1), (2, .int a2)]) hx hb dX4_order_27 rfl hl (by decide) rfl (fun ls hl => ?_)
  refine lv_aload_n hx hb dX4_order_28 rfl (lv_at hl 1 rfl) ?_
  refine va_get (D := D) (ci := 4) (v := .ref q_x) (C := RX4) (T := TX4) (N := 4) hx hb hts hi_X4 hown hK.1 hP 0 rfl rfl 1 (by decide) hf_9 (fun _ h9 => h9) rfl dX4_order_29 ?_
  refine lv_iload_n hx hb dX4_order_32 rfl (lv_at hl 2 rfl) ?_
  obtain ⟨hg, h⟩ := gd_of h
  refine va_iald hx hb hK.1 hP 2 0 rfl rfl hg dX4_order_33 ?_
  refine lv_aload_n hx hb dX4_order_34 rfl (lv_at hl 1 rfl) ?_
  refine va_get (D := D) (ci := 4) (v := .ref q_under) (C := RX4) (T := TX4) (N := 4) hx hb hts hi_X4 hown hK.1 hP 0 rfl rfl 3 (by decide) hf_18 (fun _ h9 => h9) rfl dX4_order_35 ?_
  refine lv_iload_n hx hb dX4_order_38 rfl (lv_at hl 3 rfl) ?_
  obtain ⟨hg, h⟩ := gd_of h
  refine va_iald hx hb hK.1 hP 1 0 rfl rfl hg dX4_order_39 ?_
  refine lv_imul hx hb dX4_order_40 ?_
  refine lv_aload_n hx hb dX4_order_41 rfl (lv_at hl 1 rfl) ?_
  refine va_get (D := D) (ci := 4) (v := .ref q_x) (C := RX4) (T := TX4) (N := 4) hx hb hts hi_X4 hown hK.1 hP 0 rfl rfl 1 (by decide) hf_9 (fun _ h9 => h9) rfl dX4_order_42 ?_
  refine lv_iload_n hx hb dX4_order_45 rfl (lv_at hl 3 rfl) ?_
  obtain ⟨hg, h⟩ := gd_of h
  refine va_iald hx hb hK.1 hP 2 0 rfl rfl hg dX4_order_46 ?_
  refine lv_aload_n hx hb dX4_order_47 rfl (lv_at hl 1 rfl) ?_
  refine va_get (D := D) (ci := 4) (v := .ref q_under) (C := RX4) (T := TX4) (N := 4) hx hb hts hi_X4 hown hK.1 hP 0 rfl rfl 3 (by decide) hf_18 (fun _ h9 => h9) rfl dX4_order_48 ?_
  refine lv_iload_n hx hb dX4_order_51 rfl (lv_at hl 2 rfl) ?_
  obtain ⟨hg, h⟩ := gd_of h
  refine va_iald hx hb hK.1 hP 1 0 rfl rfl hg dX4_order_52 ?_
  refine lv_imul hx hb dX4_order_53 ?_
  refine lv_isub hx hb dX4_order_54 ?_
  refine lv_topi (fun x2 ex2 => ?_)
  replace h := lt_at ex2 h
  refine lv_istore (lv' := [(4, .int x2), (3, .int x1), (0, .ref q_), (1, .int a1), (2, .int a2)]) hx hb dX4_order_55 hl (by decide) rfl (fun ls hl => ?_)
  refine lv_iload_n hx hb dX4_order_57 rfl (lv_at hl 1 rfl) ?_
  refine lv_if_eq (tgt := 65) hx hb dX4_order_58 (by decide) (fun hc => ?_) (fun hc => ?_)
  · replace h := if_t hc h
    refine lv_iload hx hb dX4_order_65 (lv_at hl 0 rfl) ?_
    cases h
    exact ret _ _ _ _ dX4_order_67 hP hD hS
  · replace h := if_f hc h
    refine lv_iload_n hx hb dX4_order_61 rfl (lv_at hl 1 rfl) ?_
    refine lv_goto (tgt := 67) hx hb dX4_order_62 (by decide) ?_
    cases h
    exact ret _ _ _ _ dX4_order_67 hP hD hS
