def sX1_append (a1 : Int32) (a2 : Int32) (a3 : Int32) (a4 : Int32) (s_lines : Int32) (s_u : Nat → Int32) (s_v : Nat → Int32) (s_x : Nat → Int32) (s_y : Nat → Int32) : Option (Int32 × (Nat → Int32) × (Nat → Int32) × (Nat → Int32) × (Nat → Int32)) := if s_lines < (18 : Int32) then gd (¬ (s_lines < 0 ∨ 18 ≤ s_lines.toNatClampNeg)) (lt (upd s_x s_lines.toNatClampNeg a1) (fun f1 => gd (¬ (s_lines < 0 ∨ 18 ≤ s_lines.toNatClampNeg)) (lt (upd s_y s_lines.toNatClampNeg a2) (fun f2 => gd (¬ (s_lines < 0 ∨ 18 ≤ s_lines.toNatClampNeg)) (lt (upd s_u s_lines.toNatClampNeg a3) (fun f3 => gd (¬ (s_lines < 0 ∨ 18 ≤ s_lines.toNatClampNeg)) (lt (upd s_v s_lines.toNatClampNeg a4) (fun f4 => lt (s_lines + (1 : Int32)) (fun x5 => some (x5, f3, f4, f1, f2)))))))))) else some (s_lines, s_u, s_v, s_x, s_y)
abbrev rmX1_append : Room := { frames := 0, cells := 0, slots := 0, locals := 0 }
set_option maxHeartbeats 4000000 in
set_option maxRecDepth 100000 in
theorem c_X1_append (l : Launch) (D : va_G) (ky : Nat → ClassId) (q_ q_x q_y q_u q_v : Nat) (a1 : Int32) (a2 : Int32) (a3 : Int32) (a4 : Int32) (s_width : Int32) (s_height : Int32) (s_lines : Int32) (s_u : Nat → Int32) (s_v : Nat → Int32) (s_x : Nat → Int32) (s_y : Nat → Int32) {o_lines : Int32} {o_u : Nat → Int32} {o_v : Nat → Int32} {o_x : Nat → Int32} {o_y : Nat → Int32} (h : sX1_append a1 a2 a3 a4 s_lines s_u s_v s_x s_y = some (o_lines, o_u, o_v, o_x, o_y)) : MtV l D ky yX1_append wsX1_append rmX1_append [.ref q_, .int a1, .int a2, .int a3, .int a4] [(q_, .inr (1, [.int s_width, .int s_height, .int s_lines, .ref q_x, .ref q_y, .ref q_u, .ref q_v])), (q_u, .inl (ky 0, 18, .inl s_u)), (q_v, .inl (ky 0, 18, .inl s_v)), (q_x, .inl (ky 0, 18, .inl s_x)), (q_y, .inl (ky 0, 18, .inl s_y))] [(q_, .inr (1, [.int s_width, .int s_height, .int o_lines, .ref q_x, .ref q_y, .ref q_u, .ref q_v])), (q_u, .inl (ky 0, 18, .inl o_u)), (q_v, .inl (ky 0, 18, .inl o_v)), (q_x, .inl (ky 0, 18, .inl o_x)), (q_y, .inl (ky 0, 18, .inl o_y))] 0 0 := by
  refine MtV.of (cc := cX1_append) (maxL := 5) (by decide +kernel) rfl (Nat.le_of_ble_eq_true rfl) ?_
  intro p e R s m args below meth c A Q ls hR hx hb hts hown hnm hml hP hK hD hA ret hl
  have rt := rtV (dc := fun pc => decode cX1_append pc = .ok (.return_, 1)) (o_lines, o_u, o_v, o_x, o_y) (fun t => [(q_, .inr (1, [.int s_width, .int s_height, .int t.1, .ref q_x, .ref q_y, .ref q_u, .ref q_v])), (q_u, .inl (ky 0, 18, .inl t.2.1)), (q_v, .inl (ky 0, 18, .inl t.2.2.1)), (q_x, .inl (ky 0, 18, .inl t.2.2.2.1)), (q_y, .inl (ky 0, 18, .inl t.2.2.2.2))]) ret
  subst hR
  obtain ⟨H, hH⟩ : ∃ H, H = s.heap := ⟨_, rfl⟩
  obtain ⟨locs, hlocs⟩ : ∃ locs : List Loc, locs = [] := ⟨_, rfl⟩
  have hS : va_S A s.heap H locs := by rw [hH, hlocs]; exact va_S.rf
  rw [← hH] at hP
  suffices hgo : W p l e rmX1_append s m args below meth c H locs 0 0 Q (F0 m 0 ls []) by rw [hH, hlocs] at hgo; exact hgo
  clear hH hlocs
  replace hl : lv_has ls 5 [(0, .ref q_), (1, .int a1), (2, .int a2), (3, .int a3), (4, .int a4)] := hl
  replace hown : s.vm.findClass RX1 = some m.cls := hown
  have hi_X1 : ∀ w ∈ u_ws RX1 TX1 7, w ∈ wsX1_append := fun _ h9 => List.mem_cons_of_mem _ (List.mem_append_right _ h9)
  have hf_31 := hts (.fieldLink RX1 31 "GlazierBench$Drawing" "lines" "I") (by decide +kernel)
  have hf_9 := hts (.fieldLink RX1 9 "GlazierBench$Drawing" "x" "[I") (by decide +kernel)
  have hf_15 := hts (.fieldLink RX1 15 "GlazierBench$Drawing" "y" "[I") (by decide +kernel)
  have hf_18 := hts (.fieldLink RX1 18 "GlazierBench$Drawing" "u" "[I") (by decide +kernel)
  have hf_21 := hts (.fieldLink RX1 21 "GlazierBench$Drawing" "v" "[I") (by decide +kernel)
  unfold sX1_append at h
  refine lv_aload_n hx hb dX1_append_0 rfl (lv_at hl 0 rfl) ?_
  refine va_get (D := D) (ci := 1) (v := .int s_lines) (C := RX1) (T := TX1) (N := 7) hx hb hts hi_X1 hown hK.1 hP 0 rfl rfl 2 (by decide) hf_31 (fun _ h9 => h9) rfl dX1_append_1 ?_
  refine lv_bipush (v := 18) hx hb dX1_append_4 (by decide) ?_
  refine lv_icmp_lt (tgt := 10) hx hb dX1_append_6 (by decide) (fun hc => ?_) (fun hc => ?_)
  · replace h := if_t hc h
    refine lv_aload_n hx hb dX1_append_10 rfl (lv_at hl 0 rfl) ?_
    refine va_get (D := D) (ci := 1) (v := .ref q_x) (C := RX1) (T := TX1) (N := 7) hx hb hts hi_X1 hown hK.1 hP 0 rfl rfl 3 (by decide) hf_9 (fun _ h9 => h9) rfl dX1_append_11 ?_
    refine lv_aload_n hx hb dX1_append_14 rfl (lv_at hl 0 rfl) ?_
    refine va_get (D := D) (ci := 1) (v := .int s_lines) (C := RX1) (T := TX1) (N := 7) hx hb hts hi_X1 hown hK.1 hP 0 rfl rfl 2 (by decide) hf_31 (fun _ h9 => h9) rfl dX1_append_15 ?_
    refine lv_iload_n hx hb dX1_append_18 rfl (lv_at hl 1 rfl) ?_
    obtain ⟨hg, h⟩ := gd_of h
    refine r_iast hx hb hK.1 hP hD hS 3 0 rfl rfl hg dX1_append_19 (fun f1 ef1 H locs hP hD hS => ?_)
    replace h := lt_at ef1 h
    replace hP : va_P D vwCl [(q_, .inr (1, [.int s_width, .int s_height, .int s_lines, .ref q_x, .ref q_y, .ref q_u, .ref q_v])), (q_u, .inl (ky 0, 18, .inl s_u)), (q_v, .inl (ky 0, 18, .inl s_v)), (q_x, .inl (ky 0, 18, .inl f1)), (q_y, .inl (ky 0, 18, .inl s_y))] H := hP
    replace hD : va_D A [(q_, .inr (1, [.int s_width, .int s_height, .int s_lines, .ref q_x, .ref q_y, .ref q_u, .ref q_v])), (q_u, .inl (ky 0, 18, .inl s_u)), (q_v, .inl (ky 0, 18, .inl s_v)), (q_x, .inl (ky 0, 18, .inl f1)), (q_y, .inl (ky 0, 18, .inl s_y))] := hD
    refine lv_aload_n hx hb dX1_append_20 rfl (lv_at hl 0 rfl) ?_
    refine va_get (D := D) (ci := 1) (v := .ref q_y) (C := RX1) (T := TX1) (N := 7) hx hb hts hi_X1 hown hK.1 hP 0 rfl rfl 4 (by decide) hf_15 (fun _ h9 => h9) rfl dX1_append_21 ?_
    refine lv_aload_n hx hb dX1_append_24 rfl (lv_at hl 0 rfl) ?_
    refine va_get (D := D) (ci := 1) (v := .int s_lines) (C := RX1) (T := TX1) (N := 7) hx hb hts hi_X1 hown hK.1 hP 0 rfl rfl 2 (by decide) hf_31 (fun _ h9 => h9) rfl dX1_append_25 ?_
    refine lv_iload_n hx hb dX1_append_28 rfl (lv_at hl 2 rfl) ?_
    obtain ⟨hg, h⟩ := gd_of h
    refine r_iast hx hb hK.1 hP hD hS 4 0 rfl rfl hg dX1_append_29 (fun f2 ef2 H locs hP hD hS => ?_)
    replace h := lt_at ef2 h
    replace hP : va_P D vwCl [(q_, .inr (1, [.int s_width, .int s_height, .int s_lines, .ref q_x, .ref q_y, .ref q_u, .ref q_v])), (q_u, .inl (ky 0, 18, .inl s_u)), (q_v, .inl (ky 0, 18, .inl s_v)), (q_x, .inl (ky 0, 18, .inl f1)), (q_y, .inl (ky 0, 18, .inl f2))] H := hP
    replace hD : va_D A [(q_, .inr (1, [.int s_width, .int s_height, .int s_lines, .ref q_x, .ref q_y, .ref q_u, .ref q_v])), (q_u, .inl (ky 0, 18, .inl s_u)), (q_v, .inl (ky 0, 18, .inl s_v)), (q_x, .inl (ky 0, 18, .inl f1)), (q_y, .inl (ky 0, 18, .inl f2))] := hD
    refine lv_aload_n hx hb dX1_append_30 rfl (lv_at hl 0 rfl) ?_
    refine va_get (D := D) (ci := 1) (v := .ref q_u) (C := RX1) (T := TX1) (N := 7) hx hb hts hi_X1 hown hK.1 hP 0 rfl rfl 5 (by decide) hf_18 (fun _ h9 => h9) rfl dX1_append_31 ?_
    refine lv_aload_n hx hb dX1_append_34 rfl (lv_at hl 0 rfl) ?_
    refine va_get (D := D) (ci := 1) (v := .int s_lines) (C := RX1) (T := TX1) (N := 7) hx hb hts hi_X1 hown hK.1 hP 0 rfl rfl 2 (by decide) hf_31 (fun _ h9 => h9) rfl dX1_append_35 ?_
    refine lv_iload_n hx hb dX1_append_38 rfl (lv_at hl 3 rfl) ?_
    obtain ⟨hg, h⟩ := gd_of h
    refine r_iast hx hb hK.1 hP hD hS 1 0 rfl rfl hg dX1_append_39 (fun f3 ef3 H locs hP hD hS => ?_)
    replace h := lt_at ef3 h
    replace hP : va_P D vwCl [(q_, .inr (1, [.int s_width, .int s_height, .int s_lines, .ref q_x, .ref q_y, .ref q_u, .ref q_v])), (q_u, .inl (ky 0, 18, .inl f3)), (q_v, .inl (ky 0, 18, .inl s_v)), (q_x, .inl (ky 0, 18, .inl f1)), (q_y, .inl (ky 0, 18, .inl f2))] H := hP
    replace hD : va_D A [(q_, .inr (1, [.int s_width, .int s_height, .int s_lines, .ref q_x, .ref q_y, .ref q_u, .ref q_v])), (q_u, .inl (ky 0, 18, .inl f3)), (q_v, .inl (ky 0, 18, .inl s_v)), (q_x, .inl (ky 0, 18, .inl f1)), (q_y, .inl (ky 0, 18, .inl f2))] := hD
    refine lv_aload_n hx hb dX1_append_40 rfl (lv_at hl 0 rfl) ?_
    refine va_get (D := D) (ci := 1) (v := .ref q_v) (C := RX1) (T := TX1) (N := 7) hx hb hts hi_X1 hown hK.1 hP 0 rfl rfl 6 (by decide) hf_21 (fun _ h9 => h9) rfl dX1_append_41 ?_
    refine lv_aload_n hx hb dX1_append_44 rfl (lv_at hl 0 rfl) ?_
    refine va_get (D := D) (ci := 1) (v := .int s_lines) (C := RX1) (T := TX1) (N := 7) hx hb hts hi_X1 hown hK.1 hP 0 rfl rfl 2 (by decide) hf_31 (fun _ h9 => h9) rfl dX1_append_45 ?_
    refine lv_iload hx hb dX1_append_48 (lv_at hl 4 rfl) ?_
    obtain ⟨hg, h⟩ := gd_of h
    refine r_iast hx hb hK.1 hP hD hS 2 0 rfl rfl hg dX1_append_50 (fun f4 ef4 H locs hP hD hS => ?_)
    replace h := lt_at ef4 h
    replace hP : va_P D vwCl [(q_, .inr (1, [.int s_width, .int s_height, .int s_lines, .ref q_x, .ref q_y, .ref q_u, .ref q_v])), (q_u, .inl (ky 0, 18, .inl f3)), (q_v, .inl (ky 0, 18, .inl f4)), (q_x, .inl (ky 0, 18, .inl f1)), (q_y, .inl (ky 0, 18, .inl f2))] H := hP
    replace hD : va_D A [(q_, .inr (1, [.int s_width, .int s_height, .int s_lines, .ref q_x, .ref q_y, .ref q_u, .ref q_v])), (q_u, .inl (ky 0, 18, .inl f3)), (q_v, .inl (ky 0, 18, .inl f4)), (q_x, .inl (ky 0, 18, .inl f1)), (q_y, .inl (ky 0, 18, .inl f2))] := hD
    refine lv_aload_n hx hb dX1_append_51 rfl (lv_at hl 0 rfl) ?_
    refine lv_dup hx hb dX1_append_52 rfl ?_
    refine va_get (D := D) (ci := 1) (v := .int s_lines) (C := RX1) (T := TX1) (N := 7) hx hb hts hi_X1 hown hK.1 hP 0 rfl rfl 2 (by decide) hf_31 (fun _ h9 => h9) rfl dX1_append_53 ?_
    refine lv_iconst (v := 1) hx hb dX1_append_56 (by decide) ?_
    refine lv_iadd hx hb dX1_append_57 ?_
    refine lv_topi (fun x5 ex5 => ?_)
    replace h := lt_at ex5 h
    refine va_put (D := D) (ci := 1) (v := .int x5) (ty := .int) (C := RX1) (T := TX1) (N := 7) hx hb hts hi_X1 tyX1 tyX1_ok nmX1 hown hK.1 hP hD hS 0 rfl rfl 2 (by decide) hf_31 (fun _ h9 => h9) rfl (by decide +kernel) rfl rfl (Nat.le_of_ble_eq_true rfl) dX1_append_58 (fun H locs hP hD hS => ?_)
    replace hP : va_P D vwCl [(q_, .inr (1, [.int s_width, .int s_height, .int x5, .ref q_x, .ref q_y, .ref q_u, .ref q_v])), (q_u, .inl (ky 0, 18, .inl f3)), (q_v, .inl (ky 0, 18, .inl f4)), (q_x, .inl (ky 0, 18, .inl f1)), (q_y, .inl (ky 0, 18, .inl f2))] H := hP
    replace hD : va_D A [(q_, .inr (1, [.int s_width, .int s_height, .int x5, .ref q_x, .ref q_y, .ref q_u, .ref q_v])), (q_u, .inl (ky 0, 18, .inl f3)), (q_v, .inl (ky 0, 18, .inl f4)), (q_x, .inl (ky 0, 18, .inl f1)), (q_y, .inl (ky 0, 18, .inl f2))] := hD
    exact rt _ h _ _ _ _ dX1_append_61 hP hD hS
  · replace h := if_f hc h
    exact rt _ h _ _ _ _ dX1_append_9 hP hD hS

def sX1_open (a1 : Int32) (a2 : Int32) (s_width : Int32) (s_height : Int32) (s_lines : Int32) (s_u : Nat → Int32) (s_v : Nat → Int32) (s_x : Nat → Int32) (s_y : Nat → Int32) : Option (Int32 × Int32 × Int32 × (Nat → Int32) × (Nat → Int32) × (Nat → Int32) × (Nat → Int32)) := ob (sX1_append (0 : Int32) (0 : Int32) a1 (0 : Int32) (0 : Int32) s_u s_v s_x s_y) (fun o => dm5 o (fun (o1 : Int32) (o2 : Nat → Int32) (o3 : Nat → Int32) (o4 : Nat → Int32) (o5 : Nat → Int32) => ob (sX1_append a1 (0 : Int32) a1 a2 o1 o2 o3 o4 o5) (fun o => dm5 o (fun (o6 : Int32) (o7 : Nat → Int32) (o8 : Nat → Int32) (o9 : Nat → Int32) (o10 : Nat → Int32) => ob (sX1_append (0 : Int32) a2 a1 a2 o6 o7 o8 o9 o10) (fun o => dm5 o (fun (o11 : Int32) (o12 : Nat → Int32) (o13 : Nat → Int32) (o14 : Nat → Int32) (o15 : Nat → Int32) => ob (sX1_append (0 : Int32) (0 : Int32) (0 : Int32) a2 o11 o12 o13 o14 o15) (fun o => dm5 o (fun (o16 : Int32) (o17 : Nat → Int32) (o18 : Nat → Int32) (o19 : Nat → Int32) (o20 : Nat → Int32) => some (a1, a2, o16, o17, o18, o19, o20)))))))))
abbrev rmX1_open : Room := { frames := 1, cells := 0, slots := 0, locals := 24 }
set_option maxHeartbeats 4000000 in
set_option maxRecDepth 100000 in
theorem c_X1_open (l : Launch) (D : va_G) (ky : Nat → ClassId) (q_ q_x q_y q_u q_v : Nat) (a1 : Int32) (a2 : Int32) (s_width : Int32) (s_height : Int32) (s_lines : Int32) (s_u : Nat → Int32) (s_v : Nat → Int32) (s_x : Nat → Int32) (s_y : Nat → Int32) {o_width : Int32} {o_height : Int32} {o_lines : Int32} {o_u : Nat → Int32} {o_v : Nat → Int32} {o_x : Nat → Int32} {o_y : Nat → Int32} (h : sX1_open a1 a2 s_width s_height s_lines s_u s_v s_x s_y = some (o_width, o_height, o_lines, o_u, o_v, o_x, o_y)) : MtV l D ky yX1_open wsX1_open rmX1_open [.ref q_, .int a1, .int a2] [(q_, .inr (1, [.int s_width, .int s_height, .int s_lines, .ref q_x, .ref q_y, .ref q_u, .ref q_v])), (q_u, .inl (ky 0, 18, .inl s_u)), (q_v, .inl (ky 0, 18, .inl s_v)), (q_x, .inl (ky 0, 18, .inl s_x)), (q_y, .inl (ky 0, 18, .inl s_y))] [(q_, .inr (1, [.int o_width, .int o_height, .int o_lines, .ref q_x, .ref q_y, .ref q_u, .ref q_v])), (q_u, .inl (ky 0, 18, .inl o_u)), (q_v, .inl (ky 0, 18, .inl o_v)), (q_x, .inl (ky 0, 18, .inl o_x)), (q_y, .inl (ky 0, 18, .inl o_y))] 0 0 := by
  refine MtV.of (cc := cX1_open) (maxL := 3) (by decide +kernel) rfl (Nat.le_of_ble_eq_true rfl) ?_
  intro p e R s m args below meth c A Q ls hR hx hb hts hown hnm hml hP hK hD hA ret hl
  have rt := rtV (dc := fun pc => decode cX1_open pc = .ok (.return_, 1)) (o_width, o_height, o_lines, o_u, o_v, o_x, o_y) (fun t => [(q_, .inr (1, [.int t.1, .int t.2.1, .int t.2.2.1, .ref q_x, .ref q_y, .ref q_u, .ref q_v])), (q_u, .inl (ky 0, 18, .inl t.2.2.2.1)), (q_v, .inl (ky 0, 18, .inl t.2.2.2.2.1)), (q_x, .inl (ky 0, 18, .inl t.2.2.2.2.2.1)), (q_y, .inl (ky 0, 18, .inl t.2.2.2.2.2.2))]) ret
  subst hR
  obtain ⟨H, hH⟩ : ∃ H, H = s.heap := ⟨_, rfl⟩
  obtain ⟨locs, hlocs⟩ : ∃ locs : List Loc, locs = [] := ⟨_, rfl⟩
  have hS : va_S A s.heap H locs := by rw [hH, hlocs]; exact va_S.rf
  rw [← hH] at hP
  suffices hgo : W p l e rmX1_open s m args below meth c H locs 0 0 Q (F0 m 0 ls []) by rw [hH, hlocs] at hgo; exact hgo
  clear hH hlocs
  replace hl : lv_has ls 3 [(0, .ref q_), (1, .int a1), (2, .int a2)] := hl
  replace hown : s.vm.findClass RX1 = some m.cls := hown
  have hi_X1 : ∀ w ∈ u_ws RX1 TX1 7, w ∈ wsX1_open := fun _ h9 => List.mem_cons_of_mem _ (List.mem_append_right _ h9)
  have hf_24 := hts (.fieldLink RX1 24 "GlazierBench$Drawing" "width" "I") (by decide +kernel)
  have hf_28 := hts (.fieldLink RX1 28 "GlazierBench$Drawing" "height" "I") (by decide +kernel)
  have hf_31 := hts (.fieldLink RX1 31 "GlazierBench$Drawing" "lines" "I") (by decide +kernel)
  unfold sX1_open at h
  refine lv_aload_n hx hb dX1_open_0 rfl (lv_at hl 0 rfl) ?_
  refine lv_iload_n hx hb dX1_open_1 rfl (lv_at hl 1 rfl) ?_
  refine va_put (D := D) (ci := 1) (v := .int a1) (ty := .int) (C := RX1) (T := TX1) (N := 7) hx hb hts hi_X1 tyX1 tyX1_ok nmX1 hown hK.1 hP hD hS 0 rfl rfl 0 (by decide) hf_24 (fun _ h9 => h9) rfl (by decide +kernel) rfl rfl (Nat.le_of_ble_eq_true rfl) dX1_open_2 (fun H locs hP hD hS => ?_)
  replace hP : va_P D vwCl [(q_, .inr (1, [.int a1, .int s_height, .int s_lines, .ref q_x, .ref q_y, .ref q_u, .ref q_v])), (q_u, .inl (ky 0, 18, .inl s_u)), (q_v, .inl (ky 0, 18, .inl s_v)), (q_x, .inl (ky 0, 18, .inl s_x)), (q_y, .inl (ky 0, 18, .inl s_y))] H := hP
  replace hD : va_D A [(q_, .inr (1, [.int a1, .int s_height, .int s_lines, .ref q_x, .ref q_y, .ref q_u, .ref q_v])), (q_u, .inl (ky 0, 18, .inl s_u)), (q_v, .inl (ky 0, 18, .inl s_v)), (q_x, .inl (ky 0, 18, .inl s_x)), (q_y, .inl (ky 0, 18, .inl s_y))] := hD
  refine lv_aload_n hx hb dX1_open_5 rfl (lv_at hl 0 rfl) ?_
  refine lv_iload_n hx hb dX1_open_6 rfl (lv_at hl 2 rfl) ?_
  refine va_put (D := D) (ci := 1) (v := .int a2) (ty := .int) (C := RX1) (T := TX1) (N := 7) hx hb hts hi_X1 tyX1 tyX1_ok nmX1 hown hK.1 hP hD hS 0 rfl rfl 1 (by decide) hf_28 (fun _ h9 => h9) rfl (by decide +kernel) rfl rfl (Nat.le_of_ble_eq_true rfl) dX1_open_7 (fun H locs hP hD hS => ?_)
  replace hP : va_P D vwCl [(q_, .inr (1, [.int a1, .int a2, .int s_lines, .ref q_x, .ref q_y, .ref q_u, .ref q_v])), (q_u, .inl (ky 0, 18, .inl s_u)), (q_v, .inl (ky 0, 18, .inl s_v)), (q_x, .inl (ky 0, 18, .inl s_x)), (q_y, .inl (ky 0, 18, .inl s_y))] H := hP
  replace hD : va_D A [(q_, .inr (1, [.int a1, .int a2, .int s_lines, .ref q_x, .ref q_y, .ref q_u, .ref q_v])), (q_u, .inl (ky 0, 18, .inl s_u)), (q_v, .inl (ky 0, 18, .inl s_v)), (q_x, .inl (ky 0, 18, .inl s_x)), (q_y, .inl (ky 0, 18, .inl s_y))] := hD
  refine lv_aload_n hx hb dX1_open_10 rfl (lv_at hl 0 rfl) ?_
  refine lv_iconst (v := 0) hx hb dX1_open_11 (by decide) ?_
  refine va_put (D := D) (ci := 1) (v := .int (0 : Int32)) (ty := .int) (C := RX1) (T := TX1) (N := 7) hx hb hts hi_X1 tyX1 tyX1_ok nmX1 hown hK.1 hP hD hS 0 rfl rfl 2 (by decide) hf_31 (fun _ h9 => h9) rfl (by decide +kernel) rfl rfl (Nat.le_of_ble_eq_true rfl) dX1_open_12 (fun H locs hP hD hS => ?_)
  replace hP : va_P D vwCl [(q_, .inr (1, [.int a1, .int a2, .int (0 : Int32), .ref q_x, .ref q_y, .ref q_u, .ref q_v])), (q_u, .inl (ky 0, 18, .inl s_u)), (q_v, .inl (ky 0, 18, .inl s_v)), (q_x, .inl (ky 0, 18, .inl s_x)), (q_y, .inl (ky 0, 18, .inl s_y))] H := hP
  replace hD : va_D A [(q_, .inr (1, [.int a1, .int a2, .int (0 : Int32), .ref q_x, .ref q_y, .ref q_u, .ref q_v])), (q_u, .inl (ky 0, 18, .inl s_u)), (q_v, .inl (ky 0, 18, .inl s_v)), (q_x, .inl (ky 0, 18, .inl s_x)), (q_y, .inl (ky 0, 18, .inl s_y))] := hD
  refine lv_aload_n hx hb dX1_open_15 rfl (lv_at hl 0 rfl) ?_
  refine lv_iconst (v := 0) hx hb dX1_open_16 (by decide) ?_
  refine lv_iconst (v := 0) hx hb dX1_open_17 (by decide) ?_
  refine lv_iload_n hx hb dX1_open_18 rfl (lv_at hl 1 rfl) ?_
  refine lv_iconst (v := 0) hx hb dX1_open_19 (by decide) ?_
  obtain ⟨⟨o1, o2, o3, o4, o5⟩, hc, h⟩ := ob_of h
  replace h := dm5_of h
  refine cv_v (As := [.int (0 : Int32), .int (0 : Int32), .int a1, .int (0 : Int32)]) (rest := []) (wr := []) (wn := [(q_, .inr (1, [.int a1, .int a2, .int o1, .ref q_x, .ref q_y, .ref q_u, .ref q_v])), (q_u, .inl (ky 0, 18, .inl o2)), (q_v, .inl (ky 0, 18, .inl o3)), (q_x, .inl (ky 0, 18, .inl o4)), (q_y, .inl (ky 0, 18, .inl o5))]) ⟨hx, hb, hml, hown, hts⟩ (c_X1_append l D ky q_ q_x q_y q_u q_v (0 : Int32) (0 : Int32) a1 (0 : Int32) a1 a2 (0 : Int32) s_u s_v s_x s_y hc) (cwV 4 hts gX1_open_X1_append rfl rfl rfl (by decide +kernel) ⟨Nat.le_of_ble_eq_true rfl, Nat.le_of_ble_eq_true rfl⟩) (rcv hK.1 hP (q0 := 0) rfl rfl) hP hD hK hS hA [0, 1, 2, 3, 4] [] [0, 1, 2, 3, 4] rfl (by decide +kernel) rfl (by decide +kernel) (by decide +kernel) (by decide +kernel) rfl rfl rfl hl.1 (Nat.le_of_ble_eq_true rfl) dX1_open_20 ⟨Nat.le_of_ble_eq_true rfl, Nat.le_of_ble_eq_true rfl⟩ (fun H locs hP hD hS => ?_)
  refine lv_aload_n hx hb dX1_open_23 rfl (lv_at hl 0 rfl) ?_
  refine lv_iload_n hx hb dX1_open_24 rfl (lv_at hl 1 rfl) ?_
  refine lv_iconst (v := 0) hx hb dX1_open_25 (by decide) ?_
  refine lv_iload_n hx hb dX1_open_26 rfl (lv_at hl 1 rfl) ?_
  refine lv_iload_n hx hb dX1_open_27 rfl (lv_at hl 2 rfl) ?_
  obtain ⟨⟨o6, o7, o8, o9, o10⟩, hc, h⟩ := ob_of h
  replace h := dm5_of h
  refine cv_v (As := [.int a1, .int (0 : Int32), .int a1, .int a2]) (rest := []) (wr := []) (wn := [(q_, .inr (1, [.int a1, .int a2, .int o6, .ref q_x, .ref q_y, .ref q_u, .ref q_v])), (q_u, .inl (ky 0, 18, .inl o7)), (q_v, .inl (ky 0, 18, .inl o8)), (q_x, .inl (ky 0, 18, .inl o9)), (q_y, .inl (ky 0, 18, .inl o10))]) ⟨hx, hb, hml, hown, hts⟩ (c_X1_append l D ky q_ q_x q_y q_u q_v a1 (0 : Int32) a1 a2 a1 a2 o1 o2 o3 o4 o5 hc) (cwV 4 hts gX1_open_X1_append rfl rfl rfl (by decide +kernel) ⟨Nat.le_of_ble_eq_true rfl, Nat.le_of_ble_eq_true rfl⟩) (rcv hK.1 hP (q0 := 0) rfl rfl) hP hD hK hS hA [0, 1, 2, 3, 4] [] [0, 1, 2, 3, 4] rfl (by decide +kernel) rfl (by decide +kernel) (by decide +kernel) (by decide +kernel) rfl rfl rfl hl.1 (Nat.le_of_ble_eq_true rfl) dX1_open_28 ⟨Nat.le_of_ble_eq_true rfl, Nat.le_of_ble_eq_true rfl⟩ (fun H locs hP hD hS => ?_)
  refine lv_aload_n hx hb dX1_open_31 rfl (lv_at hl 0 rfl) ?_
  refine lv_iconst (v := 0) hx hb dX1_open_32 (by decide) ?_
  refine lv_iload_n hx hb dX1_open_33 rfl (lv_at hl 2 rfl) ?_
  refine lv_iload_n hx hb dX1_open_34 rfl (lv_at hl 1 rfl) ?_
  refine lv_iload_n hx hb dX1_open_35 rfl (lv_at hl 2 rfl) ?_
  obtain ⟨⟨o11, o12, o13, o14, o15⟩, hc, h⟩ := ob_of h
  replace h := dm5_of h
  refine cv_v (As := [.int (0 : Int32), .int a2, .int a1, .int a2]) (rest := []) (wr := []) (wn := [(q_, .inr (1, [.int a1, .int a2, .int o11, .ref q_x, .ref q_y, .ref q_u, .ref q_v])), (q_u, .inl (ky 0, 18, .inl o12)), (q_v, .inl (ky 0, 18, .inl o13)), (q_x, .inl (ky 0, 18, .inl o14)), (q_y, .inl (ky 0, 18, .inl o15))]) ⟨hx, hb, hml, hown, hts⟩ (c_X1_append l D ky q_ q_x q_y q_u q_v (0 : Int32) a2 a1 a2 a1 a2 o6 o7 o8 o9 o10 hc) (cwV 4 hts gX1_open_X1_append rfl rfl rfl (by decide +kernel) ⟨Nat.le_of_ble_eq_true rfl, Nat.le_of_ble_eq_true rfl⟩) (rcv hK.1 hP (q0 := 0) rfl rfl) hP hD hK hS hA [0, 1, 2, 3, 4] [] [0, 1, 2, 3, 4] rfl (by decide +kernel) rfl (by decide +kernel) (by decide +kernel) (by decide +kernel) rfl rfl rfl hl.1 (Nat.le_of_ble_eq_true rfl) dX1_open_36 ⟨Nat.le_of_ble_eq_true rfl, Nat.le_of_ble_eq_true rfl⟩ (fun H locs hP hD hS => ?_)
  refine lv_aload_n hx hb dX1_open_39 rfl (lv_at hl 0 rfl) ?_
  refine lv_iconst (v := 0) hx hb dX1_open_40 (by decide) ?_
  refine lv_iconst (v := 0) hx hb dX1_open_41 (by decide) ?_
  refine lv_iconst (v := 0) hx hb dX1_open_42 (by decide) ?_
  refine lv_iload_n hx hb dX1_open_43 rfl (lv_at hl 2 rfl) ?_
  obtain ⟨⟨o16, o17, o18, o19, o20⟩, hc, h⟩ := ob_of h
  replace h := dm5_of h
  refine cv_v (As := [.int (0 : Int32), .int (0 : Int32), .int (0 : Int32), .int a2]) (rest := []) (wr := []) (wn := [(q_, .inr (1, [.int a1, .int a2, .int o16, .ref q_x, .ref q_y, .ref q_u, .ref q_v])), (q_u, .inl (ky 0, 18, .inl o17)), (q_v, .inl (ky 0, 18, .inl o18)), (q_x, .inl (ky 0, 18, .inl o19)), (q_y, .inl (ky 0, 18, .inl o20))]) ⟨hx, hb, hml, hown, hts⟩ (c_X1_append l D ky q_ q_x q_y q_u q_v (0 : Int32) (0 : Int32) (0 : Int32) a2 a1 a2 o11 o12 o13 o14 o15 hc) (cwV 4 hts gX1_open_X1_append rfl rfl rfl (by decide +kernel) ⟨Nat.le_of_ble_eq_true rfl, Nat.le_of_ble_eq_true rfl⟩) (rcv hK.1 hP (q0 := 0) rfl rfl) hP hD hK hS hA [0, 1, 2, 3, 4] [] [0, 1, 2, 3, 4] rfl (by decide +kernel) rfl (by decide +kernel) (by decide +kernel) (by decide +kernel) rfl rfl rfl hl.1 (Nat.le_of_ble_eq_true rfl) dX1_open_44 ⟨Nat.le_of_ble_eq_true rfl, Nat.le_of_ble_eq_true rfl⟩ (fun H locs hP hD hS => ?_)
  exact rt _ h _ _ _ _ dX1_open_47 hP hD hS

def sX1_isThere  (s_width : Int32) : Option (Int32) := if s_width ≤ 0 then some (0 : Int32) else some (1 : Int32)
abbrev rmX1_isThere : Room := { frames := 0, cells := 0, slots := 0, locals := 0 }
set_option maxHeartbeats 4000000 in
set_option maxRecDepth 100000 in
theorem c_X1_isThere (l : Launch) (D : va_G) (ky : Nat → ClassId) (q_ q_x q_y q_u q_v : Nat) (s_width : Int32) (s_height : Int32) (s_lines : Int32) {o_r : Int32} (h : sX1_isThere s_width = some o_r) : MtI l D ky yX1_isThere wsX1_isThere rmX1_isThere [.ref q_] [(q_, .inr (1, [.int s_width, .int s_height, .int s_lines, .ref q_x, .ref q_y, .ref q_u, .ref q_v]))] [(q_, .inr (1, [.int s_width, .int s_height, .int s_lines, .ref q_x, .ref q_y, .ref q_u, .ref q_v]))] o_r 0 0 := by
  refine MtI.ofB (cc := cX1_isThere) (maxL := 1) (by decide +kernel) rfl (Nat.le_of_ble_eq_true rfl) ?_
  intro p e R s m args below meth c A Q ls hR hx hb hts hown hnm hml hP hK hD hA ret hl
  subst hR
  obtain ⟨H, hH⟩ : ∃ H, H = s.heap := ⟨_, rfl⟩
  obtain ⟨locs, hlocs⟩ : ∃ locs : List Loc, locs = [] := ⟨_, rfl⟩
  have hS : va_S A s.heap H locs := by rw [hH, hlocs]; exact va_S.rf
  rw [← hH] at hP
  suffices hgo : W p l e rmX1_isThere s m args below meth c H locs 0 0 Q (F0 m 0 ls []) by rw [hH, hlocs] at hgo; exact hgo
  clear hH hlocs
  replace hl : lv_has ls 1 [(0, .ref q_)] := hl
  replace hown : s.vm.findClass RX1 = some m.cls := hown
  have hi_X1 : ∀ w ∈ u_ws RX1 TX1 7, w ∈ wsX1_isThere := fun _ h9 => List.mem_cons_of_mem _ (List.mem_append_right _ h9)
  have hf_24 := hts (.fieldLink RX1 24 "GlazierBench$Drawing" "width" "I") (by decide +kernel)
  unfold sX1_isThere at h
  refine lv_aload_n hx hb dX1_isThere_0 rfl (lv_at hl 0 rfl) ?_
  refine va_get (D := D) (ci := 1) (v := .int s_width) (C := RX1) (T := TX1) (N := 7) hx hb hts hi_X1 hown hK.1 hP 0 rfl rfl 0 (by decide) hf_24 (fun _ h9 => h9) rfl dX1_isThere_1 ?_
  refine lv_if_le (tgt := 11) hx hb dX1_isThere_4 (by decide) (fun hc => ?_) (fun hc => ?_)
  · replace h := if_t hc h
    refine lv_iconst (v := 0) hx hb dX1_isThere_11 (by decide) ?_
    cases h
    exact ret _ _ _ _ (Or.inl rfl) dX1_isThere_12 hP hD hS
  · replace h := if_f hc h
    refine lv_iconst (v := 1) hx hb dX1_isThere_7 (by decide) ?_
    refine lv_goto (tgt := 12) hx hb dX1_isThere_8 (by decide) ?_
    cases h
    exact ret _ _ _ _ (Or.inr rfl) dX1_isThere_12 hP hD hS

def sX1_hasPoint (a1 : Int32) (a2 : Int32) (s_width : Int32) (s_height : Int32) : Option (Int32) := if a1 < 0 then some (0 : Int32) else if s_width < a1 then some (0 : Int32) else if a2 < 0 then some (0 : Int32) else if s_height < a2 then some (0 : Int32) else some (1 : Int32)
abbrev rmX1_hasPoint : Room := { frames := 0, cells := 0, slots := 0, locals := 0 }
set_option maxHeartbeats 4000000 in
set_option maxRecDepth 100000 in
theorem c_X1_hasPoint (l : Launch) (D : va_G) (ky : Nat → ClassId) (q_ q_x q_y q_u q_v : Nat) (a1 : Int32) (a2 : Int32) (s_width : Int32) (s_height : Int32) (s_lines : Int32) {o_r : Int32} (h : sX1_hasPoint a1 a2 s_width s_height = some o_r) : MtI l D ky yX1_hasPoint wsX1_hasPoint rmX1_hasPoint [.ref q_, .int a1, .int a2] [(q_, .inr (1, [.int s_width, .int s_height, .int s_lines, .ref q_x, .ref q_y, .ref q_u, .ref q_v]))] [(q_, .inr (1, [.int s_width, .int s_height, .int s_lines, .ref q_x, .ref q_y, .ref q_u, .ref q_v]))] o_r 0 0 := by
  refine MtI.ofB (cc := cX1_hasPoint) (maxL := 3) (by decide +kernel) rfl (Nat.le_of_ble_eq_true rfl) ?_
  intro p e R s m args below meth c A Q ls hR hx hb hts hown hnm hml hP hK hD hA ret hl
  subst hR
  obtain ⟨H, hH⟩ : ∃ H, H = s.heap := ⟨_, rfl⟩
  obtain ⟨locs, hlocs⟩ : ∃ locs : List Loc, locs = [] := ⟨_, rfl⟩
  have hS : va_S A s.heap H locs := by rw [hH, hlocs]; exact va_S.rf
  rw [← hH] at hP
  suffices hgo : W p l e rmX1_hasPoint s m args below meth c H locs 0 0 Q (F0 m 0 ls []) by rw [hH, hlocs] at hgo; exact hgo
  clear hH hlocs
  replace hl : lv_has ls 3 [(0, .ref q_), (1, .int a1), (2, .int a2)] := hl
  replace hown : s.vm.findClass RX1 = some m.cls := hown
  have hi_X1 : ∀ w ∈ u_ws RX1 TX1 7, w ∈ wsX1_hasPoint := fun _ h9 => List.mem_cons_of_mem _ (List.mem_append_right _ h9)
  have hf_24 := hts (.fieldLink RX1 24 "GlazierBench$Drawing" "width" "I") (by decide +kernel)
  have hf_28 := hts (.fieldLink RX1 28 "GlazierBench$Drawing" "height" "I") (by decide +kernel)
  unfold sX1_hasPoint at h
  refine lv_iload_n hx hb dX1_hasPoint_0 rfl (lv_at hl 1 rfl) ?_
  refine lv_if_lt (tgt := 28) hx hb dX1_hasPoint_1 (by decide) (fun hc => ?_) (fun hc => ?_)
  · replace h := if_t hc h
    refine lv_iconst (v := 0) hx hb dX1_hasPoint_28 (by decide) ?_
    cases h
    exact ret _ _ _ _ (Or.inl rfl) dX1_hasPoint_29 hP hD hS
  · replace h := if_f hc h
    refine lv_iload_n hx hb dX1_hasPoint_4 rfl (lv_at hl 1 rfl) ?_
    refine lv_aload_n hx hb dX1_hasPoint_5 rfl (lv_at hl 0 rfl) ?_
    refine va_get (D := D) (ci := 1) (v := .int s_width) (C := RX1) (T := TX1) (N := 7) hx hb hts hi_X1 hown hK.1 hP 0 rfl rfl 0 (by decide) hf_24 (fun _ h9 => h9) rfl dX1_hasPoint_6 ?_
    refine lv_icmp_gt (tgt := 28) hx hb dX1_hasPoint_9 (by decide) (fun hc => ?_) (fun hc => ?_)
    · replace h := if_t hc h
      refine lv_iconst (v := 0) hx hb dX1_hasPoint_28 (by decide) ?_
      cases h
      exact ret _ _ _ _ (Or.inl rfl) dX1_hasPoint_29 hP hD hS
    · replace h := if_f hc h
      refine lv_iload_n hx hb dX1_hasPoint_12 rfl (lv_at hl 2 rfl) ?_
      refine lv_if_lt (tgt := 28) hx hb dX1_hasPoint_13 (by decide) (fun hc => ?_) (fun hc => ?_)
      · replace h := if_t hc h
        refine lv_iconst (v := 0) hx hb dX1_hasPoint_28 (by decide) ?_
        cases h
        exact ret _ _ _ _ (Or.inl rfl) dX1_hasPoint_29 hP hD hS
      · replace h := if_f hc h
        refine lv_iload_n hx hb dX1_hasPoint_16 rfl (lv_at hl 2 rfl) ?_
        refine lv_aload_n hx hb dX1_hasPoint_17 rfl (lv_at hl 0 rfl) ?_
        refine va_get (D := D) (ci := 1) (v := .int s_height) (C := RX1) (T := TX1) (N := 7) hx hb hts hi_X1 hown hK.1 hP 0 rfl rfl 1 (by decide) hf_28 (fun _ h9 => h9) rfl dX1_hasPoint_18 ?_
        refine lv_icmp_gt (tgt := 28) hx hb dX1_hasPoint_21 (by decide) (fun hc => ?_) (fun hc => ?_)
        · replace h := if_t hc h
          refine lv_iconst (v := 0) hx hb dX1_hasPoint_28 (by decide) ?_
          cases h
          exact ret _ _ _ _ (Or.inl rfl) dX1_hasPoint_29 hP hD hS
        · replace h := if_f hc h
          refine lv_iconst (v := 1) hx hb dX1_hasPoint_24 (by decide) ?_
          refine lv_goto (tgt := 29) hx hb dX1_hasPoint_25 (by decide) ?_
          cases h
          exact ret _ _ _ _ (Or.inr rfl) dX1_hasPoint_29 hP hD hS

def sX1_leads  (s_lines : Int32) : Option (Int32) := some (s_lines - (4 : Int32))
abbrev rmX1_leads : Room := { frames := 0, cells := 0, slots := 0, locals := 0 }
set_option maxHeartbeats 4000000 in
set_option maxRecDepth 100000 in
theorem c_X1_leads (l : Launch) (D : va_G) (ky : Nat → ClassId) (q_ q_x q_y q_u q_v : Nat) (s_width : Int32) (s_height : Int32) (s_lines : Int32) {o_r : Int32} (h : sX1_leads s_lines = some o_r) : MtI l D ky yX1_leads wsX1_leads rmX1_leads [.ref q_] [(q_, .inr (1, [.int s_width, .int s_height, .int s_lines, .ref q_x, .ref q_y, .ref q_u, .ref q_v]))] [(q_, .inr (1, [.int s_width, .int s_height, .int s_lines, .ref q_x, .ref q_y, .ref q_u, .ref q_v]))] o_r 0 0 := by
  refine MtI.of (cc := cX1_leads) (maxL := 1) (by decide +kernel) rfl (Nat.le_of_ble_eq_true rfl) ?_
  intro p e R s m args below meth c A Q ls hR hx hb hts hown hnm hml hP hK hD hA ret hl
  subst hR
  obtain ⟨H, hH⟩ : ∃ H, H = s.heap := ⟨_, rfl⟩
  obtain ⟨locs, hlocs⟩ : ∃ locs : List Loc, locs = [] := ⟨_, rfl⟩
  have hS : va_S A s.heap H locs := by rw [hH, hlocs]; exact va_S.rf
  rw [← hH] at hP
  suffices hgo : W p l e rmX1_leads s m args below meth c H locs 0 0 Q (F0 m 0 ls []) by rw [hH, hlocs] at hgo; exact hgo
  clear hH hlocs
  replace hl : lv_has ls 1 [(0, .ref q_)] := hl
  replace hown : s.vm.findClass RX1 = some m.cls := hown
  have hi_X1 : ∀ w ∈ u_ws RX1 TX1 7, w ∈ wsX1_leads := fun _ h9 => List.mem_cons_of_mem _ (List.mem_append_right _ h9)
  have hf_31 := hts (.fieldLink RX1 31 "GlazierBench$Drawing" "lines" "I") (by decide +kernel)
  unfold sX1_leads at h
  refine lv_aload_n hx hb dX1_leads_0 rfl (lv_at hl 0 rfl) ?_
  refine va_get (D := D) (ci := 1) (v := .int s_lines) (C := RX1) (T := TX1) (N := 7) hx hb hts hi_X1 hown hK.1 hP 0 rfl rfl 2 (by decide) hf_31 (fun _ h9 => h9) rfl dX1_leads_1 ?_
  refine lv_iconst (v := 4) hx hb dX1_leads_4 (by decide) ?_
  refine lv_isub hx hb dX1_leads_5 ?_
  cases h
  exact ret _ _ _ _ dX1_leads_6 hP hD hS

def sX1_dropLatest  (s_lines : Int32) : Option (Int32) := if s_lines ≤ (4 : Int32) then some s_lines else lt (s_lines - (1 : Int32)) (fun x1 => some x1)
abbrev rmX1_dropLatest : Room := { frames := 0, cells := 0, slots := 0, locals := 0 }
set_option maxHeartbeats 4000000 in
set_option maxRecDepth 100000 in
theorem c_X1_dropLatest (l : Launch) (D : va_G) (ky : Nat → ClassId) (q_ q_x q_y q_u q_v : Nat) (s_width : Int32) (s_height : Int32) (s_lines : Int32) {o_lines : Int32} (h : sX1_dropLatest s_lines = some o_lines) : MtV l D ky yX1_dropLatest wsX1_dropLatest rmX1_dropLatest [.ref q_] [(q_, .inr (1, [.int s_width, .int s_height, .int s_lines, .ref q_x, .ref q_y, .ref q_u, .ref q_v]))] [(q_, .inr (1, [.int s_width, .int s_height, .int o_lines, .ref q_x, .ref q_y, .ref q_u, .ref q_v]))] 0 0 := by
  refine MtV.of (cc := cX1_dropLatest) (maxL := 1) (by decide +kernel) rfl (Nat.le_of_ble_eq_true rfl) ?_
  intro p e R s m args below meth c A Q ls hR hx hb hts hown hnm hml hP hK hD hA ret hl
  subst hR
  obtain ⟨H, hH⟩ : ∃ H, H = s.heap := ⟨_, rfl⟩
  obtain ⟨locs, hlocs⟩ : ∃ locs : List Loc, locs = [] := ⟨_, rfl⟩
  have hS : va_S A s.heap H locs := by rw [hH, hlocs]; exact va_S.rf
  rw [← hH] at hP
  suffices hgo : W p l e rmX1_dropLatest s m args below meth c H locs 0 0 Q (F0 m 0 ls []) by rw [hH, hlocs] at hgo; exact hgo
  clear hH hlocs
  replace hl : lv_has ls 1 [(0, .ref q_)] := hl
  replace hown : s.vm.findClass RX1 = some m.cls := hown
  have hi_X1 : ∀ w ∈ u_ws RX1 TX1 7, w ∈ wsX1_dropLatest := fun _ h9 => List.mem_cons_of_mem _ (List.mem_append_right _ h9)
  have hf_31 := hts (.fieldLink RX1 31 "GlazierBench$Drawing" "lines" "I") (by decide +kernel)
  unfold sX1_dropLatest at h
  refine lv_aload_n hx hb dX1_dropLatest_0 rfl (lv_at hl 0 rfl) ?_
  refine va_get (D := D) (ci := 1) (v := .int s_lines) (C := RX1) (T := TX1) (N := 7) hx hb hts hi_X1 hown hK.1 hP 0 rfl rfl 2 (by decide) hf_31 (fun _ h9 => h9) rfl dX1_dropLatest_1 ?_
  refine lv_iconst (v := 4) hx hb dX1_dropLatest_4 (by decide) ?_
  refine lv_icmp_le (tgt := 18) hx hb dX1_dropLatest_5 (by decide) (fun hc => ?_) (fun hc => ?_)
  · replace h := if_t hc h
    cases h
    exact ret _ _ _ _ dX1_dropLatest_18 hP hD hS
  · replace h := if_f hc h
    refine lv_aload_n hx hb dX1_dropLatest_8 rfl (lv_at hl 0 rfl) ?_
    refine lv_dup hx hb dX1_dropLatest_9 rfl ?_
    refine va_get (D := D) (ci := 1) (v := .int s_lines) (C := RX1) (T := TX1) (N := 7) hx hb hts hi_X1 hown hK.1 hP 0 rfl rfl 2 (by decide) hf_31 (fun _ h9 => h9) rfl dX1_dropLatest_10 ?_
    refine lv_iconst (v := 1) hx hb dX1_dropLatest_13 (by decide) ?_
    refine lv_isub hx hb dX1_dropLatest_14 ?_
    refine lv_topi (fun x1 ex1 => ?_)
    replace h := lt_at ex1 h
    refine va_put (D := D) (ci := 1) (v := .int x1) (ty := .int) (C := RX1) (T := TX1) (N := 7) hx hb hts hi_X1 tyX1 tyX1_ok nmX1 hown hK.1 hP hD hS 0 rfl rfl 2 (by decide) hf_31 (fun _ h9 => h9) rfl (by decide +kernel) rfl rfl (Nat.le_of_ble_eq_true rfl) dX1_dropLatest_15 (fun H locs hP hD hS => ?_)
    replace hP : va_P D vwCl [(q_, .inr (1, [.int s_width, .int s_height, .int x1, .ref q_x, .ref q_y, .ref q_u, .ref q_v]))] H := hP
    replace hD : va_D A [(q_, .inr (1, [.int s_width, .int s_height, .int x1, .ref q_x, .ref q_y, .ref q_u, .ref q_v]))] := hD
    cases h
    exact ret _ _ _ _ dX1_dropLatest_18 hP hD hS

def sX1_copy  (s_width : Int32) (s_height : Int32) (s_lines : Int32) (s_u : Nat → Int32) (s_v : Nat → Int32) (s_x : Nat → Int32) (s_y : Nat → Int32) (s_a1_width : Int32) (s_a1_height : Int32) (s_a1_lines : Int32) (s_a1_u : Nat → Int32) (s_a1_v : Nat → Int32) (s_a1_x : Nat → Int32) (s_a1_y : Nat → Int32) : Option (Int32 × Int32 × Int32 × (Nat → Int32) × (Nat → Int32) × (Nat → Int32) × (Nat → Int32)) := gd ((¬ (0 : Int32) < 0) ∧ (¬ (0 : Int32) < 0) ∧ (¬ (18 : Int32) < 0) ∧ (0 : Int32).toNatClampNeg + (18 : Int32).toNatClampNeg ≤ 18 ∧ (0 : Int32).toNatClampNeg + (18 : Int32).toNatClampNeg ≤ 18) (lt (va_cpy s_a1_x s_x (0 : Int32).toNatClampNeg (0 : Int32).toNatClampNeg (18 : Int32).toNatClampNeg) (fun f1 => gd ((¬ (0 : Int32) < 0) ∧ (¬ (0 : Int32) < 0) ∧ (¬ (18 : Int32) < 0) ∧ (0 : Int32).toNatClampNeg + (18 : Int32).toNatClampNeg ≤ 18 ∧ (0 : Int32).toNatClampNeg + (18 : Int32).toNatClampNeg ≤ 18) (lt (va_cpy s_a1_y s_y (0 : Int32).toNatClampNeg (0 : Int32).toNatClampNeg (18 : Int32).toNatClampNeg) (fun f2 => gd ((¬ (0 : Int32) < 0) ∧ (¬ (0 : Int32) < 0) ∧ (¬ (18 : Int32) < 0) ∧ (0 : Int32).toNatClampNeg + (18 : Int32).toNatClampNeg ≤ 18 ∧ (0 : Int32).toNatClampNeg + (18 : Int32).toNatClampNeg ≤ 18) (lt (va_cpy s_a1_u s_u (0 : Int32).toNatClampNeg (0 : Int32).toNatClampNeg (18 : Int32).toNatClampNeg) (fun f3 => gd ((¬ (0 : Int32) < 0) ∧ (¬ (0 : Int32) < 0) ∧ (¬ (18 : Int32) < 0) ∧ (0 : Int32).toNatClampNeg + (18 : Int32).toNatClampNeg ≤ 18 ∧ (0 : Int32).toNatClampNeg + (18 : Int32).toNatClampNeg ≤ 18) (lt (va_cpy s_a1_v s_v (0 : Int32).toNatClampNeg (0 : Int32).toNatClampNeg (18 : Int32).toNatClampNeg) (fun f4 => some (s_a1_width, s_a1_height, s_a1_lines, f3, f4, f1, f2)))))))))
abbrev rmX1_copy : Room := { frames := 1, cells := 0, slots := 0, locals := 40 }
set_option maxHeartbeats 4000000 in
set_option maxRecDepth 100000 in
theorem c_X1_copy (l : Launch) (D : va_G) (ky : Nat → ClassId) (q_ q_x q_y q_u q_v q_a1 q_a1_x q_a1_y q_a1_u q_a1_v : Nat) (s_width : Int32) (s_height : Int32) (s_lines : Int32) (s_u : Nat → Int32) (s_v : Nat → Int32) (s_x : Nat → Int32) (s_y : Nat → Int32) (s_a1_width : Int32) (s_a1_height : Int32) (s_a1_lines : Int32) (s_a1_u : Nat → Int32) (s_a1_v : Nat → Int32) (s_a1_x : Nat → Int32) (s_a1_y : Nat → Int32) {o_width : Int32} {o_height : Int32} {o_lines : Int32} {o_u : Nat → Int32} {o_v : Nat → Int32} {o_x : Nat → Int32} {o_y : Nat → Int32} (h : sX1_copy s_width s_height s_lines s_u s_v s_x s_y s_a1_width s_a1_height s_a1_lines s_a1_u s_a1_v s_a1_x s_a1_y = some (o_width, o_height, o_lines, o_u, o_v, o_x, o_y)) : MtV l D ky yX1_copy wsX1_copy rmX1_copy [.ref q_, .ref q_a1] [(q_, .inr (1, [.int s_width, .int s_height, .int s_lines, .ref q_x, .ref q_y, .ref q_u, .ref q_v])), (q_u, .inl (ky 0, 18, .inl s_u)), (q_v, .inl (ky 0, 18, .inl s_v)), (q_x, .inl (ky 0, 18, .inl s_x)), (q_y, .inl (ky 0, 18, .inl s_y)), (q_a1, .inr (1, [.int s_a1_width, .int s_a1_height, .int s_a1_lines, .ref q_a1_x, .ref q_a1_y, .ref q_a1_u, .ref q_a1_v])), (q_a1_u, .inl (ky 0, 18, .inl s_a1_u)), (q_a1_v, .inl (ky 0, 18, .inl s_a1_v)), (q_a1_x, .inl (ky 0, 18, .inl s_a1_x)), (q_a1_y, .inl (ky 0, 18, .inl s_a1_y))] [(q_, .inr (1, [.int o_width, .int o_height, .int o_lines, .ref q_x, .ref q_y, .ref q_u, .ref q_v])), (q_u, .inl (ky 0, 18, .inl o_u)), (q_v, .inl (ky 0, 18, .inl o_v)), (q_x, .inl (ky 0, 18, .inl o_x)), (q_y, .inl (ky 0, 18, .inl o_y)), (q_a1, .inr (1, [.int s_a1_width, .int s_a1_height, .int s_a1_lines, .ref q_a1_x, .ref q_a1_y, .ref q_a1_u, .ref q_a1_v])), (q_a1_u, .inl (ky 0, 18, .inl s_a1_u)), (q_a1_v, .inl (ky 0, 18, .inl s_a1_v)), (q_a1_x, .inl (ky 0, 18, .inl s_a1_x)), (q_a1_y, .inl (ky 0, 18, .inl s_a1_y))] 0 0 := by
  refine MtV.of (cc := cX1_copy) (maxL := 2) (by decide +kernel) rfl (Nat.le_of_ble_eq_true rfl) ?_
  intro p e R s m args below meth c A Q ls hR hx hb hts hown hnm hml hP hK hD hA ret hl
  have rt := rtV (dc := fun pc => decode cX1_copy pc = .ok (.return_, 1)) (o_width, o_height, o_lines, o_u, o_v, o_x, o_y) (fun t => [(q_, .inr (1, [.int t.1, .int t.2.1, .int t.2.2.1, .ref q_x, .ref q_y, .ref q_u, .ref q_v])), (q_u, .inl (ky 0, 18, .inl t.2.2.2.1)), (q_v, .inl (ky 0, 18, .inl t.2.2.2.2.1)), (q_x, .inl (ky 0, 18, .inl t.2.2.2.2.2.1)), (q_y, .inl (ky 0, 18, .inl t.2.2.2.2.2.2)), (q_a1, .inr (1, [.int s_a1_width, .int s_a1_height, .int s_a1_lines, .ref q_a1_x, .ref q_a1_y, .ref q_a1_u, .ref q_a1_v])), (q_a1_u, .inl (ky 0, 18, .inl s_a1_u)), (q_a1_v, .inl (ky 0, 18, .inl s_a1_v)), (q_a1_x, .inl (ky 0, 18, .inl s_a1_x)), (q_a1_y, .inl (ky 0, 18, .inl s_a1_y))]) ret
  subst hR
  obtain ⟨H, hH⟩ : ∃ H, H = s.heap := ⟨_, rfl⟩
  obtain ⟨locs, hlocs⟩ : ∃ locs : List Loc, locs = [] := ⟨_, rfl⟩
  have hS : va_S A s.heap H locs := by rw [hH, hlocs]; exact va_S.rf
  rw [← hH] at hP
  suffices hgo : W p l e rmX1_copy s m args below meth c H locs 0 0 Q (F0 m 0 ls []) by rw [hH, hlocs] at hgo; exact hgo
  clear hH hlocs
  replace hl : lv_has ls 2 [(0, .ref q_), (1, .ref q_a1)] := hl
  replace hown : s.vm.findClass RX1 = some m.cls := hown
  have hi_X1 : ∀ w ∈ u_ws RX1 TX1 7, w ∈ wsX1_copy := fun _ h9 => List.mem_cons_of_mem _ (List.mem_append_right _ h9)
  have hf_24 := hts (.fieldLink RX1 24 "GlazierBench$Drawing" "width" "I") (by decide +kernel)
  have hf_28 := hts (.fieldLink RX1 28 "GlazierBench$Drawing" "height" "I") (by decide +kernel)
  have hf_31 := hts (.fieldLink RX1 31 "GlazierBench$Drawing" "lines" "I") (by decide +kernel)
  have hf_9 := hts (.fieldLink RX1 9 "GlazierBench$Drawing" "x" "[I") (by decide +kernel)
  have hm_38 := hts (.methodLink RX1 38 arraycopyName) (by decide +kernel)
  have hnat := hts (.native arraycopyName) (by decide +kernel)
  have hs_copy := hts (.static arraycopyName) (by decide +kernel)
  have hini_Sys := hts (.initialized "java/lang/System") (by decide +kernel)
  have hf_15 := hts (.fieldLink RX1 15 "GlazierBench$Drawing" "y" "[I") (by decide +kernel)
  have hf_18 := hts (.fieldLink RX1 18 "GlazierBench$Drawing" "u" "[I") (by decide +kernel)
  have hf_21 := hts (.fieldLink RX1 21 "GlazierBench$Drawing" "v" "[I") (by decide +kernel)
  unfold sX1_copy at h
  refine lv_aload_n hx hb dX1_copy_0 rfl (lv_at hl 0 rfl) ?_
  refine lv_aload_n hx hb dX1_copy_1 rfl (lv_at hl 1 rfl) ?_
  refine va_get (D := D) (ci := 1) (v := .int s_a1_width) (C := RX1) (T := TX1) (N := 7) hx hb hts hi_X1 hown hK.1 hP 5 rfl rfl 0 (by decide) hf_24 (fun _ h9 => h9) rfl dX1_copy_2 ?_
  refine va_put (D := D) (ci := 1) (v := .int s_a1_width) (ty := .int) (C := RX1) (T := TX1) (N := 7) hx hb hts hi_X1 tyX1 tyX1_ok nmX1 hown hK.1 hP hD hS 0 rfl rfl 0 (by decide) hf_24 (fun _ h9 => h9) rfl (by decide +kernel) rfl rfl (Nat.le_of_ble_eq_true rfl) dX1_copy_5 (fun H locs hP hD hS => ?_)
  replace hP : va_P D vwCl [(q_, .inr (1, [.int s_a1_width, .int s_height, .int s_lines, .ref q_x, .ref q_y, .ref q_u, .ref q_v])), (q_u, .inl (ky 0, 18, .inl s_u)), (q_v, .inl (ky 0, 18, .inl s_v)), (q_x, .inl (ky 0, 18, .inl s_x)), (q_y, .inl (ky 0, 18, .inl s_y)), (q_a1, .inr (1, [.int s_a1_width, .int s_a1_height, .int s_a1_lines, .ref q_a1_x, .ref q_a1_y, .ref q_a1_u, .ref q_a1_v])), (q_a1_u, .inl (ky 0, 18, .inl s_a1_u)), (q_a1_v, .inl (ky 0, 18, .inl s_a1_v)), (q_a1_x, .inl (ky 0, 18, .inl s_a1_x)), (q_a1_y, .inl (ky 0, 18, .inl s_a1_y))] H := hP
  replace hD : va_D A [(q_, .inr (1, [.int s_a1_width, .int s_height, .int s_lines, .ref q_x, .ref q_y, .ref q_u, .ref q_v])), (q_u, .inl (ky 0, 18, .inl s_u)), (q_v, .inl (ky 0, 18, .inl s_v)), (q_x, .inl (ky 0, 18, .inl s_x)), (q_y, .inl (ky 0, 18, .inl s_y)), (q_a1, .inr (1, [.int s_a1_width, .int s_a1_height, .int s_a1_lines, .ref q_a1_x, .ref q_a1_y, .ref q_a1_u, .ref q_a1_v])), (q_a1_u, .inl (ky 0, 18, .inl s_a1_u)), (q_a1_v, .inl (ky 0, 18, .inl s_a1_v)), (q_a1_x, .inl (ky 0, 18, .inl s_a1_x)), (q_a1_y, .inl (ky 0, 18, .inl s_a1_y))] := hD
  refine lv_aload_n hx hb dX1_copy_8 rfl (lv_at hl 0 rfl) ?_
  refine lv_aload_n hx hb dX1_copy_9 rfl (lv_at hl 1 rfl) ?_
  refine va_get (D := D) (ci := 1) (v := .int s_a1_height) (C := RX1) (T := TX1) (N := 7) hx hb hts hi_X1 hown hK.1 hP 5 rfl rfl 1 (by decide) hf_28 (fun _ h9 => h9) rfl dX1_copy_10 ?_
  refine va_put (D := D) (ci := 1) (v := .int s_a1_height) (ty := .int) (C := RX1) (T := TX1) (N := 7) hx hb hts hi_X1 tyX1 tyX1_ok nmX1 hown hK.1 hP hD hS 0 rfl rfl 1 (by decide) hf_28 (fun _ h9 => h9) rfl (by decide +kernel) rfl rfl (Nat.le_of_ble_eq_true rfl) dX1_copy_13 (fun H locs hP hD hS => ?_)
  replace hP : va_P D vwCl [(q_, .inr (1, [.int s_a1_width, .int s_a1_height, .int s_lines, .ref q_x, .ref q_y, .ref q_u, .ref q_v])), (q_u, .inl (ky 0, 18, .inl s_u)), (q_v, .inl (ky 0, 18, .inl s_v)), (q_x, .inl (ky 0, 18, .inl s_x)), (q_y, .inl (ky 0, 18, .inl s_y)), (q_a1, .inr (1, [.int s_a1_width, .int s_a1_height, .int s_a1_lines, .ref q_a1_x, .ref q_a1_y, .ref q_a1_u, .ref q_a1_v])), (q_a1_u, .inl (ky 0, 18, .inl s_a1_u)), (q_a1_v, .inl (ky 0, 18, .inl s_a1_v)), (q_a1_x, .inl (ky 0, 18, .inl s_a1_x)), (q_a1_y, .inl (ky 0, 18, .inl s_a1_y))] H := hP
  replace hD : va_D A [(q_, .inr (1, [.int s_a1_width, .int s_a1_height, .int s_lines, .ref q_x, .ref q_y, .ref q_u, .ref q_v])), (q_u, .inl (ky 0, 18, .inl s_u)), (q_v, .inl (ky 0, 18, .inl s_v)), (q_x, .inl (ky 0, 18, .inl s_x)), (q_y, .inl (ky 0, 18, .inl s_y)), (q_a1, .inr (1, [.int s_a1_width, .int s_a1_height, .int s_a1_lines, .ref q_a1_x, .ref q_a1_y, .ref q_a1_u, .ref q_a1_v])), (q_a1_u, .inl (ky 0, 18, .inl s_a1_u)), (q_a1_v, .inl (ky 0, 18, .inl s_a1_v)), (q_a1_x, .inl (ky 0, 18, .inl s_a1_x)), (q_a1_y, .inl (ky 0, 18, .inl s_a1_y))] := hD
  refine lv_aload_n hx hb dX1_copy_16 rfl (lv_at hl 0 rfl) ?_
  refine lv_aload_n hx hb dX1_copy_17 rfl (lv_at hl 1 rfl) ?_
  refine va_get (D := D) (ci := 1) (v := .int s_a1_lines) (C := RX1) (T := TX1) (N := 7) hx hb hts hi_X1 hown hK.1 hP 5 rfl rfl 2 (by decide) hf_31 (fun _ h9 => h9) rfl dX1_copy_18 ?_
  refine va_put (D := D) (ci := 1) (v := .int s_a1_lines) (ty := .int) (C := RX1) (T := TX1) (N := 7) hx hb hts hi_X1 tyX1 tyX1_ok nmX1 hown hK.1 hP hD hS 0 rfl rfl 2 (by decide) hf_31 (fun _ h9 => h9) rfl (by decide +kernel) rfl rfl (Nat.le_of_ble_eq_true rfl) dX1_copy_21 (fun H locs hP hD hS => ?_)
  replace hP : va_P D vwCl [(q_, .inr (1, [.int s_a1_width, .int s_a1_height, .int s_a1_lines, .ref q_x, .ref q_y, .ref q_u, .ref q_v])), (q_u, .inl (ky 0, 18, .inl s_u)), (q_v, .inl (ky 0, 18, .inl s_v)), (q_x, .inl (ky 0, 18, .inl s_x)), (q_y, .inl (ky 0, 18, .inl s_y)), (q_a1, .inr (1, [.int s_a1_width, .int s_a1_height, .int s_a1_lines, .ref q_a1_x, .ref q_a1_y, .ref q_a1_u, .ref q_a1_v])), (q_a1_u, .inl (ky 0, 18, .inl s_a1_u)), (q_a1_v, .inl (ky 0, 18, .inl s_a1_v)), (q_a1_x, .inl (ky 0, 18, .inl s_a1_x)), (q_a1_y, .inl (ky 0, 18, .inl s_a1_y))] H := hP
  replace hD : va_D A [(q_, .inr (1, [.int s_a1_width, .int s_a1_height, .int s_a1_lines, .ref q_x, .ref q_y, .ref q_u, .ref q_v])), (q_u, .inl (ky 0, 18, .inl s_u)), (q_v, .inl (ky 0, 18, .inl s_v)), (q_x, .inl (ky 0, 18, .inl s_x)), (q_y, .inl (ky 0, 18, .inl s_y)), (q_a1, .inr (1, [.int s_a1_width, .int s_a1_height, .int s_a1_lines, .ref q_a1_x, .ref q_a1_y, .ref q_a1_u, .ref q_a1_v])), (q_a1_u, .inl (ky 0, 18, .inl s_a1_u)), (q_a1_v, .inl (ky 0, 18, .inl s_a1_v)), (q_a1_x, .inl (ky 0, 18, .inl s_a1_x)), (q_a1_y, .inl (ky 0, 18, .inl s_a1_y))] := hD
  refine lv_aload_n hx hb dX1_copy_24 rfl (lv_at hl 1 rfl) ?_
  refine va_get (D := D) (ci := 1) (v := .ref q_a1_x) (C := RX1) (T := TX1) (N := 7) hx hb hts hi_X1 hown hK.1 hP 5 rfl rfl 3 (by decide) hf_9 (fun _ h9 => h9) rfl dX1_copy_25 ?_
  refine lv_iconst (v := 0) hx hb dX1_copy_28 (by decide) ?_
  refine lv_aload_n hx hb dX1_copy_29 rfl (lv_at hl 0 rfl) ?_
  refine va_get (D := D) (ci := 1) (v := .ref q_x) (C := RX1) (T := TX1) (N := 7) hx hb hts hi_X1 hown hK.1 hP 0 rfl rfl 3 (by decide) hf_9 (fun _ h9 => h9) rfl dX1_copy_30 ?_
  refine lv_iconst (v := 0) hx hb dX1_copy_33 (by decide) ?_
  refine lv_bipush (v := 18) hx hb dX1_copy_34 (by decide) ?_
  obtain ⟨⟨hg1, hg2, hg3, hg4, hg5⟩, h⟩ := gd_of h
  obtain ⟨f1, ef1⟩ : ∃ z : Nat → Int32, z = va_cpy s_a1_x s_x (0 : Int32).toNatClampNeg (0 : Int32).toNatClampNeg (18 : Int32).toNatClampNeg := ⟨_, rfl⟩
  replace h := lt_at ef1 h
  refine va_copyi hx hb (hml.trans hl.1.symm) hown hm_38 hnat hs_copy hini_Sys hK.1 hP hD hS 8 3 0 0 rfl rfl rfl rfl rfl hg1 hg2 hg3 hg4 hg5 (fun _ _ => rfl) (Nat.le_of_ble_eq_true rfl) (Nat.le_of_ble_eq_true rfl) dX1_copy_36 (fun H locs hP hD hS => ?_)
  rw [← ef1] at hP hD
  replace hP : va_P D vwCl [(q_, .inr (1, [.int s_a1_width, .int s_a1_height, .int s_a1_lines, .ref q_x, .ref q_y, .ref q_u, .ref q_v])), (q_u, .inl (ky 0, 18, .inl s_u)), (q_v, .inl (ky 0, 18, .inl s_v)), (q_x, .inl (ky 0, 18, .inl f1)), (q_y, .inl (ky 0, 18, .inl s_y)), (q_a1, .inr (1, [.int s_a1_width, .int s_a1_height, .int s_a1_lines, .ref q_a1_x, .ref q_a1_y, .ref q_a1_u, .ref q_a1_v])), (q_a1_u, .inl (ky 0, 18, .inl s_a1_u)), (q_a1_v, .inl (ky 0, 18, .inl s_a1_v)), (q_a1_x, .inl (ky 0, 18, .inl s_a1_x)), (q_a1_y, .inl (ky 0, 18, .inl s_a1_y))] H := hP
  replace hD : va_D A [(q_, .inr (1, [.int s_a1_width, .int s_a1_height, .int s_a1_lines, .ref q_x, .ref q_y, .ref q_u, .ref q_v])), (q_u, .inl (ky 0, 18, .inl s_u)), (q_v, .inl (ky 0, 18, .inl s_v)), (q_x, .inl (ky 0, 18, .inl f1)), (q_y, .inl (ky 0, 18, .inl s_y)), (q_a1, .inr (1, [.int s_a1_width, .int s_a1_height, .int s_a1_lines, .ref q_a1_x, .ref q_a1_y, .ref q_a1_u, .ref q_a1_v])), (q_a1_u, .inl (ky 0, 18, .inl s_a1_u)), (q_a1_v, .inl (ky 0, 18, .inl s_a1_v)), (q_a1_x, .inl (ky 0, 18, .inl s_a1_x)), (q_a1_y, .inl (ky 0, 18, .inl s_a1_y))] := hD
  refine lv_aload_n hx hb dX1_copy_39 rfl (lv_at hl 1 rfl) ?_
  refine va_get (D := D) (ci := 1) (v := .ref q_a1_y) (C := RX1) (T := TX1) (N := 7) hx hb hts hi_X1 hown hK.1 hP 5 rfl rfl 4 (by decide) hf_15 (fun _ h9 => h9) rfl dX1_copy_40 ?_
  refine lv_iconst (v := 0) hx hb dX1_copy_43 (by decide) ?_
  refine lv_aload_n hx hb dX1_copy_44 rfl (lv_at hl 0 rfl) ?_
  refine va_get (D := D) (ci := 1) (v := .ref q_y) (C := RX1) (T := TX1) (N := 7) hx hb hts hi_X1 hown hK.1 hP 0 rfl rfl 4 (by decide) hf_15 (fun _ h9 => h9) rfl dX1_copy_45 ?_
  refine lv_iconst (v := 0) hx hb dX1_copy_48 (by decide) ?_
  refine lv_bipush (v := 18) hx hb dX1_copy_49 (by decide) ?_
  obtain ⟨⟨hg1, hg2, hg3, hg4, hg5⟩, h⟩ := gd_of h
  obtain ⟨f2, ef2⟩ : ∃ z : Nat → Int32, z = va_cpy s_a1_y s_y (0 : Int32).toNatClampNeg (0 : Int32).toNatClampNeg (18 : Int32).toNatClampNeg := ⟨_, rfl⟩
  replace h := lt_at ef2 h
  refine va_copyi hx hb (hml.trans hl.1.symm) hown hm_38 hnat hs_copy hini_Sys hK.1 hP hD hS 9 4 0 0 rfl rfl rfl rfl rfl hg1 hg2 hg3 hg4 hg5 (fun _ _ => rfl) (Nat.le_of_ble_eq_true rfl) (Nat.le_of_ble_eq_true rfl) dX1_copy_51 (fun H locs hP hD hS => ?_)
  rw [← ef2] at hP hD
  replace hP : va_P D vwCl [(q_, .inr (1, [.int s_a1_width, .int s_a1_height, .int s_a1_lines, .ref q_x, .ref q_y, .ref q_u, .ref q_v])), (q_u, .inl (ky 0, 18, .inl s_u)), (q_v, .inl (ky 0, 18, .inl s_v)), (q_x, .inl (ky 0, 18, .inl f1)), (q_y, .inl (ky 0, 18, .inl f2)), (q_a1, .inr (1, [.int s_a1_width, .int s_a1_height, .int s_a1_lines, .ref q_a1_x, .ref q_a1_y, .ref q_a1_u, .ref q_a1_v])), (q_a1_u, .inl (ky 0, 18, .inl s_a1_u)), (q_a1_v, .inl (ky 0, 18, .inl s_a1_v)), (q_a1_x, .inl (ky 0, 18, .inl s_a1_x)), (q_a1_y, .inl (ky 0, 18, .inl s_a1_y))] H := hP
  replace hD : va_D A [(q_, .inr (1, [.int s_a1_width, .int s_a1_height, .int s_a1_lines, .ref q_x, .ref q_y, .ref q_u, .ref q_v])), (q_u, .inl (ky 0, 18, .inl s_u)), (q_v, .inl (ky 0, 18, .inl s_v)), (q_x, .inl (ky 0, 18, .inl f1)), (q_y, .inl (ky 0, 18, .inl f2)), (q_a1, .inr (1, [.int s_a1_width, .int s_a1_height, .int s_a1_lines, .ref q_a1_x, .ref q_a1_y, .ref q_a1_u, .ref q_a1_v])), (q_a1_u, .inl (ky 0, 18, .inl s_a1_u)), (q_a1_v, .inl (ky 0, 18, .inl s_a1_v)), (q_a1_x, .inl (ky 0, 18, .inl s_a1_x)), (q_a1_y, .inl (ky 0, 18, .inl s_a1_y))] := hD
  refine lv_aload_n hx hb dX1_copy_54 rfl (lv_at hl 1 rfl) ?_
  refine va_get (D := D) (ci := 1) (v := .ref q_a1_u) (C := RX1) (T := TX1) (N := 7) hx hb hts hi_X1 hown hK.1 hP 5 rfl rfl 5 (by decide) hf_18 (fun _ h9 => h9) rfl dX1_copy_55 ?_
  refine lv_iconst (v := 0) hx hb dX1_copy_58 (by decide) ?_
  refine lv_aload_n hx hb dX1_copy_59 rfl (lv_at hl 0 rfl) ?_
  refine va_get (D := D) (ci := 1) (v := .ref q_u) (C := RX1) (T := TX1) (N := 7) hx hb hts hi_X1 hown hK.1 hP 0 rfl rfl 5 (by decide) hf_18 (fun _ h9 => h9) rfl dX1_copy_60 ?_
  refine lv_iconst (v := 0) hx hb dX1_copy_63 (by decide) ?_
  refine lv_bipush (v := 18) hx hb dX1_copy_64 (by decide) ?_
  obtain ⟨⟨hg1, hg2, hg3, hg4, hg5⟩, h⟩ := gd_of h
  obtain ⟨f3, ef3⟩ : ∃ z : Nat → Int32, z = va_cpy s_a1_u s_u (0 : Int32).toNatClampNeg (0 : Int32).toNatClampNeg (18 : Int32).toNatClampNeg := ⟨_, rfl⟩
  replace h := lt_at ef3 h
  refine va_copyi hx hb (hml.trans hl.1.symm) hown hm_38 hnat hs_copy hini_Sys hK.1 hP hD hS 6 1 0 0 rfl rfl rfl rfl rfl hg1 hg2 hg3 hg4 hg5 (fun _ _ => rfl) (Nat.le_of_ble_eq_true rfl) (Nat.le_of_ble_eq_true rfl) dX1_copy_66 (fun H locs hP hD hS => ?_)
  rw [← ef3] at hP hD
  replace hP : va_P D vwCl [(q_, .inr (1, [.int s_a1_width, .int s_a1_height, .int s_a1_lines, .ref q_x, .ref q_y, .ref q_u, .ref q_v])), (q_u, .inl (ky 0, 18, .inl f3)), (q_v, .inl (ky 0, 18, .inl s_v)), (q_x, .inl (ky 0, 18, .inl f1)), (q_y, .inl (ky 0, 18, .inl f2)), (q_a1, .inr (1, [.int s_a1_width, .int s_a1_height, .int s_a1_lines, .ref q_a1_x, .ref q_a1_y, .ref q_a1_u, .ref q_a1_v])), (q_a1_u, .inl (ky 0, 18, .inl s_a1_u)), (q_a1_v, .inl (ky 0, 18, .inl s_a1_v)), (q_a1_x, .inl (ky 0, 18, .inl s_a1_x)), (q_a1_y, .inl (ky 0, 18, .inl s_a1_y))] H := hP
  replace hD : va_D A [(q_, .inr (1, [.int s_a1_width, .int s_a1_height, .int s_a1_lines, .ref q_x, .ref q_y, .ref q_u, .ref q_v])), (q_u, .inl (ky 0, 18, .inl f3)), (q_v, .inl (ky 0, 18, .inl s_v)), (q_x, .inl (ky 0, 18, .inl f1)), (q_y, .inl (ky 0, 18, .inl f2)), (q_a1, .inr (1, [.int s_a1_width, .int s_a1_height, .int s_a1_lines, .ref q_a1_x, .ref q_a1_y, .ref q_a1_u, .ref q_a1_v])), (q_a1_u, .inl (ky 0, 18, .inl s_a1_u)), (q_a1_v, .inl (ky 0, 18, .inl s_a1_v)), (q_a1_x, .inl (ky 0, 18, .inl s_a1_x)), (q_a1_y, .inl (ky 0, 18, .inl s_a1_y))] := hD
  refine lv_aload_n hx hb dX1_copy_69 rfl (lv_at hl 1 rfl) ?_
  refine va_get (D := D) (ci := 1) (v := .ref q_a1_v) (C := RX1) (T := TX1) (N := 7) hx hb hts hi_X1 hown hK.1 hP 5 rfl rfl 6 (by decide) hf_21 (fun _ h9 => h9) rfl dX1_copy_70 ?_
  refine lv_iconst (v := 0) hx hb dX1_copy_73 (by decide) ?_
  refine lv_aload_n hx hb dX1_copy_74 rfl (lv_at hl 0 rfl) ?_
  refine va_get (D := D) (ci := 1) (v := .ref q_v) (C := RX1) (T := TX1) (N := 7) hx hb hts hi_X1 hown hK.1 hP 0 rfl rfl 6 (by decide) hf_21 (fun _ h9 => h9) rfl dX1_copy_75 ?_
  refine lv_iconst (v := 0) hx hb dX1_copy_78 (by decide) ?_
  refine lv_bipush (v := 18) hx hb dX1_copy_79 (by decide) ?_
  obtain ⟨⟨hg1, hg2, hg3, hg4, hg5⟩, h⟩ := gd_of h
  obtain ⟨f4, ef4⟩ : ∃ z : Nat → Int32, z = va_cpy s_a1_v s_v (0 : Int32).toNatClampNeg (0 : Int32).toNatClampNeg (18 : Int32).toNatClampNeg := ⟨_, rfl⟩
  replace h := lt_at ef4 h
  refine va_copyi hx hb (hml.trans hl.1.symm) hown hm_38 hnat hs_copy hini_Sys hK.1 hP hD hS 7 2 0 0 rfl rfl rfl rfl rfl hg1 hg2 hg3 hg4 hg5 (fun _ _ => rfl) (Nat.le_of_ble_eq_true rfl) (Nat.le_of_ble_eq_true rfl) dX1_copy_81 (fun H locs hP hD hS => ?_)
  rw [← ef4] at hP hD
  replace hP : va_P D vwCl [(q_, .inr (1, [.int s_a1_width, .int s_a1_height, .int s_a1_lines, .ref q_x, .ref q_y, .ref q_u, .ref q_v])), (q_u, .inl (ky 0, 18, .inl f3)), (q_v, .inl (ky 0, 18, .inl f4)), (q_x, .inl (ky 0, 18, .inl f1)), (q_y, .inl (ky 0, 18, .inl f2)), (q_a1, .inr (1, [.int s_a1_width, .int s_a1_height, .int s_a1_lines, .ref q_a1_x, .ref q_a1_y, .ref q_a1_u, .ref q_a1_v])), (q_a1_u, .inl (ky 0, 18, .inl s_a1_u)), (q_a1_v, .inl (ky 0, 18, .inl s_a1_v)), (q_a1_x, .inl (ky 0, 18, .inl s_a1_x)), (q_a1_y, .inl (ky 0, 18, .inl s_a1_y))] H := hP
  replace hD : va_D A [(q_, .inr (1, [.int s_a1_width, .int s_a1_height, .int s_a1_lines, .ref q_x, .ref q_y, .ref q_u, .ref q_v])), (q_u, .inl (ky 0, 18, .inl f3)), (q_v, .inl (ky 0, 18, .inl f4)), (q_x, .inl (ky 0, 18, .inl f1)), (q_y, .inl (ky 0, 18, .inl f2)), (q_a1, .inr (1, [.int s_a1_width, .int s_a1_height, .int s_a1_lines, .ref q_a1_x, .ref q_a1_y, .ref q_a1_u, .ref q_a1_v])), (q_a1_u, .inl (ky 0, 18, .inl s_a1_u)), (q_a1_v, .inl (ky 0, 18, .inl s_a1_v)), (q_a1_x, .inl (ky 0, 18, .inl s_a1_x)), (q_a1_y, .inl (ky 0, 18, .inl s_a1_y))] := hD
  exact rt _ h _ _ _ _ dX1_copy_84 hP hD hS

