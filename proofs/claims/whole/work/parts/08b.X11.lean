def bX11_set_7  (t : Int64 × Int32 × (Nat → Int32)) : Option (Nat × (Int64 × Int32 × (Nat → Int32))) := dm3 t (fun (v1 : Int64) (v2 : Int32) (v3 : Nat → Int32) => if (lg_cmp v1 (0 : Int64)) = 0 then some (1, (v1, v2, v3)) else gd (¬ (v2 < 0 ∨ 600 ≤ v2.toNatClampNeg)) (lt (upd v3 v2.toNatClampNeg ((v1 &&& (1073741823 : Int64)).toInt32)) (fun f4 => lt (v2 + (1 : Int32)) (fun x5 => lt ((v1.toUInt64 >>> ((30 : Int32).toInt64.toUInt64 &&& Int64.toUInt64 63)).toInt64) (fun x6 => some (0, (x6, x5, f4)))))))
def sX11_set (a1 : Int64) (s_len : Int32) (s_d : Nat → Int32) : Option (Int32 × (Nat → Int32)) := ob (iter (bX11_set_7 ) FU (a1, (0 : Int32), s_d)) (fun kt => ex1 kt (fun t => dm3 t (fun (v7 : Int64) (v8 : Int32) (v9 : Nat → Int32) => some (v8, v9))))
abbrev rmX11_set : Room := { frames := 0, cells := 0, slots := 0, locals := 0 }
set_option maxHeartbeats 4000000 in
set_option maxRecDepth 100000 in
theorem c_X11_set (l : Launch) (D : va_G) (ky : Nat → ClassId) (q_ q_d : Nat) (a1 : Int64) (s_len : Int32) (s_d : Nat → Int32) {o_len : Int32} {o_d : Nat → Int32} (h : sX11_set a1 s_len s_d = some (o_len, o_d)) : MtV l D ky yX11_set wsX11_set rmX11_set [.ref q_, .long a1] [(q_, .inr (11, [.ref q_d, .int s_len])), (q_d, .inl (ky 0, 600, .inl s_d))] [(q_, .inr (11, [.ref q_d, .int o_len])), (q_d, .inl (ky 0, 600, .inl o_d))] 0 0 := by
  refine MtV.of (cc := cX11_set) (maxL := 5) (by decide +kernel) rfl (Nat.le_of_ble_eq_true rfl) ?_
  intro p e R s m args below meth c A Q ls hR hx hb hts hown hnm hml hP hK hD hA ret hl
  have rt := rtV (dc := fun pc => decode cX11_set pc = .ok (.return_, 1)) (o_len, o_d) (fun t => [(q_, .inr (11, [.ref q_d, .int t.1])), (q_d, .inl (ky 0, 600, .inl t.2))]) ret
  subst hR
  obtain ⟨H, hH⟩ : ∃ H, H = s.heap := ⟨_, rfl⟩
  obtain ⟨locs, hlocs⟩ : ∃ locs : List Loc, locs = [] := ⟨_, rfl⟩
  have hS : va_S A s.heap H locs := by rw [hH, hlocs]; exact va_S.rf
  rw [← hH] at hP
  suffices hgo : W p l e rmX11_set s m args below meth c H locs 0 0 Q (F0 m 0 ls []) by rw [hH, hlocs] at hgo; exact hgo
  clear hH hlocs
  replace hl : lv_has ls 5 [(0, .ref q_), (1, .long a1)] := hl
  replace hown : s.vm.findClass RX11 = some m.cls := hown
  have hi_X11 : ∀ w ∈ u_ws RX11 TX11 2, w ∈ wsX11_set := fun _ h9 => List.mem_cons_of_mem _ (List.mem_append_right _ h9)
  have hf_15 := hts (.fieldLink RX11 15 "GlazierBenchModel$Nat" "len" "I") (by decide +kernel)
  have hf_9 := hts (.fieldLink RX11 9 "GlazierBenchModel$Nat" "d" "[I") (by decide +kernel)
  have hk_19 := hts (.constantLong RX11 19 (1073741823)) (by decide +kernel)
  unfold sX11_set at h
  refine lv_aload_n hx hb dX11_set_0 rfl (lv_at hl 0 rfl) ?_
  refine lv_iconst (v := 0) hx hb dX11_set_1 (by decide) ?_
  refine va_put (D := D) (ci := 11) (v := .int (0 : Int32)) (ty := .int) (C := RX11) (T := TX11) (N := 2) hx hb hts hi_X11 tyX11 tyX11_ok nmX11 hown hK.1 hP hD hS 0 rfl rfl 1 (by decide) hf_15 (fun _ h9 => h9) rfl (by decide +kernel) rfl rfl (Nat.le_of_ble_eq_true rfl) dX11_set_2 (fun H locs hP hD hS => ?_)
  replace hP : va_P D vwCl [(q_, .inr (11, [.ref q_d, .int (0 : Int32)])), (q_d, .inl (ky 0, 600, .inl s_d))] H := hP
  replace hD : va_D A [(q_, .inr (11, [.ref q_d, .int (0 : Int32)])), (q_d, .inl (ky 0, 600, .inl s_d))] := hD
  refine lv_lload_n hx hb dX11_set_5 rfl (lv_at hl 1 rfl) ?_
  refine lv_lstore_n (lv' := [(3, .long a1), (0, .ref q_), (1, .long a1)]) hx hb dX11_set_6 rfl hl (by decide) rfl (fun ls hl => ?_)
  obtain ⟨⟨k, t⟩, hi, h⟩ := ob_of h
  refine iter_rule (P := fun (k : Nat) (t : Int64 × Int32 × (Nat → Int32)) => ∀ (H : Heap) (locs : List Loc) (ls : Array Slot), va_P D vwCl [(q_, .inr (11, [.ref q_d, .int t.2.1])), (q_d, .inl (ky 0, 600, .inl t.2.2))] H → va_D A [(q_, .inr (11, [.ref q_d, .int t.2.1])), (q_d, .inl (ky 0, 600, .inl t.2.2))] → va_S A s.heap H locs → lv_has ls 5 [(0, .ref q_), (3, .long t.1)] → W p l e rmX11_set s m args below meth c H locs 0 0 Q (F0 m ([7, 46].getD k 0) ls [])) ?_ _ _ _ _ hi ?_ H locs ls hP hD hS (lv_sub hl [1, 0] rfl)
  · clear h hi hP hD hS hl
    intro t k t' h K
    obtain ⟨v1, v2, v3⟩ := t
    intro H locs ls hP hD hS hl
    replace h := dm3_of h
    replace hP : va_P D vwCl [(q_, .inr (11, [.ref q_d, .int v2])), (q_d, .inl (ky 0, 600, .inl v3))] H := hP
    replace hD : va_D A [(q_, .inr (11, [.ref q_d, .int v2])), (q_d, .inl (ky 0, 600, .inl v3))] := hD
    replace hl : lv_has ls 5 [(0, .ref q_), (3, .long v1)] := hl
    refine lv_lload_n hx hb dX11_set_7 rfl (lv_at hl 1 rfl) ?_
    refine lv_lconst (v := 0) hx hb dX11_set_8 (by decide) ?_
    refine W.lcmp hx hb dX11_set_9 ?_
    refine lv_if_eq (tgt := 46) hx hb dX11_set_10 (by decide) (fun hc => ?_) (fun hc => ?_)
    · replace h := if_t hc h
      cases h
      exact K _ _ _ hP hD hS (lv_sub hl [0, 1] rfl)
    · replace h := if_f hc h
      refine lv_aload_n hx hb dX11_set_13 rfl (lv_at hl 0 rfl) ?_
      refine va_get (D := D) (ci := 11) (v := .ref q_d) (C := RX11) (T := TX11) (N := 2) hx hb hts hi_X11 hown hK.1 hP 0 rfl rfl 0 (by decide) hf_9 (fun _ h9 => h9) rfl dX11_set_14 ?_
      refine lv_aload_n hx hb dX11_set_17 rfl (lv_at hl 0 rfl) ?_
      refine va_get (D := D) (ci := 11) (v := .int v2) (C := RX11) (T := TX11) (N := 2) hx hb hts hi_X11 hown hK.1 hP 0 rfl rfl 1 (by decide) hf_15 (fun _ h9 => h9) rfl dX11_set_18 ?_
      refine lv_lload_n hx hb dX11_set_21 rfl (lv_at hl 1 rfl) ?_
      refine lv_ldc2 hx hb hown hk_19 dX11_set_22 ?_
      refine lv_land hx hb dX11_set_25 ?_
      refine lv_l2i (v := (v1 &&& (1073741823 : Int64)).toInt32) hx hb dX11_set_26 rfl ?_
      obtain ⟨hg, h⟩ := gd_of h
      refine r_iast hx hb hK.1 hP hD hS 1 0 rfl rfl hg dX11_set_27 (fun f4 ef4 H locs hP hD hS => ?_)
      replace h := lt_at ef4 h
      replace hP : va_P D vwCl [(q_, .inr (11, [.ref q_d, .int v2])), (q_d, .inl (ky 0, 600, .inl f4))] H := hP
      replace hD : va_D A [(q_, .inr (11, [.ref q_d, .int v2])), (q_d, .inl (ky 0, 600, .inl f4))] := hD
      refine lv_aload_n hx hb dX11_set_28 rfl (lv_at hl 0 rfl) ?_
      refine lv_dup hx hb dX11_set_29 rfl ?_
      refine va_get (D := D) (ci := 11) (v := .int v2) (C := RX11) (T := TX11) (N := 2) hx hb hts hi_X11 hown hK.1 hP 0 rfl rfl 1 (by decide) hf_15 (fun _ h9 => h9) rfl dX11_set_30 ?_
      refine lv_iconst (v := 1) hx hb dX11_set_33 (by decide) ?_
      refine lv_iadd hx hb dX11_set_34 ?_
      refine lv_topi (fun x5 ex5 => ?_)
      replace h := lt_at ex5 h
      refine va_put (D := D) (ci := 11) (v := .int x5) (ty := .int) (C := RX11) (T := TX11) (N := 2) hx hb hts hi_X11 tyX11 tyX11_ok nmX11 hown hK.1 hP hD hS 0 rfl rfl 1 (by decide) hf_15 (fun _ h9 => h9) rfl (by decide +kernel) rfl rfl (Nat.le_of_ble_eq_true rfl) dX11_set_35 (fun H locs hP hD hS => ?_)
      replace hP : va_P D vwCl [(q_, .inr (11, [.ref q_d, .int x5])), (q_d, .inl (ky 0, 600, .inl f4))] H := hP
      replace hD : va_D A [(q_, .inr (11, [.ref q_d, .int x5])), (q_d, .inl (ky 0, 600, .inl f4))] := hD
      refine lv_lload_n hx hb dX11_set_38 rfl (lv_at hl 1 rfl) ?_
      refine lv_bipush (v := 30) hx hb dX11_set_39 (by decide) ?_
      refine lv_lushr (v := (v1.toUInt64 >>> ((30 : Int32).toInt64.toUInt64 &&& Int64.toUInt64 63)).toInt64) hx hb dX11_set_41 rfl ?_
      refine lv_topl (fun x6 ex6 => ?_)
      replace h := lt_at ex6 h
      refine lv_lstore_n (lv' := [(3, .long x6), (0, .ref q_)]) hx hb dX11_set_42 rfl hl (by decide) rfl (fun ls hl => ?_)
      refine lv_goto (tgt := 7) hx hb dX11_set_43 (by decide) ?_
      cases h
      exact K _ _ _ hP hD hS (lv_sub hl [1, 0] rfl)
  · have h1 := ex1_of h
    clear h hi
    rcases h1 with ⟨rfl, h⟩
    obtain ⟨v7, v8, v9⟩ := t
    replace h := dm3_of h
    intro H locs ls hP hD hS hl
    replace hP : va_P D vwCl [(q_, .inr (11, [.ref q_d, .int v8])), (q_d, .inl (ky 0, 600, .inl v9))] H := hP
    replace hD : va_D A [(q_, .inr (11, [.ref q_d, .int v8])), (q_d, .inl (ky 0, 600, .inl v9))] := hD
    replace hl : lv_has ls 5 [(0, .ref q_), (3, .long v7)] := hl
    refine W.eq (g2 := F0 m 46 ls []) rfl ?_
    exact rt _ h _ _ _ _ dX11_set_46 hP hD hS

def bX11_copy_10 (s_a1_len : Int32) (s_a1_d : Nat → Int32) (t : Int32 × (Nat → Int32)) : Option (Nat × (Int32 × (Nat → Int32))) := dm2 t (fun (v1 : Int32) (v2 : Nat → Int32) => if s_a1_len ≤ v1 then some (1, (v1, v2)) else gd (¬ (v1 < 0 ∨ 600 ≤ v1.toNatClampNeg)) (gd (¬ (v1 < 0 ∨ 600 ≤ v1.toNatClampNeg)) (lt (upd v2 v1.toNatClampNeg (s_a1_d v1.toNatClampNeg)) (fun f3 => lt (v1 + 1) (fun x4 => some (0, (x4, f3)))))))
def sX11_copy  (s_len : Int32) (s_d : Nat → Int32) (s_a1_len : Int32) (s_a1_d : Nat → Int32) : Option (Int32 × (Nat → Int32)) := ob (iter (bX11_copy_10 s_a1_len s_a1_d) FU ((0 : Int32), s_d)) (fun kt => ex1 kt (fun t => dm2 t (fun (v5 : Int32) (v6 : Nat → Int32) => some (s_a1_len, v6))))
abbrev rmX11_copy : Room := { frames := 0, cells := 0, slots := 0, locals := 0 }
set_option maxHeartbeats 4000000 in
set_option maxRecDepth 100000 in
theorem c_X11_copy (l : Launch) (D : va_G) (ky : Nat → ClassId) (q_ q_d q_a1 q_a1_d : Nat) (s_len : Int32) (s_d : Nat → Int32) (s_a1_len : Int32) (s_a1_d : Nat → Int32) {o_len : Int32} {o_d : Nat → Int32} (h : sX11_copy s_len s_d s_a1_len s_a1_d = some (o_len, o_d)) : MtV l D ky yX11_copy wsX11_copy rmX11_copy [.ref q_, .ref q_a1] [(q_, .inr (11, [.ref q_d, .int s_len])), (q_d, .inl (ky 0, 600, .inl s_d)), (q_a1, .inr (11, [.ref q_a1_d, .int s_a1_len])), (q_a1_d, .inl (ky 0, 600, .inl s_a1_d))] [(q_, .inr (11, [.ref q_d, .int o_len])), (q_d, .inl (ky 0, 600, .inl o_d)), (q_a1, .inr (11, [.ref q_a1_d, .int s_a1_len])), (q_a1_d, .inl (ky 0, 600, .inl s_a1_d))] 0 0 := by
  refine MtV.of (cc := cX11_copy) (maxL := 3) (by decide +kernel) rfl (Nat.le_of_ble_eq_true rfl) ?_
  intro p e R s m args below meth c A Q ls hR hx hb hts hown hnm hml hP hK hD hA ret hl
  have rt := rtV (dc := fun pc => decode cX11_copy pc = .ok (.return_, 1)) (o_len, o_d) (fun t => [(q_, .inr (11, [.ref q_d, .int t.1])), (q_d, .inl (ky 0, 600, .inl t.2)), (q_a1, .inr (11, [.ref q_a1_d, .int s_a1_len])), (q_a1_d, .inl (ky 0, 600, .inl s_a1_d))]) ret
  subst hR
  obtain ⟨H, hH⟩ : ∃ H, H = s.heap := ⟨_, rfl⟩
  obtain ⟨locs, hlocs⟩ : ∃ locs : List Loc, locs = [] := ⟨_, rfl⟩
  have hS : va_S A s.heap H locs := by rw [hH, hlocs]; exact va_S.rf
  rw [← hH] at hP
  suffices hgo : W p l e rmX11_copy s m args below meth c H locs 0 0 Q (F0 m 0 ls []) by rw [hH, hlocs] at hgo; exact hgo
  clear hH hlocs
  replace hl : lv_has ls 3 [(0, .ref q_), (1, .ref q_a1)] := hl
  replace hown : s.vm.findClass RX11 = some m.cls := hown
  have hi_X11 : ∀ w ∈ u_ws RX11 TX11 2, w ∈ wsX11_copy := fun _ h9 => List.mem_cons_of_mem _ (List.mem_append_right _ h9)
  have hf_15 := hts (.fieldLink RX11 15 "GlazierBenchModel$Nat" "len" "I") (by decide +kernel)
  have hf_9 := hts (.fieldLink RX11 9 "GlazierBenchModel$Nat" "d" "[I") (by decide +kernel)
  unfold sX11_copy at h
  refine lv_aload_n hx hb dX11_copy_0 rfl (lv_at hl 0 rfl) ?_
  refine lv_aload_n hx hb dX11_copy_1 rfl (lv_at hl 1 rfl) ?_
  refine va_get (D := D) (ci := 11) (v := .int s_a1_len) (C := RX11) (T := TX11) (N := 2) hx hb hts hi_X11 hown hK.1 hP 2 rfl rfl 1 (by decide) hf_15 (fun _ h9 => h9) rfl dX11_copy_2 ?_
  refine va_put (D := D) (ci := 11) (v := .int s_a1_len) (ty := .int) (C := RX11) (T := TX11) (N := 2) hx hb hts hi_X11 tyX11 tyX11_ok nmX11 hown hK.1 hP hD hS 0 rfl rfl 1 (by decide) hf_15 (fun _ h9 => h9) rfl (by decide +kernel) rfl rfl (Nat.le_of_ble_eq_true rfl) dX11_copy_5 (fun H locs hP hD hS => ?_)
  replace hP : va_P D vwCl [(q_, .inr (11, [.ref q_d, .int s_a1_len])), (q_d, .inl (ky 0, 600, .inl s_d)), (q_a1, .inr (11, [.ref q_a1_d, .int s_a1_len])), (q_a1_d, .inl (ky 0, 600, .inl s_a1_d))] H := hP
  replace hD : va_D A [(q_, .inr (11, [.ref q_d, .int s_a1_len])), (q_d, .inl (ky 0, 600, .inl s_d)), (q_a1, .inr (11, [.ref q_a1_d, .int s_a1_len])), (q_a1_d, .inl (ky 0, 600, .inl s_a1_d))] := hD
  refine lv_iconst (v := 0) hx hb dX11_copy_8 (by decide) ?_
  refine lv_istore_n (lv' := [(2, .int (0 : Int32)), (0, .ref q_), (1, .ref q_a1)]) hx hb dX11_copy_9 rfl hl (by decide) rfl (fun ls hl => ?_)
  obtain ⟨⟨k, t⟩, hi, h⟩ := ob_of h
  refine iter_rule (P := fun (k : Nat) (t : Int32 × (Nat → Int32)) => ∀ (H : Heap) (locs : List Loc) (ls : Array Slot), va_P D vwCl [(q_, .inr (11, [.ref q_d, .int s_a1_len])), (q_d, .inl (ky 0, 600, .inl t.2)), (q_a1, .inr (11, [.ref q_a1_d, .int s_a1_len])), (q_a1_d, .inl (ky 0, 600, .inl s_a1_d))] H → va_D A [(q_, .inr (11, [.ref q_d, .int s_a1_len])), (q_d, .inl (ky 0, 600, .inl t.2)), (q_a1, .inr (11, [.ref q_a1_d, .int s_a1_len])), (q_a1_d, .inl (ky 0, 600, .inl s_a1_d))] → va_S A s.heap H locs → lv_has ls 3 [(0, .ref q_), (1, .ref q_a1), (2, .int t.1)] → W p l e rmX11_copy s m args below meth c H locs 0 0 Q (F0 m ([10, 36].getD k 0) ls [])) ?_ _ _ _ _ hi ?_ H locs ls hP hD hS (lv_sub hl [1, 2, 0] rfl)
  · clear h hi hP hD hS hl
    intro t k t' h K
    obtain ⟨v1, v2⟩ := t
    intro H locs ls hP hD hS hl
    replace h := dm2_of h
    replace hP : va_P D vwCl [(q_, .inr (11, [.ref q_d, .int s_a1_len])), (q_d, .inl (ky 0, 600, .inl v2)), (q_a1, .inr (11, [.ref q_a1_d, .int s_a1_len])), (q_a1_d, .inl (ky 0, 600, .inl s_a1_d))] H := hP
    replace hD : va_D A [(q_, .inr (11, [.ref q_d, .int s_a1_len])), (q_d, .inl (ky 0, 600, .inl v2)), (q_a1, .inr (11, [.ref q_a1_d, .int s_a1_len])), (q_a1_d, .inl (ky 0, 600, .inl s_a1_d))] := hD
    replace hl : lv_has ls 3 [(0, .ref q_), (1, .ref q_a1), (2, .int v1)] := hl
    refine lv_iload_n hx hb dX11_copy_10 rfl (lv_at hl 2 rfl) ?_
    refine lv_aload_n hx hb dX11_copy_11 rfl (lv_at hl 0 rfl) ?_
    refine va_get (D := D) (ci := 11) (v := .int s_a1_len) (C := RX11) (T := TX11) (N := 2) hx hb hts hi_X11 hown hK.1 hP 0 rfl rfl 1 (by decide) hf_15 (fun _ h9 => h9) rfl dX11_copy_12 ?_
    refine lv_icmp_ge (tgt := 36) hx hb dX11_copy_15 (by decide) (fun hc => ?_) (fun hc => ?_)
    · replace h := if_t hc h
      cases h
      exact K _ _ _ hP hD hS (lv_sub hl [0, 1, 2] rfl)
    · replace h := if_f hc h
      refine lv_aload_n hx hb dX11_copy_18 rfl (lv_at hl 0 rfl) ?_
      refine va_get (D := D) (ci := 11) (v := .ref q_d) (C := RX11) (T := TX11) (N := 2) hx hb hts hi_X11 hown hK.1 hP 0 rfl rfl 0 (by decide) hf_9 (fun _ h9 => h9) rfl dX11_copy_19 ?_
      refine lv_iload_n hx hb dX11_copy_22 rfl (lv_at hl 2 rfl) ?_
      refine lv_aload_n hx hb dX11_copy_23 rfl (lv_at hl 1 rfl) ?_
      refine va_get (D := D) (ci := 11) (v := .ref q_a1_d) (C := RX11) (T := TX11) (N := 2) hx hb hts hi_X11 hown hK.1 hP 2 rfl rfl 0 (by decide) hf_9 (fun _ h9 => h9) rfl dX11_copy_24 ?_
      refine lv_iload_n hx hb dX11_copy_27 rfl (lv_at hl 2 rfl) ?_
      obtain ⟨hg, h⟩ := gd_of h
      refine va_iald hx hb hK.1 hP 3 0 rfl rfl hg dX11_copy_28 ?_
      obtain ⟨hg, h⟩ := gd_of h
      refine r_iast hx hb hK.1 hP hD hS 1 0 rfl rfl hg dX11_copy_29 (fun f3 ef3 H locs hP hD hS => ?_)
      replace h := lt_at ef3 h
      replace hP : va_P D vwCl [(q_, .inr (11, [.ref q_d, .int s_a1_len])), (q_d, .inl (ky 0, 600, .inl f3)), (q_a1, .inr (11, [.ref q_a1_d, .int s_a1_len])), (q_a1_d, .inl (ky 0, 600, .inl s_a1_d))] H := hP
      replace hD : va_D A [(q_, .inr (11, [.ref q_d, .int s_a1_len])), (q_d, .inl (ky 0, 600, .inl f3)), (q_a1, .inr (11, [.ref q_a1_d, .int s_a1_len])), (q_a1_d, .inl (ky 0, 600, .inl s_a1_d))] := hD
      obtain ⟨x4, ex4⟩ : ∃ z : Int32, z = v1 + 1 := ⟨_, rfl⟩
      replace h := lt_at ex4 h
      refine lv_iinc (v := x4) (lv' := [(2, .int x4), (0, .ref q_), (1, .ref q_a1)]) hx hb dX11_copy_30 hl (k := 2) rfl (by rw [ex4]; rfl) (by decide) rfl (fun ls hl => ?_)
      refine lv_goto (tgt := 10) hx hb dX11_copy_33 (by decide) ?_
      cases h
      exact K _ _ _ hP hD hS (lv_sub hl [1, 2, 0] rfl)
  · have h1 := ex1_of h
    clear h hi
    rcases h1 with ⟨rfl, h⟩
    obtain ⟨v5, v6⟩ := t
    replace h := dm2_of h
    intro H locs ls hP hD hS hl
    replace hP : va_P D vwCl [(q_, .inr (11, [.ref q_d, .int s_a1_len])), (q_d, .inl (ky 0, 600, .inl v6)), (q_a1, .inr (11, [.ref q_a1_d, .int s_a1_len])), (q_a1_d, .inl (ky 0, 600, .inl s_a1_d))] H := hP
    replace hD : va_D A [(q_, .inr (11, [.ref q_d, .int s_a1_len])), (q_d, .inl (ky 0, 600, .inl v6)), (q_a1, .inr (11, [.ref q_a1_d, .int s_a1_len])), (q_a1_d, .inl (ky 0, 600, .inl s_a1_d))] := hD
    replace hl : lv_has ls 3 [(0, .ref q_), (1, .ref q_a1), (2, .int v5)] := hl
    refine W.eq (g2 := F0 m 36 ls []) rfl ?_
    exact rt _ h _ _ _ _ dX11_copy_36 hP hD hS

def bX11_trim_0 (s_d : Nat → Int32) (t : Int32) : Option (Nat × (Int32)) := dm1 t (fun (v1 : Int32) => if v1 ≤ 0 then some (1, v1) else gd (¬ ((v1 - (1 : Int32)) < 0 ∨ 600 ≤ (v1 - (1 : Int32)).toNatClampNeg)) (if ¬ (s_d (v1 - (1 : Int32)).toNatClampNeg) = 0 then some (1, v1) else lt (v1 - (1 : Int32)) (fun x2 => some (0, x2))))
def sX11_trim  (s_len : Int32) (s_d : Nat → Int32) : Option (Int32) := ob (iter (bX11_trim_0 s_d) FU s_len) (fun kt => ex1 kt (fun t => dm1 t (fun (v3 : Int32) => some v3)))
abbrev rmX11_trim : Room := { frames := 0, cells := 0, slots := 0, locals := 0 }
set_option maxHeartbeats 4000000 in
set_option maxRecDepth 100000 in
theorem c_X11_trim (l : Launch) (D : va_G) (ky : Nat → ClassId) (q_ q_d : Nat) (s_len : Int32) (s_d : Nat → Int32) {o_len : Int32} (h : sX11_trim s_len s_d = some o_len) : MtV l D ky yX11_trim wsX11_trim rmX11_trim [.ref q_] [(q_, .inr (11, [.ref q_d, .int s_len])), (q_d, .inl (ky 0, 600, .inl s_d))] [(q_, .inr (11, [.ref q_d, .int o_len])), (q_d, .inl (ky 0, 600, .inl s_d))] 0 0 := by
  refine MtV.of (cc := cX11_trim) (maxL := 1) (by decide +kernel) rfl (Nat.le_of_ble_eq_true rfl) ?_
  intro p e R s m args below meth c A Q ls hR hx hb hts hown hnm hml hP hK hD hA ret hl
  subst hR
  obtain ⟨H, hH⟩ : ∃ H, H = s.heap := ⟨_, rfl⟩
  obtain ⟨locs, hlocs⟩ : ∃ locs : List Loc, locs = [] := ⟨_, rfl⟩
  have hS : va_S A s.heap H locs := by rw [hH, hlocs]; exact va_S.rf
  rw [← hH] at hP
  suffices hgo : W p l e rmX11_trim s m args below meth c H locs 0 0 Q (F0 m 0 ls []) by rw [hH, hlocs] at hgo; exact hgo
  clear hH hlocs
  replace hl : lv_has ls 1 [(0, .ref q_)] := hl
  replace hown : s.vm.findClass RX11 = some m.cls := hown
  have hi_X11 : ∀ w ∈ u_ws RX11 TX11 2, w ∈ wsX11_trim := fun _ h9 => List.mem_cons_of_mem _ (List.mem_append_right _ h9)
  have hf_15 := hts (.fieldLink RX11 15 "GlazierBenchModel$Nat" "len" "I") (by decide +kernel)
  have hf_9 := hts (.fieldLink RX11 9 "GlazierBenchModel$Nat" "d" "[I") (by decide +kernel)
  unfold sX11_trim at h
  obtain ⟨⟨k, t⟩, hi, h⟩ := ob_of h
  refine iter_rule (P := fun (k : Nat) (t : Int32) => ∀ (H : Heap) (locs : List Loc) (ls : Array Slot), va_P D vwCl [(q_, .inr (11, [.ref q_d, .int t])), (q_d, .inl (ky 0, 600, .inl s_d))] H → va_D A [(q_, .inr (11, [.ref q_d, .int t])), (q_d, .inl (ky 0, 600, .inl s_d))] → va_S A s.heap H locs → lv_has ls 1 [(0, .ref q_)] → W p l e rmX11_trim s m args below meth c H locs 0 0 Q (F0 m ([0, 34].getD k 0) ls [])) ?_ _ _ _ _ hi ?_ H locs ls hP hD hS (lv_sub hl [0] rfl)
  · clear h hi hP hD hS hl
    intro t k t' h K
    obtain ⟨v1, rfl⟩ : ∃ z, z = t := ⟨_, rfl⟩
    intro H locs ls hP hD hS hl
    replace h := dm1_of h
    replace hP : va_P D vwCl [(q_, .inr (11, [.ref q_d, .int v1])), (q_d, .inl (ky 0, 600, .inl s_d))] H := hP
    replace hD : va_D A [(q_, .inr (11, [.ref q_d, .int v1])), (q_d, .inl (ky 0, 600, .inl s_d))] := hD
    replace hl : lv_has ls 1 [(0, .ref q_)] := hl
    refine lv_aload_n hx hb dX11_trim_0 rfl (lv_at hl 0 rfl) ?_
    refine va_get (D := D) (ci := 11) (v := .int v1) (C := RX11) (T := TX11) (N := 2) hx hb hts hi_X11 hown hK.1 hP 0 rfl rfl 1 (by decide) hf_15 (fun _ h9 => h9) rfl dX11_trim_1 ?_
    refine lv_if_le (tgt := 34) hx hb dX11_trim_4 (by decide) (fun hc => ?_) (fun hc => ?_)
    · replace h := if_t hc h
      cases h
      exact K _ _ _ hP hD hS (lv_sub hl [0] rfl)
    · replace h := if_f hc h
      refine lv_aload_n hx hb dX11_trim_7 rfl (lv_at hl 0 rfl) ?_
      refine va_get (D := D) (ci := 11) (v := .ref q_d) (C := RX11) (T := TX11) (N := 2) hx hb hts hi_X11 hown hK.1 hP 0 rfl rfl 0 (by decide) hf_9 (fun _ h9 => h9) rfl dX11_trim_8 ?_
      refine lv_aload_n hx hb dX11_trim_11 rfl (lv_at hl 0 rfl) ?_
      refine va_get (D := D) (ci := 11) (v := .int v1) (C := RX11) (T := TX11) (N := 2) hx hb hts hi_X11 hown hK.1 hP 0 rfl rfl 1 (by decide) hf_15 (fun _ h9 => h9) rfl dX11_trim_12 ?_
      refine lv_iconst (v := 1) hx hb dX11_trim_15 (by decide) ?_
      refine lv_isub hx hb dX11_trim_16 ?_
      obtain ⟨hg, h⟩ := gd_of h
      refine va_iald hx hb hK.1 hP 1 0 rfl rfl hg dX11_trim_17 ?_
      refine lv_if_ne (tgt := 34) hx hb dX11_trim_18 (by decide) (fun hc => ?_) (fun hc => ?_)
      · replace h := if_t hc h
        cases h
        exact K _ _ _ hP hD hS (lv_sub hl [0] rfl)
      · replace h := if_f (fun z => z hc) h
        refine lv_aload_n hx hb dX11_trim_21 rfl (lv_at hl 0 rfl) ?_
        refine lv_dup hx hb dX11_trim_22 rfl ?_
        refine va_get (D := D) (ci := 11) (v := .int v1) (C := RX11) (T := TX11) (N := 2) hx hb hts hi_X11 hown hK.1 hP 0 rfl rfl 1 (by decide) hf_15 (fun _ h9 => h9) rfl dX11_trim_23 ?_
        refine lv_iconst (v := 1) hx hb dX11_trim_26 (by decide) ?_
        refine lv_isub hx hb dX11_trim_27 ?_
        refine lv_topi (fun x2 ex2 => ?_)
        replace h := lt_at ex2 h
        refine va_put (D := D) (ci := 11) (v := .int x2) (ty := .int) (C := RX11) (T := TX11) (N := 2) hx hb hts hi_X11 tyX11 tyX11_ok nmX11 hown hK.1 hP hD hS 0 rfl rfl 1 (by decide) hf_15 (fun _ h9 => h9) rfl (by decide +kernel) rfl rfl (Nat.le_of_ble_eq_true rfl) dX11_trim_28 (fun H locs hP hD hS => ?_)
        replace hP : va_P D vwCl [(q_, .inr (11, [.ref q_d, .int x2])), (q_d, .inl (ky 0, 600, .inl s_d))] H := hP
        replace hD : va_D A [(q_, .inr (11, [.ref q_d, .int x2])), (q_d, .inl (ky 0, 600, .inl s_d))] := hD
        refine lv_goto (tgt := 0) hx hb dX11_trim_31 (by decide) ?_
        cases h
        exact K _ _ _ hP hD hS (lv_sub hl [0] rfl)
  · have h1 := ex1_of h
    clear h hi
    rcases h1 with ⟨rfl, h⟩
    obtain ⟨v3, rfl⟩ : ∃ z, z = t := ⟨_, rfl⟩
    replace h := dm1_of h
    intro H locs ls hP hD hS hl
    replace hP : va_P D vwCl [(q_, .inr (11, [.ref q_d, .int v3])), (q_d, .inl (ky 0, 600, .inl s_d))] H := hP
    replace hD : va_D A [(q_, .inr (11, [.ref q_d, .int v3])), (q_d, .inl (ky 0, 600, .inl s_d))] := hD
    replace hl : lv_has ls 1 [(0, .ref q_)] := hl
    refine W.eq (g2 := F0 m 34 ls []) rfl ?_
    cases h
    exact ret _ _ _ _ dX11_trim_34 hP hD hS

def bX11_times_5 (a1 : Int64) (s_len : Int32) (t : Int64 × Int32 × (Nat → Int32)) : Option (Nat × (Int64 × Int32 × (Nat → Int32))) := dm3 t (fun (v1 : Int64) (v2 : Int32) (v3 : Nat → Int32) => if s_len ≤ v2 then some (1, (v1, v2, v3)) else gd (¬ (v2 < 0 ∨ 600 ≤ v2.toNatClampNeg)) (lt (v1 + (((v3 v2.toNatClampNeg).toInt64) * a1)) (fun x4 => gd (¬ (v2 < 0 ∨ 600 ≤ v2.toNatClampNeg)) (lt (upd v3 v2.toNatClampNeg ((x4 &&& (1073741823 : Int64)).toInt32)) (fun f5 => lt (x4 >>> ((30 : Int32).toInt64 &&& 63)) (fun x6 => lt (v2 + 1) (fun x7 => some (0, (x6, x7, f5)))))))))
def bX11_times_51  (t : Int64 × Int32 × (Nat → Int32)) : Option (Nat × (Int64 × Int32 × (Nat → Int32))) := dm3 t (fun (v11 : Int64) (v12 : Int32) (v13 : Nat → Int32) => if (lg_cmp v11 (0 : Int64)) = 0 then some (1, (v11, v12, v13)) else gd (¬ (v12 < 0 ∨ 600 ≤ v12.toNatClampNeg)) (lt (upd v13 v12.toNatClampNeg ((v11 &&& (1073741823 : Int64)).toInt32)) (fun f14 => lt (v12 + (1 : Int32)) (fun x15 => lt (v11 >>> ((30 : Int32).toInt64 &&& 63)) (fun x16 => some (0, (x16, x15, f14)))))))
def sX11_times (a1 : Int64) (s_len : Int32) (s_d : Nat → Int32) : Option (Int32 × (Nat → Int32)) := ob (iter (bX11_times_5 a1 s_len) FU ((0 : Int64), (0 : Int32), s_d)) (fun kt => ex1 kt (fun t => dm3 t (fun (v8 : Int64) (v9 : Int32) (v10 : Nat → Int32) => ob (iter (bX11_times_51 ) FU (v8, s_len, v10)) (fun kt => ex1 kt (fun t => dm3 t (fun (v17 : Int64) (v18 : Int32) (v19 : Nat → Int32) => ob (sX11_trim v18 v19) (fun o => dm1 o (fun (o20 : Int32) => some (o20, v19)))))))))
abbrev rmX11_times : Room := { frames := 1, cells := 0, slots := 0, locals := 20 }
set_option maxHeartbeats 4000000 in
set_option maxRecDepth 100000 in
theorem c_X11_times (l : Launch) (D : va_G) (ky : Nat → ClassId) (q_ q_d : Nat) (a1 : Int64) (s_len : Int32) (s_d : Nat → Int32) {o_len : Int32} {o_d : Nat → Int32} (h : sX11_times a1 s_len s_d = some (o_len, o_d)) : MtV l D ky yX11_times wsX11_times rmX11_times [.ref q_, .long a1] [(q_, .inr (11, [.ref q_d, .int s_len])), (q_d, .inl (ky 0, 600, .inl s_d))] [(q_, .inr (11, [.ref q_d, .int o_len])), (q_d, .inl (ky 0, 600, .inl o_d))] 0 0 := by
  refine MtV.of (cc := cX11_times) (maxL := 6) (by decide +kernel) rfl (Nat.le_of_ble_eq_true rfl) ?_
  intro p e R s m args below meth c A Q ls hR hx hb hts hown hnm hml hP hK hD hA ret hl
  have rt := rtV (dc := fun pc => decode cX11_times pc = .ok (.return_, 1)) (o_len, o_d) (fun t => [(q_, .inr (11, [.ref q_d, .int t.1])), (q_d, .inl (ky 0, 600, .inl t.2))]) ret
  subst hR
  obtain ⟨H, hH⟩ : ∃ H, H = s.heap := ⟨_, rfl⟩
  obtain ⟨locs, hlocs⟩ : ∃ locs : List Loc, locs = [] := ⟨_, rfl⟩
  have hS : va_S A s.heap H locs := by rw [hH, hlocs]; exact va_S.rf
  rw [← hH] at hP
  suffices hgo : W p l e rmX11_times s m args below meth c H locs 0 0 Q (F0 m 0 ls []) by rw [hH, hlocs] at hgo; exact hgo
  clear hH hlocs
  replace hl : lv_has ls 6 [(0, .ref q_), (1, .long a1)] := hl
  replace hown : s.vm.findClass RX11 = some m.cls := hown
  have hi_X11 : ∀ w ∈ u_ws RX11 TX11 2, w ∈ wsX11_times := fun _ h9 => List.mem_cons_of_mem _ (List.mem_append_right _ h9)
  have hf_15 := hts (.fieldLink RX11 15 "GlazierBenchModel$Nat" "len" "I") (by decide +kernel)
  have hf_9 := hts (.fieldLink RX11 9 "GlazierBenchModel$Nat" "d" "[I") (by decide +kernel)
  have hk_19 := hts (.constantLong RX11 19 (1073741823)) (by decide +kernel)
  unfold sX11_times at h
  refine lv_lconst (v := 0) hx hb dX11_times_0 (by decide) ?_
  refine lv_lstore_n (lv' := [(3, .long (0 : Int64)), (0, .ref q_), (1, .long a1)]) hx hb dX11_times_1 rfl hl (by decide) rfl (fun ls hl => ?_)
  refine lv_iconst (v := 0) hx hb dX11_times_2 (by decide) ?_
  refine lv_istore (lv' := [(5, .int (0 : Int32)), (3, .long (0 : Int64)), (0, .ref q_), (1, .long a1)]) hx hb dX11_times_3 hl (by decide) rfl (fun ls hl => ?_)
  obtain ⟨⟨k, t⟩, hi, h⟩ := ob_of h
  refine iter_rule (P := fun (k : Nat) (t : Int64 × Int32 × (Nat → Int32)) => ∀ (H : Heap) (locs : List Loc) (ls : Array Slot), va_P D vwCl [(q_, .inr (11, [.ref q_d, .int s_len])), (q_d, .inl (ky 0, 600, .inl t.2.2))] H → va_D A [(q_, .inr (11, [.ref q_d, .int s_len])), (q_d, .inl (ky 0, 600, .inl t.2.2))] → va_S A s.heap H locs → lv_has ls 6 [(0, .ref q_), (1, .long a1), (3, .long t.1), (5, .int t.2.1)] → W p l e rmX11_times s m args below meth c H locs 0 0 Q (F0 m ([5, 51].getD k 0) ls [])) ?_ _ _ _ _ hi ?_ H locs ls hP hD hS (lv_sub hl [2, 3, 1, 0] rfl)
  · clear h hi hP hD hS hl
    intro t k t' h K
    obtain ⟨v1, v2, v3⟩ := t
    intro H locs ls hP hD hS hl
    replace h := dm3_of h
    replace hP : va_P D vwCl [(q_, .inr (11, [.ref q_d, .int s_len])), (q_d, .inl (ky 0, 600, .inl v3))] H := hP
    replace hD : va_D A [(q_, .inr (11, [.ref q_d, .int s_len])), (q_d, .inl (ky 0, 600, .inl v3))] := hD
    replace hl : lv_has ls 6 [(0, .ref q_), (1, .long a1), (3, .long v1), (5, .int v2)] := hl
    refine lv_iload hx hb dX11_times_5 (lv_at hl 3 rfl) ?_
    refine lv_aload_n hx hb dX11_times_7 rfl (lv_at hl 0 rfl) ?_
    refine va_get (D := D) (ci := 11) (v := .int s_len) (C := RX11) (T := TX11) (N := 2) hx hb hts hi_X11 hown hK.1 hP 0 rfl rfl 1 (by decide) hf_15 (fun _ h9 => h9) rfl dX11_times_8 ?_
    refine lv_icmp_ge (tgt := 51) hx hb dX11_times_11 (by decide) (fun hc => ?_) (fun hc => ?_)
    · replace h := if_t hc h
      cases h
      exact K _ _ _ hP hD hS (lv_sub hl [0, 1, 2, 3] rfl)
    · replace h := if_f hc h
      refine lv_lload_n hx hb dX11_times_14 rfl (lv_at hl 2 rfl) ?_
      refine lv_aload_n hx hb dX11_times_15 rfl (lv_at hl 0 rfl) ?_
      refine va_get (D := D) (ci := 11) (v := .ref q_d) (C := RX11) (T := TX11) (N := 2) hx hb hts hi_X11 hown hK.1 hP 0 rfl rfl 0 (by decide) hf_9 (fun _ h9 => h9) rfl dX11_times_16 ?_
      refine lv_iload hx hb dX11_times_19 (lv_at hl 3 rfl) ?_
      obtain ⟨hg, h⟩ := gd_of h
      refine va_iald hx hb hK.1 hP 1 0 rfl rfl hg dX11_times_21 ?_
      refine lv_i2l (v := (v3 v2.toNatClampNeg).toInt64) hx hb dX11_times_22 rfl ?_
      refine lv_lload_n hx hb dX11_times_23 rfl (lv_at hl 1 rfl) ?_
      refine lv_lmul hx hb dX11_times_24 ?_
      refine lv_ladd hx hb dX11_times_25 ?_
      refine lv_topl (fun x4 ex4 => ?_)
      replace h := lt_at ex4 h
      refine lv_lstore_n (lv' := [(3, .long x4), (0, .ref q_), (1, .long a1), (5, .int v2)]) hx hb dX11_times_26 rfl hl (by decide) rfl (fun ls hl => ?_)
      refine lv_aload_n hx hb dX11_times_27 rfl (lv_at hl 1 rfl) ?_
      refine va_get (D := D) (ci := 11) (v := .ref q_d) (C := RX11) (T := TX11) (N := 2) hx hb hts hi_X11 hown hK.1 hP 0 rfl rfl 0 (by decide) hf_9 (fun _ h9 => h9) rfl dX11_times_28 ?_
      refine lv_iload hx hb dX11_times_31 (lv_at hl 3 rfl) ?_
      refine lv_lload_n hx hb dX11_times_33 rfl (lv_at hl 0 rfl) ?_
      refine lv_ldc2 hx hb hown hk_19 dX11_times_34 ?_
      refine lv_land hx hb dX11_times_37 ?_
      refine lv_l2i (v := (x4 &&& (1073741823 : Int64)).toInt32) hx hb dX11_times_38 rfl ?_
      obtain ⟨hg, h⟩ := gd_of h
      refine r_iast hx hb hK.1 hP hD hS 1 0 rfl rfl hg dX11_times_39 (fun f5 ef5 H locs hP hD hS => ?_)
      replace h := lt_at ef5 h
      replace hP : va_P D vwCl [(q_, .inr (11, [.ref q_d, .int s_len])), (q_d, .inl (ky 0, 600, .inl f5))] H := hP
      replace hD : va_D A [(q_, .inr (11, [.ref q_d, .int s_len])), (q_d, .inl (ky 0, 600, .inl f5))] := hD
      refine lv_lload_n hx hb dX11_times_40 rfl (lv_at hl 0 rfl) ?_
      refine lv_bipush (v := 30) hx hb dX11_times_41 (by decide) ?_
      refine lv_lshr (v := (x4 >>> ((30 : Int32).toInt64 &&& 63))) hx hb dX11_times_43 rfl ?_
      refine lv_topl (fun x6 ex6 => ?_)
      replace h := lt_at ex6 h
      refine lv_lstore_n (lv' := [(3, .long x6), (0, .ref q_), (1, .long a1), (5, .int v2)]) hx hb dX11_times_44 rfl hl (by decide) rfl (fun ls hl => ?_)
      obtain ⟨x7, ex7⟩ : ∃ z : Int32, z = v2 + 1 := ⟨_, rfl⟩
      replace h := lt_at ex7 h
      refine lv_iinc (v := x7) (lv' := [(5, .int x7), (3, .long x6), (0, .ref q_), (1, .long a1)]) hx hb dX11_times_45 hl (k := 3) rfl (by rw [ex7]; rfl) (by decide) rfl (fun ls hl => ?_)
      refine lv_goto (tgt := 5) hx hb dX11_times_48 (by decide) ?_
      cases h
      exact K _ _ _ hP hD hS (lv_sub hl [2, 3, 1, 0] rfl)
  · have h1 := ex1_of h
    clear h hi
    rcases h1 with ⟨rfl, h⟩
    obtain ⟨v8, v9, v10⟩ := t
    replace h := dm3_of h
    intro H locs ls hP hD hS hl
    replace hP : va_P D vwCl [(q_, .inr (11, [.ref q_d, .int s_len])), (q_d, .inl (ky 0, 600, .inl v10))] H := hP
    replace hD : va_D A [(q_, .inr (11, [.ref q_d, .int s_len])), (q_d, .inl (ky 0, 600, .inl v10))] := hD
    replace hl : lv_has ls 6 [(0, .ref q_), (1, .long a1), (3, .long v8), (5, .int v9)] := hl
    refine W.eq (g2 := F0 m 51 ls []) rfl ?_
    obtain ⟨⟨k, t⟩, hi, h⟩ := ob_of h
    refine iter_rule (P := fun (k : Nat) (t : Int64 × Int32 × (Nat → Int32)) => ∀ (H : Heap) (locs : List Loc) (ls : Array Slot), va_P D vwCl [(q_, .inr (11, [.ref q_d, .int t.2.1])), (q_d, .inl (ky 0, 600, .inl t.2.2))] H → va_D A [(q_, .inr (11, [.ref q_d, .int t.2.1])), (q_d, .inl (ky 0, 600, .inl t.2.2))] → va_S A s.heap H locs → lv_has ls 6 [(0, .ref q_), (3, .long t.1)] → W p l e rmX11_times s m args below meth c H locs 0 0 Q (F0 m ([51, 90].getD k 0) ls [])) ?_ _ _ _ _ hi ?_ H locs ls hP hD hS (lv_sub hl [0, 2] rfl)
    · clear h hi hP hD hS hl
      intro t k t' h K
      obtain ⟨v11, v12, v13⟩ := t
      intro H locs ls hP hD hS hl
      replace h := dm3_of h
      replace hP : va_P D vwCl [(q_, .inr (11, [.ref q_d, .int v12])), (q_d, .inl (ky 0, 600, .inl v13))] H := hP
      replace hD : va_D A [(q_, .inr (11, [.ref q_d, .int v12])), (q_d, .inl (ky 0, 600, .inl v13))] := hD
      replace hl : lv_has ls 6 [(0, .ref q_), (3, .long v11)] := hl
      refine lv_lload_n hx hb dX11_times_51 rfl (lv_at hl 1 rfl) ?_
      refine lv_lconst (v := 0) hx hb dX11_times_52 (by decide) ?_
      refine W.lcmp hx hb dX11_times_53 ?_
      refine lv_if_eq (tgt := 90) hx hb dX11_times_54 (by decide) (fun hc => ?_) (fun hc => ?_)
      · replace h := if_t hc h
        cases h
        exact K _ _ _ hP hD hS (lv_sub hl [0, 1] rfl)
      · replace h := if_f hc h
        refine lv_aload_n hx hb dX11_times_57 rfl (lv_at hl 0 rfl) ?_
        refine va_get (D := D) (ci := 11) (v := .ref q_d) (C := RX11) (T := TX11) (N := 2) hx hb hts hi_X11 hown hK.1 hP 0 rfl rfl 0 (by decide) hf_9 (fun _ h9 => h9) rfl dX11_times_58 ?_
        refine lv_aload_n hx hb dX11_times_61 rfl (lv_at hl 0 rfl) ?_
        refine va_get (D := D) (ci := 11) (v := .int v12) (C := RX11) (T := TX11) (N := 2) hx hb hts hi_X11 hown hK.1 hP 0 rfl rfl 1 (by decide) hf_15 (fun _ h9 => h9) rfl dX11_times_62 ?_
        refine lv_lload_n hx hb dX11_times_65 rfl (lv_at hl 1 rfl) ?_
        refine lv_ldc2 hx hb hown hk_19 dX11_times_66 ?_
        refine lv_land hx hb dX11_times_69 ?_
        refine lv_l2i (v := (v11 &&& (1073741823 : Int64)).toInt32) hx hb dX11_times_70 rfl ?_
        obtain ⟨hg, h⟩ := gd_of h
        refine r_iast hx hb hK.1 hP hD hS 1 0 rfl rfl hg dX11_times_71 (fun f14 ef14 H locs hP hD hS => ?_)
        replace h := lt_at ef14 h
        replace hP : va_P D vwCl [(q_, .inr (11, [.ref q_d, .int v12])), (q_d, .inl (ky 0, 600, .inl f14))] H := hP
        replace hD : va_D A [(q_, .inr (11, [.ref q_d, .int v12])), (q_d, .inl (ky 0, 600, .inl f14))] := hD
        refine lv_aload_n hx hb dX11_times_72 rfl (lv_at hl 0 rfl) ?_
        refine lv_dup hx hb dX11_times_73 rfl ?_
        refine va_get (D := D) (ci := 11) (v := .int v12) (C := RX11) (T := TX11) (N := 2) hx hb hts hi_X11 hown hK.1 hP 0 rfl rfl 1 (by decide) hf_15 (fun _ h9 => h9) rfl dX11_times_74 ?_
        refine lv_iconst (v := 1) hx hb dX11_times_77 (by decide) ?_
        refine lv_iadd hx hb dX11_times_78 ?_
        refine lv_topi (fun x15 ex15 => ?_)
        replace h := lt_at ex15 h
        refine va_put (D := D) (ci := 11) (v := .int x15) (ty := .int) (C := RX11) (T := TX11) (N := 2) hx hb hts hi_X11 tyX11 tyX11_ok nmX11 hown hK.1 hP hD hS 0 rfl rfl 1 (by decide) hf_15 (fun _ h9 => h9) rfl (by decide +kernel) rfl rfl (Nat.le_of_ble_eq_true rfl) dX11_times_79 (fun H locs hP hD hS => ?_)
        replace hP : va_P D vwCl [(q_, .inr (11, [.ref q_d, .int x15])), (q_d, .inl (ky 0, 600, .inl f14))] H := hP
        replace hD : va_D A [(q_, .inr (11, [.ref q_d, .int x15])), (q_d, .inl (ky 0, 600, .inl f14))] := hD
        refine lv_lload_n hx hb dX11_times_82 rfl (lv_at hl 1 rfl) ?_
        refine lv_bipush (v := 30) hx hb dX11_times_83 (by decide) ?_
        refine lv_lshr (v := (v11 >>> ((30 : Int32).toInt64 &&& 63))) hx hb dX11_times_85 rfl ?_
        refine lv_topl (fun x16 ex16 => ?_)
        replace h := lt_at ex16 h
        refine lv_lstore_n (lv' := [(3, .long x16), (0, .ref q_)]) hx hb dX11_times_86 rfl hl (by decide) rfl (fun ls hl => ?_)
        refine lv_goto (tgt := 51) hx hb dX11_times_87 (by decide) ?_
        cases h
        exact K _ _ _ hP hD hS (lv_sub hl [1, 0] rfl)
    · have h1 := ex1_of h
      clear h hi
      rcases h1 with ⟨rfl, h⟩
      obtain ⟨v17, v18, v19⟩ := t
      replace h := dm3_of h
      intro H locs ls hP hD hS hl
      replace hP : va_P D vwCl [(q_, .inr (11, [.ref q_d, .int v18])), (q_d, .inl (ky 0, 600, .inl v19))] H := hP
      replace hD : va_D A [(q_, .inr (11, [.ref q_d, .int v18])), (q_d, .inl (ky 0, 600, .inl v19))] := hD
      replace hl : lv_has ls 6 [(0, .ref q_), (3, .long v17)] := hl
      refine W.eq (g2 := F0 m 90 ls []) rfl ?_
      refine lv_aload_n hx hb dX11_times_90 rfl (lv_at hl 0 rfl) ?_
      obtain ⟨o20, hc, h⟩ := ob_of h
      replace h := dm1_of h
      refine cv_v (As := []) (rest := []) (wr := []) (wn := [(q_, .inr (11, [.ref q_d, .int o20])), (q_d, .inl (ky 0, 600, .inl v19))]) ⟨hx, hb, hml, hown, hts⟩ (c_X11_trim l D ky q_ q_d v18 v19 hc) (cwV 0 hts gX11_times_X11_trim rfl rfl rfl (by decide +kernel) ⟨Nat.le_of_ble_eq_true rfl, Nat.le_of_ble_eq_true rfl⟩) (rcv hK.1 hP (q0 := 0) rfl rfl) hP hD hK hS hA [0, 1] [] [0, 1] rfl (by decide +kernel) rfl (by decide +kernel) (by decide +kernel) (by decide +kernel) rfl rfl rfl hl.1 (Nat.le_of_ble_eq_true rfl) dX11_times_91 ⟨Nat.le_of_ble_eq_true rfl, Nat.le_of_ble_eq_true rfl⟩ (fun H locs hP hD hS => ?_)
      exact rt _ h _ _ _ _ dX11_times_94 hP hD hS

def bX11_add_17 (s_len : Int32) (s_a1_len : Int32) (s_a1_d : Nat → Int32) (x1 : Int32) (t : Int32 × Int32 × (Nat → Int32)) : Option (Nat × (Int32 × Int32 × (Nat → Int32))) := dm3 t (fun (v2 : Int32) (v3 : Int32) (v4 : Nat → Int32) => if x1 ≤ v3 then some (1, (v2, v3, v4)) else ob (if s_len ≤ v3 then some (0 : Int32) else gd (¬ (v3 < 0 ∨ 600 ≤ v3.toNatClampNeg)) (some (v4 v3.toNatClampNeg))) (fun t => dm1 t (fun (v5 : Int32) => ob (if s_a1_len ≤ v3 then some (0 : Int32) else gd (¬ (v3 < 0 ∨ 600 ≤ v3.toNatClampNeg)) (some (s_a1_d v3.toNatClampNeg))) (fun t => dm1 t (fun (v6 : Int32) => lt (((v2.toInt64) + (v5.toInt64)) + (v6.toInt64)) (fun x7 => gd (¬ (v3 < 0 ∨ 600 ≤ v3.toNatClampNeg)) (lt (upd v4 v3.toNatClampNeg ((x7 &&& (1073741823 : Int64)).toInt32)) (fun f8 => lt ((x7 >>> ((30 : Int32).toInt64 &&& 63)).toInt32) (fun x9 => lt (v3 + 1) (fun x10 => some (0, (x9, x10, f8))))))))))))
def sX11_add  (s_len : Int32) (s_d : Nat → Int32) (s_a1_len : Int32) (s_a1_d : Nat → Int32) : Option (Int32 × (Nat → Int32)) := lt (if s_len < s_a1_len then s_a1_len else s_len) (fun x1 => ob (iter (bX11_add_17 s_len s_a1_len s_a1_d x1) FU ((0 : Int32), (0 : Int32), s_d)) (fun kt => ex1 kt (fun t => dm3 t (fun (v11 : Int32) (v12 : Int32) (v13 : Nat → Int32) => gd (¬ (x1 < 0 ∨ 600 ≤ x1.toNatClampNeg)) (lt (upd v13 x1.toNatClampNeg v11) (fun f14 => lt (x1 + (1 : Int32)) (fun x15 => ob (sX11_trim x15 f14) (fun o => dm1 o (fun (o16 : Int32) => some (o16, f14))))))))))
abbrev rmX11_add : Room := { frames := 1, cells := 0, slots := 0, locals := 40 }
set_option maxHeartbeats 4000000 in
set_option maxRecDepth 100000 in
theorem c_X11_add (l : Launch) (D : va_G) (ky : Nat → ClassId) (q_ q_d q_a1 q_a1_d : Nat) (s_len : Int32) (s_d : Nat → Int32) (s_a1_len : Int32) (s_a1_d : Nat → Int32) {o_len : Int32} {o_d : Nat → Int32} (h : sX11_add s_len s_d s_a1_len s_a1_d = some (o_len, o_d)) : MtV l D ky yX11_add wsX11_add rmX11_add [.ref q_, .ref q_a1] [(q_, .inr (11, [.ref q_d, .int s_len])), (q_d, .inl (ky 0, 600, .inl s_d)), (q_a1, .inr (11, [.ref q_a1_d, .int s_a1_len])), (q_a1_d, .inl (ky 0, 600, .inl s_a1_d))] [(q_, .inr (11, [.ref q_d, .int o_len])), (q_d, .inl (ky 0, 600, .inl o_d)), (q_a1, .inr (11, [.ref q_a1_d, .int s_a1_len])), (q_a1_d, .inl (ky 0, 600, .inl s_a1_d))] 0 0 := by
  refine MtV.of (cc := cX11_add) (maxL := 7) (by decide +kernel) rfl (Nat.le_of_ble_eq_true rfl) ?_
  intro p e R s m args below meth c A Q ls hR hx hb hts hown hnm hml hP hK hD hA ret hl
  have rt := rtV (dc := fun pc => decode cX11_add pc = .ok (.return_, 1)) (o_len, o_d) (fun t => [(q_, .inr (11, [.ref q_d, .int t.1])), (q_d, .inl (ky 0, 600, .inl t.2)), (q_a1, .inr (11, [.ref q_a1_d, .int s_a1_len])), (q_a1_d, .inl (ky 0, 600, .inl s_a1_d))]) ret
  subst hR
  obtain ⟨H, hH⟩ : ∃ H, H = s.heap := ⟨_, rfl⟩
  obtain ⟨locs, hlocs⟩ : ∃ locs : List Loc, locs = [] := ⟨_, rfl⟩
  have hS : va_S A s.heap H locs := by rw [hH, hlocs]; exact va_S.rf
  rw [← hH] at hP
  suffices hgo : W p l e rmX11_add s m args below meth c H locs 0 0 Q (F0 m 0 ls []) by rw [hH, hlocs] at hgo; exact hgo
  clear hH hlocs
  replace hl : lv_has ls 7 [(0, .ref q_), (1, .ref q_a1)] := hl
  replace hown : s.vm.findClass RX11 = some m.cls := hown
  have hi_X11 : ∀ w ∈ u_ws RX11 TX11 2, w ∈ wsX11_add := fun _ h9 => List.mem_cons_of_mem _ (List.mem_append_right _ h9)
  have hf_15 := hts (.fieldLink RX11 15 "GlazierBenchModel$Nat" "len" "I") (by decide +kernel)
  have hm_24 := hts (.methodLink RX11 24 Lib.Math.max.name) (by decide +kernel)
  have hs_mmax := hts (.static Lib.Math.max.name) (by decide +kernel)
  have hini_Math := hts (.initialized "java/lang/Math") (by decide +kernel)
  have hco_mmax := hts (.code Lib.Math.max.name Lib.Math.max.code 2 (some .int)) (by decide +kernel)
  have hf_9 := hts (.fieldLink RX11 9 "GlazierBenchModel$Nat" "d" "[I") (by decide +kernel)
  have hk_19 := hts (.constantLong RX11 19 (1073741823)) (by decide +kernel)
  unfold sX11_add at h
  refine lv_aload_n hx hb dX11_add_0 rfl (lv_at hl 0 rfl) ?_
  refine va_get (D := D) (ci := 11) (v := .int s_len) (C := RX11) (T := TX11) (N := 2) hx hb hts hi_X11 hown hK.1 hP 0 rfl rfl 1 (by decide) hf_15 (fun _ h9 => h9) rfl dX11_add_1 ?_
  refine lv_aload_n hx hb dX11_add_4 rfl (lv_at hl 1 rfl) ?_
  refine va_get (D := D) (ci := 11) (v := .int s_a1_len) (C := RX11) (T := TX11) (N := 2) hx hb hts hi_X11 hown hK.1 hP 2 rfl rfl 1 (by decide) hf_15 (fun _ h9 => h9) rfl dX11_add_5 ?_
  refine va_mmax hx hb (hml.trans hl.1.symm) hown hm_24 hs_mmax hini_Math hco_mmax (Nat.le_of_ble_eq_true rfl) (Nat.le_of_ble_eq_true rfl) (Nat.le_of_ble_eq_true rfl) (Nat.le_of_ble_eq_true rfl) dX11_add_8 ?_
  refine lv_topi (fun x1 ex1 => ?_)
  replace h := lt_at ex1 h
  refine lv_istore_n (lv' := [(2, .int x1), (0, .ref q_), (1, .ref q_a1)]) hx hb dX11_add_11 rfl hl (by decide) rfl (fun ls hl => ?_)
  refine lv_iconst (v := 0) hx hb dX11_add_12 (by decide) ?_
  refine lv_istore_n (lv' := [(3, .int (0 : Int32)), (2, .int x1), (0, .ref q_), (1, .ref q_a1)]) hx hb dX11_add_13 rfl hl (by decide) rfl (fun ls hl => ?_)
  refine lv_iconst (v := 0) hx hb dX11_add_14 (by decide) ?_
  refine lv_istore (lv' := [(4, .int (0 : Int32)), (3, .int (0 : Int32)), (2, .int x1), (0, .ref q_), (1, .ref q_a1)]) hx hb dX11_add_15 hl (by decide) rfl (fun ls hl => ?_)
  obtain ⟨⟨k, t⟩, hi, h⟩ := ob_of h
  refine iter_rule (P := fun (k : Nat) (t : Int32 × Int32 × (Nat → Int32)) => ∀ (H : Heap) (locs : List Loc) (ls : Array Slot), va_P D vwCl [(q_, .inr (11, [.ref q_d, .int s_len])), (q_d, .inl (ky 0, 600, .inl t.2.2)), (q_a1, .inr (11, [.ref q_a1_d, .int s_a1_len])), (q_a1_d, .inl (ky 0, 600, .inl s_a1_d))] H → va_D A [(q_, .inr (11, [.ref q_d, .int s_len])), (q_d, .inl (ky 0, 600, .inl t.2.2)), (q_a1, .inr (11, [.ref q_a1_d, .int s_a1_len])), (q_a1_d, .inl (ky 0, 600, .inl s_a1_d))] → va_S A s.heap H locs → lv_has ls 7 [(0, .ref q_), (1, .ref q_a1), (2, .int x1), (3, .int t.1), (4, .int t.2.1)] → W p l e rmX11_add s m args below meth c H locs 0 0 Q (F0 m ([17, 98].getD k 0) ls [])) ?_ _ _ _ _ hi ?_ H locs ls hP hD hS (lv_sub hl [3, 4, 2, 1, 0] rfl)
  · clear h hi hP hD hS hl
    intro t k t' h K
    obtain ⟨v2, v3, v4⟩ := t
    intro H locs ls hP hD hS hl
    replace h := dm3_of h
    replace hP : va_P D vwCl [(q_, .inr (11, [.ref q_d, .int s_len])), (q_d, .inl (ky 0, 600, .inl v4)), (q_a1, .inr (11, [.ref q_a1_d, .int s_a1_len])), (q_a1_d, .inl (ky 0, 600, .inl s_a1_d))] H := hP
    replace hD : va_D A [(q_, .inr (11, [.ref q_d, .int s_len])), (q_d, .inl (ky 0, 600, .inl v4)), (q_a1, .inr (11, [.ref q_a1_d, .int s_a1_len])), (q_a1_d, .inl (ky 0, 600, .inl s_a1_d))] := hD
    replace hl : lv_has ls 7 [(0, .ref q_), (1, .ref q_a1), (2, .int x1), (3, .int v2), (4, .int v3)] := hl
    refine lv_iload hx hb dX11_add_17 (lv_at hl 4 rfl) ?_
    refine lv_iload_n hx hb dX11_add_19 rfl (lv_at hl 2 rfl) ?_
    refine lv_icmp_ge (tgt := 98) hx hb dX11_add_20 (by decide) (fun hc => ?_) (fun hc => ?_)
    · replace h := if_t hc h
      cases h
      exact K _ _ _ hP hD hS (lv_sub hl [0, 1, 2, 3, 4] rfl)
    · replace h := if_f hc h
      refine lv_iload_n hx hb dX11_add_23 rfl (lv_at hl 3 rfl) ?_
      refine lv_i2l (v := v2.toInt64) hx hb dX11_add_24 rfl ?_
      refine lv_iload hx hb dX11_add_25 (lv_at hl 4 rfl) ?_
      refine lv_aload_n hx hb dX11_add_27 rfl (lv_at hl 0 rfl) ?_
      refine va_get (D := D) (ci := 11) (v := .int s_len) (C := RX11) (T := TX11) (N := 2) hx hb hts hi_X11 hown hK.1 hP 0 rfl rfl 1 (by decide) hf_15 (fun _ h9 => h9) rfl dX11_add_28 ?_
      obtain ⟨t, hd, h⟩ := ob_of h
      have K : ∀ (H : Heap) (locs : List Loc) (ls : Array Slot), va_P D vwCl [(q_, .inr (11, [.ref q_d, .int s_len])), (q_d, .inl (ky 0, 600, .inl v4)), (q_a1, .inr (11, [.ref q_a1_d, .int s_a1_len])), (q_a1_d, .inl (ky 0, 600, .inl s_a1_d))] H → va_D A [(q_, .inr (11, [.ref q_d, .int s_len])), (q_d, .inl (ky 0, 600, .inl v4)), (q_a1, .inr (11, [.ref q_a1_d, .int s_a1_len])), (q_a1_d, .inl (ky 0, 600, .inl s_a1_d))] → va_S A s.heap H locs → lv_has ls 7 [(0, .ref q_), (1, .ref q_a1), (2, .int x1), (4, .int v3)] → W p l e rmX11_add s m args below meth c H locs 0 0 Q (F0 m 45 ls [.int t, .long (v2.toInt64)]) := by
        clear hd hP hD hS hl
        obtain ⟨v5, rfl⟩ : ∃ z, z = t := ⟨_, rfl⟩
        replace h := dm1_of h
        intro H locs ls hP hD hS hl
        replace hP : va_P D vwCl [(q_, .inr (11, [.ref q_d, .int s_len])), (q_d, .inl (ky 0, 600, .inl v4)), (q_a1, .inr (11, [.ref q_a1_d, .int s_a1_len])), (q_a1_d, .inl (ky 0, 600, .inl s_a1_d))] H := hP
        replace hD : va_D A [(q_, .inr (11, [.ref q_d, .int s_len])), (q_d, .inl (ky 0, 600, .inl v4)), (q_a1, .inr (11, [.ref q_a1_d, .int s_a1_len])), (q_a1_d, .inl (ky 0, 600, .inl s_a1_d))] := hD
        replace hl : lv_has ls 7 [(0, .ref q_), (1, .ref q_a1), (2, .int x1), (4, .int v3)] := hl
        refine W.eq (g2 := F0 m 45 ls [.int v5, .long (v2.toInt64)]) rfl ?_
        refine lv_i2l (v := v5.toInt64) hx hb dX11_add_45 rfl ?_
        refine lv_ladd hx hb dX11_add_46 ?_
        refine lv_iload hx hb dX11_add_47 (lv_at hl 3 rfl) ?_
        refine lv_aload_n hx hb dX11_add_49 rfl (lv_at hl 1 rfl) ?_
        refine va_get (D := D) (ci := 11) (v := .int s_a1_len) (C := RX11) (T := TX11) (N := 2) hx hb hts hi_X11 hown hK.1 hP 2 rfl rfl 1 (by decide) hf_15 (fun _ h9 => h9) rfl dX11_add_50 ?_
        obtain ⟨t, hd, h⟩ := ob_of h
        have K : ∀ (H : Heap) (locs : List Loc) (ls : Array Slot), va_P D vwCl [(q_, .inr (11, [.ref q_d, .int s_len])), (q_d, .inl (ky 0, 600, .inl v4)), (q_a1, .inr (11, [.ref q_a1_d, .int s_a1_len])), (q_a1_d, .inl (ky 0, 600, .inl s_a1_d))] H → va_D A [(q_, .inr (11, [.ref q_d, .int s_len])), (q_d, .inl (ky 0, 600, .inl v4)), (q_a1, .inr (11, [.ref q_a1_d, .int s_a1_len])), (q_a1_d, .inl (ky 0, 600, .inl s_a1_d))] → va_S A s.heap H locs → lv_has ls 7 [(0, .ref q_), (1, .ref q_a1), (2, .int x1), (4, .int v3)] → W p l e rmX11_add s m args below meth c H locs 0 0 Q (F0 m 67 ls [.int t, .long ((v2.toInt64) + (v5.toInt64))]) := by
          clear hd hP hD hS hl
          obtain ⟨v6, rfl⟩ : ∃ z, z = t := ⟨_, rfl⟩
          replace h := dm1_of h
          intro H locs ls hP hD hS hl
          replace hP : va_P D vwCl [(q_, .inr (11, [.ref q_d, .int s_len])), (q_d, .inl (ky 0, 600, .inl v4)), (q_a1, .inr (11, [.ref q_a1_d, .int s_a1_len])), (q_a1_d, .inl (ky 0, 600, .inl s_a1_d))] H := hP
          replace hD : va_D A [(q_, .inr (11, [.ref q_d, .int s_len])), (q_d, .inl (ky 0, 600, .inl v4)), (q_a1, .inr (11, [.ref q_a1_d, .int s_a1_len])), (q_a1_d, .inl (ky 0, 600, .inl s_a1_d))] := hD
          replace hl : lv_has ls 7 [(0, .ref q_), (1, .ref q_a1), (2, .int x1), (4, .int v3)] := hl
          refine W.eq (g2 := F0 m 67 ls [.int v6, .long ((v2.toInt64) + (v5.toInt64))]) rfl ?_
          refine lv_i2l (v := v6.toInt64) hx hb dX11_add_67 rfl ?_
          refine lv_ladd hx hb dX11_add_68 ?_
          refine lv_topl (fun x7 ex7 => ?_)
          replace h := lt_at ex7 h
          refine lv_lstore (lv' := [(5, .long x7), (0, .ref q_), (1, .ref q_a1), (2, .int x1), (4, .int v3)]) hx hb dX11_add_69 hl (by decide) rfl (fun ls hl => ?_)
          refine lv_aload_n hx hb dX11_add_71 rfl (lv_at hl 1 rfl) ?_
          refine va_get (D := D) (ci := 11) (v := .ref q_d) (C := RX11) (T := TX11) (N := 2) hx hb hts hi_X11 hown hK.1 hP 0 rfl rfl 0 (by decide) hf_9 (fun _ h9 => h9) rfl dX11_add_72 ?_
          refine lv_iload hx hb dX11_add_75 (lv_at hl 4 rfl) ?_
          refine lv_lload hx hb dX11_add_77 (lv_at hl 0 rfl) ?_
          refine lv_ldc2 hx hb hown hk_19 dX11_add_79 ?_
          refine lv_land hx hb dX11_add_82 ?_
          refine lv_l2i (v := (x7 &&& (1073741823 : Int64)).toInt32) hx hb dX11_add_83 rfl ?_
          obtain ⟨hg, h⟩ := gd_of h
          refine r_iast hx hb hK.1 hP hD hS 1 0 rfl rfl hg dX11_add_84 (fun f8 ef8 H locs hP hD hS => ?_)
          replace h := lt_at ef8 h
          replace hP : va_P D vwCl [(q_, .inr (11, [.ref q_d, .int s_len])), (q_d, .inl (ky 0, 600, .inl f8)), (q_a1, .inr (11, [.ref q_a1_d, .int s_a1_len])), (q_a1_d, .inl (ky 0, 600, .inl s_a1_d))] H := hP
          replace hD : va_D A [(q_, .inr (11, [.ref q_d, .int s_len])), (q_d, .inl (ky 0, 600, .inl f8)), (q_a1, .inr (11, [.ref q_a1_d, .int s_a1_len])), (q_a1_d, .inl (ky 0, 600, .inl s_a1_d))] := hD
          refine lv_lload hx hb dX11_add_85 (lv_at hl 0 rfl) ?_
          refine lv_bipush (v := 30) hx hb dX11_add_87 (by decide) ?_
          refine lv_lshr (v := (x7 >>> ((30 : Int32).toInt64 &&& 63))) hx hb dX11_add_89 rfl ?_
          refine lv_l2i (v := (x7 >>> ((30 : Int32).toInt64 &&& 63)).toInt32) hx hb dX11_add_90 rfl ?_
          refine lv_topi (fun x9 ex9 => ?_)
          replace h := lt_at ex9 h
          refine lv_istore_n (lv' := [(3, .int x9), (5, .long x7), (0, .ref q_), (1, .ref q_a1), (2, .int x1), (4, .int v3)]) hx hb dX11_add_91 rfl hl (by decide) rfl (fun ls hl => ?_)
          obtain ⟨x10, ex10⟩ : ∃ z : Int32, z = v3 + 1 := ⟨_, rfl⟩
          replace h := lt_at ex10 h
          refine lv_iinc (v := x10) (lv' := [(4, .int x10), (3, .int x9), (5, .long x7), (0, .ref q_), (1, .ref q_a1), (2, .int x1)]) hx hb dX11_add_92 hl (k := 5) rfl (by rw [ex10]; rfl) (by decide) rfl (fun ls hl => ?_)
          refine lv_goto (tgt := 17) hx hb dX11_add_95 (by decide) ?_
          cases h
          exact K _ _ _ hP hD hS (lv_sub hl [3, 4, 5, 1, 0] rfl)
        replace h := hd
        clear hd
        refine lv_icmp_ge (tgt := 66) hx hb dX11_add_53 (by decide) (fun hc => ?_) (fun hc => ?_)
        · replace h := if_t hc h
          refine lv_iconst (v := 0) hx hb dX11_add_66 (by decide) ?_
          cases h
          exact K _ _ _ hP hD hS (lv_sub hl [0, 1, 2, 3] rfl)
        · replace h := if_f hc h
          refine lv_aload_n hx hb dX11_add_56 rfl (lv_at hl 1 rfl) ?_
          refine va_get (D := D) (ci := 11) (v := .ref q_a1_d) (C := RX11) (T := TX11) (N := 2) hx hb hts hi_X11 hown hK.1 hP 2 rfl rfl 0 (by decide) hf_9 (fun _ h9 => h9) rfl dX11_add_57 ?_
          refine lv_iload hx hb dX11_add_60 (lv_at hl 3 rfl) ?_
          obtain ⟨hg, h⟩ := gd_of h
          refine va_iald hx hb hK.1 hP 3 0 rfl rfl hg dX11_add_62 ?_
          refine lv_goto (tgt := 67) hx hb dX11_add_63 (by decide) ?_
          cases h
          exact K _ _ _ hP hD hS (lv_sub hl [0, 1, 2, 3] rfl)
      replace h := hd
      clear hd
      refine lv_icmp_ge (tgt := 44) hx hb dX11_add_31 (by decide) (fun hc => ?_) (fun hc => ?_)
      · replace h := if_t hc h
        refine lv_iconst (v := 0) hx hb dX11_add_44 (by decide) ?_
        cases h
        exact K _ _ _ hP hD hS (lv_sub hl [0, 1, 2, 4] rfl)
      · replace h := if_f hc h
        refine lv_aload_n hx hb dX11_add_34 rfl (lv_at hl 0 rfl) ?_
        refine va_get (D := D) (ci := 11) (v := .ref q_d) (C := RX11) (T := TX11) (N := 2) hx hb hts hi_X11 hown hK.1 hP 0 rfl rfl 0 (by decide) hf_9 (fun _ h9 => h9) rfl dX11_add_35 ?_
        refine lv_iload hx hb dX11_add_38 (lv_at hl 4 rfl) ?_
        obtain ⟨hg, h⟩ := gd_of h
        refine va_iald hx hb hK.1 hP 1 0 rfl rfl hg dX11_add_40 ?_
        refine lv_goto (tgt := 45) hx hb dX11_add_41 (by decide) ?_
        cases h
        exact K _ _ _ hP hD hS (lv_sub hl [0, 1, 2, 4] rfl)
  · have h1 := ex1_of h
    clear h hi
    rcases h1 with ⟨rfl, h⟩
    obtain ⟨v11, v12, v13⟩ := t
    replace h := dm3_of h
    intro H locs ls hP hD hS hl
    replace hP : va_P D vwCl [(q_, .inr (11, [.ref q_d, .int s_len])), (q_d, .inl (ky 0, 600, .inl v13)), (q_a1, .inr (11, [.ref q_a1_d, .int s_a1_len])), (q_a1_d, .inl (ky 0, 600, .inl s_a1_d))] H := hP
    replace hD : va_D A [(q_, .inr (11, [.ref q_d, .int s_len])), (q_d, .inl (ky 0, 600, .inl v13)), (q_a1, .inr (11, [.ref q_a1_d, .int s_a1_len])), (q_a1_d, .inl (ky 0, 600, .inl s_a1_d))] := hD
    replace hl : lv_has ls 7 [(0, .ref q_), (1, .ref q_a1), (2, .int x1), (3, .int v11), (4, .int v12)] := hl
    refine W.eq (g2 := F0 m 98 ls []) rfl ?_
    refine lv_aload_n hx hb dX11_add_98 rfl (lv_at hl 0 rfl) ?_
    refine va_get (D := D) (ci := 11) (v := .ref q_d) (C := RX11) (T := TX11) (N := 2) hx hb hts hi_X11 hown hK.1 hP 0 rfl rfl 0 (by decide) hf_9 (fun _ h9 => h9) rfl dX11_add_99 ?_
    refine lv_iload_n hx hb dX11_add_102 rfl (lv_at hl 2 rfl) ?_
    refine lv_iload_n hx hb dX11_add_103 rfl (lv_at hl 3 rfl) ?_
    obtain ⟨hg, h⟩ := gd_of h
    refine r_iast hx hb hK.1 hP hD hS 1 0 rfl rfl hg dX11_add_104 (fun f14 ef14 H locs hP hD hS => ?_)
    replace h := lt_at ef14 h
    replace hP : va_P D vwCl [(q_, .inr (11, [.ref q_d, .int s_len])), (q_d, .inl (ky 0, 600, .inl f14)), (q_a1, .inr (11, [.ref q_a1_d, .int s_a1_len])), (q_a1_d, .inl (ky 0, 600, .inl s_a1_d))] H := hP
    replace hD : va_D A [(q_, .inr (11, [.ref q_d, .int s_len])), (q_d, .inl (ky 0, 600, .inl f14)), (q_a1, .inr (11, [.ref q_a1_d, .int s_a1_len])), (q_a1_d, .inl (ky 0, 600, .inl s_a1_d))] := hD
    refine lv_aload_n hx hb dX11_add_105 rfl (lv_at hl 0 rfl) ?_
    refine lv_iload_n hx hb dX11_add_106 rfl (lv_at hl 2 rfl) ?_
    refine lv_iconst (v := 1) hx hb dX11_add_107 (by decide) ?_
    refine lv_iadd hx hb dX11_add_108 ?_
    refine lv_topi (fun x15 ex15 => ?_)
    replace h := lt_at ex15 h
    refine va_put (D := D) (ci := 11) (v := .int x15) (ty := .int) (C := RX11) (T := TX11) (N := 2) hx hb hts hi_X11 tyX11 tyX11_ok nmX11 hown hK.1 hP hD hS 0 rfl rfl 1 (by decide) hf_15 (fun _ h9 => h9) rfl (by decide +kernel) rfl rfl (Nat.le_of_ble_eq_true rfl) dX11_add_109 (fun H locs hP hD hS => ?_)
    replace hP : va_P D vwCl [(q_, .inr (11, [.ref q_d, .int x15])), (q_d, .inl (ky 0, 600, .inl f14)), (q_a1, .inr (11, [.ref q_a1_d, .int s_a1_len])), (q_a1_d, .inl (ky 0, 600, .inl s_a1_d))] H := hP
    replace hD : va_D A [(q_, .inr (11, [.ref q_d, .int x15])), (q_d, .inl (ky 0, 600, .inl f14)), (q_a1, .inr (11, [.ref q_a1_d, .int s_a1_len])), (q_a1_d, .inl (ky 0, 600, .inl s_a1_d))] := hD
    refine lv_aload_n hx hb dX11_add_112 rfl (lv_at hl 0 rfl) ?_
    obtain ⟨o16, hc, h⟩ := ob_of h
    replace h := dm1_of h
    refine cv_v (As := []) (rest := []) (wr := [(q_a1, .inr (11, [.ref q_a1_d, .int s_a1_len])), (q_a1_d, .inl (ky 0, 600, .inl s_a1_d))]) (wn := [(q_, .inr (11, [.ref q_d, .int o16])), (q_d, .inl (ky 0, 600, .inl f14)), (q_a1, .inr (11, [.ref q_a1_d, .int s_a1_len])), (q_a1_d, .inl (ky 0, 600, .inl s_a1_d))]) ⟨hx, hb, hml, hown, hts⟩ (c_X11_trim l D ky q_ q_d x15 f14 hc) (cwV 0 hts gX11_add_X11_trim rfl rfl rfl (by decide +kernel) ⟨Nat.le_of_ble_eq_true rfl, Nat.le_of_ble_eq_true rfl⟩) (rcv hK.1 hP (q0 := 0) rfl rfl) hP hD hK hS hA [0, 1] [2, 3] [2, 3, 0, 1] rfl (by decide +kernel) rfl (by decide +kernel) (by decide +kernel) (by decide +kernel) rfl rfl rfl hl.1 (Nat.le_of_ble_eq_true rfl) dX11_add_113 ⟨Nat.le_of_ble_eq_true rfl, Nat.le_of_ble_eq_true rfl⟩ (fun H locs hP hD hS => ?_)
    exact rt _ h _ _ _ _ dX11_add_116 hP hD hS

def bX11_less_4 (s_len : Int32) (s_a1_len : Int32) (s_a1_d : Nat → Int32) (t : Int32 × Int32 × (Nat → Int32)) : Option (Nat × (Int32 × Int32 × (Nat → Int32))) := dm3 t (fun (v1 : Int32) (v2 : Int32) (v3 : Nat → Int32) => if s_len ≤ v2 then some (1, (v1, v2, v3)) else gd (¬ (v2 < 0 ∨ 600 ≤ v2.toNatClampNeg)) (ob (if s_a1_len ≤ v2 then some (0 : Int32) else gd (¬ (v2 < 0 ∨ 600 ≤ v2.toNatClampNeg)) (some (s_a1_d v2.toNatClampNeg))) (fun t => dm1 t (fun (v4 : Int32) => lt (((v3 v2.toNatClampNeg) - v1) - v4) (fun x5 => ob (if 0 ≤ x5 then some (0 : Int32) else some (1 : Int32)) (fun t => dm1 t (fun (v6 : Int32) => gd (¬ (v2 < 0 ∨ 600 ≤ v2.toNatClampNeg)) (lt (upd v3 v2.toNatClampNeg (x5 &&& (1073741823 : Int32))) (fun f7 => lt (v2 + 1) (fun x8 => some (0, (v6, x8, f7))))))))))))
def sX11_less  (s_len : Int32) (s_d : Nat → Int32) (s_a1_len : Int32) (s_a1_d : Nat → Int32) : Option (Int32 × (Nat → Int32)) := ob (iter (bX11_less_4 s_len s_a1_len s_a1_d) FU ((0 : Int32), (0 : Int32), s_d)) (fun kt => ex1 kt (fun t => dm3 t (fun (v9 : Int32) (v10 : Int32) (v11 : Nat → Int32) => ob (sX11_trim s_len v11) (fun o => dm1 o (fun (o12 : Int32) => some (o12, v11))))))
abbrev rmX11_less : Room := { frames := 1, cells := 0, slots := 0, locals := 20 }
set_option maxHeartbeats 4000000 in
set_option maxRecDepth 100000 in
theorem c_X11_less (l : Launch) (D : va_G) (ky : Nat → ClassId) (q_ q_d q_a1 q_a1_d : Nat) (s_len : Int32) (s_d : Nat → Int32) (s_a1_len : Int32) (s_a1_d : Nat → Int32) {o_len : Int32} {o_d : Nat → Int32} (h : sX11_less s_len s_d s_a1_len s_a1_d = some (o_len, o_d)) : MtV l D ky yX11_less wsX11_less rmX11_less [.ref q_, .ref q_a1] [(q_, .inr (11, [.ref q_d, .int s_len])), (q_d, .inl (ky 0, 600, .inl s_d)), (q_a1, .inr (11, [.ref q_a1_d, .int s_a1_len])), (q_a1_d, .inl (ky 0, 600, .inl s_a1_d))] [(q_, .inr (11, [.ref q_d, .int o_len])), (q_d, .inl (ky 0, 600, .inl o_d)), (q_a1, .inr (11, [.ref q_a1_d, .int s_a1_len])), (q_a1_d, .inl (ky 0, 600, .inl s_a1_d))] 0 0 := by
  refine MtV.of (cc := cX11_less) (maxL := 5) (by decide +kernel) rfl (Nat.le_of_ble_eq_true rfl) ?_
  intro p e R s m args below meth c A Q ls hR hx hb hts hown hnm hml hP hK hD hA ret hl
  have rt := rtV (dc := fun pc => decode cX11_less pc = .ok (.return_, 1)) (o_len, o_d) (fun t => [(q_, .inr (11, [.ref q_d, .int t.1])), (q_d, .inl (ky 0, 600, .inl t.2)), (q_a1, .inr (11, [.ref q_a1_d, .int s_a1_len])), (q_a1_d, .inl (ky 0, 600, .inl s_a1_d))]) ret
  subst hR
  obtain ⟨H, hH⟩ : ∃ H, H = s.heap := ⟨_, rfl⟩
  obtain ⟨locs, hlocs⟩ : ∃ locs : List Loc, locs = [] := ⟨_, rfl⟩
  have hS : va_S A s.heap H locs := by rw [hH, hlocs]; exact va_S.rf
  rw [← hH] at hP
  suffices hgo : W p l e rmX11_less s m args below meth c H locs 0 0 Q (F0 m 0 ls []) by rw [hH, hlocs] at hgo; exact hgo
  clear hH hlocs
  replace hl : lv_has ls 5 [(0, .ref q_), (1, .ref q_a1)] := hl
  replace hown : s.vm.findClass RX11 = some m.cls := hown
  have hi_X11 : ∀ w ∈ u_ws RX11 TX11 2, w ∈ wsX11_less := fun _ h9 => List.mem_cons_of_mem _ (List.mem_append_right _ h9)
  have hf_15 := hts (.fieldLink RX11 15 "GlazierBenchModel$Nat" "len" "I") (by decide +kernel)
  have hf_9 := hts (.fieldLink RX11 9 "GlazierBenchModel$Nat" "d" "[I") (by decide +kernel)
  have hk_30 := hts (.constant RX11 30 (1073741823)) (by decide +kernel)
  unfold sX11_less at h
  refine lv_iconst (v := 0) hx hb dX11_less_0 (by decide) ?_
  refine lv_istore_n (lv' := [(2, .int (0 : Int32)), (0, .ref q_), (1, .ref q_a1)]) hx hb dX11_less_1 rfl hl (by decide) rfl (fun ls hl => ?_)
  refine lv_iconst (v := 0) hx hb dX11_less_2 (by decide) ?_
  refine lv_istore_n (lv' := [(3, .int (0 : Int32)), (2, .int (0 : Int32)), (0, .ref q_), (1, .ref q_a1)]) hx hb dX11_less_3 rfl hl (by decide) rfl (fun ls hl => ?_)
  obtain ⟨⟨k, t⟩, hi, h⟩ := ob_of h
  refine iter_rule (P := fun (k : Nat) (t : Int32 × Int32 × (Nat → Int32)) => ∀ (H : Heap) (locs : List Loc) (ls : Array Slot), va_P D vwCl [(q_, .inr (11, [.ref q_d, .int s_len])), (q_d, .inl (ky 0, 600, .inl t.2.2)), (q_a1, .inr (11, [.ref q_a1_d, .int s_a1_len])), (q_a1_d, .inl (ky 0, 600, .inl s_a1_d))] H → va_D A [(q_, .inr (11, [.ref q_d, .int s_len])), (q_d, .inl (ky 0, 600, .inl t.2.2)), (q_a1, .inr (11, [.ref q_a1_d, .int s_a1_len])), (q_a1_d, .inl (ky 0, 600, .inl s_a1_d))] → va_S A s.heap H locs → lv_has ls 5 [(0, .ref q_), (1, .ref q_a1), (2, .int t.1), (3, .int t.2.1)] → W p l e rmX11_less s m args below meth c H locs 0 0 Q (F0 m ([4, 69].getD k 0) ls [])) ?_ _ _ _ _ hi ?_ H locs ls hP hD hS (lv_sub hl [2, 3, 1, 0] rfl)
  · clear h hi hP hD hS hl
    intro t k t' h K
    obtain ⟨v1, v2, v3⟩ := t
    intro H locs ls hP hD hS hl
    replace h := dm3_of h
    replace hP : va_P D vwCl [(q_, .inr (11, [.ref q_d, .int s_len])), (q_d, .inl (ky 0, 600, .inl v3)), (q_a1, .inr (11, [.ref q_a1_d, .int s_a1_len])), (q_a1_d, .inl (ky 0, 600, .inl s_a1_d))] H := hP
    replace hD : va_D A [(q_, .inr (11, [.ref q_d, .int s_len])), (q_d, .inl (ky 0, 600, .inl v3)), (q_a1, .inr (11, [.ref q_a1_d, .int s_a1_len])), (q_a1_d, .inl (ky 0, 600, .inl s_a1_d))] := hD
    replace hl : lv_has ls 5 [(0, .ref q_), (1, .ref q_a1), (2, .int v1), (3, .int v2)] := hl
    refine lv_iload_n hx hb dX11_less_4 rfl (lv_at hl 3 rfl) ?_
    refine lv_aload_n hx hb dX11_less_5 rfl (lv_at hl 0 rfl) ?_
    refine va_get (D := D) (ci := 11) (v := .int s_len) (C := RX11) (T := TX11) (N := 2) hx hb hts hi_X11 hown hK.1 hP 0 rfl rfl 1 (by decide) hf_15 (fun _ h9 => h9) rfl dX11_less_6 ?_
    refine lv_icmp_ge (tgt := 69) hx hb dX11_less_9 (by decide) (fun hc => ?_) (fun hc => ?_)
    · replace h := if_t hc h
      cases h
      exact K _ _ _ hP hD hS (lv_sub hl [0, 1, 2, 3] rfl)
    · replace h := if_f hc h
      refine lv_aload_n hx hb dX11_less_12 rfl (lv_at hl 0 rfl) ?_
      refine va_get (D := D) (ci := 11) (v := .ref q_d) (C := RX11) (T := TX11) (N := 2) hx hb hts hi_X11 hown hK.1 hP 0 rfl rfl 0 (by decide) hf_9 (fun _ h9 => h9) rfl dX11_less_13 ?_
      refine lv_iload_n hx hb dX11_less_16 rfl (lv_at hl 3 rfl) ?_
      obtain ⟨hg, h⟩ := gd_of h
      refine va_iald hx hb hK.1 hP 1 0 rfl rfl hg dX11_less_17 ?_
      refine lv_iload_n hx hb dX11_less_18 rfl (lv_at hl 2 rfl) ?_
      refine lv_isub hx hb dX11_less_19 ?_
      refine lv_iload_n hx hb dX11_less_20 rfl (lv_at hl 3 rfl) ?_
      refine lv_aload_n hx hb dX11_less_21 rfl (lv_at hl 1 rfl) ?_
      refine va_get (D := D) (ci := 11) (v := .int s_a1_len) (C := RX11) (T := TX11) (N := 2) hx hb hts hi_X11 hown hK.1 hP 2 rfl rfl 1 (by decide) hf_15 (fun _ h9 => h9) rfl dX11_less_22 ?_
      obtain ⟨t, hd, h⟩ := ob_of h
      have K : ∀ (H : Heap) (locs : List Loc) (ls : Array Slot), va_P D vwCl [(q_, .inr (11, [.ref q_d, .int s_len])), (q_d, .inl (ky 0, 600, .inl v3)), (q_a1, .inr (11, [.ref q_a1_d, .int s_a1_len])), (q_a1_d, .inl (ky 0, 600, .inl s_a1_d))] H → va_D A [(q_, .inr (11, [.ref q_d, .int s_len])), (q_d, .inl (ky 0, 600, .inl v3)), (q_a1, .inr (11, [.ref q_a1_d, .int s_a1_len])), (q_a1_d, .inl (ky 0, 600, .inl s_a1_d))] → va_S A s.heap H locs → lv_has ls 5 [(0, .ref q_), (1, .ref q_a1), (3, .int v2)] → W p l e rmX11_less s m args below meth c H locs 0 0 Q (F0 m 38 ls [.int t, .int ((v3 v2.toNatClampNeg) - v1)]) := by
        clear hd hP hD hS hl
        obtain ⟨v4, rfl⟩ : ∃ z, z = t := ⟨_, rfl⟩
        replace h := dm1_of h
        intro H locs ls hP hD hS hl
        replace hP : va_P D vwCl [(q_, .inr (11, [.ref q_d, .int s_len])), (q_d, .inl (ky 0, 600, .inl v3)), (q_a1, .inr (11, [.ref q_a1_d, .int s_a1_len])), (q_a1_d, .inl (ky 0, 600, .inl s_a1_d))] H := hP
        replace hD : va_D A [(q_, .inr (11, [.ref q_d, .int s_len])), (q_d, .inl (ky 0, 600, .inl v3)), (q_a1, .inr (11, [.ref q_a1_d, .int s_a1_len])), (q_a1_d, .inl (ky 0, 600, .inl s_a1_d))] := hD
        replace hl : lv_has ls 5 [(0, .ref q_), (1, .ref q_a1), (3, .int v2)] := hl
        refine W.eq (g2 := F0 m 38 ls [.int v4, .int ((v3 v2.toNatClampNeg) - v1)]) rfl ?_
        refine lv_isub hx hb dX11_less_38 ?_
        refine lv_topi (fun x5 ex5 => ?_)
        replace h := lt_at ex5 h
        refine lv_istore (lv' := [(4, .int x5), (0, .ref q_), (1, .ref q_a1), (3, .int v2)]) hx hb dX11_less_39 hl (by decide) rfl (fun ls hl => ?_)
        refine lv_iload hx hb dX11_less_41 (lv_at hl 0 rfl) ?_
        obtain ⟨t, hd, h⟩ := ob_of h
        have K : ∀ (H : Heap) (locs : List Loc) (ls : Array Slot), va_P D vwCl [(q_, .inr (11, [.ref q_d, .int s_len])), (q_d, .inl (ky 0, 600, .inl v3)), (q_a1, .inr (11, [.ref q_a1_d, .int s_a1_len])), (q_a1_d, .inl (ky 0, 600, .inl s_a1_d))] H → va_D A [(q_, .inr (11, [.ref q_d, .int s_len])), (q_d, .inl (ky 0, 600, .inl v3)), (q_a1, .inr (11, [.ref q_a1_d, .int s_a1_len])), (q_a1_d, .inl (ky 0, 600, .inl s_a1_d))] → va_S A s.heap H locs → lv_has ls 5 [(0, .ref q_), (1, .ref q_a1), (3, .int v2), (4, .int x5)] → W p l e rmX11_less s m args below meth c H locs 0 0 Q (F0 m 51 ls [.int t]) := by
          clear hd hP hD hS hl
          obtain ⟨v6, rfl⟩ : ∃ z, z = t := ⟨_, rfl⟩
          replace h := dm1_of h
          intro H locs ls hP hD hS hl
          replace hP : va_P D vwCl [(q_, .inr (11, [.ref q_d, .int s_len])), (q_d, .inl (ky 0, 600, .inl v3)), (q_a1, .inr (11, [.ref q_a1_d, .int s_a1_len])), (q_a1_d, .inl (ky 0, 600, .inl s_a1_d))] H := hP
          replace hD : va_D A [(q_, .inr (11, [.ref q_d, .int s_len])), (q_d, .inl (ky 0, 600, .inl v3)), (q_a1, .inr (11, [.ref q_a1_d, .int s_a1_len])), (q_a1_d, .inl (ky 0, 600, .inl s_a1_d))] := hD
          replace hl : lv_has ls 5 [(0, .ref q_), (1, .ref q_a1), (3, .int v2), (4, .int x5)] := hl
          refine W.eq (g2 := F0 m 51 ls [.int v6]) rfl ?_
          refine lv_istore_n (lv' := [(2, .int v6), (0, .ref q_), (1, .ref q_a1), (3, .int v2), (4, .int x5)]) hx hb dX11_less_51 rfl hl (by decide) rfl (fun ls hl => ?_)
          refine lv_aload_n hx hb dX11_less_52 rfl (lv_at hl 1 rfl) ?_
          refine va_get (D := D) (ci := 11) (v := .ref q_d) (C := RX11) (T := TX11) (N := 2) hx hb hts hi_X11 hown hK.1 hP 0 rfl rfl 0 (by decide) hf_9 (fun _ h9 => h9) rfl dX11_less_53 ?_
          refine lv_iload_n hx hb dX11_less_56 rfl (lv_at hl 3 rfl) ?_
          refine lv_iload hx hb dX11_less_57 (lv_at hl 4 rfl) ?_
          refine lv_ldc hx hb hown hk_30 dX11_less_59 ?_
          refine lv_iand hx hb dX11_less_61 ?_
          obtain ⟨hg, h⟩ := gd_of h
          refine r_iast hx hb hK.1 hP hD hS 1 0 rfl rfl hg dX11_less_62 (fun f7 ef7 H locs hP hD hS => ?_)
          replace h := lt_at ef7 h
          replace hP : va_P D vwCl [(q_, .inr (11, [.ref q_d, .int s_len])), (q_d, .inl (ky 0, 600, .inl f7)), (q_a1, .inr (11, [.ref q_a1_d, .int s_a1_len])), (q_a1_d, .inl (ky 0, 600, .inl s_a1_d))] H := hP
          replace hD : va_D A [(q_, .inr (11, [.ref q_d, .int s_len])), (q_d, .inl (ky 0, 600, .inl f7)), (q_a1, .inr (11, [.ref q_a1_d, .int s_a1_len])), (q_a1_d, .inl (ky 0, 600, .inl s_a1_d))] := hD
          obtain ⟨x8, ex8⟩ : ∃ z : Int32, z = v2 + 1 := ⟨_, rfl⟩
          replace h := lt_at ex8 h
          refine lv_iinc (v := x8) (lv' := [(3, .int x8), (2, .int v6), (0, .ref q_), (1, .ref q_a1), (4, .int x5)]) hx hb dX11_less_63 hl (k := 3) rfl (by rw [ex8]; rfl) (by decide) rfl (fun ls hl => ?_)
          refine lv_goto (tgt := 4) hx hb dX11_less_66 (by decide) ?_
          cases h
          exact K _ _ _ hP hD hS (lv_sub hl [2, 3, 1, 0] rfl)
        replace h := hd
        clear hd
        refine lv_if_ge (tgt := 50) hx hb dX11_less_43 (by decide) (fun hc => ?_) (fun hc => ?_)
        · replace h := if_t hc h
          refine lv_iconst (v := 0) hx hb dX11_less_50 (by decide) ?_
          cases h
          exact K _ _ _ hP hD hS (lv_sub hl [1, 2, 3, 0] rfl)
        · replace h := if_f hc h
          refine lv_iconst (v := 1) hx hb dX11_less_46 (by decide) ?_
          refine lv_goto (tgt := 51) hx hb dX11_less_47 (by decide) ?_
          cases h
          exact K _ _ _ hP hD hS (lv_sub hl [1, 2, 3, 0] rfl)
      replace h := hd
      clear hd
      refine lv_icmp_ge (tgt := 37) hx hb dX11_less_25 (by decide) (fun hc => ?_) (fun hc => ?_)
      · replace h := if_t hc h
        refine lv_iconst (v := 0) hx hb dX11_less_37 (by decide) ?_
        cases h
        exact K _ _ _ hP hD hS (lv_sub hl [0, 1, 3] rfl)
      · replace h := if_f hc h
        refine lv_aload_n hx hb dX11_less_28 rfl (lv_at hl 1 rfl) ?_
        refine va_get (D := D) (ci := 11) (v := .ref q_a1_d) (C := RX11) (T := TX11) (N := 2) hx hb hts hi_X11 hown hK.1 hP 2 rfl rfl 0 (by decide) hf_9 (fun _ h9 => h9) rfl dX11_less_29 ?_
        refine lv_iload_n hx hb dX11_less_32 rfl (lv_at hl 3 rfl) ?_
        obtain ⟨hg, h⟩ := gd_of h
        refine va_iald hx hb hK.1 hP 3 0 rfl rfl hg dX11_less_33 ?_
        refine lv_goto (tgt := 38) hx hb dX11_less_34 (by decide) ?_
        cases h
        exact K _ _ _ hP hD hS (lv_sub hl [0, 1, 3] rfl)
  · have h1 := ex1_of h
    clear h hi
    rcases h1 with ⟨rfl, h⟩
    obtain ⟨v9, v10, v11⟩ := t
    replace h := dm3_of h
    intro H locs ls hP hD hS hl
    replace hP : va_P D vwCl [(q_, .inr (11, [.ref q_d, .int s_len])), (q_d, .inl (ky 0, 600, .inl v11)), (q_a1, .inr (11, [.ref q_a1_d, .int s_a1_len])), (q_a1_d, .inl (ky 0, 600, .inl s_a1_d))] H := hP
    replace hD : va_D A [(q_, .inr (11, [.ref q_d, .int s_len])), (q_d, .inl (ky 0, 600, .inl v11)), (q_a1, .inr (11, [.ref q_a1_d, .int s_a1_len])), (q_a1_d, .inl (ky 0, 600, .inl s_a1_d))] := hD
    replace hl : lv_has ls 5 [(0, .ref q_), (1, .ref q_a1), (2, .int v9), (3, .int v10)] := hl
    refine W.eq (g2 := F0 m 69 ls []) rfl ?_
    refine lv_aload_n hx hb dX11_less_69 rfl (lv_at hl 0 rfl) ?_
    obtain ⟨o12, hc, h⟩ := ob_of h
    replace h := dm1_of h
    refine cv_v (As := []) (rest := []) (wr := [(q_a1, .inr (11, [.ref q_a1_d, .int s_a1_len])), (q_a1_d, .inl (ky 0, 600, .inl s_a1_d))]) (wn := [(q_, .inr (11, [.ref q_d, .int o12])), (q_d, .inl (ky 0, 600, .inl v11)), (q_a1, .inr (11, [.ref q_a1_d, .int s_a1_len])), (q_a1_d, .inl (ky 0, 600, .inl s_a1_d))]) ⟨hx, hb, hml, hown, hts⟩ (c_X11_trim l D ky q_ q_d s_len v11 hc) (cwV 0 hts gX11_less_X11_trim rfl rfl rfl (by decide +kernel) ⟨Nat.le_of_ble_eq_true rfl, Nat.le_of_ble_eq_true rfl⟩) (rcv hK.1 hP (q0 := 0) rfl rfl) hP hD hK hS hA [0, 1] [2, 3] [2, 3, 0, 1] rfl (by decide +kernel) rfl (by decide +kernel) (by decide +kernel) (by decide +kernel) rfl rfl rfl hl.1 (Nat.le_of_ble_eq_true rfl) dX11_less_70 ⟨Nat.le_of_ble_eq_true rfl, Nat.le_of_ble_eq_true rfl⟩ (fun H locs hP hD hS => ?_)
    exact rt _ h _ _ _ _ dX11_less_73 hP hD hS

def bX11_compare_35 (s_d : Nat → Int32) (s_a1_d : Nat → Int32) (t : Int32) : Option (Nat × (Int32)) := dm1 t (fun (v2 : Int32) => if v2 < 0 then some (2, v2) else gd (¬ (v2 < 0 ∨ 600 ≤ v2.toNatClampNeg)) (gd (¬ (v2 < 0 ∨ 600 ≤ v2.toNatClampNeg)) (if (s_d v2.toNatClampNeg) = (s_a1_d v2.toNatClampNeg) then lt (v2 + (-1)) (fun x3 => some (0, x3)) else some (1, v2))))
def sX11_compare  (s_len : Int32) (s_d : Nat → Int32) (s_a1_len : Int32) (s_a1_d : Nat → Int32) : Option (Int32) := if s_len = s_a1_len then lt (s_len - (1 : Int32)) (fun x1 => ob (iter (bX11_compare_35 s_d s_a1_d) FU x1) (fun kt => ex2 kt (fun t => dm1 t (fun (v4 : Int32) => gd (¬ (v4 < 0 ∨ 600 ≤ v4.toNatClampNeg)) (gd (¬ (v4 < 0 ∨ 600 ≤ v4.toNatClampNeg)) (if (s_a1_d v4.toNatClampNeg) ≤ (s_d v4.toNatClampNeg) then some (1 : Int32) else some (-1 : Int32))))) (fun t => dm1 t (fun (v5 : Int32) => some (0 : Int32))))) else if s_a1_len ≤ s_len then some (1 : Int32) else some (-1 : Int32)
abbrev rmX11_compare : Room := { frames := 0, cells := 0, slots := 0, locals := 0 }
set_option maxHeartbeats 4000000 in
set_option maxRecDepth 100000 in
theorem c_X11_compare (l : Launch) (D : va_G) (ky : Nat → ClassId) (q_ q_d q_a1 q_a1_d : Nat) (s_len : Int32) (s_d : Nat → Int32) (s_a1_len : Int32) (s_a1_d : Nat → Int32) {o_r : Int32} (h : sX11_compare s_len s_d s_a1_len s_a1_d = some o_r) : MtI l D ky yX11_compare wsX11_compare rmX11_compare [.ref q_, .ref q_a1] [(q_, .inr (11, [.ref q_d, .int s_len])), (q_d, .inl (ky 0, 600, .inl s_d)), (q_a1, .inr (11, [.ref q_a1_d, .int s_a1_len])), (q_a1_d, .inl (ky 0, 600, .inl s_a1_d))] [(q_, .inr (11, [.ref q_d, .int s_len])), (q_d, .inl (ky 0, 600, .inl s_d)), (q_a1, .inr (11, [.ref q_a1_d, .int s_a1_len])), (q_a1_d, .inl (ky 0, 600, .inl s_a1_d))] o_r 0 0 := by
  refine MtI.of (cc := cX11_compare) (maxL := 3) (by decide +kernel) rfl (Nat.le_of_ble_eq_true rfl) ?_
  intro p e R s m args below meth c A Q ls hR hx hb hts hown hnm hml hP hK hD hA ret hl
  subst hR
  obtain ⟨H, hH⟩ : ∃ H, H = s.heap := ⟨_, rfl⟩
  obtain ⟨locs, hlocs⟩ : ∃ locs : List Loc, locs = [] := ⟨_, rfl⟩
  have hS : va_S A s.heap H locs := by rw [hH, hlocs]; exact va_S.rf
  rw [← hH] at hP
  suffices hgo : W p l e rmX11_compare s m args below meth c H locs 0 0 Q (F0 m 0 ls []) by rw [hH, hlocs] at hgo; exact hgo
  clear hH hlocs
  replace hl : lv_has ls 3 [(0, .ref q_), (1, .ref q_a1)] := hl
  replace hown : s.vm.findClass RX11 = some m.cls := hown
  have hi_X11 : ∀ w ∈ u_ws RX11 TX11 2, w ∈ wsX11_compare := fun _ h9 => List.mem_cons_of_mem _ (List.mem_append_right _ h9)
  have hf_15 := hts (.fieldLink RX11 15 "GlazierBenchModel$Nat" "len" "I") (by decide +kernel)
  have hf_9 := hts (.fieldLink RX11 9 "GlazierBenchModel$Nat" "d" "[I") (by decide +kernel)
  unfold sX11_compare at h
  refine lv_aload_n hx hb dX11_compare_0 rfl (lv_at hl 0 rfl) ?_
  refine va_get (D := D) (ci := 11) (v := .int s_len) (C := RX11) (T := TX11) (N := 2) hx hb hts hi_X11 hown hK.1 hP 0 rfl rfl 1 (by decide) hf_15 (fun _ h9 => h9) rfl dX11_compare_1 ?_
  refine lv_aload_n hx hb dX11_compare_4 rfl (lv_at hl 1 rfl) ?_
  refine va_get (D := D) (ci := 11) (v := .int s_a1_len) (C := RX11) (T := TX11) (N := 2) hx hb hts hi_X11 hown hK.1 hP 2 rfl rfl 1 (by decide) hf_15 (fun _ h9 => h9) rfl dX11_compare_5 ?_
  refine lv_icmp_eq (tgt := 28) hx hb dX11_compare_8 (by decide) (fun hc => ?_) (fun hc => ?_)
  · replace h := if_t hc h
    refine lv_aload_n hx hb dX11_compare_28 rfl (lv_at hl 0 rfl) ?_
    refine va_get (D := D) (ci := 11) (v := .int s_len) (C := RX11) (T := TX11) (N := 2) hx hb hts hi_X11 hown hK.1 hP 0 rfl rfl 1 (by decide) hf_15 (fun _ h9 => h9) rfl dX11_compare_29 ?_
    refine lv_iconst (v := 1) hx hb dX11_compare_32 (by decide) ?_
    refine lv_isub hx hb dX11_compare_33 ?_
    refine lv_topi (fun x1 ex1 => ?_)
    replace h := lt_at ex1 h
    refine lv_istore_n (lv' := [(2, .int x1), (0, .ref q_), (1, .ref q_a1)]) hx hb dX11_compare_34 rfl hl (by decide) rfl (fun ls hl => ?_)
    obtain ⟨⟨k, t⟩, hi, h⟩ := ob_of h
    refine iter_rule (P := fun (k : Nat) (t : Int32) => ∀ (H : Heap) (locs : List Loc) (ls : Array Slot), va_P D vwCl [(q_, .inr (11, [.ref q_d, .int s_len])), (q_d, .inl (ky 0, 600, .inl s_d)), (q_a1, .inr (11, [.ref q_a1_d, .int s_a1_len])), (q_a1_d, .inl (ky 0, 600, .inl s_a1_d))] H → va_D A [(q_, .inr (11, [.ref q_d, .int s_len])), (q_d, .inl (ky 0, 600, .inl s_d)), (q_a1, .inr (11, [.ref q_a1_d, .int s_a1_len])), (q_a1_d, .inl (ky 0, 600, .inl s_a1_d))] → va_S A s.heap H locs → lv_has ls 3 [(0, .ref q_), (1, .ref q_a1), (2, .int t)] → W p l e rmX11_compare s m args below meth c H locs 0 0 Q (F0 m ([35, 54, 81].getD k 0) ls [])) ?_ _ _ _ _ hi ?_ H locs ls hP hD hS (lv_sub hl [1, 2, 0] rfl)
    · clear h hi hP hD hS hl
      intro t k t' h K
      obtain ⟨v2, rfl⟩ : ∃ z, z = t := ⟨_, rfl⟩
      intro H locs ls hP hD hS hl
      replace h := dm1_of h
      replace hP : va_P D vwCl [(q_, .inr (11, [.ref q_d, .int s_len])), (q_d, .inl (ky 0, 600, .inl s_d)), (q_a1, .inr (11, [.ref q_a1_d, .int s_a1_len])), (q_a1_d, .inl (ky 0, 600, .inl s_a1_d))] H := hP
      replace hD : va_D A [(q_, .inr (11, [.ref q_d, .int s_len])), (q_d, .inl (ky 0, 600, .inl s_d)), (q_a1, .inr (11, [.ref q_a1_d, .int s_a1_len])), (q_a1_d, .inl (ky 0, 600, .inl s_a1_d))] := hD
      replace hl : lv_has ls 3 [(0, .ref q_), (1, .ref q_a1), (2, .int v2)] := hl
      refine lv_iload_n hx hb dX11_compare_35 rfl (lv_at hl 2 rfl) ?_
      refine lv_if_lt (tgt := 81) hx hb dX11_compare_36 (by decide) (fun hc => ?_) (fun hc => ?_)
      · replace h := if_t hc h
        cases h
        exact K _ _ _ hP hD hS (lv_sub hl [0, 1, 2] rfl)
      · replace h := if_f hc h
        refine lv_aload_n hx hb dX11_compare_39 rfl (lv_at hl 0 rfl) ?_
        refine va_get (D := D) (ci := 11) (v := .ref q_d) (C := RX11) (T := TX11) (N := 2) hx hb hts hi_X11 hown hK.1 hP 0 rfl rfl 0 (by decide) hf_9 (fun _ h9 => h9) rfl dX11_compare_40 ?_
        refine lv_iload_n hx hb dX11_compare_43 rfl (lv_at hl 2 rfl) ?_
        obtain ⟨hg, h⟩ := gd_of h
        refine va_iald hx hb hK.1 hP 1 0 rfl rfl hg dX11_compare_44 ?_
        refine lv_aload_n hx hb dX11_compare_45 rfl (lv_at hl 1 rfl) ?_
        refine va_get (D := D) (ci := 11) (v := .ref q_a1_d) (C := RX11) (T := TX11) (N := 2) hx hb hts hi_X11 hown hK.1 hP 2 rfl rfl 0 (by decide) hf_9 (fun _ h9 => h9) rfl dX11_compare_46 ?_
        refine lv_iload_n hx hb dX11_compare_49 rfl (lv_at hl 2 rfl) ?_
        obtain ⟨hg, h⟩ := gd_of h
        refine va_iald hx hb hK.1 hP 3 0 rfl rfl hg dX11_compare_50 ?_
        refine lv_icmp_eq (tgt := 75) hx hb dX11_compare_51 (by decide) (fun hc => ?_) (fun hc => ?_)
        · replace h := if_t hc h
          obtain ⟨x3, ex3⟩ : ∃ z : Int32, z = v2 + (-1) := ⟨_, rfl⟩
          replace h := lt_at ex3 h
          refine lv_iinc (v := x3) (lv' := [(2, .int x3), (0, .ref q_), (1, .ref q_a1)]) hx hb dX11_compare_75 hl (k := 2) rfl (by rw [ex3]; rfl) (by decide) rfl (fun ls hl => ?_)
          refine lv_goto (tgt := 35) hx hb dX11_compare_78 (by decide) ?_
          cases h
          exact K _ _ _ hP hD hS (lv_sub hl [1, 2, 0] rfl)
        · replace h := if_f hc h
          cases h
          exact K _ _ _ hP hD hS (lv_sub hl [0, 1, 2] rfl)
    · have h1 := ex2_of h
      clear h hi
      rcases h1 with ⟨rfl, h⟩ | ⟨rfl, h⟩
      · skip
        obtain ⟨v4, rfl⟩ : ∃ z, z = t := ⟨_, rfl⟩
        replace h := dm1_of h
        intro H locs ls hP hD hS hl
        replace hP : va_P D vwCl [(q_, .inr (11, [.ref q_d, .int s_len])), (q_d, .inl (ky 0, 600, .inl s_d)), (q_a1, .inr (11, [.ref q_a1_d, .int s_a1_len])), (q_a1_d, .inl (ky 0, 600, .inl s_a1_d))] H := hP
        replace hD : va_D A [(q_, .inr (11, [.ref q_d, .int s_len])), (q_d, .inl (ky 0, 600, .inl s_d)), (q_a1, .inr (11, [.ref q_a1_d, .int s_a1_len])), (q_a1_d, .inl (ky 0, 600, .inl s_a1_d))] := hD
        replace hl : lv_has ls 3 [(0, .ref q_), (1, .ref q_a1), (2, .int v4)] := hl
        refine W.eq (g2 := F0 m 54 ls []) rfl ?_
        refine lv_aload_n hx hb dX11_compare_54 rfl (lv_at hl 0 rfl) ?_
        refine va_get (D := D) (ci := 11) (v := .ref q_d) (C := RX11) (T := TX11) (N := 2) hx hb hts hi_X11 hown hK.1 hP 0 rfl rfl 0 (by decide) hf_9 (fun _ h9 => h9) rfl dX11_compare_55 ?_
        refine lv_iload_n hx hb dX11_compare_58 rfl (lv_at hl 2 rfl) ?_
        obtain ⟨hg, h⟩ := gd_of h
        refine va_iald hx hb hK.1 hP 1 0 rfl rfl hg dX11_compare_59 ?_
        refine lv_aload_n hx hb dX11_compare_60 rfl (lv_at hl 1 rfl) ?_
        refine va_get (D := D) (ci := 11) (v := .ref q_a1_d) (C := RX11) (T := TX11) (N := 2) hx hb hts hi_X11 hown hK.1 hP 2 rfl rfl 0 (by decide) hf_9 (fun _ h9 => h9) rfl dX11_compare_61 ?_
        refine lv_iload_n hx hb dX11_compare_64 rfl (lv_at hl 2 rfl) ?_
        obtain ⟨hg, h⟩ := gd_of h
        refine va_iald hx hb hK.1 hP 3 0 rfl rfl hg dX11_compare_65 ?_
        refine lv_icmp_ge (tgt := 73) hx hb dX11_compare_66 (by decide) (fun hc => ?_) (fun hc => ?_)
        · replace h := if_t hc h
          refine lv_iconst (v := 1) hx hb dX11_compare_73 (by decide) ?_
          cases h
          exact ret _ _ _ _ dX11_compare_74 hP hD hS
        · replace h := if_f hc h
          refine lv_iconst (v := (-1)) hx hb dX11_compare_69 (by decide) ?_
          refine lv_goto (tgt := 74) hx hb dX11_compare_70 (by decide) ?_
          cases h
          exact ret _ _ _ _ dX11_compare_74 hP hD hS
      · skip
        obtain ⟨v5, rfl⟩ : ∃ z, z = t := ⟨_, rfl⟩
        replace h := dm1_of h
        intro H locs ls hP hD hS hl
        replace hP : va_P D vwCl [(q_, .inr (11, [.ref q_d, .int s_len])), (q_d, .inl (ky 0, 600, .inl s_d)), (q_a1, .inr (11, [.ref q_a1_d, .int s_a1_len])), (q_a1_d, .inl (ky 0, 600, .inl s_a1_d))] H := hP
        replace hD : va_D A [(q_, .inr (11, [.ref q_d, .int s_len])), (q_d, .inl (ky 0, 600, .inl s_d)), (q_a1, .inr (11, [.ref q_a1_d, .int s_a1_len])), (q_a1_d, .inl (ky 0, 600, .inl s_a1_d))] := hD
        replace hl : lv_has ls 3 [(0, .ref q_), (1, .ref q_a1), (2, .int v5)] := hl
        refine W.eq (g2 := F0 m 81 ls []) rfl ?_
        refine lv_iconst (v := 0) hx hb dX11_compare_81 (by decide) ?_
        cases h
        exact ret _ _ _ _ dX11_compare_82 hP hD hS
  · replace h := if_f hc h
    refine lv_aload_n hx hb dX11_compare_11 rfl (lv_at hl 0 rfl) ?_
    refine va_get (D := D) (ci := 11) (v := .int s_len) (C := RX11) (T := TX11) (N := 2) hx hb hts hi_X11 hown hK.1 hP 0 rfl rfl 1 (by decide) hf_15 (fun _ h9 => h9) rfl dX11_compare_12 ?_
    refine lv_aload_n hx hb dX11_compare_15 rfl (lv_at hl 1 rfl) ?_
    refine va_get (D := D) (ci := 11) (v := .int s_a1_len) (C := RX11) (T := TX11) (N := 2) hx hb hts hi_X11 hown hK.1 hP 2 rfl rfl 1 (by decide) hf_15 (fun _ h9 => h9) rfl dX11_compare_16 ?_
    refine lv_icmp_ge (tgt := 26) hx hb dX11_compare_19 (by decide) (fun hc => ?_) (fun hc => ?_)
    · replace h := if_t hc h
      refine lv_iconst (v := 1) hx hb dX11_compare_26 (by decide) ?_
      cases h
      exact ret _ _ _ _ dX11_compare_27 hP hD hS
    · replace h := if_f hc h
      refine lv_iconst (v := (-1)) hx hb dX11_compare_22 (by decide) ?_
      refine lv_goto (tgt := 27) hx hb dX11_compare_23 (by decide) ?_
      cases h
      exact ret _ _ _ _ dX11_compare_27 hP hD hS

