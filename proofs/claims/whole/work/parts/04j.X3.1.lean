def sX3_put (a1 : Int32) (a2 : Int32) (a3 : Int32) (s_allowed : Nat → Int32) (s_colour : Nat → Int32) (s_kind : Nat → Int32) : Option ((Nat → Int32) × (Nat → Int32) × (Nat → Int32)) := gd (¬ (a1 < 0 ∨ 128 ≤ a1.toNatClampNeg)) (lt (upd s_kind a1.toNatClampNeg a2) (fun f1 => if ¬ a2 = 0 then gd (¬ (a1 < 0 ∨ 128 ≤ a1.toNatClampNeg)) (lt (upd s_allowed a1.toNatClampNeg (a3 &&& (255 : Int32))) (fun f2 => gd (¬ (a1 < 0 ∨ 128 ≤ a1.toNatClampNeg)) (lt (upd s_colour a1.toNatClampNeg (8 : Int32)) (fun f3 => some (f2, f3, f1))))) else gd (¬ (a1 < 0 ∨ 128 ≤ a1.toNatClampNeg)) (lt (upd s_allowed a1.toNatClampNeg (255 : Int32)) (fun f4 => gd (¬ (a1 < 0 ∨ 128 ≤ a1.toNatClampNeg)) (lt (upd s_colour a1.toNatClampNeg (8 : Int32)) (fun f5 => some (f4, f5, f1)))))))
abbrev rmX3_put : Room := { frames := 0, cells := 0, slots := 0, locals := 0 }
set_option maxHeartbeats 4000000 in
set_option maxRecDepth 100000 in
theorem c_X3_put (l : Launch) (D : va_G) (ky : Nat → ClassId) (q_ q_kind q_allowed q_colour q_nearLow q_nearHigh q_paintedLow q_paintedHigh q_searched q_painted q_upcoming q_left q_leftByLatest : Nat) (a1 : Int32) (a2 : Int32) (a3 : Int32) (s_total : Int32) (s_allowed : Nat → Int32) (s_colour : Nat → Int32) (s_kind : Nat → Int32) {o_allowed : Nat → Int32} {o_colour : Nat → Int32} {o_kind : Nat → Int32} (h : sX3_put a1 a2 a3 s_allowed s_colour s_kind = some (o_allowed, o_colour, o_kind)) : MtV l D ky yX3_put wsX3_put rmX3_put [.ref q_, .int a1, .int a2, .int a3] [(q_, .inr (3, [.int s_total, .ref q_kind, .ref q_allowed, .ref q_colour, .ref q_nearLow, .ref q_nearHigh, .ref q_paintedLow, .ref q_paintedHigh, .ref q_searched, .ref q_painted, .ref q_upcoming, .ref q_left, .ref q_leftByLatest])), (q_allowed, .inl (ky 0, 128, .inl s_allowed)), (q_colour, .inl (ky 0, 128, .inl s_colour)), (q_kind, .inl (ky 0, 128, .inl s_kind))] [(q_, .inr (3, [.int s_total, .ref q_kind, .ref q_allowed, .ref q_colour, .ref q_nearLow, .ref q_nearHigh, .ref q_paintedLow, .ref q_paintedHigh, .ref q_searched, .ref q_painted, .ref q_upcoming, .ref q_left, .ref q_leftByLatest])), (q_allowed, .inl (ky 0, 128, .inl o_allowed)), (q_colour, .inl (ky 0, 128, .inl o_colour)), (q_kind, .inl (ky 0, 128, .inl o_kind))] 0 0 := by
  refine MtV.of (cc := cX3_put) (maxL := 4) (by decide +kernel) rfl (Nat.le_of_ble_eq_true rfl) ?_
  intro p e R s m args below meth c A Q ls hR hx hb hts hown hnm hml hP hK hD hA ret hl
  have rt := rtV (dc := fun pc => decode cX3_put pc = .ok (.return_, 1)) (o_allowed, o_colour, o_kind) (fun t => [(q_, .inr (3, [.int s_total, .ref q_kind, .ref q_allowed, .ref q_colour, .ref q_nearLow, .ref q_nearHigh, .ref q_paintedLow, .ref q_paintedHigh, .ref q_searched, .ref q_painted, .ref q_upcoming, .ref q_left, .ref q_leftByLatest])), (q_allowed, .inl (ky 0, 128, .inl t.1)), (q_colour, .inl (ky 0, 128, .inl t.2.1)), (q_kind, .inl (ky 0, 128, .inl t.2.2))]) ret
  subst hR
  obtain ⟨H, hH⟩ : ∃ H, H = s.heap := ⟨_, rfl⟩
  obtain ⟨locs, hlocs⟩ : ∃ locs : List Loc, locs = [] := ⟨_, rfl⟩
  have hS : va_S A s.heap H locs := by rw [hH, hlocs]; exact va_S.rf
  rw [← hH] at hP
  suffices hgo : W p l e rmX3_put s m args below meth c H locs 0 0 Q (F0 m 0 ls []) by rw [hH, hlocs] at hgo; exact hgo
  clear hH hlocs
  replace hl : lv_has ls 4 [(0, .ref q_), (1, .int a1), (2, .int a2), (3, .int a3)] := hl
  replace hown : s.vm.findClass RX3 = some m.cls := hown
  have hi_X3 : ∀ w ∈ u_ws RX3 TX3 13, w ∈ wsX3_put := fun _ h9 => List.mem_cons_of_mem _ (List.mem_append_right _ h9)
  have hf_9 := hts (.fieldLink RX3 9 "GlazierBench$Glazing" "kind" "[I") (by decide +kernel)
  have hf_15 := hts (.fieldLink RX3 15 "GlazierBench$Glazing" "allowed" "[I") (by decide +kernel)
  have hf_18 := hts (.fieldLink RX3 18 "GlazierBench$Glazing" "colour" "[I") (by decide +kernel)
  unfold sX3_put at h
  refine lv_aload_n hx hb dX3_put_0 rfl (lv_at hl 0 rfl) ?_
  refine va_get (D := D) (ci := 3) (v := .ref q_kind) (C := RX3) (T := TX3) (N := 13) hx hb hts hi_X3 hown hK.1 hP 0 rfl rfl 1 (by decide) hf_9 (fun _ h9 => h9) rfl dX3_put_1 ?_
  refine lv_iload_n hx hb dX3_put_4 rfl (lv_at hl 1 rfl) ?_
  refine lv_iload_n hx hb dX3_put_5 rfl (lv_at hl 2 rfl) ?_
  obtain ⟨hg, h⟩ := gd_of h
  refine r_iast hx hb hK.1 hP hD hS 3 0 rfl rfl hg dX3_put_6 (fun f1 ef1 H locs hP hD hS => ?_)
  replace h := lt_at ef1 h
  replace hP : va_P D vwCl [(q_, .inr (3, [.int s_total, .ref q_kind, .ref q_allowed, .ref q_colour, .ref q_nearLow, .ref q_nearHigh, .ref q_paintedLow, .ref q_paintedHigh, .ref q_searched, .ref q_painted, .ref q_upcoming, .ref q_left, .ref q_leftByLatest])), (q_allowed, .inl (ky 0, 128, .inl s_allowed)), (q_colour, .inl (ky 0, 128, .inl s_colour)), (q_kind, .inl (ky 0, 128, .inl f1))] H := hP
  replace hD : va_D A [(q_, .inr (3, [.int s_total, .ref q_kind, .ref q_allowed, .ref q_colour, .ref q_nearLow, .ref q_nearHigh, .ref q_paintedLow, .ref q_paintedHigh, .ref q_searched, .ref q_painted, .ref q_upcoming, .ref q_left, .ref q_leftByLatest])), (q_allowed, .inl (ky 0, 128, .inl s_allowed)), (q_colour, .inl (ky 0, 128, .inl s_colour)), (q_kind, .inl (ky 0, 128, .inl f1))] := hD
  refine lv_aload_n hx hb dX3_put_7 rfl (lv_at hl 0 rfl) ?_
  refine va_get (D := D) (ci := 3) (v := .ref q_allowed) (C := RX3) (T := TX3) (N := 13) hx hb hts hi_X3 hown hK.1 hP 0 rfl rfl 2 (by decide) hf_15 (fun _ h9 => h9) rfl dX3_put_8 ?_
  refine lv_iload_n hx hb dX3_put_11 rfl (lv_at hl 1 rfl) ?_
  refine lv_iload_n hx hb dX3_put_12 rfl (lv_at hl 2 rfl) ?_
  refine lv_if_ne (tgt := 22) hx hb dX3_put_13 (by decide) (fun hc => ?_) (fun hc => ?_)
  · replace h := if_t hc h
    refine lv_iload_n hx hb dX3_put_22 rfl (lv_at hl 3 rfl) ?_
    refine lv_sipush (v := 255) hx hb dX3_put_23 (by decide) ?_
    refine lv_iand hx hb dX3_put_26 ?_
    obtain ⟨hg, h⟩ := gd_of h
    refine r_iast hx hb hK.1 hP hD hS 1 0 rfl rfl hg dX3_put_27 (fun f2 ef2 H locs hP hD hS => ?_)
    replace h := lt_at ef2 h
    replace hP : va_P D vwCl [(q_, .inr (3, [.int s_total, .ref q_kind, .ref q_allowed, .ref q_colour, .ref q_nearLow, .ref q_nearHigh, .ref q_paintedLow, .ref q_paintedHigh, .ref q_searched, .ref q_painted, .ref q_upcoming, .ref q_left, .ref q_leftByLatest])), (q_allowed, .inl (ky 0, 128, .inl f2)), (q_colour, .inl (ky 0, 128, .inl s_colour)), (q_kind, .inl (ky 0, 128, .inl f1))] H := hP
    replace hD : va_D A [(q_, .inr (3, [.int s_total, .ref q_kind, .ref q_allowed, .ref q_colour, .ref q_nearLow, .ref q_nearHigh, .ref q_paintedLow, .ref q_paintedHigh, .ref q_searched, .ref q_painted, .ref q_upcoming, .ref q_left, .ref q_leftByLatest])), (q_allowed, .inl (ky 0, 128, .inl f2)), (q_colour, .inl (ky 0, 128, .inl s_colour)), (q_kind, .inl (ky 0, 128, .inl f1))] := hD
    refine lv_aload_n hx hb dX3_put_28 rfl (lv_at hl 0 rfl) ?_
    refine va_get (D := D) (ci := 3) (v := .ref q_colour) (C := RX3) (T := TX3) (N := 13) hx hb hts hi_X3 hown hK.1 hP 0 rfl rfl 3 (by decide) hf_18 (fun _ h9 => h9) rfl dX3_put_29 ?_
    refine lv_iload_n hx hb dX3_put_32 rfl (lv_at hl 1 rfl) ?_
    refine lv_bipush (v := 8) hx hb dX3_put_33 (by decide) ?_
    obtain ⟨hg, h⟩ := gd_of h
    refine r_iast hx hb hK.1 hP hD hS 2 0 rfl rfl hg dX3_put_35 (fun f3 ef3 H locs hP hD hS => ?_)
    replace h := lt_at ef3 h
    replace hP : va_P D vwCl [(q_, .inr (3, [.int s_total, .ref q_kind, .ref q_allowed, .ref q_colour, .ref q_nearLow, .ref q_nearHigh, .ref q_paintedLow, .ref q_paintedHigh, .ref q_searched, .ref q_painted, .ref q_upcoming, .ref q_left, .ref q_leftByLatest])), (q_allowed, .inl (ky 0, 128, .inl f2)), (q_colour, .inl (ky 0, 128, .inl f3)), (q_kind, .inl (ky 0, 128, .inl f1))] H := hP
    replace hD : va_D A [(q_, .inr (3, [.int s_total, .ref q_kind, .ref q_allowed, .ref q_colour, .ref q_nearLow, .ref q_nearHigh, .ref q_paintedLow, .ref q_paintedHigh, .ref q_searched, .ref q_painted, .ref q_upcoming, .ref q_left, .ref q_leftByLatest])), (q_allowed, .inl (ky 0, 128, .inl f2)), (q_colour, .inl (ky 0, 128, .inl f3)), (q_kind, .inl (ky 0, 128, .inl f1))] := hD
    exact rt _ h _ _ _ _ dX3_put_36 hP hD hS
  · replace h := if_f (fun z => z hc) h
    refine lv_sipush (v := 255) hx hb dX3_put_16 (by decide) ?_
    refine lv_goto (tgt := 27) hx hb dX3_put_19 (by decide) ?_
    obtain ⟨hg, h⟩ := gd_of h
    refine r_iast hx hb hK.1 hP hD hS 1 0 rfl rfl hg dX3_put_27 (fun f4 ef4 H locs hP hD hS => ?_)
    replace h := lt_at ef4 h
    replace hP : va_P D vwCl [(q_, .inr (3, [.int s_total, .ref q_kind, .ref q_allowed, .ref q_colour, .ref q_nearLow, .ref q_nearHigh, .ref q_paintedLow, .ref q_paintedHigh, .ref q_searched, .ref q_painted, .ref q_upcoming, .ref q_left, .ref q_leftByLatest])), (q_allowed, .inl (ky 0, 128, .inl f4)), (q_colour, .inl (ky 0, 128, .inl s_colour)), (q_kind, .inl (ky 0, 128, .inl f1))] H := hP
    replace hD : va_D A [(q_, .inr (3, [.int s_total, .ref q_kind, .ref q_allowed, .ref q_colour, .ref q_nearLow, .ref q_nearHigh, .ref q_paintedLow, .ref q_paintedHigh, .ref q_searched, .ref q_painted, .ref q_upcoming, .ref q_left, .ref q_leftByLatest])), (q_allowed, .inl (ky 0, 128, .inl f4)), (q_colour, .inl (ky 0, 128, .inl s_colour)), (q_kind, .inl (ky 0, 128, .inl f1))] := hD
    refine lv_aload_n hx hb dX3_put_28 rfl (lv_at hl 0 rfl) ?_
    refine va_get (D := D) (ci := 3) (v := .ref q_colour) (C := RX3) (T := TX3) (N := 13) hx hb hts hi_X3 hown hK.1 hP 0 rfl rfl 3 (by decide) hf_18 (fun _ h9 => h9) rfl dX3_put_29 ?_
    refine lv_iload_n hx hb dX3_put_32 rfl (lv_at hl 1 rfl) ?_
    refine lv_bipush (v := 8) hx hb dX3_put_33 (by decide) ?_
    obtain ⟨hg, h⟩ := gd_of h
    refine r_iast hx hb hK.1 hP hD hS 2 0 rfl rfl hg dX3_put_35 (fun f5 ef5 H locs hP hD hS => ?_)
    replace h := lt_at ef5 h
    replace hP : va_P D vwCl [(q_, .inr (3, [.int s_total, .ref q_kind, .ref q_allowed, .ref q_colour, .ref q_nearLow, .ref q_nearHigh, .ref q_paintedLow, .ref q_paintedHigh, .ref q_searched, .ref q_painted, .ref q_upcoming, .ref q_left, .ref q_leftByLatest])), (q_allowed, .inl (ky 0, 128, .inl f4)), (q_colour, .inl (ky 0, 128, .inl f5)), (q_kind, .inl (ky 0, 128, .inl f1))] H := hP
    replace hD : va_D A [(q_, .inr (3, [.int s_total, .ref q_kind, .ref q_allowed, .ref q_colour, .ref q_nearLow, .ref q_nearHigh, .ref q_paintedLow, .ref q_paintedHigh, .ref q_searched, .ref q_painted, .ref q_upcoming, .ref q_left, .ref q_leftByLatest])), (q_allowed, .inl (ky 0, 128, .inl f4)), (q_colour, .inl (ky 0, 128, .inl f5)), (q_kind, .inl (ky 0, 128, .inl f1))] := hD
    exact rt _ h _ _ _ _ dX3_put_36 hP hD hS

def sX3_markNear (a1 : Int32) (a2 : Int32) (s_nearHigh : Nat → Int64) (s_nearLow : Nat → Int64) : Option ((Nat → Int64) × (Nat → Int64)) := if a2 < 0 then some (s_nearHigh, s_nearLow) else if ¬ a2 = a1 then if (64 : Int32) ≤ a2 then gd (¬ (a1 < 0 ∨ 128 ≤ a1.toNatClampNeg)) (gd (¬ (a1 < 0 ∨ 128 ≤ a1.toNatClampNeg)) (lt (vp_updL s_nearHigh a1.toNatClampNeg ((s_nearHigh a1.toNatClampNeg) ||| ((1 : Int64) <<< ((a2 - (64 : Int32)).toInt64 &&& 63)))) (fun f1 => some (f1, s_nearLow)))) else gd (¬ (a1 < 0 ∨ 128 ≤ a1.toNatClampNeg)) (gd (¬ (a1 < 0 ∨ 128 ≤ a1.toNatClampNeg)) (lt (vp_updL s_nearLow a1.toNatClampNeg ((s_nearLow a1.toNatClampNeg) ||| ((1 : Int64) <<< (a2.toInt64 &&& 63)))) (fun f2 => some (s_nearHigh, f2)))) else some (s_nearHigh, s_nearLow)
abbrev rmX3_markNear : Room := { frames := 0, cells := 0, slots := 0, locals := 0 }
set_option maxHeartbeats 4000000 in
set_option maxRecDepth 100000 in
theorem c_X3_markNear (l : Launch) (D : va_G) (ky : Nat → ClassId) (q_ q_kind q_allowed q_colour q_nearLow q_nearHigh q_paintedLow q_paintedHigh q_searched q_painted q_upcoming q_left q_leftByLatest : Nat) (a1 : Int32) (a2 : Int32) (s_total : Int32) (s_nearHigh : Nat → Int64) (s_nearLow : Nat → Int64) {o_nearHigh : Nat → Int64} {o_nearLow : Nat → Int64} (h : sX3_markNear a1 a2 s_nearHigh s_nearLow = some (o_nearHigh, o_nearLow)) : MtV l D ky yX3_markNear wsX3_markNear rmX3_markNear [.ref q_, .int a1, .int a2] [(q_, .inr (3, [.int s_total, .ref q_kind, .ref q_allowed, .ref q_colour, .ref q_nearLow, .ref q_nearHigh, .ref q_paintedLow, .ref q_paintedHigh, .ref q_searched, .ref q_painted, .ref q_upcoming, .ref q_left, .ref q_leftByLatest])), (q_nearHigh, .inl (ky 1, 128, .inr (.inl s_nearHigh))), (q_nearLow, .inl (ky 1, 128, .inr (.inl s_nearLow)))] [(q_, .inr (3, [.int s_total, .ref q_kind, .ref q_allowed, .ref q_colour, .ref q_nearLow, .ref q_nearHigh, .ref q_paintedLow, .ref q_paintedHigh, .ref q_searched, .ref q_painted, .ref q_upcoming, .ref q_left, .ref q_leftByLatest])), (q_nearHigh, .inl (ky 1, 128, .inr (.inl o_nearHigh))), (q_nearLow, .inl (ky 1, 128, .inr (.inl o_nearLow)))] 0 0 := by
  refine MtV.of (cc := cX3_markNear) (maxL := 3) (by decide +kernel) rfl (Nat.le_of_ble_eq_true rfl) ?_
  intro p e R s m args below meth c A Q ls hR hx hb hts hown hnm hml hP hK hD hA ret hl
  have rt := rtV (dc := fun pc => decode cX3_markNear pc = .ok (.return_, 1)) (o_nearHigh, o_nearLow) (fun t => [(q_, .inr (3, [.int s_total, .ref q_kind, .ref q_allowed, .ref q_colour, .ref q_nearLow, .ref q_nearHigh, .ref q_paintedLow, .ref q_paintedHigh, .ref q_searched, .ref q_painted, .ref q_upcoming, .ref q_left, .ref q_leftByLatest])), (q_nearHigh, .inl (ky 1, 128, .inr (.inl t.1))), (q_nearLow, .inl (ky 1, 128, .inr (.inl t.2)))]) ret
  subst hR
  obtain ⟨H, hH⟩ : ∃ H, H = s.heap := ⟨_, rfl⟩
  obtain ⟨locs, hlocs⟩ : ∃ locs : List Loc, locs = [] := ⟨_, rfl⟩
  have hS : va_S A s.heap H locs := by rw [hH, hlocs]; exact va_S.rf
  rw [← hH] at hP
  suffices hgo : W p l e rmX3_markNear s m args below meth c H locs 0 0 Q (F0 m 0 ls []) by rw [hH, hlocs] at hgo; exact hgo
  clear hH hlocs
  replace hl : lv_has ls 3 [(0, .ref q_), (1, .int a1), (2, .int a2)] := hl
  replace hown : s.vm.findClass RX3 = some m.cls := hown
  have hi_X3 : ∀ w ∈ u_ws RX3 TX3 13, w ∈ wsX3_markNear := fun _ h9 => List.mem_cons_of_mem _ (List.mem_append_right _ h9)
  have hf_25 := hts (.fieldLink RX3 25 "GlazierBench$Glazing" "nearHigh" "[J") (by decide +kernel)
  have hf_21 := hts (.fieldLink RX3 21 "GlazierBench$Glazing" "nearLow" "[J") (by decide +kernel)
  unfold sX3_markNear at h
  refine lv_iload_n hx hb dX3_markNear_0 rfl (lv_at hl 2 rfl) ?_
  refine lv_if_lt (tgt := 9) hx hb dX3_markNear_1 (by decide) (fun hc => ?_) (fun hc => ?_)
  · replace h := if_t hc h
    exact rt _ h _ _ _ _ dX3_markNear_9 hP hD hS
  · replace h := if_f hc h
    refine lv_iload_n hx hb dX3_markNear_4 rfl (lv_at hl 2 rfl) ?_
    refine lv_iload_n hx hb dX3_markNear_5 rfl (lv_at hl 1 rfl) ?_
    refine lv_icmp_ne (tgt := 10) hx hb dX3_markNear_6 (by decide) (fun hc => ?_) (fun hc => ?_)
    · replace h := if_t hc h
      refine lv_iload_n hx hb dX3_markNear_10 rfl (lv_at hl 2 rfl) ?_
      refine lv_bipush (v := 64) hx hb dX3_markNear_11 (by decide) ?_
      refine lv_icmp_ge (tgt := 31) hx hb dX3_markNear_13 (by decide) (fun hc => ?_) (fun hc => ?_)
      · replace h := if_t hc h
        refine lv_aload_n hx hb dX3_markNear_31 rfl (lv_at hl 0 rfl) ?_
        refine va_get (D := D) (ci := 3) (v := .ref q_nearHigh) (C := RX3) (T := TX3) (N := 13) hx hb hts hi_X3 hown hK.1 hP 0 rfl rfl 5 (by decide) hf_25 (fun _ h9 => h9) rfl dX3_markNear_32 ?_
        refine lv_iload_n hx hb dX3_markNear_35 rfl (lv_at hl 1 rfl) ?_
        refine lv_dup2_11 hx hb dX3_markNear_36 rfl rfl ?_
        obtain ⟨hg, h⟩ := gd_of h
        refine va_lald hx hb hK.1 hP 1 1 rfl rfl hg dX3_markNear_37 ?_
        refine lv_lconst (v := 1) hx hb dX3_markNear_38 (by decide) ?_
        refine lv_iload_n hx hb dX3_markNear_39 rfl (lv_at hl 2 rfl) ?_
        refine lv_bipush (v := 64) hx hb dX3_markNear_40 (by decide) ?_
        refine lv_isub hx hb dX3_markNear_42 ?_
        refine lv_lshl (v := ((1 : Int64) <<< ((a2 - (64 : Int32)).toInt64 &&& 63))) hx hb dX3_markNear_43 rfl ?_
        refine lv_lor hx hb dX3_markNear_44 ?_
        obtain ⟨hg, h⟩ := gd_of h
        refine r_last hx hb hK.1 hP hD hS 1 1 rfl rfl hg dX3_markNear_45 (fun f1 ef1 H locs hP hD hS => ?_)
        replace h := lt_at ef1 h
        replace hP : va_P D vwCl [(q_, .inr (3, [.int s_total, .ref q_kind, .ref q_allowed, .ref q_colour, .ref q_nearLow, .ref q_nearHigh, .ref q_paintedLow, .ref q_paintedHigh, .ref q_searched, .ref q_painted, .ref q_upcoming, .ref q_left, .ref q_leftByLatest])), (q_nearHigh, .inl (ky 1, 128, .inr (.inl f1))), (q_nearLow, .inl (ky 1, 128, .inr (.inl s_nearLow)))] H := hP
        replace hD : va_D A [(q_, .inr (3, [.int s_total, .ref q_kind, .ref q_allowed, .ref q_colour, .ref q_nearLow, .ref q_nearHigh, .ref q_paintedLow, .ref q_paintedHigh, .ref q_searched, .ref q_painted, .ref q_upcoming, .ref q_left, .ref q_leftByLatest])), (q_nearHigh, .inl (ky 1, 128, .inr (.inl f1))), (q_nearLow, .inl (ky 1, 128, .inr (.inl s_nearLow)))] := hD
        exact rt _ h _ _ _ _ dX3_markNear_46 hP hD hS
      · replace h := if_f hc h
        refine lv_aload_n hx hb dX3_markNear_16 rfl (lv_at hl 0 rfl) ?_
        refine va_get (D := D) (ci := 3) (v := .ref q_nearLow) (C := RX3) (T := TX3) (N := 13) hx hb hts hi_X3 hown hK.1 hP 0 rfl rfl 4 (by decide) hf_21 (fun _ h9 => h9) rfl dX3_markNear_17 ?_
        refine lv_iload_n hx hb dX3_markNear_20 rfl (lv_at hl 1 rfl) ?_
        refine lv_dup2_11 hx hb dX3_markNear_21 rfl rfl ?_
        obtain ⟨hg, h⟩ := gd_of h
        refine va_lald hx hb hK.1 hP 2 1 rfl rfl hg dX3_markNear_22 ?_
        refine lv_lconst (v := 1) hx hb dX3_markNear_23 (by decide) ?_
        refine lv_iload_n hx hb dX3_markNear_24 rfl (lv_at hl 2 rfl) ?_
        refine lv_lshl (v := ((1 : Int64) <<< (a2.toInt64 &&& 63))) hx hb dX3_markNear_25 rfl ?_
        refine lv_lor hx hb dX3_markNear_26 ?_
        obtain ⟨hg, h⟩ := gd_of h
        refine r_last hx hb hK.1 hP hD hS 2 1 rfl rfl hg dX3_markNear_27 (fun f2 ef2 H locs hP hD hS => ?_)
        replace h := lt_at ef2 h
        replace hP : va_P D vwCl [(q_, .inr (3, [.int s_total, .ref q_kind, .ref q_allowed, .ref q_colour, .ref q_nearLow, .ref q_nearHigh, .ref q_paintedLow, .ref q_paintedHigh, .ref q_searched, .ref q_painted, .ref q_upcoming, .ref q_left, .ref q_leftByLatest])), (q_nearHigh, .inl (ky 1, 128, .inr (.inl s_nearHigh))), (q_nearLow, .inl (ky 1, 128, .inr (.inl f2)))] H := hP
        replace hD : va_D A [(q_, .inr (3, [.int s_total, .ref q_kind, .ref q_allowed, .ref q_colour, .ref q_nearLow, .ref q_nearHigh, .ref q_paintedLow, .ref q_paintedHigh, .ref q_searched, .ref q_painted, .ref q_upcoming, .ref q_left, .ref q_leftByLatest])), (q_nearHigh, .inl (ky 1, 128, .inr (.inl s_nearHigh))), (q_nearLow, .inl (ky 1, 128, .inr (.inl f2)))] := hD
        refine lv_goto (tgt := 46) hx hb dX3_markNear_28 (by decide) ?_
        exact rt _ h _ _ _ _ dX3_markNear_46 hP hD hS
    · replace h := if_f (fun z => z hc) h
      exact rt _ h _ _ _ _ dX3_markNear_9 hP hD hS

def bX3_begin_43 (s_a1_paneOf : Nat → Int32) (s_a1_pieces_twin : Nat → Int32) (s_a1_start : Nat → Int32) (s_a1_walk : Nat → Int32) (v1 : Int32) (t : Int32 × (Nat → Int64) × (Nat → Int64)) : Option (Nat × (Int32 × (Nat → Int64) × (Nat → Int64))) := dm3 t (fun (v12 : Int32) (v13 : Nat → Int64) (v14 : Nat → Int64) => ob (sX7_corners v1 s_a1_start) (fun o => dm1 o (fun (r15 : Int32) => if r15 ≤ v12 then some (1, (v12, v13, v14)) else ob (sX7_beyond v1 v12 s_a1_paneOf s_a1_pieces_twin s_a1_start s_a1_walk) (fun o => dm1 o (fun (r16 : Int32) => ob (sX3_markNear v1 r16 v13 v14) (fun o => dm2 o (fun (o17 : Nat → Int64) (o18 : Nat → Int64) => lt (v12 + 1) (fun x19 => some (0, (x19, o17, o18))))))))))
def bX3_begin_10 (s_a1_total : Int32) (s_a1_paneOf : Nat → Int32) (s_a1_pieces_twin : Nat → Int32) (s_a1_start : Nat → Int32) (s_a1_walk : Nat → Int32) (t : Int32 × (Nat → Int32) × (Nat → Int32) × (Nat → Int32) × (Nat → Int64) × (Nat → Int64)) : Option (Nat × (Int32 × (Nat → Int32) × (Nat → Int32) × (Nat → Int32) × (Nat → Int64) × (Nat → Int64))) := dm6 t (fun (v1 : Int32) (v2 : Nat → Int32) (v3 : Nat → Int32) (v4 : Nat → Int32) (v5 : Nat → Int64) (v6 : Nat → Int64) => if s_a1_total ≤ v1 then some (1, (v1, v2, v3, v4, v5, v6)) else ob (sX3_put v1 (0 : Int32) (255 : Int32) v2 v3 v4) (fun o => dm3 o (fun (o7 : Nat → Int32) (o8 : Nat → Int32) (o9 : Nat → Int32) => gd (¬ (v1 < 0 ∨ 128 ≤ v1.toNatClampNeg)) (lt (vp_updL v6 v1.toNatClampNeg (0 : Int64)) (fun f10 => gd (¬ (v1 < 0 ∨ 128 ≤ v1.toNatClampNeg)) (lt (vp_updL v5 v1.toNatClampNeg (0 : Int64)) (fun f11 => ob (iter (bX3_begin_43 s_a1_paneOf s_a1_pieces_twin s_a1_start s_a1_walk v1) FU ((0 : Int32), f11, f10)) (fun kt => ex1 kt (fun t => dm3 t (fun (v20 : Int32) (v21 : Nat → Int64) (v22 : Nat → Int64) => lt (v1 + 1) (fun x23 => some (0, (x23, o7, o8, o9, v21, v22)))))))))))))
def bX3_begin_77  (t : Int32 × (Nat → Int32)) : Option (Nat × (Int32 × (Nat → Int32))) := dm2 t (fun (v30 : Int32) (v31 : Nat → Int32) => if (128 : Int32) ≤ v30 then some (1, (v30, v31)) else gd (¬ (v30 < 0 ∨ 128 ≤ v30.toNatClampNeg)) (lt (upd v31 v30.toNatClampNeg (vp_nar .boolean (0 : Int32))) (fun f32 => lt (v30 + 1) (fun x33 => some (0, (x33, f32))))))
def sX3_begin  (s_total : Int32) (s_allowed : Nat → Int32) (s_colour : Nat → Int32) (s_kind : Nat → Int32) (s_leftByLatest : Nat → Int32) (s_nearHigh : Nat → Int64) (s_nearLow : Nat → Int64) (s_a1_total : Int32) (s_a1_paneOf : Nat → Int32) (s_a1_pieces_twin : Nat → Int32) (s_a1_start : Nat → Int32) (s_a1_walk : Nat → Int32) : Option (Int32 × (Nat → Int32) × (Nat → Int32) × (Nat → Int32) × (Nat → Int32) × (Nat → Int64) × (Nat → Int64)) := ob (iter (bX3_begin_10 s_a1_total s_a1_paneOf s_a1_pieces_twin s_a1_start s_a1_walk) FU ((0 : Int32), s_allowed, s_colour, s_kind, s_nearHigh, s_nearLow)) (fun kt => ex1 kt (fun t => dm6 t (fun (v24 : Int32) (v25 : Nat → Int32) (v26 : Nat → Int32) (v27 : Nat → Int32) (v28 : Nat → Int64) (v29 : Nat → Int64) => ob (iter (bX3_begin_77 ) FU ((0 : Int32), s_leftByLatest)) (fun kt => ex1 kt (fun t => dm2 t (fun (v34 : Int32) (v35 : Nat → Int32) => some (s_a1_total, v25, v26, v27, v35, v28, v29)))))))
abbrev rmX3_begin : Room := { frames := 1, cells := 0, slots := 0, locals := 23 }
set_option maxHeartbeats 4000000 in
set_option maxRecDepth 100000 in
theorem c_X3_begin (l : Launch) (D : va_G) (ky : Nat → ClassId) (q_ q_kind q_allowed q_colour q_nearLow q_nearHigh q_paintedLow q_paintedHigh q_searched q_painted q_upcoming q_left q_leftByLatest q_a1 q_a1_joints q_a1_pieces q_a1_paneOf q_a1_walk q_a1_start q_a1_sum q_a1_pieces_from q_a1_pieces_to q_a1_pieces_twin q_a1_pieces_firm q_a1_pieces_first q_a1_pieces_firmEnds q_a1_pieces_reached q_a1_pieces_nextLow q_a1_pieces_nextHigh : Nat) (s_total : Int32) (s_allowed : Nat → Int32) (s_colour : Nat → Int32) (s_kind : Nat → Int32) (s_leftByLatest : Nat → Int32) (s_nearHigh : Nat → Int64) (s_nearLow : Nat → Int64) (s_a1_total : Int32) (s_a1_paneOf : Nat → Int32) (s_a1_pieces_steps : Int32) (s_a1_pieces_twin : Nat → Int32) (s_a1_start : Nat → Int32) (s_a1_walk : Nat → Int32) {o_total : Int32} {o_allowed : Nat → Int32} {o_colour : Nat → Int32} {o_kind : Nat → Int32} {o_leftByLatest : Nat → Int32} {o_nearHigh : Nat → Int64} {o_nearLow : Nat → Int64} (h : sX3_begin s_total s_allowed s_colour s_kind s_leftByLatest s_nearHigh s_nearLow s_a1_total s_a1_paneOf s_a1_pieces_twin s_a1_start s_a1_walk = some (o_total, o_allowed, o_colour, o_kind, o_leftByLatest, o_nearHigh, o_nearLow)) : MtV l D ky yX3_begin wsX3_begin rmX3_begin [.ref q_, .ref q_a1] [(q_, .inr (3, [.int s_total, .ref q_kind, .ref q_allowed, .ref q_colour, .ref q_nearLow, .ref q_nearHigh, .ref q_paintedLow, .ref q_paintedHigh, .ref q_searched, .ref q_painted, .ref q_upcoming, .ref q_left, .ref q_leftByLatest])), (q_allowed, .inl (ky 0, 128, .inl s_allowed)), (q_colour, .inl (ky 0, 128, .inl s_colour)), (q_kind, .inl (ky 0, 128, .inl s_kind)), (q_leftByLatest, .inl (ky 2, 128, .inl s_leftByLatest)), (q_nearHigh, .inl (ky 1, 128, .inr (.inl s_nearHigh))), (q_nearLow, .inl (ky 1, 128, .inr (.inl s_nearLow))), (q_a1, .inr (7, [.ref q_a1_joints, .ref q_a1_pieces, .int s_a1_total, .ref q_a1_paneOf, .ref q_a1_walk, .ref q_a1_start, .ref q_a1_sum])), (q_a1_paneOf, .inl (ky 0, 768, .inl s_a1_paneOf)), (q_a1_pieces, .inr (8, [.ref q_a1_joints, .int s_a1_pieces_steps, .ref q_a1_pieces_from, .ref q_a1_pieces_to, .ref q_a1_pieces_twin, .ref q_a1_pieces_firm, .ref q_a1_pieces_first, .ref q_a1_pieces_firmEnds, .ref q_a1_pieces_reached, .ref q_a1_pieces_nextLow, .ref q_a1_pieces_nextHigh])), (q_a1_pieces_twin, .inl (ky 0, 768, .inl s_a1_pieces_twin)), (q_a1_start, .inl (ky 0, 129, .inl s_a1_start)), (q_a1_walk, .inl (ky 0, 768, .inl s_a1_walk))] [(q_, .inr (3, [.int o_total, .ref q_kind, .ref q_allowed, .ref q_colour, .ref q_nearLow, .ref q_nearHigh, .ref q_paintedLow, .ref q_paintedHigh, .ref q_searched, .ref q_painted, .ref q_upcoming, .ref q_left, .ref q_leftByLatest])), (q_allowed, .inl (ky 0, 128, .inl o_allowed)), (q_colour, .inl (ky 0, 128, .inl o_colour)), (q_kind, .inl (ky 0, 128, .inl o_kind)), (q_leftByLatest, .inl (ky 2, 128, .inl o_leftByLatest)), (q_nearHigh, .inl (ky 1, 128, .inr (.inl o_nearHigh))), (q_nearLow, .inl (ky 1, 128, .inr (.inl o_nearLow))), (q_a1, .inr (7, [.ref q_a1_joints, .ref q_a1_pieces, .int s_a1_total, .ref q_a1_paneOf, .ref q_a1_walk, .ref q_a1_start, .ref q_a1_sum])), (q_a1_paneOf, .inl (ky 0, 768, .inl s_a1_paneOf)), (q_a1_pieces, .inr (8, [.ref q_a1_joints, .int s_a1_pieces_steps, .ref q_a1_pieces_from, .ref q_a1_pieces_to, .ref q_a1_pieces_twin, .ref q_a1_pieces_firm, .ref q_a1_pieces_first, .ref q_a1_pieces_firmEnds, .ref q_a1_pieces_reached, .ref q_a1_pieces_nextLow, .ref q_a1_pieces_nextHigh])), (q_a1_pieces_twin, .inl (ky 0, 768, .inl s_a1_pieces_twin)), (q_a1_start, .inl (ky 0, 129, .inl s_a1_start)), (q_a1_walk, .inl (ky 0, 768, .inl s_a1_walk))] 0 0 := by
  refine MtV.of (cc := cX3_begin) (maxL := 4) (by decide +kernel) rfl (Nat.le_of_ble_eq_true rfl) ?_
  intro p e R s m args below meth c A Q ls hR hx hb hts hown hnm hml hP hK hD hA ret hl
  have rt := rtV (dc := fun pc => decode cX3_begin pc = .ok (.return_, 1)) (o_total, o_allowed, o_colour, o_kind, o_leftByLatest, o_nearHigh, o_nearLow) (fun t => [(q_, .inr (3, [.int t.1, .ref q_kind, .ref q_allowed, .ref q_colour, .ref q_nearLow, .ref q_nearHigh, .ref q_paintedLow, .ref q_paintedHigh, .ref q_searched, .ref q_painted, .ref q_upcoming, .ref q_left, .ref q_leftByLatest])), (q_allowed, .inl (ky 0, 128, .inl t.2.1)), (q_colour, .inl (ky 0, 128, .inl t.2.2.1)), (q_kind, .inl (ky 0, 128, .inl t.2.2.2.1)), (q_leftByLatest, .inl (ky 2, 128, .inl t.2.2.2.2.1)), (q_nearHigh, .inl (ky 1, 128, .inr (.inl t.2.2.2.2.2.1))), (q_nearLow, .inl (ky 1, 128, .inr (.inl t.2.2.2.2.2.2))), (q_a1, .inr (7, [.ref q_a1_joints, .ref q_a1_pieces, .int s_a1_total, .ref q_a1_paneOf, .ref q_a1_walk, .ref q_a1_start, .ref q_a1_sum])), (q_a1_paneOf, .inl (ky 0, 768, .inl s_a1_paneOf)), (q_a1_pieces, .inr (8, [.ref q_a1_joints, .int s_a1_pieces_steps, .ref q_a1_pieces_from, .ref q_a1_pieces_to, .ref q_a1_pieces_twin, .ref q_a1_pieces_firm, .ref q_a1_pieces_first, .ref q_a1_pieces_firmEnds, .ref q_a1_pieces_reached, .ref q_a1_pieces_nextLow, .ref q_a1_pieces_nextHigh])), (q_a1_pieces_twin, .inl (ky 0, 768, .inl s_a1_pieces_twin)), (q_a1_start, .inl (ky 0, 129, .inl s_a1_start)), (q_a1_walk, .inl (ky 0, 768, .inl s_a1_walk))]) ret
  subst hR
  obtain ⟨H, hH⟩ : ∃ H, H = s.heap := ⟨_, rfl⟩
  obtain ⟨locs, hlocs⟩ : ∃ locs : List Loc, locs = [] := ⟨_, rfl⟩
  have hS : va_S A s.heap H locs := by rw [hH, hlocs]; exact va_S.rf
  rw [← hH] at hP
  suffices hgo : W p l e rmX3_begin s m args below meth c H locs 0 0 Q (F0 m 0 ls []) by rw [hH, hlocs] at hgo; exact hgo
  clear hH hlocs
  replace hl : lv_has ls 4 [(0, .ref q_), (1, .ref q_a1)] := hl
  replace hown : s.vm.findClass RX3 = some m.cls := hown
  have hi_X7 : ∀ w ∈ u_ws RX7 TX7 7, w ∈ wsX3_begin := fun _ h9 => List.mem_cons_of_mem _ (List.mem_append_left _ (List.mem_append_left _ (List.mem_append_right _ h9)))
  have hf_50 := hts (.fieldLink RX3 50 "GlazierBench$Panes" "total" "I") (by decide +kernel)
  have hi_X3 : ∀ w ∈ u_ws RX3 TX3 13, w ∈ wsX3_begin := fun _ h9 => List.mem_cons_of_mem _ (List.mem_append_left _ (List.mem_append_right _ h9))
  have hf_56 := hts (.fieldLink RX3 56 "GlazierBench$Glazing" "total" "I") (by decide +kernel)
  have hf_21 := hts (.fieldLink RX3 21 "GlazierBench$Glazing" "nearLow" "[J") (by decide +kernel)
  have hf_25 := hts (.fieldLink RX3 25 "GlazierBench$Glazing" "nearHigh" "[J") (by decide +kernel)
  have hf_47 := hts (.fieldLink RX3 47 "GlazierBench$Glazing" "leftByLatest" "[Z") (by decide +kernel)
  unfold sX3_begin at h
  refine lv_aload_n hx hb dX3_begin_0 rfl (lv_at hl 0 rfl) ?_
  refine lv_aload_n hx hb dX3_begin_1 rfl (lv_at hl 1 rfl) ?_
  refine va_get (D := D) (ci := 7) (v := .int s_a1_total) (C := RX7) (T := TX7) (N := 7) hx hb hts hi_X7 hown hK.1 hP 7 rfl rfl 2 (by decide) hf_50 (fun _ h9 => h9) rfl dX3_begin_2 ?_
  refine va_put (D := D) (ci := 3) (v := .int s_a1_total) (ty := .int) (C := RX3) (T := TX3) (N := 13) hx hb hts hi_X3 tyX3 tyX3_ok nmX3 hown hK.1 hP hD hS 0 rfl rfl 0 (by decide) hf_56 (fun _ h9 => h9) rfl (by decide +kernel) rfl rfl (Nat.le_of_ble_eq_true rfl) dX3_begin_5 (fun H locs hP hD hS => ?_)
  replace hP : va_P D vwCl [(q_, .inr (3, [.int s_a1_total, .ref q_kind, .ref q_allowed, .ref q_colour, .ref q_nearLow, .ref q_nearHigh, .ref q_paintedLow, .ref q_paintedHigh, .ref q_searched, .ref q_painted, .ref q_upcoming, .ref q_left, .ref q_leftByLatest])), (q_allowed, .inl (ky 0, 128, .inl s_allowed)), (q_colour, .inl (ky 0, 128, .inl s_colour)), (q_kind, .inl (ky 0, 128, .inl s_kind)), (q_leftByLatest, .inl (ky 2, 128, .inl s_leftByLatest)), (q_nearHigh, .inl (ky 1, 128, .inr (.inl s_nearHigh))), (q_nearLow, .inl (ky 1, 128, .inr (.inl s_nearLow))), (q_a1, .inr (7, [.ref q_a1_joints, .ref q_a1_pieces, .int s_a1_total, .ref q_a1_paneOf, .ref q_a1_walk, .ref q_a1_start, .ref q_a1_sum])), (q_a1_paneOf, .inl (ky 0, 768, .inl s_a1_paneOf)), (q_a1_pieces, .inr (8, [.ref q_a1_joints, .int s_a1_pieces_steps, .ref q_a1_pieces_from, .ref q_a1_pieces_to, .ref q_a1_pieces_twin, .ref q_a1_pieces_firm, .ref q_a1_pieces_first, .ref q_a1_pieces_firmEnds, .ref q_a1_pieces_reached, .ref q_a1_pieces_nextLow, .ref q_a1_pieces_nextHigh])), (q_a1_pieces_twin, .inl (ky 0, 768, .inl s_a1_pieces_twin)), (q_a1_start, .inl (ky 0, 129, .inl s_a1_start)), (q_a1_walk, .inl (ky 0, 768, .inl s_a1_walk))] H := hP
  replace hD : va_D A [(q_, .inr (3, [.int s_a1_total, .ref q_kind, .ref q_allowed, .ref q_colour, .ref q_nearLow, .ref q_nearHigh, .ref q_paintedLow, .ref q_paintedHigh, .ref q_searched, .ref q_painted, .ref q_upcoming, .ref q_left, .ref q_leftByLatest])), (q_allowed, .inl (ky 0, 128, .inl s_allowed)), (q_colour, .inl (ky 0, 128, .inl s_colour)), (q_kind, .inl (ky 0, 128, .inl s_kind)), (q_leftByLatest, .inl (ky 2, 128, .inl s_leftByLatest)), (q_nearHigh, .inl (ky 1, 128, .inr (.inl s_nearHigh))), (q_nearLow, .inl (ky 1, 128, .inr (.inl s_nearLow))), (q_a1, .inr (7, [.ref q_a1_joints, .ref q_a1_pieces, .int s_a1_total, .ref q_a1_paneOf, .ref q_a1_walk, .ref q_a1_start, .ref q_a1_sum])), (q_a1_paneOf, .inl (ky 0, 768, .inl s_a1_paneOf)), (q_a1_pieces, .inr (8, [.ref q_a1_joints, .int s_a1_pieces_steps, .ref q_a1_pieces_from, .ref q_a1_pieces_to, .ref q_a1_pieces_twin, .ref q_a1_pieces_firm, .ref q_a1_pieces_first, .ref q_a1_pieces_firmEnds, .ref q_a1_pieces_reached, .ref q_a1_pieces_nextLow, .ref q_a1_pieces_nextHigh])), (q_a1_pieces_twin, .inl (ky 0, 768, .inl s_a1_pieces_twin)), (q_a1_start, .inl (ky 0, 129, .inl s_a1_start)), (q_a1_walk, .inl (ky 0, 768, .inl s_a1_walk))] := hD
  refine lv_iconst (v := 0) hx hb dX3_begin_8 (by decide) ?_
  refine lv_istore_n (lv' := [(2, .int (0 : Int32)), (0, .ref q_), (1, .ref q_a1)]) hx hb dX3_begin_9 rfl hl (by decide) rfl (fun ls hl => ?_)
  obtain ⟨⟨k, t⟩, hi, h⟩ := ob_of h
  refine iter_rule (P := fun (k : Nat) (t : Int32 × (Nat → Int32) × (Nat → Int32) × (Nat → Int32) × (Nat → Int64) × (Nat → Int64)) => ∀ (H : Heap) (locs : List Loc) (ls : Array Slot), va_P D vwCl [(q_, .inr (3, [.int s_a1_total, .ref q_kind, .ref q_allowed, .ref q_colour, .ref q_nearLow, .ref q_nearHigh, .ref q_paintedLow, .ref q_paintedHigh, .ref q_searched, .ref q_painted, .ref q_upcoming, .ref q_left, .ref q_leftByLatest])), (q_allowed, .inl (ky 0, 128, .inl t.2.1)), (q_colour, .inl (ky 0, 128, .inl t.2.2.1)), (q_kind, .inl (ky 0, 128, .inl t.2.2.2.1)), (q_leftByLatest, .inl (ky 2, 128, .inl s_leftByLatest)), (q_nearHigh, .inl (ky 1, 128, .inr (.inl t.2.2.2.2.1))), (q_nearLow, .inl (ky 1, 128, .inr (.inl t.2.2.2.2.2))), (q_a1, .inr (7, [.ref q_a1_joints, .ref q_a1_pieces, .int s_a1_total, .ref q_a1_paneOf, .ref q_a1_walk, .ref q_a1_start, .ref q_a1_sum])), (q_a1_paneOf, .inl (ky 0, 768, .inl s_a1_paneOf)), (q_a1_pieces, .inr (8, [.ref q_a1_joints, .int s_a1_pieces_steps, .ref q_a1_pieces_from, .ref q_a1_pieces_to, .ref q_a1_pieces_twin, .ref q_a1_pieces_firm, .ref q_a1_pieces_first, .ref q_a1_pieces_firmEnds, .ref q_a1_pieces_reached, .ref q_a1_pieces_nextLow, .ref q_a1_pieces_nextHigh])), (q_a1_pieces_twin, .inl (ky 0, 768, .inl s_a1_pieces_twin)), (q_a1_start, .inl (ky 0, 129, .inl s_a1_start)), (q_a1_walk, .inl (ky 0, 768, .inl s_a1_walk))] H → va_D A [(q_, .inr (3, [.int s_a1_total, .ref q_kind, .ref q_allowed, .ref q_colour, .ref q_nearLow, .ref q_nearHigh, .ref q_paintedLow, .ref q_paintedHigh, .ref q_searched, .ref q_painted, .ref q_upcoming, .ref q_left, .ref q_leftByLatest])), (q_allowed, .inl (ky 0, 128, .inl t.2.1)), (q_colour, .inl (ky 0, 128, .inl t.2.2.1)), (q_kind, .inl (ky 0, 128, .inl t.2.2.2.1)), (q_leftByLatest, .inl (ky 2, 128, .inl s_leftByLatest)), (q_nearHigh, .inl (ky 1, 128, .inr (.inl t.2.2.2.2.1))), (q_nearLow, .inl (ky 1, 128, .inr (.inl t.2.2.2.2.2))), (q_a1, .inr (7, [.ref q_a1_joints, .ref q_a1_pieces, .int s_a1_total, .ref q_a1_paneOf, .ref q_a1_walk, .ref q_a1_start, .ref q_a1_sum])), (q_a1_paneOf, .inl (ky 0, 768, .inl s_a1_paneOf)), (q_a1_pieces, .inr (8, [.ref q_a1_joints, .int s_a1_pieces_steps, .ref q_a1_pieces_from, .ref q_a1_pieces_to, .ref q_a1_pieces_twin, .ref q_a1_pieces_firm, .ref q_a1_pieces_first, .ref q_a1_pieces_firmEnds, .ref q_a1_pieces_reached, .ref q_a1_pieces_nextLow, .ref q_a1_pieces_nextHigh])), (q_a1_pieces_twin, .inl (ky 0, 768, .inl s_a1_pieces_twin)), (q_a1_start, .inl (ky 0, 129, .inl s_a1_start)), (q_a1_walk, .inl (ky 0, 768, .inl s_a1_walk))] → va_S A s.heap H locs → lv_has ls 4 [(0, .ref q_), (1, .ref q_a1), (2, .int t.1)] → W p l e rmX3_begin s m args below meth c H locs 0 0 Q (F0 m ([10, 75].getD k 0) ls [])) ?_ _ _ _ _ hi ?_ H locs ls hP hD hS (lv_sub hl [1, 2, 0] rfl)
  · clear h hi hP hD hS hl
    intro t k t' h K
    obtain ⟨v1, v2, v3, v4, v5, v6⟩ := t
    intro H locs ls hP hD hS hl
    replace h := dm6_of h
    replace hP : va_P D vwCl [(q_, .inr (3, [.int s_a1_total, .ref q_kind, .ref q_allowed, .ref q_colour, .ref q_nearLow, .ref q_nearHigh, .ref q_paintedLow, .ref q_paintedHigh, .ref q_searched, .ref q_painted, .ref q_upcoming, .ref q_left, .ref q_leftByLatest])), (q_allowed, .inl (ky 0, 128, .inl v2)), (q_colour, .inl (ky 0, 128, .inl v3)), (q_kind, .inl (ky 0, 128, .inl v4)), (q_leftByLatest, .inl (ky 2, 128, .inl s_leftByLatest)), (q_nearHigh, .inl (ky 1, 128, .inr (.inl v5))), (q_nearLow, .inl (ky 1, 128, .inr (.inl v6))), (q_a1, .inr (7, [.ref q_a1_joints, .ref q_a1_pieces, .int s_a1_total, .ref q_a1_paneOf, .ref q_a1_walk, .ref q_a1_start, .ref q_a1_sum])), (q_a1_paneOf, .inl (ky 0, 768, .inl s_a1_paneOf)), (q_a1_pieces, .inr (8, [.ref q_a1_joints, .int s_a1_pieces_steps, .ref q_a1_pieces_from, .ref q_a1_pieces_to, .ref q_a1_pieces_twin, .ref q_a1_pieces_firm, .ref q_a1_pieces_first, .ref q_a1_pieces_firmEnds, .ref q_a1_pieces_reached, .ref q_a1_pieces_nextLow, .ref q_a1_pieces_nextHigh])), (q_a1_pieces_twin, .inl (ky 0, 768, .inl s_a1_pieces_twin)), (q_a1_start, .inl (ky 0, 129, .inl s_a1_start)), (q_a1_walk, .inl (ky 0, 768, .inl s_a1_walk))] H := hP
    replace hD : va_D A [(q_, .inr (3, [.int s_a1_total, .ref q_kind, .ref q_allowed, .ref q_colour, .ref q_nearLow, .ref q_nearHigh, .ref q_paintedLow, .ref q_paintedHigh, .ref q_searched, .ref q_painted, .ref q_upcoming, .ref q_left, .ref q_leftByLatest])), (q_allowed, .inl (ky 0, 128, .inl v2)), (q_colour, .inl (ky 0, 128, .inl v3)), (q_kind, .inl (ky 0, 128, .inl v4)), (q_leftByLatest, .inl (ky 2, 128, .inl s_leftByLatest)), (q_nearHigh, .inl (ky 1, 128, .inr (.inl v5))), (q_nearLow, .inl (ky 1, 128, .inr (.inl v6))), (q_a1, .inr (7, [.ref q_a1_joints, .ref q_a1_pieces, .int s_a1_total, .ref q_a1_paneOf, .ref q_a1_walk, .ref q_a1_start, .ref q_a1_sum])), (q_a1_paneOf, .inl (ky 0, 768, .inl s_a1_paneOf)), (q_a1_pieces, .inr (8, [.ref q_a1_joints, .int s_a1_pieces_steps, .ref q_a1_pieces_from, .ref q_a1_pieces_to, .ref q_a1_pieces_twin, .ref q_a1_pieces_firm, .ref q_a1_pieces_first, .ref q_a1_pieces_firmEnds, .ref q_a1_pieces_reached, .ref q_a1_pieces_nextLow, .ref q_a1_pieces_nextHigh])), (q_a1_pieces_twin, .inl (ky 0, 768, .inl s_a1_pieces_twin)), (q_a1_start, .inl (ky 0, 129, .inl s_a1_start)), (q_a1_walk, .inl (ky 0, 768, .inl s_a1_walk))] := hD
    replace hl : lv_has ls 4 [(0, .ref q_), (1, .ref q_a1), (2, .int v1)] := hl
    refine lv_iload_n hx hb dX3_begin_10 rfl (lv_at hl 2 rfl) ?_
    refine lv_aload_n hx hb dX3_begin_11 rfl (lv_at hl 0 rfl) ?_
    refine va_get (D := D) (ci := 3) (v := .int s_a1_total) (C := RX3) (T := TX3) (N := 13) hx hb hts hi_X3 hown hK.1 hP 0 rfl rfl 0 (by decide) hf_56 (fun _ h9 => h9) rfl dX3_begin_12 ?_
    refine lv_icmp_ge (tgt := 75) hx hb dX3_begin_15 (by decide) (fun hc => ?_) (fun hc => ?_)
    · replace h := if_t hc h
      cases h
      exact K _ _ _ hP hD hS (lv_sub hl [0, 1, 2] rfl)
    · replace h := if_f hc h
      refine lv_aload_n hx hb dX3_begin_18 rfl (lv_at hl 0 rfl) ?_
      refine lv_iload_n hx hb dX3_begin_19 rfl (lv_at hl 2 rfl) ?_
      refine lv_iconst (v := 0) hx hb dX3_begin_20 (by decide) ?_
      refine lv_sipush (v := 255) hx hb dX3_begin_21 (by decide) ?_
      obtain ⟨⟨o7, o8, o9⟩, hc, h⟩ := ob_of h
      replace h := dm3_of h
      refine cv_v (As := [.int v1, .int (0 : Int32), .int (255 : Int32)]) (rest := []) (wr := [(q_leftByLatest, .inl (ky 2, 128, .inl s_leftByLatest)), (q_nearHigh, .inl (ky 1, 128, .inr (.inl v5))), (q_nearLow, .inl (ky 1, 128, .inr (.inl v6))), (q_a1, .inr (7, [.ref q_a1_joints, .ref q_a1_pieces, .int s_a1_total, .ref q_a1_paneOf, .ref q_a1_walk, .ref q_a1_start, .ref q_a1_sum])), (q_a1_paneOf, .inl (ky 0, 768, .inl s_a1_paneOf)), (q_a1_pieces, .inr (8, [.ref q_a1_joints, .int s_a1_pieces_steps, .ref q_a1_pieces_from, .ref q_a1_pieces_to, .ref q_a1_pieces_twin, .ref q_a1_pieces_firm, .ref q_a1_pieces_first, .ref q_a1_pieces_firmEnds, .ref q_a1_pieces_reached, .ref q_a1_pieces_nextLow, .ref q_a1_pieces_nextHigh])), (q_a1_pieces_twin, .inl (ky 0, 768, .inl s_a1_pieces_twin)), (q_a1_start, .inl (ky 0, 129, .inl s_a1_start)), (q_a1_walk, .inl (ky 0, 768, .inl s_a1_walk))]) (wn := [(q_, .inr (3, [.int s_a1_total, .ref q_kind, .ref q_allowed, .ref q_colour, .ref q_nearLow, .ref q_nearHigh, .ref q_paintedLow, .ref q_paintedHigh, .ref q_searched, .ref q_painted, .ref q_upcoming, .ref q_left, .ref q_leftByLatest])), (q_allowed, .inl (ky 0, 128, .inl o7)), (q_colour, .inl (ky 0, 128, .inl o8)), (q_kind, .inl (ky 0, 128, .inl o9)), (q_leftByLatest, .inl (ky 2, 128, .inl s_leftByLatest)), (q_nearHigh, .inl (ky 1, 128, .inr (.inl v5))), (q_nearLow, .inl (ky 1, 128, .inr (.inl v6))), (q_a1, .inr (7, [.ref q_a1_joints, .ref q_a1_pieces, .int s_a1_total, .ref q_a1_paneOf, .ref q_a1_walk, .ref q_a1_start, .ref q_a1_sum])), (q_a1_paneOf, .inl (ky 0, 768, .inl s_a1_paneOf)), (q_a1_pieces, .inr (8, [.ref q_a1_joints, .int s_a1_pieces_steps, .ref q_a1_pieces_from, .ref q_a1_pieces_to, .ref q_a1_pieces_twin, .ref q_a1_pieces_firm, .ref q_a1_pieces_first, .ref q_a1_pieces_firmEnds, .ref q_a1_pieces_reached, .ref q_a1_pieces_nextLow, .ref q_a1_pieces_nextHigh])), (q_a1_pieces_twin, .inl (ky 0, 768, .inl s_a1_pieces_twin)), (q_a1_start, .inl (ky 0, 129, .inl s_a1_start)), (q_a1_walk, .inl (ky 0, 768, .inl s_a1_walk))]) ⟨hx, hb, hml, hown, hts⟩ (c_X3_put l D ky q_ q_kind q_allowed q_colour q_nearLow q_nearHigh q_paintedLow q_paintedHigh q_searched q_painted q_upcoming q_left q_leftByLatest v1 (0 : Int32) (255 : Int32) s_a1_total v2 v3 v4 hc) (cwV 3 hts gX3_begin_X3_put rfl rfl rfl (by decide +kernel) ⟨Nat.le_of_ble_eq_true rfl, Nat.le_of_ble_eq_true rfl⟩) (rcv hK.1 hP (q0 := 0) rfl rfl) hP hD hK hS hA [0, 1, 2, 3] [4, 5, 6, 7, 8, 9, 10, 11, 12] [9, 10, 11, 12, 0, 1, 2, 3, 4, 5, 6, 7, 8] rfl (by decide +kernel) rfl (by decide +kernel) (by decide +kernel) (by decide +kernel) rfl rfl rfl hl.1 (Nat.le_of_ble_eq_true rfl) dX3_begin_24 ⟨Nat.le_of_ble_eq_true rfl, Nat.le_of_ble_eq_true rfl⟩ (fun H locs hP hD hS => ?_)
      refine lv_aload_n hx hb dX3_begin_27 rfl (lv_at hl 0 rfl) ?_
      refine va_get (D := D) (ci := 3) (v := .ref q_nearLow) (C := RX3) (T := TX3) (N := 13) hx hb hts hi_X3 hown hK.1 hP 0 rfl rfl 4 (by decide) hf_21 (fun _ h9 => h9) rfl dX3_begin_28 ?_
      refine lv_iload_n hx hb dX3_begin_31 rfl (lv_at hl 2 rfl) ?_
      refine lv_lconst (v := 0) hx hb dX3_begin_32 (by decide) ?_
      obtain ⟨hg, h⟩ := gd_of h
      refine r_last hx hb hK.1 hP hD hS 6 1 rfl rfl hg dX3_begin_33 (fun f10 ef10 H locs hP hD hS => ?_)
      replace h := lt_at ef10 h
      replace hP : va_P D vwCl [(q_, .inr (3, [.int s_a1_total, .ref q_kind, .ref q_allowed, .ref q_colour, .ref q_nearLow, .ref q_nearHigh, .ref q_paintedLow, .ref q_paintedHigh, .ref q_searched, .ref q_painted, .ref q_upcoming, .ref q_left, .ref q_leftByLatest])), (q_allowed, .inl (ky 0, 128, .inl o7)), (q_colour, .inl (ky 0, 128, .inl o8)), (q_kind, .inl (ky 0, 128, .inl o9)), (q_leftByLatest, .inl (ky 2, 128, .inl s_leftByLatest)), (q_nearHigh, .inl (ky 1, 128, .inr (.inl v5))), (q_nearLow, .inl (ky 1, 128, .inr (.inl f10))), (q_a1, .inr (7, [.ref q_a1_joints, .ref q_a1_pieces, .int s_a1_total, .ref q_a1_paneOf, .ref q_a1_walk, .ref q_a1_start, .ref q_a1_sum])), (q_a1_paneOf, .inl (ky 0, 768, .inl s_a1_paneOf)), (q_a1_pieces, .inr (8, [.ref q_a1_joints, .int s_a1_pieces_steps, .ref q_a1_pieces_from, .ref q_a1_pieces_to, .ref q_a1_pieces_twin, .ref q_a1_pieces_firm, .ref q_a1_pieces_first, .ref q_a1_pieces_firmEnds, .ref q_a1_pieces_reached, .ref q_a1_pieces_nextLow, .ref q_a1_pieces_nextHigh])), (q_a1_pieces_twin, .inl (ky 0, 768, .inl s_a1_pieces_twin)), (q_a1_start, .inl (ky 0, 129, .inl s_a1_start)), (q_a1_walk, .inl (ky 0, 768, .inl s_a1_walk))] H := hP
      replace hD : va_D A [(q_, .inr (3, [.int s_a1_total, .ref q_kind, .ref q_allowed, .ref q_colour, .ref q_nearLow, .ref q_nearHigh, .ref q_paintedLow, .ref q_paintedHigh, .ref q_searched, .ref q_painted, .ref q_upcoming, .ref q_left, .ref q_leftByLatest])), (q_allowed, .inl (ky 0, 128, .inl o7)), (q_colour, .inl (ky 0, 128, .inl o8)), (q_kind, .inl (ky 0, 128, .inl o9)), (q_leftByLatest, .inl (ky 2, 128, .inl s_leftByLatest)), (q_nearHigh, .inl (ky 1, 128, .inr (.inl v5))), (q_nearLow, .inl (ky 1, 128, .inr (.inl f10))), (q_a1, .inr (7, [.ref q_a1_joints, .ref q_a1_pieces, .int s_a1_total, .ref q_a1_paneOf, .ref q_a1_walk, .ref q_a1_start, .ref q_a1_sum])), (q_a1_paneOf, .inl (ky 0, 768, .inl s_a1_paneOf)), (q_a1_pieces, .inr (8, [.ref q_a1_joints, .int s_a1_pieces_steps, .ref q_a1_pieces_from, .ref q_a1_pieces_to, .ref q_a1_pieces_twin, .ref q_a1_pieces_firm, .ref q_a1_pieces_first, .ref q_a1_pieces_firmEnds, .ref q_a1_pieces_reached, .ref q_a1_pieces_nextLow, .ref q_a1_pieces_nextHigh])), (q_a1_pieces_twin, .inl (ky 0, 768, .inl s_a1_pieces_twin)), (q_a1_start, .inl (ky 0, 129, .inl s_a1_start)), (q_a1_walk, .inl (ky 0, 768, .inl s_a1_walk))] := hD
      refine lv_aload_n hx hb dX3_begin_34 rfl (lv_at hl 0 rfl) ?_
      refine va_get (D := D) (ci := 3) (v := .ref q_nearHigh) (C := RX3) (T := TX3) (N := 13) hx hb hts hi_X3 hown hK.1 hP 0 rfl rfl 5 (by decide) hf_25 (fun _ h9 => h9) rfl dX3_begin_35 ?_
      refine lv_iload_n hx hb dX3_begin_38 rfl (lv_at hl 2 rfl) ?_
      refine lv_lconst (v := 0) hx hb dX3_begin_39 (by decide) ?_
      obtain ⟨hg, h⟩ := gd_of h
      refine r_last hx hb hK.1 hP hD hS 5 1 rfl rfl hg dX3_begin_40 (fun f11 ef11 H locs hP hD hS => ?_)
      replace h := lt_at ef11 h
      replace hP : va_P D vwCl [(q_, .inr (3, [.int s_a1_total, .ref q_kind, .ref q_allowed, .ref q_colour, .ref q_nearLow, .ref q_nearHigh, .ref q_paintedLow, .ref q_paintedHigh, .ref q_searched, .ref q_painted, .ref q_upcoming, .ref q_left, .ref q_leftByLatest])), (q_allowed, .inl (ky 0, 128, .inl o7)), (q_colour, .inl (ky 0, 128, .inl o8)), (q_kind, .inl (ky 0, 128, .inl o9)), (q_leftByLatest, .inl (ky 2, 128, .inl s_leftByLatest)), (q_nearHigh, .inl (ky 1, 128, .inr (.inl f11))), (q_nearLow, .inl (ky 1, 128, .inr (.inl f10))), (q_a1, .inr (7, [.ref q_a1_joints, .ref q_a1_pieces, .int s_a1_total, .ref q_a1_paneOf, .ref q_a1_walk, .ref q_a1_start, .ref q_a1_sum])), (q_a1_paneOf, .inl (ky 0, 768, .inl s_a1_paneOf)), (q_a1_pieces, .inr (8, [.ref q_a1_joints, .int s_a1_pieces_steps, .ref q_a1_pieces_from, .ref q_a1_pieces_to, .ref q_a1_pieces_twin, .ref q_a1_pieces_firm, .ref q_a1_pieces_first, .ref q_a1_pieces_firmEnds, .ref q_a1_pieces_reached, .ref q_a1_pieces_nextLow, .ref q_a1_pieces_nextHigh])), (q_a1_pieces_twin, .inl (ky 0, 768, .inl s_a1_pieces_twin)), (q_a1_start, .inl (ky 0, 129, .inl s_a1_start)), (q_a1_walk, .inl (ky 0, 768, .inl s_a1_walk))] H := hP
      replace hD : va_D A [(q_, .inr (3, [.int s_a1_total, .ref q_kind, .ref q_allowed, .ref q_colour, .ref q_nearLow, .ref q_nearHigh, .ref q_paintedLow, .ref q_paintedHigh, .ref q_searched, .ref q_painted, .ref q_upcoming, .ref q_left, .ref q_leftByLatest])), (q_allowed, .inl (ky 0, 128, .inl o7)), (q_colour, .inl (ky 0, 128, .inl o8)), (q_kind, .inl (ky 0, 128, .inl o9)), (q_leftByLatest, .inl (ky 2, 128, .inl s_leftByLatest)), (q_nearHigh, .inl (ky 1, 128, .inr (.inl f11))), (q_nearLow, .inl (ky 1, 128, .inr (.inl f10))), (q_a1, .inr (7, [.ref q_a1_joints, .ref q_a1_pieces, .int s_a1_total, .ref q_a1_paneOf, .ref q_a1_walk, .ref q_a1_start, .ref q_a1_sum])), (q_a1_paneOf, .inl (ky 0, 768, .inl s_a1_paneOf)), (q_a1_pieces, .inr (8, [.ref q_a1_joints, .int s_a1_pieces_steps, .ref q_a1_pieces_from, .ref q_a1_pieces_to, .ref q_a1_pieces_twin, .ref q_a1_pieces_firm, .ref q_a1_pieces_first, .ref q_a1_pieces_firmEnds, .ref q_a1_pieces_reached, .ref q_a1_pieces_nextLow, .ref q_a1_pieces_nextHigh])), (q_a1_pieces_twin, .inl (ky 0, 768, .inl s_a1_pieces_twin)), (q_a1_start, .inl (ky 0, 129, .inl s_a1_start)), (q_a1_walk, .inl (ky 0, 768, .inl s_a1_walk))] := hD
      refine lv_iconst (v := 0) hx hb dX3_begin_41 (by decide) ?_
      refine lv_istore_n (lv' := [(3, .int (0 : Int32)), (0, .ref q_), (1, .ref q_a1), (2, .int v1)]) hx hb dX3_begin_42 rfl hl (by decide) rfl (fun ls hl => ?_)
      obtain ⟨⟨k, t⟩, hi, h⟩ := ob_of h
      refine iter_rule (P := fun (k : Nat) (t : Int32 × (Nat → Int64) × (Nat → Int64)) => ∀ (H : Heap) (locs : List Loc) (ls : Array Slot), va_P D vwCl [(q_, .inr (3, [.int s_a1_total, .ref q_kind, .ref q_allowed, .ref q_colour, .ref q_nearLow, .ref q_nearHigh, .ref q_paintedLow, .ref q_paintedHigh, .ref q_searched, .ref q_painted, .ref q_upcoming, .ref q_left, .ref q_leftByLatest])), (q_allowed, .inl (ky 0, 128, .inl o7)), (q_colour, .inl (ky 0, 128, .inl o8)), (q_kind, .inl (ky 0, 128, .inl o9)), (q_leftByLatest, .inl (ky 2, 128, .inl s_leftByLatest)), (q_nearHigh, .inl (ky 1, 128, .inr (.inl t.2.1))), (q_nearLow, .inl (ky 1, 128, .inr (.inl t.2.2))), (q_a1, .inr (7, [.ref q_a1_joints, .ref q_a1_pieces, .int s_a1_total, .ref q_a1_paneOf, .ref q_a1_walk, .ref q_a1_start, .ref q_a1_sum])), (q_a1_paneOf, .inl (ky 0, 768, .inl s_a1_paneOf)), (q_a1_pieces, .inr (8, [.ref q_a1_joints, .int s_a1_pieces_steps, .ref q_a1_pieces_from, .ref q_a1_pieces_to, .ref q_a1_pieces_twin, .ref q_a1_pieces_firm, .ref q_a1_pieces_first, .ref q_a1_pieces_firmEnds, .ref q_a1_pieces_reached, .ref q_a1_pieces_nextLow, .ref q_a1_pieces_nextHigh])), (q_a1_pieces_twin, .inl (ky 0, 768, .inl s_a1_pieces_twin)), (q_a1_start, .inl (ky 0, 129, .inl s_a1_start)), (q_a1_walk, .inl (ky 0, 768, .inl s_a1_walk))] H → va_D A [(q_, .inr (3, [.int s_a1_total, .ref q_kind, .ref q_allowed, .ref q_colour, .ref q_nearLow, .ref q_nearHigh, .ref q_paintedLow, .ref q_paintedHigh, .ref q_searched, .ref q_painted, .ref q_upcoming, .ref q_left, .ref q_leftByLatest])), (q_allowed, .inl (ky 0, 128, .inl o7)), (q_colour, .inl (ky 0, 128, .inl o8)), (q_kind, .inl (ky 0, 128, .inl o9)), (q_leftByLatest, .inl (ky 2, 128, .inl s_leftByLatest)), (q_nearHigh, .inl (ky 1, 128, .inr (.inl t.2.1))), (q_nearLow, .inl (ky 1, 128, .inr (.inl t.2.2))), (q_a1, .inr (7, [.ref q_a1_joints, .ref q_a1_pieces, .int s_a1_total, .ref q_a1_paneOf, .ref q_a1_walk, .ref q_a1_start, .ref q_a1_sum])), (q_a1_paneOf, .inl (ky 0, 768, .inl s_a1_paneOf)), (q_a1_pieces, .inr (8, [.ref q_a1_joints, .int s_a1_pieces_steps, .ref q_a1_pieces_from, .ref q_a1_pieces_to, .ref q_a1_pieces_twin, .ref q_a1_pieces_firm, .ref q_a1_pieces_first, .ref q_a1_pieces_firmEnds, .ref q_a1_pieces_reached, .ref q_a1_pieces_nextLow, .ref q_a1_pieces_nextHigh])), (q_a1_pieces_twin, .inl (ky 0, 768, .inl s_a1_pieces_twin)), (q_a1_start, .inl (ky 0, 129, .inl s_a1_start)), (q_a1_walk, .inl (ky 0, 768, .inl s_a1_walk))] → va_S A s.heap H locs → lv_has ls 4 [(0, .ref q_), (1, .ref q_a1), (2, .int v1), (3, .int t.1)] → W p l e rmX3_begin s m args below meth c H locs 0 0 Q (F0 m ([43, 69].getD k 0) ls [])) ?_ _ _ _ _ hi ?_ H locs ls hP hD hS (lv_sub hl [1, 2, 3, 0] rfl)
      · clear h hi hP hD hS hl
        intro t k t' h K
        obtain ⟨v12, v13, v14⟩ := t
        intro H locs ls hP hD hS hl
        replace h := dm3_of h
        replace hP : va_P D vwCl [(q_, .inr (3, [.int s_a1_total, .ref q_kind, .ref q_allowed, .ref q_colour, .ref q_nearLow, .ref q_nearHigh, .ref q_paintedLow, .ref q_paintedHigh, .ref q_searched, .ref q_painted, .ref q_upcoming, .ref q_left, .ref q_leftByLatest])), (q_allowed, .inl (ky 0, 128, .inl o7)), (q_colour, .inl (ky 0, 128, .inl o8)), (q_kind, .inl (ky 0, 128, .inl o9)), (q_leftByLatest, .inl (ky 2, 128, .inl s_leftByLatest)), (q_nearHigh, .inl (ky 1, 128, .inr (.inl v13))), (q_nearLow, .inl (ky 1, 128, .inr (.inl v14))), (q_a1, .inr (7, [.ref q_a1_joints, .ref q_a1_pieces, .int s_a1_total, .ref q_a1_paneOf, .ref q_a1_walk, .ref q_a1_start, .ref q_a1_sum])), (q_a1_paneOf, .inl (ky 0, 768, .inl s_a1_paneOf)), (q_a1_pieces, .inr (8, [.ref q_a1_joints, .int s_a1_pieces_steps, .ref q_a1_pieces_from, .ref q_a1_pieces_to, .ref q_a1_pieces_twin, .ref q_a1_pieces_firm, .ref q_a1_pieces_first, .ref q_a1_pieces_firmEnds, .ref q_a1_pieces_reached, .ref q_a1_pieces_nextLow, .ref q_a1_pieces_nextHigh])), (q_a1_pieces_twin, .inl (ky 0, 768, .inl s_a1_pieces_twin)), (q_a1_start, .inl (ky 0, 129, .inl s_a1_start)), (q_a1_walk, .inl (ky 0, 768, .inl s_a1_walk))] H := hP
        replace hD : va_D A [(q_, .inr (3, [.int s_a1_total, .ref q_kind, .ref q_allowed, .ref q_colour, .ref q_nearLow, .ref q_nearHigh, .ref q_paintedLow, .ref q_paintedHigh, .ref q_searched, .ref q_painted, .ref q_upcoming, .ref q_left, .ref q_leftByLatest])), (q_allowed, .inl (ky 0, 128, .inl o7)), (q_colour, .inl (ky 0, 128, .inl o8)), (q_kind, .inl (ky 0, 128, .inl o9)), (q_leftByLatest, .inl (ky 2, 128, .inl s_leftByLatest)), (q_nearHigh, .inl (ky 1, 128, .inr (.inl v13))), (q_nearLow, .inl (ky 1, 128, .inr (.inl v14))), (q_a1, .inr (7, [.ref q_a1_joints, .ref q_a1_pieces, .int s_a1_total, .ref q_a1_paneOf, .ref q_a1_walk, .ref q_a1_start, .ref q_a1_sum])), (q_a1_paneOf, .inl (ky 0, 768, .inl s_a1_paneOf)), (q_a1_pieces, .inr (8, [.ref q_a1_joints, .int s_a1_pieces_steps, .ref q_a1_pieces_from, .ref q_a1_pieces_to, .ref q_a1_pieces_twin, .ref q_a1_pieces_firm, .ref q_a1_pieces_first, .ref q_a1_pieces_firmEnds, .ref q_a1_pieces_reached, .ref q_a1_pieces_nextLow, .ref q_a1_pieces_nextHigh])), (q_a1_pieces_twin, .inl (ky 0, 768, .inl s_a1_pieces_twin)), (q_a1_start, .inl (ky 0, 129, .inl s_a1_start)), (q_a1_walk, .inl (ky 0, 768, .inl s_a1_walk))] := hD
        replace hl : lv_has ls 4 [(0, .ref q_), (1, .ref q_a1), (2, .int v1), (3, .int v12)] := hl
        refine lv_iload_n hx hb dX3_begin_43 rfl (lv_at hl 3 rfl) ?_
        refine lv_aload_n hx hb dX3_begin_44 rfl (lv_at hl 1 rfl) ?_
        refine lv_iload_n hx hb dX3_begin_45 rfl (lv_at hl 2 rfl) ?_
        obtain ⟨r15, hc, h⟩ := ob_of h
        replace h := dm1_of h
        refine cv_i (As := [.int v1]) (rest := [.int v12]) (wr := [(q_, .inr (3, [.int s_a1_total, .ref q_kind, .ref q_allowed, .ref q_colour, .ref q_nearLow, .ref q_nearHigh, .ref q_paintedLow, .ref q_paintedHigh, .ref q_searched, .ref q_painted, .ref q_upcoming, .ref q_left, .ref q_leftByLatest])), (q_allowed, .inl (ky 0, 128, .inl o7)), (q_colour, .inl (ky 0, 128, .inl o8)), (q_kind, .inl (ky 0, 128, .inl o9)), (q_leftByLatest, .inl (ky 2, 128, .inl s_leftByLatest)), (q_nearHigh, .inl (ky 1, 128, .inr (.inl v13))), (q_nearLow, .inl (ky 1, 128, .inr (.inl v14))), (q_a1_paneOf, .inl (ky 0, 768, .inl s_a1_paneOf)), (q_a1_pieces, .inr (8, [.ref q_a1_joints, .int s_a1_pieces_steps, .ref q_a1_pieces_from, .ref q_a1_pieces_to, .ref q_a1_pieces_twin, .ref q_a1_pieces_firm, .ref q_a1_pieces_first, .ref q_a1_pieces_firmEnds, .ref q_a1_pieces_reached, .ref q_a1_pieces_nextLow, .ref q_a1_pieces_nextHigh])), (q_a1_pieces_twin, .inl (ky 0, 768, .inl s_a1_pieces_twin)), (q_a1_walk, .inl (ky 0, 768, .inl s_a1_walk))]) (wn := [(q_, .inr (3, [.int s_a1_total, .ref q_kind, .ref q_allowed, .ref q_colour, .ref q_nearLow, .ref q_nearHigh, .ref q_paintedLow, .ref q_paintedHigh, .ref q_searched, .ref q_painted, .ref q_upcoming, .ref q_left, .ref q_leftByLatest])), (q_allowed, .inl (ky 0, 128, .inl o7)), (q_colour, .inl (ky 0, 128, .inl o8)), (q_kind, .inl (ky 0, 128, .inl o9)), (q_leftByLatest, .inl (ky 2, 128, .inl s_leftByLatest)), (q_nearHigh, .inl (ky 1, 128, .inr (.inl v13))), (q_nearLow, .inl (ky 1, 128, .inr (.inl v14))), (q_a1, .inr (7, [.ref q_a1_joints, .ref q_a1_pieces, .int s_a1_total, .ref q_a1_paneOf, .ref q_a1_walk, .ref q_a1_start, .ref q_a1_sum])), (q_a1_paneOf, .inl (ky 0, 768, .inl s_a1_paneOf)), (q_a1_pieces, .inr (8, [.ref q_a1_joints, .int s_a1_pieces_steps, .ref q_a1_pieces_from, .ref q_a1_pieces_to, .ref q_a1_pieces_twin, .ref q_a1_pieces_firm, .ref q_a1_pieces_first, .ref q_a1_pieces_firmEnds, .ref q_a1_pieces_reached, .ref q_a1_pieces_nextLow, .ref q_a1_pieces_nextHigh])), (q_a1_pieces_twin, .inl (ky 0, 768, .inl s_a1_pieces_twin)), (q_a1_start, .inl (ky 0, 129, .inl s_a1_start)), (q_a1_walk, .inl (ky 0, 768, .inl s_a1_walk))]) ⟨hx, hb, hml, hown, hts⟩ (c_X7_corners l D ky q_a1 q_a1_joints q_a1_pieces q_a1_paneOf q_a1_walk q_a1_start q_a1_sum v1 s_a1_total s_a1_start hc) (cwV 1 hts gX3_begin_X7_corners rfl rfl rfl (by decide +kernel) ⟨Nat.le_of_ble_eq_true rfl, Nat.le_of_ble_eq_true rfl⟩) (rcv hK.1 hP (q0 := 7) rfl rfl) hP hD hK hS hA [7, 11] [0, 1, 2, 3, 4, 5, 6, 8, 9, 10, 12] [0, 1, 2, 3, 4, 5, 6, 11, 7, 8, 9, 12, 10] rfl (by decide +kernel) rfl (by decide +kernel) (by decide +kernel) (by decide +kernel) rfl rfl rfl hl.1 (Nat.le_of_ble_eq_true rfl) dX3_begin_46 ⟨Nat.le_of_ble_eq_true rfl, Nat.le_of_ble_eq_true rfl⟩ (fun H locs hP hD hS => ?_)
        refine lv_icmp_ge (tgt := 69) hx hb dX3_begin_49 (by decide) (fun hc => ?_) (fun hc => ?_)
        · replace h := if_t hc h
          cases h
          exact K _ _ _ hP hD hS (lv_sub hl [0, 1, 2, 3] rfl)
        · replace h := if_f hc h
          refine lv_aload_n hx hb dX3_begin_52 rfl (lv_at hl 0 rfl) ?_
          refine lv_iload_n hx hb dX3_begin_53 rfl (lv_at hl 2 rfl) ?_
          refine lv_aload_n hx hb dX3_begin_54 rfl (lv_at hl 1 rfl) ?_
          refine lv_iload_n hx hb dX3_begin_55 rfl (lv_at hl 2 rfl) ?_
          refine lv_iload_n hx hb dX3_begin_56 rfl (lv_at hl 3 rfl) ?_
          obtain ⟨r16, hc, h⟩ := ob_of h
          replace h := dm1_of h
          refine cv_i (As := [.int v1, .int v12]) (rest := [.int v1, .ref q_]) (wr := [(q_, .inr (3, [.int s_a1_total, .ref q_kind, .ref q_allowed, .ref q_colour, .ref q_nearLow, .ref q_nearHigh, .ref q_paintedLow, .ref q_paintedHigh, .ref q_searched, .ref q_painted, .ref q_upcoming, .ref q_left, .ref q_leftByLatest])), (q_allowed, .inl (ky 0, 128, .inl o7)), (q_colour, .inl (ky 0, 128, .inl o8)), (q_kind, .inl (ky 0, 128, .inl o9)), (q_leftByLatest, .inl (ky 2, 128, .inl s_leftByLatest)), (q_nearHigh, .inl (ky 1, 128, .inr (.inl v13))), (q_nearLow, .inl (ky 1, 128, .inr (.inl v14)))]) (wn := [(q_, .inr (3, [.int s_a1_total, .ref q_kind, .ref q_allowed, .ref q_colour, .ref q_nearLow, .ref q_nearHigh, .ref q_paintedLow, .ref q_paintedHigh, .ref q_searched, .ref q_painted, .ref q_upcoming, .ref q_left, .ref q_leftByLatest])), (q_allowed, .inl (ky 0, 128, .inl o7)), (q_colour, .inl (ky 0, 128, .inl o8)), (q_kind, .inl (ky 0, 128, .inl o9)), (q_leftByLatest, .inl (ky 2, 128, .inl s_leftByLatest)), (q_nearHigh, .inl (ky 1, 128, .inr (.inl v13))), (q_nearLow, .inl (ky 1, 128, .inr (.inl v14))), (q_a1, .inr (7, [.ref q_a1_joints, .ref q_a1_pieces, .int s_a1_total, .ref q_a1_paneOf, .ref q_a1_walk, .ref q_a1_start, .ref q_a1_sum])), (q_a1_paneOf, .inl (ky 0, 768, .inl s_a1_paneOf)), (q_a1_pieces, .inr (8, [.ref q_a1_joints, .int s_a1_pieces_steps, .ref q_a1_pieces_from, .ref q_a1_pieces_to, .ref q_a1_pieces_twin, .ref q_a1_pieces_firm, .ref q_a1_pieces_first, .ref q_a1_pieces_firmEnds, .ref q_a1_pieces_reached, .ref q_a1_pieces_nextLow, .ref q_a1_pieces_nextHigh])), (q_a1_pieces_twin, .inl (ky 0, 768, .inl s_a1_pieces_twin)), (q_a1_start, .inl (ky 0, 129, .inl s_a1_start)), (q_a1_walk, .inl (ky 0, 768, .inl s_a1_walk))]) ⟨hx, hb, hml, hown, hts⟩ (c_X7_beyond l D ky q_a1 q_a1_joints q_a1_pieces q_a1_paneOf q_a1_walk q_a1_start q_a1_sum q_a1_pieces_from q_a1_pieces_to q_a1_pieces_twin q_a1_pieces_firm q_a1_pieces_first q_a1_pieces_firmEnds q_a1_pieces_reached q_a1_pieces_nextLow q_a1_pieces_nextHigh v1 v12 s_a1_total s_a1_paneOf s_a1_pieces_steps s_a1_pieces_twin s_a1_start s_a1_walk hc) (cwV 2 hts gX3_begin_X7_beyond rfl rfl rfl (by decide +kernel) ⟨Nat.le_of_ble_eq_true rfl, Nat.le_of_ble_eq_true rfl⟩) (rcv hK.1 hP (q0 := 7) rfl rfl) hP hD hK hS hA [7, 8, 9, 10, 11, 12] [0, 1, 2, 3, 4, 5, 6] [0, 1, 2, 3, 4, 5, 6, 7, 8, 9, 10, 11, 12] rfl (by decide +kernel) rfl (by decide +kernel) (by decide +kernel) (by decide +kernel) rfl rfl rfl hl.1 (Nat.le_of_ble_eq_true rfl) dX3_begin_57 ⟨Nat.le_of_ble_eq_true rfl, Nat.le_of_ble_eq_true rfl⟩ (fun H locs hP hD hS => ?_)
          obtain ⟨⟨o17, o18⟩, hc, h⟩ := ob_of h
          replace h := dm2_of h
          refine cv_v (As := [.int v1, .int r16]) (rest := []) (wr := [(q_allowed, .inl (ky 0, 128, .inl o7)), (q_colour, .inl (ky 0, 128, .inl o8)), (q_kind, .inl (ky 0, 128, .inl o9)), (q_leftByLatest, .inl (ky 2, 128, .inl s_leftByLatest)), (q_a1, .inr (7, [.ref q_a1_joints, .ref q_a1_pieces, .int s_a1_total, .ref q_a1_paneOf, .ref q_a1_walk, .ref q_a1_start, .ref q_a1_sum])), (q_a1_paneOf, .inl (ky 0, 768, .inl s_a1_paneOf)), (q_a1_pieces, .inr (8, [.ref q_a1_joints, .int s_a1_pieces_steps, .ref q_a1_pieces_from, .ref q_a1_pieces_to, .ref q_a1_pieces_twin, .ref q_a1_pieces_firm, .ref q_a1_pieces_first, .ref q_a1_pieces_firmEnds, .ref q_a1_pieces_reached, .ref q_a1_pieces_nextLow, .ref q_a1_pieces_nextHigh])), (q_a1_pieces_twin, .inl (ky 0, 768, .inl s_a1_pieces_twin)), (q_a1_start, .inl (ky 0, 129, .inl s_a1_start)), (q_a1_walk, .inl (ky 0, 768, .inl s_a1_walk))]) (wn := [(q_, .inr (3, [.int s_a1_total, .ref q_kind, .ref q_allowed, .ref q_colour, .ref q_nearLow, .ref q_nearHigh, .ref q_paintedLow, .ref q_paintedHigh, .ref q_searched, .ref q_painted, .ref q_upcoming, .ref q_left, .ref q_leftByLatest])), (q_allowed, .inl (ky 0, 128, .inl o7)), (q_colour, .inl (ky 0, 128, .inl o8)), (q_kind, .inl (ky 0, 128, .inl o9)), (q_leftByLatest, .inl (ky 2, 128, .inl s_leftByLatest)), (q_nearHigh, .inl (ky 1, 128, .inr (.inl o17))), (q_nearLow, .inl (ky 1, 128, .inr (.inl o18))), (q_a1, .inr (7, [.ref q_a1_joints, .ref q_a1_pieces, .int s_a1_total, .ref q_a1_paneOf, .ref q_a1_walk, .ref q_a1_start, .ref q_a1_sum])), (q_a1_paneOf, .inl (ky 0, 768, .inl s_a1_paneOf)), (q_a1_pieces, .inr (8, [.ref q_a1_joints, .int s_a1_pieces_steps, .ref q_a1_pieces_from, .ref q_a1_pieces_to, .ref q_a1_pieces_twin, .ref q_a1_pieces_firm, .ref q_a1_pieces_first, .ref q_a1_pieces_firmEnds, .ref q_a1_pieces_reached, .ref q_a1_pieces_nextLow, .ref q_a1_pieces_nextHigh])), (q_a1_pieces_twin, .inl (ky 0, 768, .inl s_a1_pieces_twin)), (q_a1_start, .inl (ky 0, 129, .inl s_a1_start)), (q_a1_walk, .inl (ky 0, 768, .inl s_a1_walk))]) ⟨hx, hb, hml, hown, hts⟩ (c_X3_markNear l D ky q_ q_kind q_allowed q_colour q_nearLow q_nearHigh q_paintedLow q_paintedHigh q_searched q_painted q_upcoming q_left q_leftByLatest v1 r16 s_a1_total v13 v14 hc) (cwV 2 hts gX3_begin_X3_markNear rfl rfl rfl (by decide +kernel) ⟨Nat.le_of_ble_eq_true rfl, Nat.le_of_ble_eq_true rfl⟩) (rcv hK.1 hP (q0 := 0) rfl rfl) hP hD hK hS hA [0, 5, 6] [1, 2, 3, 4, 7, 8, 9, 10, 11, 12] [10, 0, 1, 2, 3, 11, 12, 4, 5, 6, 7, 8, 9] rfl (by decide +kernel) rfl (by decide +kernel) (by decide +kernel) (by decide +kernel) rfl rfl rfl hl.1 (Nat.le_of_ble_eq_true rfl) dX3_begin_60 ⟨Nat.le_of_ble_eq_true rfl, Nat.le_of_ble_eq_true rfl⟩ (fun H locs hP hD hS => ?_)
          obtain ⟨x19, ex19⟩ : ∃ z : Int32, z = v12 + 1 := ⟨_, rfl⟩
          replace h := lt_at ex19 h
          refine lv_iinc (v := x19) (lv' := [(3, .int x19), (0, .ref q_), (1, .ref q_a1), (2, .int v1)]) hx hb dX3_begin_63 hl (k := 3) rfl (by rw [ex19]; rfl) (by decide) rfl (fun ls hl => ?_)
          refine lv_goto (tgt := 43) hx hb dX3_begin_66 (by decide) ?_
          cases h
          exact K _ _ _ hP hD hS (lv_sub hl [1, 2, 3, 0] rfl)
      · have h1 := ex1_of h
        clear h hi
        rcases h1 with ⟨rfl, h⟩
        obtain ⟨v20, v21, v22⟩ := t
        replace h := dm3_of h
        intro H locs ls hP hD hS hl
        replace hP : va_P D vwCl [(q_, .inr (3, [.int s_a1_total, .ref q_kind, .ref q_allowed, .ref q_colour, .ref q_nearLow, .ref q_nearHigh, .ref q_paintedLow, .ref q_paintedHigh, .ref q_searched, .ref q_painted, .ref q_upcoming, .ref q_left, .ref q_leftByLatest])), (q_allowed, .inl (ky 0, 128, .inl o7)), (q_colour, .inl (ky 0, 128, .inl o8)), (q_kind, .inl (ky 0, 128, .inl o9)), (q_leftByLatest, .inl (ky 2, 128, .inl s_leftByLatest)), (q_nearHigh, .inl (ky 1, 128, .inr (.inl v21))), (q_nearLow, .inl (ky 1, 128, .inr (.inl v22))), (q_a1, .inr (7, [.ref q_a1_joints, .ref q_a1_pieces, .int s_a1_total, .ref q_a1_paneOf, .ref q_a1_walk, .ref q_a1_start, .ref q_a1_sum])), (q_a1_paneOf, .inl (ky 0, 768, .inl s_a1_paneOf)), (q_a1_pieces, .inr (8, [.ref q_a1_joints, .int s_a1_pieces_steps, .ref q_a1_pieces_from, .ref q_a1_pieces_to, .ref q_a1_pieces_twin, .ref q_a1_pieces_firm, .ref q_a1_pieces_first, .ref q_a1_pieces_firmEnds, .ref q_a1_pieces_reached, .ref q_a1_pieces_nextLow, .ref q_a1_pieces_nextHigh])), (q_a1_pieces_twin, .inl (ky 0, 768, .inl s_a1_pieces_twin)), (q_a1_start, .inl (ky 0, 129, .inl s_a1_start)), (q_a1_walk, .inl (ky 0, 768, .inl s_a1_walk))] H := hP
        replace hD : va_D A [(q_, .inr (3, [.int s_a1_total, .ref q_kind, .ref q_allowed, .ref q_colour, .ref q_nearLow, .ref q_nearHigh, .ref q_paintedLow, .ref q_paintedHigh, .ref q_searched, .ref q_painted, .ref q_upcoming, .ref q_left, .ref q_leftByLatest])), (q_allowed, .inl (ky 0, 128, .inl o7)), (q_colour, .inl (ky 0, 128, .inl o8)), (q_kind, .inl (ky 0, 128, .inl o9)), (q_leftByLatest, .inl (ky 2, 128, .inl s_leftByLatest)), (q_nearHigh, .inl (ky 1, 128, .inr (.inl v21))), (q_nearLow, .inl (ky 1, 128, .inr (.inl v22))), (q_a1, .inr (7, [.ref q_a1_joints, .ref q_a1_pieces, .int s_a1_total, .ref q_a1_paneOf, .ref q_a1_walk, .ref q_a1_start, .ref q_a1_sum])), (q_a1_paneOf, .inl (ky 0, 768, .inl s_a1_paneOf)), (q_a1_pieces, .inr (8, [.ref q_a1_joints, .int s_a1_pieces_steps, .ref q_a1_pieces_from, .ref q_a1_pieces_to, .ref q_a1_pieces_twin, .ref q_a1_pieces_firm, .ref q_a1_pieces_first, .ref q_a1_pieces_firmEnds, .ref q_a1_pieces_reached, .ref q_a1_pieces_nextLow, .ref q_a1_pieces_nextHigh])), (q_a1_pieces_twin, .inl (ky 0, 768, .inl s_a1_pieces_twin)), (q_a1_start, .inl (ky 0, 129, .inl s_a1_start)), (q_a1_walk, .inl (ky 0, 768, .inl s_a1_walk))] := hD
        replace hl : lv_has ls 4 [(0, .ref q_), (1, .ref q_a1), (2, .int v1), (3, .int v20)] := hl
        refine W.eq (g2 := F0 m 69 ls []) rfl ?_
        obtain ⟨x23, ex23⟩ : ∃ z : Int32, z = v1 + 1 := ⟨_, rfl⟩
        replace h := lt_at ex23 h
        refine lv_iinc (v := x23) (lv' := [(2, .int x23), (0, .ref q_), (1, .ref q_a1), (3, .int v20)]) hx hb dX3_begin_69 hl (k := 2) rfl (by rw [ex23]; rfl) (by decide) rfl (fun ls hl => ?_)
        refine lv_goto (tgt := 10) hx hb dX3_begin_72 (by decide) ?_
        cases h
        exact K _ _ _ hP hD hS (lv_sub hl [1, 2, 0] rfl)
  · have h1 := ex1_of h
    clear h hi
    rcases h1 with ⟨rfl, h⟩
    obtain ⟨v24, v25, v26, v27, v28, v29⟩ := t
    replace h := dm6_of h
    intro H locs ls hP hD hS hl
    replace hP : va_P D vwCl [(q_, .inr (3, [.int s_a1_total, .ref q_kind, .ref q_allowed, .ref q_colour, .ref q_nearLow, .ref q_nearHigh, .ref q_paintedLow, .ref q_paintedHigh, .ref q_searched, .ref q_painted, .ref q_upcoming, .ref q_left, .ref q_leftByLatest])), (q_allowed, .inl (ky 0, 128, .inl v25)), (q_colour, .inl (ky 0, 128, .inl v26)), (q_kind, .inl (ky 0, 128, .inl v27)), (q_leftByLatest, .inl (ky 2, 128, .inl s_leftByLatest)), (q_nearHigh, .inl (ky 1, 128, .inr (.inl v28))), (q_nearLow, .inl (ky 1, 128, .inr (.inl v29))), (q_a1, .inr (7, [.ref q_a1_joints, .ref q_a1_pieces, .int s_a1_total, .ref q_a1_paneOf, .ref q_a1_walk, .ref q_a1_start, .ref q_a1_sum])), (q_a1_paneOf, .inl (ky 0, 768, .inl s_a1_paneOf)), (q_a1_pieces, .inr (8, [.ref q_a1_joints, .int s_a1_pieces_steps, .ref q_a1_pieces_from, .ref q_a1_pieces_to, .ref q_a1_pieces_twin, .ref q_a1_pieces_firm, .ref q_a1_pieces_first, .ref q_a1_pieces_firmEnds, .ref q_a1_pieces_reached, .ref q_a1_pieces_nextLow, .ref q_a1_pieces_nextHigh])), (q_a1_pieces_twin, .inl (ky 0, 768, .inl s_a1_pieces_twin)), (q_a1_start, .inl (ky 0, 129, .inl s_a1_start)), (q_a1_walk, .inl (ky 0, 768, .inl s_a1_walk))] H := hP
    replace hD : va_D A [(q_, .inr (3, [.int s_a1_total, .ref q_kind, .ref q_allowed, .ref q_colour, .ref q_nearLow, .ref q_nearHigh, .ref q_paintedLow, .ref q_paintedHigh, .ref q_searched, .ref q_painted, .ref q_upcoming, .ref q_left, .ref q_leftByLatest])), (q_allowed, .inl (ky 0, 128, .inl v25)), (q_colour, .inl (ky 0, 128, .inl v26)), (q_kind, .inl (ky 0, 128, .inl v27)), (q_leftByLatest, .inl (ky 2, 128, .inl s_leftByLatest)), (q_nearHigh, .inl (ky 1, 128, .inr (.inl v28))), (q_nearLow, .inl (ky 1, 128, .inr (.inl v29))), (q_a1, .inr (7, [.ref q_a1_joints, .ref q_a1_pieces, .int s_a1_total, .ref q_a1_paneOf, .ref q_a1_walk, .ref q_a1_start, .ref q_a1_sum])), (q_a1_paneOf, .inl (ky 0, 768, .inl s_a1_paneOf)), (q_a1_pieces, .inr (8, [.ref q_a1_joints, .int s_a1_pieces_steps, .ref q_a1_pieces_from, .ref q_a1_pieces_to, .ref q_a1_pieces_twin, .ref q_a1_pieces_firm, .ref q_a1_pieces_first, .ref q_a1_pieces_firmEnds, .ref q_a1_pieces_reached, .ref q_a1_pieces_nextLow, .ref q_a1_pieces_nextHigh])), (q_a1_pieces_twin, .inl (ky 0, 768, .inl s_a1_pieces_twin)), (q_a1_start, .inl (ky 0, 129, .inl s_a1_start)), (q_a1_walk, .inl (ky 0, 768, .inl s_a1_walk))] := hD
    replace hl : lv_has ls 4 [(0, .ref q_), (1, .ref q_a1), (2, .int v24)] := hl
    refine W.eq (g2 := F0 m 75 ls []) rfl ?_
    refine lv_iconst (v := 0) hx hb dX3_begin_75 (by decide) ?_
    refine lv_istore_n (lv' := [(2, .int (0 : Int32)), (0, .ref q_), (1, .ref q_a1)]) hx hb dX3_begin_76 rfl hl (by decide) rfl (fun ls hl => ?_)
    obtain ⟨⟨k, t⟩, hi, h⟩ := ob_of h
    refine iter_rule (P := fun (k : Nat) (t : Int32 × (Nat → Int32)) => ∀ (H : Heap) (locs : List Loc) (ls : Array Slot), va_P D vwCl [(q_, .inr (3, [.int s_a1_total, .ref q_kind, .ref q_allowed, .ref q_colour, .ref q_nearLow, .ref q_nearHigh, .ref q_paintedLow, .ref q_paintedHigh, .ref q_searched, .ref q_painted, .ref q_upcoming, .ref q_left, .ref q_leftByLatest])), (q_allowed, .inl (ky 0, 128, .inl v25)), (q_colour, .inl (ky 0, 128, .inl v26)), (q_kind, .inl (ky 0, 128, .inl v27)), (q_leftByLatest, .inl (ky 2, 128, .inl t.2)), (q_nearHigh, .inl (ky 1, 128, .inr (.inl v28))), (q_nearLow, .inl (ky 1, 128, .inr (.inl v29))), (q_a1, .inr (7, [.ref q_a1_joints, .ref q_a1_pieces, .int s_a1_total, .ref q_a1_paneOf, .ref q_a1_walk, .ref q_a1_start, .ref q_a1_sum])), (q_a1_paneOf, .inl (ky 0, 768, .inl s_a1_paneOf)), (q_a1_pieces, .inr (8, [.ref q_a1_joints, .int s_a1_pieces_steps, .ref q_a1_pieces_from, .ref q_a1_pieces_to, .ref q_a1_pieces_twin, .ref q_a1_pieces_firm, .ref q_a1_pieces_first, .ref q_a1_pieces_firmEnds, .ref q_a1_pieces_reached, .ref q_a1_pieces_nextLow, .ref q_a1_pieces_nextHigh])), (q_a1_pieces_twin, .inl (ky 0, 768, .inl s_a1_pieces_twin)), (q_a1_start, .inl (ky 0, 129, .inl s_a1_start)), (q_a1_walk, .inl (ky 0, 768, .inl s_a1_walk))] H → va_D A [(q_, .inr (3, [.int s_a1_total, .ref q_kind, .ref q_allowed, .ref q_colour, .ref q_nearLow, .ref q_nearHigh, .ref q_paintedLow, .ref q_paintedHigh, .ref q_searched, .ref q_painted, .ref q_upcoming, .ref q_left, .ref q_leftByLatest])), (q_allowed, .inl (ky 0, 128, .inl v25)), (q_colour, .inl (ky 0, 128, .inl v26)), (q_kind, .inl (ky 0, 128, .inl v27)), (q_leftByLatest, .inl (ky 2, 128, .inl t.2)), (q_nearHigh, .inl (ky 1, 128, .inr (.inl v28))), (q_nearLow, .inl (ky 1, 128, .inr (.inl v29))), (q_a1, .inr (7, [.ref q_a1_joints, .ref q_a1_pieces, .int s_a1_total, .ref q_a1_paneOf, .ref q_a1_walk, .ref q_a1_start, .ref q_a1_sum])), (q_a1_paneOf, .inl (ky 0, 768, .inl s_a1_paneOf)), (q_a1_pieces, .inr (8, [.ref q_a1_joints, .int s_a1_pieces_steps, .ref q_a1_pieces_from, .ref q_a1_pieces_to, .ref q_a1_pieces_twin, .ref q_a1_pieces_firm, .ref q_a1_pieces_first, .ref q_a1_pieces_firmEnds, .ref q_a1_pieces_reached, .ref q_a1_pieces_nextLow, .ref q_a1_pieces_nextHigh])), (q_a1_pieces_twin, .inl (ky 0, 768, .inl s_a1_pieces_twin)), (q_a1_start, .inl (ky 0, 129, .inl s_a1_start)), (q_a1_walk, .inl (ky 0, 768, .inl s_a1_walk))] → va_S A s.heap H locs → lv_has ls 4 [(0, .ref q_), (2, .int t.1)] → W p l e rmX3_begin s m args below meth c H locs 0 0 Q (F0 m ([77, 97].getD k 0) ls [])) ?_ _ _ _ _ hi ?_ H locs ls hP hD hS (lv_sub hl [1, 0] rfl)
    · clear h hi hP hD hS hl
      intro t k t' h K
      obtain ⟨v30, v31⟩ := t
      intro H locs ls hP hD hS hl
      replace h := dm2_of h
      replace hP : va_P D vwCl [(q_, .inr (3, [.int s_a1_total, .ref q_kind, .ref q_allowed, .ref q_colour, .ref q_nearLow, .ref q_nearHigh, .ref q_paintedLow, .ref q_paintedHigh, .ref q_searched, .ref q_painted, .ref q_upcoming, .ref q_left, .ref q_leftByLatest])), (q_allowed, .inl (ky 0, 128, .inl v25)), (q_colour, .inl (ky 0, 128, .inl v26)), (q_kind, .inl (ky 0, 128, .inl v27)), (q_leftByLatest, .inl (ky 2, 128, .inl v31)), (q_nearHigh, .inl (ky 1, 128, .inr (.inl v28))), (q_nearLow, .inl (ky 1, 128, .inr (.inl v29))), (q_a1, .inr (7, [.ref q_a1_joints, .ref q_a1_pieces, .int s_a1_total, .ref q_a1_paneOf, .ref q_a1_walk, .ref q_a1_start, .ref q_a1_sum])), (q_a1_paneOf, .inl (ky 0, 768, .inl s_a1_paneOf)), (q_a1_pieces, .inr (8, [.ref q_a1_joints, .int s_a1_pieces_steps, .ref q_a1_pieces_from, .ref q_a1_pieces_to, .ref q_a1_pieces_twin, .ref q_a1_pieces_firm, .ref q_a1_pieces_first, .ref q_a1_pieces_firmEnds, .ref q_a1_pieces_reached, .ref q_a1_pieces_nextLow, .ref q_a1_pieces_nextHigh])), (q_a1_pieces_twin, .inl (ky 0, 768, .inl s_a1_pieces_twin)), (q_a1_start, .inl (ky 0, 129, .inl s_a1_start)), (q_a1_walk, .inl (ky 0, 768, .inl s_a1_walk))] H := hP
      replace hD : va_D A [(q_, .inr (3, [.int s_a1_total, .ref q_kind, .ref q_allowed, .ref q_colour, .ref q_nearLow, .ref q_nearHigh, .ref q_paintedLow, .ref q_paintedHigh, .ref q_searched, .ref q_painted, .ref q_upcoming, .ref q_left, .ref q_leftByLatest])), (q_allowed, .inl (ky 0, 128, .inl v25)), (q_colour, .inl (ky 0, 128, .inl v26)), (q_kind, .inl (ky 0, 128, .inl v27)), (q_leftByLatest, .inl (ky 2, 128, .inl v31)), (q_nearHigh, .inl (ky 1, 128, .inr (.inl v28))), (q_nearLow, .inl (ky 1, 128, .inr (.inl v29))), (q_a1, .inr (7, [.ref q_a1_joints, .ref q_a1_pieces, .int s_a1_total, .ref q_a1_paneOf, .ref q_a1_walk, .ref q_a1_start, .ref q_a1_sum])), (q_a1_paneOf, .inl (ky 0, 768, .inl s_a1_paneOf)), (q_a1_pieces, .inr (8, [.ref q_a1_joints, .int s_a1_pieces_steps, .ref q_a1_pieces_from, .ref q_a1_pieces_to, .ref q_a1_pieces_twin, .ref q_a1_pieces_firm, .ref q_a1_pieces_first, .ref q_a1_pieces_firmEnds, .ref q_a1_pieces_reached, .ref q_a1_pieces_nextLow, .ref q_a1_pieces_nextHigh])), (q_a1_pieces_twin, .inl (ky 0, 768, .inl s_a1_pieces_twin)), (q_a1_start, .inl (ky 0, 129, .inl s_a1_start)), (q_a1_walk, .inl (ky 0, 768, .inl s_a1_walk))] := hD
      replace hl : lv_has ls 4 [(0, .ref q_), (2, .int v30)] := hl
      refine lv_iload_n hx hb dX3_begin_77 rfl (lv_at hl 1 rfl) ?_
      refine lv_sipush (v := 128) hx hb dX3_begin_78 (by decide) ?_
      refine lv_icmp_ge (tgt := 97) hx hb dX3_begin_81 (by decide) (fun hc => ?_) (fun hc => ?_)
      · replace h := if_t hc h
        cases h
        exact K _ _ _ hP hD hS (lv_sub hl [0, 1] rfl)
      · replace h := if_f hc h
        refine lv_aload_n hx hb dX3_begin_84 rfl (lv_at hl 0 rfl) ?_
        refine va_get (D := D) (ci := 3) (v := .ref q_leftByLatest) (C := RX3) (T := TX3) (N := 13) hx hb hts hi_X3 hown hK.1 hP 0 rfl rfl 12 (by decide) hf_47 (fun _ h9 => h9) rfl dX3_begin_85 ?_
        refine lv_iload_n hx hb dX3_begin_88 rfl (lv_at hl 1 rfl) ?_
        refine lv_iconst (v := 0) hx hb dX3_begin_89 (by decide) ?_
        obtain ⟨hg, h⟩ := gd_of h
        refine r_zast hx hb hK.1 hP hD hS 4 2 rfl rfl hg dX3_begin_90 (fun f32 ef32 H locs hP hD hS => ?_)
        replace h := lt_at ef32 h
        replace hP : va_P D vwCl [(q_, .inr (3, [.int s_a1_total, .ref q_kind, .ref q_allowed, .ref q_colour, .ref q_nearLow, .ref q_nearHigh, .ref q_paintedLow, .ref q_paintedHigh, .ref q_searched, .ref q_painted, .ref q_upcoming, .ref q_left, .ref q_leftByLatest])), (q_allowed, .inl (ky 0, 128, .inl v25)), (q_colour, .inl (ky 0, 128, .inl v26)), (q_kind, .inl (ky 0, 128, .inl v27)), (q_leftByLatest, .inl (ky 2, 128, .inl f32)), (q_nearHigh, .inl (ky 1, 128, .inr (.inl v28))), (q_nearLow, .inl (ky 1, 128, .inr (.inl v29))), (q_a1, .inr (7, [.ref q_a1_joints, .ref q_a1_pieces, .int s_a1_total, .ref q_a1_paneOf, .ref q_a1_walk, .ref q_a1_start, .ref q_a1_sum])), (q_a1_paneOf, .inl (ky 0, 768, .inl s_a1_paneOf)), (q_a1_pieces, .inr (8, [.ref q_a1_joints, .int s_a1_pieces_steps, .ref q_a1_pieces_from, .ref q_a1_pieces_to, .ref q_a1_pieces_twin, .ref q_a1_pieces_firm, .ref q_a1_pieces_first, .ref q_a1_pieces_firmEnds, .ref q_a1_pieces_reached, .ref q_a1_pieces_nextLow, .ref q_a1_pieces_nextHigh])), (q_a1_pieces_twin, .inl (ky 0, 768, .inl s_a1_pieces_twin)), (q_a1_start, .inl (ky 0, 129, .inl s_a1_start)), (q_a1_walk, .inl (ky 0, 768, .inl s_a1_walk))] H := hP
        replace hD : va_D A [(q_, .inr (3, [.int s_a1_total, .ref q_kind, .ref q_allowed, .ref q_colour, .ref q_nearLow, .ref q_nearHigh, .ref q_paintedLow, .ref q_paintedHigh, .ref q_searched, .ref q_painted, .ref q_upcoming, .ref q_left, .ref q_leftByLatest])), (q_allowed, .inl (ky 0, 128, .inl v25)), (q_colour, .inl (ky 0, 128, .inl v26)), (q_kind, .inl (ky 0, 128, .inl v27)), (q_leftByLatest, .inl (ky 2, 128, .inl f32)), (q_nearHigh, .inl (ky 1, 128, .inr (.inl v28))), (q_nearLow, .inl (ky 1, 128, .inr (.inl v29))), (q_a1, .inr (7, [.ref q_a1_joints, .ref q_a1_pieces, .int s_a1_total, .ref q_a1_paneOf, .ref q_a1_walk, .ref q_a1_start, .ref q_a1_sum])), (q_a1_paneOf, .inl (ky 0, 768, .inl s_a1_paneOf)), (q_a1_pieces, .inr (8, [.ref q_a1_joints, .int s_a1_pieces_steps, .ref q_a1_pieces_from, .ref q_a1_pieces_to, .ref q_a1_pieces_twin, .ref q_a1_pieces_firm, .ref q_a1_pieces_first, .ref q_a1_pieces_firmEnds, .ref q_a1_pieces_reached, .ref q_a1_pieces_nextLow, .ref q_a1_pieces_nextHigh])), (q_a1_pieces_twin, .inl (ky 0, 768, .inl s_a1_pieces_twin)), (q_a1_start, .inl (ky 0, 129, .inl s_a1_start)), (q_a1_walk, .inl (ky 0, 768, .inl s_a1_walk))] := hD
        obtain ⟨x33, ex33⟩ : ∃ z : Int32, z = v30 + 1 := ⟨_, rfl⟩
        replace h := lt_at ex33 h
        refine lv_iinc (v := x33) (lv' := [(2, .int x33), (0, .ref q_)]) hx hb dX3_begin_91 hl (k := 1) rfl (by rw [ex33]; rfl) (by decide) rfl (fun ls hl => ?_)
        refine lv_goto (tgt := 77) hx hb dX3_begin_94 (by decide) ?_
        cases h
        exact K _ _ _ hP hD hS (lv_sub hl [1, 0] rfl)
    · have h1 := ex1_of h
      clear h hi
      rcases h1 with ⟨rfl, h⟩
      obtain ⟨v34, v35⟩ := t
      replace h := dm2_of h
      intro H locs ls hP hD hS hl
      replace hP : va_P D vwCl [(q_, .inr (3, [.int s_a1_total, .ref q_kind, .ref q_allowed, .ref q_colour, .ref q_nearLow, .ref q_nearHigh, .ref q_paintedLow, .ref q_paintedHigh, .ref q_searched, .ref q_painted, .ref q_upcoming, .ref q_left, .ref q_leftByLatest])), (q_allowed, .inl (ky 0, 128, .inl v25)), (q_colour, .inl (ky 0, 128, .inl v26)), (q_kind, .inl (ky 0, 128, .inl v27)), (q_leftByLatest, .inl (ky 2, 128, .inl v35)), (q_nearHigh, .inl (ky 1, 128, .inr (.inl v28))), (q_nearLow, .inl (ky 1, 128, .inr (.inl v29))), (q_a1, .inr (7, [.ref q_a1_joints, .ref q_a1_pieces, .int s_a1_total, .ref q_a1_paneOf, .ref q_a1_walk, .ref q_a1_start, .ref q_a1_sum])), (q_a1_paneOf, .inl (ky 0, 768, .inl s_a1_paneOf)), (q_a1_pieces, .inr (8, [.ref q_a1_joints, .int s_a1_pieces_steps, .ref q_a1_pieces_from, .ref q_a1_pieces_to, .ref q_a1_pieces_twin, .ref q_a1_pieces_firm, .ref q_a1_pieces_first, .ref q_a1_pieces_firmEnds, .ref q_a1_pieces_reached, .ref q_a1_pieces_nextLow, .ref q_a1_pieces_nextHigh])), (q_a1_pieces_twin, .inl (ky 0, 768, .inl s_a1_pieces_twin)), (q_a1_start, .inl (ky 0, 129, .inl s_a1_start)), (q_a1_walk, .inl (ky 0, 768, .inl s_a1_walk))] H := hP
      replace hD : va_D A [(q_, .inr (3, [.int s_a1_total, .ref q_kind, .ref q_allowed, .ref q_colour, .ref q_nearLow, .ref q_nearHigh, .ref q_paintedLow, .ref q_paintedHigh, .ref q_searched, .ref q_painted, .ref q_upcoming, .ref q_left, .ref q_leftByLatest])), (q_allowed, .inl (ky 0, 128, .inl v25)), (q_colour, .inl (ky 0, 128, .inl v26)), (q_kind, .inl (ky 0, 128, .inl v27)), (q_leftByLatest, .inl (ky 2, 128, .inl v35)), (q_nearHigh, .inl (ky 1, 128, .inr (.inl v28))), (q_nearLow, .inl (ky 1, 128, .inr (.inl v29))), (q_a1, .inr (7, [.ref q_a1_joints, .ref q_a1_pieces, .int s_a1_total, .ref q_a1_paneOf, .ref q_a1_walk, .ref q_a1_start, .ref q_a1_sum])), (q_a1_paneOf, .inl (ky 0, 768, .inl s_a1_paneOf)), (q_a1_pieces, .inr (8, [.ref q_a1_joints, .int s_a1_pieces_steps, .ref q_a1_pieces_from, .ref q_a1_pieces_to, .ref q_a1_pieces_twin, .ref q_a1_pieces_firm, .ref q_a1_pieces_first, .ref q_a1_pieces_firmEnds, .ref q_a1_pieces_reached, .ref q_a1_pieces_nextLow, .ref q_a1_pieces_nextHigh])), (q_a1_pieces_twin, .inl (ky 0, 768, .inl s_a1_pieces_twin)), (q_a1_start, .inl (ky 0, 129, .inl s_a1_start)), (q_a1_walk, .inl (ky 0, 768, .inl s_a1_walk))] := hD
      replace hl : lv_has ls 4 [(0, .ref q_), (2, .int v34)] := hl
      refine W.eq (g2 := F0 m 97 ls []) rfl ?_
      exact rt _ h _ _ _ _ dX3_begin_97 hP hD hS

def bX3_listSearched_4 (s_total : Int32) (s_left : Nat → Int32) (t : Int32 × Int32 × (Nat → Int32) × (Nat → Int32)) : Option (Nat × (Int32 × Int32 × (Nat → Int32) × (Nat → Int32))) := dm4 t (fun (v1 : Int32) (v2 : Int32) (v3 : Nat → Int32) (v4 : Nat → Int32) => if s_total ≤ v2 then some (1, (v1, v2, v3, v4)) else gd (¬ (v2 < 0 ∨ 128 ≤ v2.toNatClampNeg)) (ob (if (s_left v2.toNatClampNeg) = 0 then some (v1, v3, v4) else gd (¬ (v1 < 0 ∨ 128 ≤ v1.toNatClampNeg)) (lt (upd v3 v1.toNatClampNeg v2) (fun f9 => gd (¬ (v1 < 0 ∨ 128 ≤ v1.toNatClampNeg)) (lt (upd v4 v1.toNatClampNeg (0 : Int32)) (fun f10 => lt (v1 + 1) (fun x11 => some (x11, f9, f10))))))) (fun t => dm3 t (fun (v5 : Int32) (v6 : Nat → Int32) (v7 : Nat → Int32) => lt (v2 + 1) (fun x8 => some (0, (v5, x8, v6, v7)))))))
def bX3_listSearched_46  (t : Int32 × (Nat → Int64) × (Nat → Int64)) : Option (Nat × (Int32 × (Nat → Int64) × (Nat → Int64))) := dm3 t (fun (v16 : Int32) (v17 : Nat → Int64) (v18 : Nat → Int64) => if (8 : Int32) ≤ v16 then some (1, (v16, v17, v18)) else gd (¬ (v16 < 0 ∨ 8 ≤ v16.toNatClampNeg)) (lt (vp_updL v18 v16.toNatClampNeg (0 : Int64)) (fun f19 => gd (¬ (v16 < 0 ∨ 8 ≤ v16.toNatClampNeg)) (lt (vp_updL v17 v16.toNatClampNeg (0 : Int64)) (fun f20 => lt (v16 + 1) (fun x21 => some (0, (x21, f20, f19))))))))
def sX3_listSearched  (s_total : Int32) (s_left : Nat → Int32) (s_paintedHigh : Nat → Int64) (s_paintedLow : Nat → Int64) (s_searched : Nat → Int32) (s_upcoming : Nat → Int32) : Option (Int32 × (Nat → Int64) × (Nat → Int64) × (Nat → Int32) × (Nat → Int32)) := ob (iter (bX3_listSearched_4 s_total s_left) FU ((0 : Int32), (0 : Int32), s_searched, s_upcoming)) (fun kt => ex1 kt (fun t => dm4 t (fun (v12 : Int32) (v13 : Int32) (v14 : Nat → Int32) (v15 : Nat → Int32) => ob (iter (bX3_listSearched_46 ) FU ((0 : Int32), s_paintedHigh, s_paintedLow)) (fun kt => ex1 kt (fun t => dm3 t (fun (v22 : Int32) (v23 : Nat → Int64) (v24 : Nat → Int64) => some (v12, v23, v24, v14, v15)))))))
abbrev rmX3_listSearched : Room := { frames := 0, cells := 0, slots := 0, locals := 0 }
set_option maxHeartbeats 4000000 in
set_option maxRecDepth 100000 in
theorem c_X3_listSearched (l : Launch) (D : va_G) (ky : Nat → ClassId) (q_ q_kind q_allowed q_colour q_nearLow q_nearHigh q_paintedLow q_paintedHigh q_searched q_painted q_upcoming q_left q_leftByLatest : Nat) (s_total : Int32) (s_left : Nat → Int32) (s_paintedHigh : Nat → Int64) (s_paintedLow : Nat → Int64) (s_searched : Nat → Int32) (s_upcoming : Nat → Int32) {o_r : Int32} {o_paintedHigh : Nat → Int64} {o_paintedLow : Nat → Int64} {o_searched : Nat → Int32} {o_upcoming : Nat → Int32} (h : sX3_listSearched s_total s_left s_paintedHigh s_paintedLow s_searched s_upcoming = some (o_r, o_paintedHigh, o_paintedLow, o_searched, o_upcoming)) : MtI l D ky yX3_listSearched wsX3_listSearched rmX3_listSearched [.ref q_] [(q_, .inr (3, [.int s_total, .ref q_kind, .ref q_allowed, .ref q_colour, .ref q_nearLow, .ref q_nearHigh, .ref q_paintedLow, .ref q_paintedHigh, .ref q_searched, .ref q_painted, .ref q_upcoming, .ref q_left, .ref q_leftByLatest])), (q_left, .inl (ky 2, 128, .inl s_left)), (q_paintedHigh, .inl (ky 1, 8, .inr (.inl s_paintedHigh))), (q_paintedLow, .inl (ky 1, 8, .inr (.inl s_paintedLow))), (q_searched, .inl (ky 0, 128, .inl s_searched)), (q_upcoming, .inl (ky 0, 128, .inl s_upcoming))] [(q_, .inr (3, [.int s_total, .ref q_kind, .ref q_allowed, .ref q_colour, .ref q_nearLow, .ref q_nearHigh, .ref q_paintedLow, .ref q_paintedHigh, .ref q_searched, .ref q_painted, .ref q_upcoming, .ref q_left, .ref q_leftByLatest])), (q_left, .inl (ky 2, 128, .inl s_left)), (q_paintedHigh, .inl (ky 1, 8, .inr (.inl o_paintedHigh))), (q_paintedLow, .inl (ky 1, 8, .inr (.inl o_paintedLow))), (q_searched, .inl (ky 0, 128, .inl o_searched)), (q_upcoming, .inl (ky 0, 128, .inl o_upcoming))] o_r 0 0 := by
  refine MtI.of (cc := cX3_listSearched) (maxL := 3) (by decide +kernel) rfl (Nat.le_of_ble_eq_true rfl) ?_
  intro p e R s m args below meth c A Q ls hR hx hb hts hown hnm hml hP hK hD hA ret hl
  have rt := rtI (dc := fun pc => decode cX3_listSearched pc = .ok (.ireturn, 1)) (o_r, o_paintedHigh, o_paintedLow, o_searched, o_upcoming) (fun t => [(q_, .inr (3, [.int s_total, .ref q_kind, .ref q_allowed, .ref q_colour, .ref q_nearLow, .ref q_nearHigh, .ref q_paintedLow, .ref q_paintedHigh, .ref q_searched, .ref q_painted, .ref q_upcoming, .ref q_left, .ref q_leftByLatest])), (q_left, .inl (ky 2, 128, .inl s_left)), (q_paintedHigh, .inl (ky 1, 8, .inr (.inl t.2.1))), (q_paintedLow, .inl (ky 1, 8, .inr (.inl t.2.2.1))), (q_searched, .inl (ky 0, 128, .inl t.2.2.2.1)), (q_upcoming, .inl (ky 0, 128, .inl t.2.2.2.2))]) (fun t => t.1) ret
  subst hR
  obtain ⟨H, hH⟩ : ∃ H, H = s.heap := ⟨_, rfl⟩
  obtain ⟨locs, hlocs⟩ : ∃ locs : List Loc, locs = [] := ⟨_, rfl⟩
  have hS : va_S A s.heap H locs := by rw [hH, hlocs]; exact va_S.rf
  rw [← hH] at hP
  suffices hgo : W p l e rmX3_listSearched s m args below meth c H locs 0 0 Q (F0 m 0 ls []) by rw [hH, hlocs] at hgo; exact hgo
  clear hH hlocs
  replace hl : lv_has ls 3 [(0, .ref q_)] := hl
  replace hown : s.vm.findClass RX3 = some m.cls := hown
  have hi_X3 : ∀ w ∈ u_ws RX3 TX3 13, w ∈ wsX3_listSearched := fun _ h9 => List.mem_cons_of_mem _ (List.mem_append_right _ h9)
  have hf_56 := hts (.fieldLink RX3 56 "GlazierBench$Glazing" "total" "I") (by decide +kernel)
  have hf_43 := hts (.fieldLink RX3 43 "GlazierBench$Glazing" "left" "[Z") (by decide +kernel)
  have hf_34 := hts (.fieldLink RX3 34 "GlazierBench$Glazing" "searched" "[I") (by decide +kernel)
  have hf_40 := hts (.fieldLink RX3 40 "GlazierBench$Glazing" "upcoming" "[I") (by decide +kernel)
  have hf_28 := hts (.fieldLink RX3 28 "GlazierBench$Glazing" "paintedLow" "[J") (by decide +kernel)
  have hf_31 := hts (.fieldLink RX3 31 "GlazierBench$Glazing" "paintedHigh" "[J") (by decide +kernel)
  unfold sX3_listSearched at h
  refine lv_iconst (v := 0) hx hb dX3_listSearched_0 (by decide) ?_
  refine lv_istore_n (lv' := [(1, .int (0 : Int32)), (0, .ref q_)]) hx hb dX3_listSearched_1 rfl hl (by decide) rfl (fun ls hl => ?_)
  refine lv_iconst (v := 0) hx hb dX3_listSearched_2 (by decide) ?_
  refine lv_istore_n (lv' := [(2, .int (0 : Int32)), (1, .int (0 : Int32)), (0, .ref q_)]) hx hb dX3_listSearched_3 rfl hl (by decide) rfl (fun ls hl => ?_)
  obtain ⟨⟨k, t⟩, hi, h⟩ := ob_of h
  refine iter_rule (P := fun (k : Nat) (t : Int32 × Int32 × (Nat → Int32) × (Nat → Int32)) => ∀ (H : Heap) (locs : List Loc) (ls : Array Slot), va_P D vwCl [(q_, .inr (3, [.int s_total, .ref q_kind, .ref q_allowed, .ref q_colour, .ref q_nearLow, .ref q_nearHigh, .ref q_paintedLow, .ref q_paintedHigh, .ref q_searched, .ref q_painted, .ref q_upcoming, .ref q_left, .ref q_leftByLatest])), (q_left, .inl (ky 2, 128, .inl s_left)), (q_paintedHigh, .inl (ky 1, 8, .inr (.inl s_paintedHigh))), (q_paintedLow, .inl (ky 1, 8, .inr (.inl s_paintedLow))), (q_searched, .inl (ky 0, 128, .inl t.2.2.1)), (q_upcoming, .inl (ky 0, 128, .inl t.2.2.2))] H → va_D A [(q_, .inr (3, [.int s_total, .ref q_kind, .ref q_allowed, .ref q_colour, .ref q_nearLow, .ref q_nearHigh, .ref q_paintedLow, .ref q_paintedHigh, .ref q_searched, .ref q_painted, .ref q_upcoming, .ref q_left, .ref q_leftByLatest])), (q_left, .inl (ky 2, 128, .inl s_left)), (q_paintedHigh, .inl (ky 1, 8, .inr (.inl s_paintedHigh))), (q_paintedLow, .inl (ky 1, 8, .inr (.inl s_paintedLow))), (q_searched, .inl (ky 0, 128, .inl t.2.2.1)), (q_upcoming, .inl (ky 0, 128, .inl t.2.2.2))] → va_S A s.heap H locs → lv_has ls 3 [(0, .ref q_), (1, .int t.1), (2, .int t.2.1)] → W p l e rmX3_listSearched s m args below meth c H locs 0 0 Q (F0 m ([4, 44].getD k 0) ls [])) ?_ _ _ _ _ hi ?_ H locs ls hP hD hS (lv_sub hl [2, 1, 0] rfl)
  · clear h hi hP hD hS hl
    intro t k t' h K
    obtain ⟨v1, v2, v3, v4⟩ := t
    intro H locs ls hP hD hS hl
    replace h := dm4_of h
    replace hP : va_P D vwCl [(q_, .inr (3, [.int s_total, .ref q_kind, .ref q_allowed, .ref q_colour, .ref q_nearLow, .ref q_nearHigh, .ref q_paintedLow, .ref q_paintedHigh, .ref q_searched, .ref q_painted, .ref q_upcoming, .ref q_left, .ref q_leftByLatest])), (q_left, .inl (ky 2, 128, .inl s_left)), (q_paintedHigh, .inl (ky 1, 8, .inr (.inl s_paintedHigh))), (q_paintedLow, .inl (ky 1, 8, .inr (.inl s_paintedLow))), (q_searched, .inl (ky 0, 128, .inl v3)), (q_upcoming, .inl (ky 0, 128, .inl v4))] H := hP
    replace hD : va_D A [(q_, .inr (3, [.int s_total, .ref q_kind, .ref q_allowed, .ref q_colour, .ref q_nearLow, .ref q_nearHigh, .ref q_paintedLow, .ref q_paintedHigh, .ref q_searched, .ref q_painted, .ref q_upcoming, .ref q_left, .ref q_leftByLatest])), (q_left, .inl (ky 2, 128, .inl s_left)), (q_paintedHigh, .inl (ky 1, 8, .inr (.inl s_paintedHigh))), (q_paintedLow, .inl (ky 1, 8, .inr (.inl s_paintedLow))), (q_searched, .inl (ky 0, 128, .inl v3)), (q_upcoming, .inl (ky 0, 128, .inl v4))] := hD
    replace hl : lv_has ls 3 [(0, .ref q_), (1, .int v1), (2, .int v2)] := hl
    refine lv_iload_n hx hb dX3_listSearched_4 rfl (lv_at hl 2 rfl) ?_
    refine lv_aload_n hx hb dX3_listSearched_5 rfl (lv_at hl 0 rfl) ?_
    refine va_get (D := D) (ci := 3) (v := .int s_total) (C := RX3) (T := TX3) (N := 13) hx hb hts hi_X3 hown hK.1 hP 0 rfl rfl 0 (by decide) hf_56 (fun _ h9 => h9) rfl dX3_listSearched_6 ?_
    refine lv_icmp_ge (tgt := 44) hx hb dX3_listSearched_9 (by decide) (fun hc => ?_) (fun hc => ?_)
    · replace h := if_t hc h
      cases h
      exact K _ _ _ hP hD hS (lv_sub hl [0, 1, 2] rfl)
    · replace h := if_f hc h
      refine lv_aload_n hx hb dX3_listSearched_12 rfl (lv_at hl 0 rfl) ?_
      refine va_get (D := D) (ci := 3) (v := .ref q_left) (C := RX3) (T := TX3) (N := 13) hx hb hts hi_X3 hown hK.1 hP 0 rfl rfl 11 (by decide) hf_43 (fun _ h9 => h9) rfl dX3_listSearched_13 ?_
      refine lv_iload_n hx hb dX3_listSearched_16 rfl (lv_at hl 2 rfl) ?_
      obtain ⟨hg, h⟩ := gd_of h
      refine va_zald hx hb hK.1 hP 1 2 rfl rfl hg dX3_listSearched_17 ?_
      obtain ⟨t, hd, h⟩ := ob_of h
      have K : ∀ (H : Heap) (locs : List Loc) (ls : Array Slot), va_P D vwCl [(q_, .inr (3, [.int s_total, .ref q_kind, .ref q_allowed, .ref q_colour, .ref q_nearLow, .ref q_nearHigh, .ref q_paintedLow, .ref q_paintedHigh, .ref q_searched, .ref q_painted, .ref q_upcoming, .ref q_left, .ref q_leftByLatest])), (q_left, .inl (ky 2, 128, .inl s_left)), (q_paintedHigh, .inl (ky 1, 8, .inr (.inl s_paintedHigh))), (q_paintedLow, .inl (ky 1, 8, .inr (.inl s_paintedLow))), (q_searched, .inl (ky 0, 128, .inl t.2.1)), (q_upcoming, .inl (ky 0, 128, .inl t.2.2))] H → va_D A [(q_, .inr (3, [.int s_total, .ref q_kind, .ref q_allowed, .ref q_colour, .ref q_nearLow, .ref q_nearHigh, .ref q_paintedLow, .ref q_paintedHigh, .ref q_searched, .ref q_painted, .ref q_upcoming, .ref q_left, .ref q_leftByLatest])), (q_left, .inl (ky 2, 128, .inl s_left)), (q_paintedHigh, .inl (ky 1, 8, .inr (.inl s_paintedHigh))), (q_paintedLow, .inl (ky 1, 8, .inr (.inl s_paintedLow))), (q_searched, .inl (ky 0, 128, .inl t.2.1)), (q_upcoming, .inl (ky 0, 128, .inl t.2.2))] → va_S A s.heap H locs → lv_has ls 3 [(0, .ref q_), (1, .int t.1), (2, .int v2)] → W p l e rmX3_listSearched s m args below meth c H locs 0 0 Q (F0 m 38 ls []) := by
        clear hd hP hD hS hl
        obtain ⟨v5, v6, v7⟩ := t
        replace h := dm3_of h
        intro H locs ls hP hD hS hl
        replace hP : va_P D vwCl [(q_, .inr (3, [.int s_total, .ref q_kind, .ref q_allowed, .ref q_colour, .ref q_nearLow, .ref q_nearHigh, .ref q_paintedLow, .ref q_paintedHigh, .ref q_searched, .ref q_painted, .ref q_upcoming, .ref q_left, .ref q_leftByLatest])), (q_left, .inl (ky 2, 128, .inl s_left)), (q_paintedHigh, .inl (ky 1, 8, .inr (.inl s_paintedHigh))), (q_paintedLow, .inl (ky 1, 8, .inr (.inl s_paintedLow))), (q_searched, .inl (ky 0, 128, .inl v6)), (q_upcoming, .inl (ky 0, 128, .inl v7))] H := hP
        replace hD : va_D A [(q_, .inr (3, [.int s_total, .ref q_kind, .ref q_allowed, .ref q_colour, .ref q_nearLow, .ref q_nearHigh, .ref q_paintedLow, .ref q_paintedHigh, .ref q_searched, .ref q_painted, .ref q_upcoming, .ref q_left, .ref q_leftByLatest])), (q_left, .inl (ky 2, 128, .inl s_left)), (q_paintedHigh, .inl (ky 1, 8, .inr (.inl s_paintedHigh))), (q_paintedLow, .inl (ky 1, 8, .inr (.inl s_paintedLow))), (q_searched, .inl (ky 0, 128, .inl v6)), (q_upcoming, .inl (ky 0, 128, .inl v7))] := hD
        replace hl : lv_has ls 3 [(0, .ref q_), (1, .int v5), (2, .int v2)] := hl
        refine W.eq (g2 := F0 m 38 ls []) rfl ?_
        obtain ⟨x8, ex8⟩ : ∃ z : Int32, z = v2 + 1 := ⟨_, rfl⟩
        replace h := lt_at ex8 h
        refine lv_iinc (v := x8) (lv' := [(2, .int x8), (0, .ref q_), (1, .int v5)]) hx hb dX3_listSearched_38 hl (k := 2) rfl (by rw [ex8]; rfl) (by decide) rfl (fun ls hl => ?_)
        refine lv_goto (tgt := 4) hx hb dX3_listSearched_41 (by decide) ?_
        cases h
        exact K _ _ _ hP hD hS (lv_sub hl [1, 2, 0] rfl)
      replace h := hd
      clear hd
      refine lv_if_eq (tgt := 38) hx hb dX3_listSearched_18 (by decide) (fun hc => ?_) (fun hc => ?_)
      · replace h := if_t hc h
        cases h
        exact K _ _ _ hP hD hS (lv_sub hl [0, 1, 2] rfl)
      · replace h := if_f hc h
        refine lv_aload_n hx hb dX3_listSearched_21 rfl (lv_at hl 0 rfl) ?_
        refine va_get (D := D) (ci := 3) (v := .ref q_searched) (C := RX3) (T := TX3) (N := 13) hx hb hts hi_X3 hown hK.1 hP 0 rfl rfl 8 (by decide) hf_34 (fun _ h9 => h9) rfl dX3_listSearched_22 ?_
        refine lv_iload_n hx hb dX3_listSearched_25 rfl (lv_at hl 1 rfl) ?_
        refine lv_iload_n hx hb dX3_listSearched_26 rfl (lv_at hl 2 rfl) ?_
        obtain ⟨hg, h⟩ := gd_of h
        refine r_iast hx hb hK.1 hP hD hS 4 0 rfl rfl hg dX3_listSearched_27 (fun f9 ef9 H locs hP hD hS => ?_)
        replace h := lt_at ef9 h
        replace hP : va_P D vwCl [(q_, .inr (3, [.int s_total, .ref q_kind, .ref q_allowed, .ref q_colour, .ref q_nearLow, .ref q_nearHigh, .ref q_paintedLow, .ref q_paintedHigh, .ref q_searched, .ref q_painted, .ref q_upcoming, .ref q_left, .ref q_leftByLatest])), (q_left, .inl (ky 2, 128, .inl s_left)), (q_paintedHigh, .inl (ky 1, 8, .inr (.inl s_paintedHigh))), (q_paintedLow, .inl (ky 1, 8, .inr (.inl s_paintedLow))), (q_searched, .inl (ky 0, 128, .inl f9)), (q_upcoming, .inl (ky 0, 128, .inl v4))] H := hP
        replace hD : va_D A [(q_, .inr (3, [.int s_total, .ref q_kind, .ref q_allowed, .ref q_colour, .ref q_nearLow, .ref q_nearHigh, .ref q_paintedLow, .ref q_paintedHigh, .ref q_searched, .ref q_painted, .ref q_upcoming, .ref q_left, .ref q_leftByLatest])), (q_left, .inl (ky 2, 128, .inl s_left)), (q_paintedHigh, .inl (ky 1, 8, .inr (.inl s_paintedHigh))), (q_paintedLow, .inl (ky 1, 8, .inr (.inl s_paintedLow))), (q_searched, .inl (ky 0, 128, .inl f9)), (q_upcoming, .inl (ky 0, 128, .inl v4))] := hD
        refine lv_aload_n hx hb dX3_listSearched_28 rfl (lv_at hl 0 rfl) ?_
        refine va_get (D := D) (ci := 3) (v := .ref q_upcoming) (C := RX3) (T := TX3) (N := 13) hx hb hts hi_X3 hown hK.1 hP 0 rfl rfl 10 (by decide) hf_40 (fun _ h9 => h9) rfl dX3_listSearched_29 ?_
        refine lv_iload_n hx hb dX3_listSearched_32 rfl (lv_at hl 1 rfl) ?_
        refine lv_iconst (v := 0) hx hb dX3_listSearched_33 (by decide) ?_
        obtain ⟨hg, h⟩ := gd_of h
        refine r_iast hx hb hK.1 hP hD hS 5 0 rfl rfl hg dX3_listSearched_34 (fun f10 ef10 H locs hP hD hS => ?_)
        replace h := lt_at ef10 h
        replace hP : va_P D vwCl [(q_, .inr (3, [.int s_total, .ref q_kind, .ref q_allowed, .ref q_colour, .ref q_nearLow, .ref q_nearHigh, .ref q_paintedLow, .ref q_paintedHigh, .ref q_searched, .ref q_painted, .ref q_upcoming, .ref q_left, .ref q_leftByLatest])), (q_left, .inl (ky 2, 128, .inl s_left)), (q_paintedHigh, .inl (ky 1, 8, .inr (.inl s_paintedHigh))), (q_paintedLow, .inl (ky 1, 8, .inr (.inl s_paintedLow))), (q_searched, .inl (ky 0, 128, .inl f9)), (q_upcoming, .inl (ky 0, 128, .inl f10))] H := hP
        replace hD : va_D A [(q_, .inr (3, [.int s_total, .ref q_kind, .ref q_allowed, .ref q_colour, .ref q_nearLow, .ref q_nearHigh, .ref q_paintedLow, .ref q_paintedHigh, .ref q_searched, .ref q_painted, .ref q_upcoming, .ref q_left, .ref q_leftByLatest])), (q_left, .inl (ky 2, 128, .inl s_left)), (q_paintedHigh, .inl (ky 1, 8, .inr (.inl s_paintedHigh))), (q_paintedLow, .inl (ky 1, 8, .inr (.inl s_paintedLow))), (q_searched, .inl (ky 0, 128, .inl f9)), (q_upcoming, .inl (ky 0, 128, .inl f10))] := hD
        obtain ⟨x11, ex11⟩ : ∃ z : Int32, z = v1 + 1 := ⟨_, rfl⟩
        replace h := lt_at ex11 h
        refine lv_iinc (v := x11) (lv' := [(1, .int x11), (0, .ref q_), (2, .int v2)]) hx hb dX3_listSearched_35 hl (k := 1) rfl (by rw [ex11]; rfl) (by decide) rfl (fun ls hl => ?_)
        cases h
        exact K _ _ _ hP hD hS (lv_sub hl [1, 0, 2] rfl)
  · have h1 := ex1_of h
    clear h hi
    rcases h1 with ⟨rfl, h⟩
    obtain ⟨v12, v13, v14, v15⟩ := t
    replace h := dm4_of h
    intro H locs ls hP hD hS hl
    replace hP : va_P D vwCl [(q_, .inr (3, [.int s_total, .ref q_kind, .ref q_allowed, .ref q_colour, .ref q_nearLow, .ref q_nearHigh, .ref q_paintedLow, .ref q_paintedHigh, .ref q_searched, .ref q_painted, .ref q_upcoming, .ref q_left, .ref q_leftByLatest])), (q_left, .inl (ky 2, 128, .inl s_left)), (q_paintedHigh, .inl (ky 1, 8, .inr (.inl s_paintedHigh))), (q_paintedLow, .inl (ky 1, 8, .inr (.inl s_paintedLow))), (q_searched, .inl (ky 0, 128, .inl v14)), (q_upcoming, .inl (ky 0, 128, .inl v15))] H := hP
    replace hD : va_D A [(q_, .inr (3, [.int s_total, .ref q_kind, .ref q_allowed, .ref q_colour, .ref q_nearLow, .ref q_nearHigh, .ref q_paintedLow, .ref q_paintedHigh, .ref q_searched, .ref q_painted, .ref q_upcoming, .ref q_left, .ref q_leftByLatest])), (q_left, .inl (ky 2, 128, .inl s_left)), (q_paintedHigh, .inl (ky 1, 8, .inr (.inl s_paintedHigh))), (q_paintedLow, .inl (ky 1, 8, .inr (.inl s_paintedLow))), (q_searched, .inl (ky 0, 128, .inl v14)), (q_upcoming, .inl (ky 0, 128, .inl v15))] := hD
    replace hl : lv_has ls 3 [(0, .ref q_), (1, .int v12), (2, .int v13)] := hl
    refine W.eq (g2 := F0 m 44 ls []) rfl ?_
    refine lv_iconst (v := 0) hx hb dX3_listSearched_44 (by decide) ?_
    refine lv_istore_n (lv' := [(2, .int (0 : Int32)), (0, .ref q_), (1, .int v12)]) hx hb dX3_listSearched_45 rfl hl (by decide) rfl (fun ls hl => ?_)
    obtain ⟨⟨k, t⟩, hi, h⟩ := ob_of h
    refine iter_rule (P := fun (k : Nat) (t : Int32 × (Nat → Int64) × (Nat → Int64)) => ∀ (H : Heap) (locs : List Loc) (ls : Array Slot), va_P D vwCl [(q_, .inr (3, [.int s_total, .ref q_kind, .ref q_allowed, .ref q_colour, .ref q_nearLow, .ref q_nearHigh, .ref q_paintedLow, .ref q_paintedHigh, .ref q_searched, .ref q_painted, .ref q_upcoming, .ref q_left, .ref q_leftByLatest])), (q_left, .inl (ky 2, 128, .inl s_left)), (q_paintedHigh, .inl (ky 1, 8, .inr (.inl t.2.1))), (q_paintedLow, .inl (ky 1, 8, .inr (.inl t.2.2))), (q_searched, .inl (ky 0, 128, .inl v14)), (q_upcoming, .inl (ky 0, 128, .inl v15))] H → va_D A [(q_, .inr (3, [.int s_total, .ref q_kind, .ref q_allowed, .ref q_colour, .ref q_nearLow, .ref q_nearHigh, .ref q_paintedLow, .ref q_paintedHigh, .ref q_searched, .ref q_painted, .ref q_upcoming, .ref q_left, .ref q_leftByLatest])), (q_left, .inl (ky 2, 128, .inl s_left)), (q_paintedHigh, .inl (ky 1, 8, .inr (.inl t.2.1))), (q_paintedLow, .inl (ky 1, 8, .inr (.inl t.2.2))), (q_searched, .inl (ky 0, 128, .inl v14)), (q_upcoming, .inl (ky 0, 128, .inl v15))] → va_S A s.heap H locs → lv_has ls 3 [(0, .ref q_), (1, .int v12), (2, .int t.1)] → W p l e rmX3_listSearched s m args below meth c H locs 0 0 Q (F0 m ([46, 72].getD k 0) ls [])) ?_ _ _ _ _ hi ?_ H locs ls hP hD hS (lv_sub hl [1, 2, 0] rfl)
    · clear h hi hP hD hS hl
      intro t k t' h K
      obtain ⟨v16, v17, v18⟩ := t
      intro H locs ls hP hD hS hl
      replace h := dm3_of h
      replace hP : va_P D vwCl [(q_, .inr (3, [.int s_total, .ref q_kind, .ref q_allowed, .ref q_colour, .ref q_nearLow, .ref q_nearHigh, .ref q_paintedLow, .ref q_paintedHigh, .ref q_searched, .ref q_painted, .ref q_upcoming, .ref q_left, .ref q_leftByLatest])), (q_left, .inl (ky 2, 128, .inl s_left)), (q_paintedHigh, .inl (ky 1, 8, .inr (.inl v17))), (q_paintedLow, .inl (ky 1, 8, .inr (.inl v18))), (q_searched, .inl (ky 0, 128, .inl v14)), (q_upcoming, .inl (ky 0, 128, .inl v15))] H := hP
      replace hD : va_D A [(q_, .inr (3, [.int s_total, .ref q_kind, .ref q_allowed, .ref q_colour, .ref q_nearLow, .ref q_nearHigh, .ref q_paintedLow, .ref q_paintedHigh, .ref q_searched, .ref q_painted, .ref q_upcoming, .ref q_left, .ref q_leftByLatest])), (q_left, .inl (ky 2, 128, .inl s_left)), (q_paintedHigh, .inl (ky 1, 8, .inr (.inl v17))), (q_paintedLow, .inl (ky 1, 8, .inr (.inl v18))), (q_searched, .inl (ky 0, 128, .inl v14)), (q_upcoming, .inl (ky 0, 128, .inl v15))] := hD
      replace hl : lv_has ls 3 [(0, .ref q_), (1, .int v12), (2, .int v16)] := hl
      refine lv_iload_n hx hb dX3_listSearched_46 rfl (lv_at hl 2 rfl) ?_
      refine lv_bipush (v := 8) hx hb dX3_listSearched_47 (by decide) ?_
      refine lv_icmp_ge (tgt := 72) hx hb dX3_listSearched_49 (by decide) (fun hc => ?_) (fun hc => ?_)
      · replace h := if_t hc h
        cases h
        exact K _ _ _ hP hD hS (lv_sub hl [0, 1, 2] rfl)
      · replace h := if_f hc h
        refine lv_aload_n hx hb dX3_listSearched_52 rfl (lv_at hl 0 rfl) ?_
        refine va_get (D := D) (ci := 3) (v := .ref q_paintedLow) (C := RX3) (T := TX3) (N := 13) hx hb hts hi_X3 hown hK.1 hP 0 rfl rfl 6 (by decide) hf_28 (fun _ h9 => h9) rfl dX3_listSearched_53 ?_
        refine lv_iload_n hx hb dX3_listSearched_56 rfl (lv_at hl 2 rfl) ?_
        refine lv_lconst (v := 0) hx hb dX3_listSearched_57 (by decide) ?_
        obtain ⟨hg, h⟩ := gd_of h
        refine r_last hx hb hK.1 hP hD hS 3 1 rfl rfl hg dX3_listSearched_58 (fun f19 ef19 H locs hP hD hS => ?_)
        replace h := lt_at ef19 h
        replace hP : va_P D vwCl [(q_, .inr (3, [.int s_total, .ref q_kind, .ref q_allowed, .ref q_colour, .ref q_nearLow, .ref q_nearHigh, .ref q_paintedLow, .ref q_paintedHigh, .ref q_searched, .ref q_painted, .ref q_upcoming, .ref q_left, .ref q_leftByLatest])), (q_left, .inl (ky 2, 128, .inl s_left)), (q_paintedHigh, .inl (ky 1, 8, .inr (.inl v17))), (q_paintedLow, .inl (ky 1, 8, .inr (.inl f19))), (q_searched, .inl (ky 0, 128, .inl v14)), (q_upcoming, .inl (ky 0, 128, .inl v15))] H := hP
        replace hD : va_D A [(q_, .inr (3, [.int s_total, .ref q_kind, .ref q_allowed, .ref q_colour, .ref q_nearLow, .ref q_nearHigh, .ref q_paintedLow, .ref q_paintedHigh, .ref q_searched, .ref q_painted, .ref q_upcoming, .ref q_left, .ref q_leftByLatest])), (q_left, .inl (ky 2, 128, .inl s_left)), (q_paintedHigh, .inl (ky 1, 8, .inr (.inl v17))), (q_paintedLow, .inl (ky 1, 8, .inr (.inl f19))), (q_searched, .inl (ky 0, 128, .inl v14)), (q_upcoming, .inl (ky 0, 128, .inl v15))] := hD
        refine lv_aload_n hx hb dX3_listSearched_59 rfl (lv_at hl 0 rfl) ?_
        refine va_get (D := D) (ci := 3) (v := .ref q_paintedHigh) (C := RX3) (T := TX3) (N := 13) hx hb hts hi_X3 hown hK.1 hP 0 rfl rfl 7 (by decide) hf_31 (fun _ h9 => h9) rfl dX3_listSearched_60 ?_
        refine lv_iload_n hx hb dX3_listSearched_63 rfl (lv_at hl 2 rfl) ?_
        refine lv_lconst (v := 0) hx hb dX3_listSearched_64 (by decide) ?_
        obtain ⟨hg, h⟩ := gd_of h
        refine r_last hx hb hK.1 hP hD hS 2 1 rfl rfl hg dX3_listSearched_65 (fun f20 ef20 H locs hP hD hS => ?_)
        replace h := lt_at ef20 h
        replace hP : va_P D vwCl [(q_, .inr (3, [.int s_total, .ref q_kind, .ref q_allowed, .ref q_colour, .ref q_nearLow, .ref q_nearHigh, .ref q_paintedLow, .ref q_paintedHigh, .ref q_searched, .ref q_painted, .ref q_upcoming, .ref q_left, .ref q_leftByLatest])), (q_left, .inl (ky 2, 128, .inl s_left)), (q_paintedHigh, .inl (ky 1, 8, .inr (.inl f20))), (q_paintedLow, .inl (ky 1, 8, .inr (.inl f19))), (q_searched, .inl (ky 0, 128, .inl v14)), (q_upcoming, .inl (ky 0, 128, .inl v15))] H := hP
        replace hD : va_D A [(q_, .inr (3, [.int s_total, .ref q_kind, .ref q_allowed, .ref q_colour, .ref q_nearLow, .ref q_nearHigh, .ref q_paintedLow, .ref q_paintedHigh, .ref q_searched, .ref q_painted, .ref q_upcoming, .ref q_left, .ref q_leftByLatest])), (q_left, .inl (ky 2, 128, .inl s_left)), (q_paintedHigh, .inl (ky 1, 8, .inr (.inl f20))), (q_paintedLow, .inl (ky 1, 8, .inr (.inl f19))), (q_searched, .inl (ky 0, 128, .inl v14)), (q_upcoming, .inl (ky 0, 128, .inl v15))] := hD
        obtain ⟨x21, ex21⟩ : ∃ z : Int32, z = v16 + 1 := ⟨_, rfl⟩
        replace h := lt_at ex21 h
        refine lv_iinc (v := x21) (lv' := [(2, .int x21), (0, .ref q_), (1, .int v12)]) hx hb dX3_listSearched_66 hl (k := 2) rfl (by rw [ex21]; rfl) (by decide) rfl (fun ls hl => ?_)
        refine lv_goto (tgt := 46) hx hb dX3_listSearched_69 (by decide) ?_
        cases h
        exact K _ _ _ hP hD hS (lv_sub hl [1, 2, 0] rfl)
    · have h1 := ex1_of h
      clear h hi
      rcases h1 with ⟨rfl, h⟩
      obtain ⟨v22, v23, v24⟩ := t
      replace h := dm3_of h
      intro H locs ls hP hD hS hl
      replace hP : va_P D vwCl [(q_, .inr (3, [.int s_total, .ref q_kind, .ref q_allowed, .ref q_colour, .ref q_nearLow, .ref q_nearHigh, .ref q_paintedLow, .ref q_paintedHigh, .ref q_searched, .ref q_painted, .ref q_upcoming, .ref q_left, .ref q_leftByLatest])), (q_left, .inl (ky 2, 128, .inl s_left)), (q_paintedHigh, .inl (ky 1, 8, .inr (.inl v23))), (q_paintedLow, .inl (ky 1, 8, .inr (.inl v24))), (q_searched, .inl (ky 0, 128, .inl v14)), (q_upcoming, .inl (ky 0, 128, .inl v15))] H := hP
      replace hD : va_D A [(q_, .inr (3, [.int s_total, .ref q_kind, .ref q_allowed, .ref q_colour, .ref q_nearLow, .ref q_nearHigh, .ref q_paintedLow, .ref q_paintedHigh, .ref q_searched, .ref q_painted, .ref q_upcoming, .ref q_left, .ref q_leftByLatest])), (q_left, .inl (ky 2, 128, .inl s_left)), (q_paintedHigh, .inl (ky 1, 8, .inr (.inl v23))), (q_paintedLow, .inl (ky 1, 8, .inr (.inl v24))), (q_searched, .inl (ky 0, 128, .inl v14)), (q_upcoming, .inl (ky 0, 128, .inl v15))] := hD
      replace hl : lv_has ls 3 [(0, .ref q_), (1, .int v12), (2, .int v22)] := hl
      refine W.eq (g2 := F0 m 72 ls []) rfl ?_
      refine lv_iload_n hx hb dX3_listSearched_72 rfl (lv_at hl 1 rfl) ?_
      exact rt _ h _ _ _ _ dX3_listSearched_73 hP hD hS

def bX3_nextAllowed_2 (a1 : Int32) (s_allowed : Nat → Int32) (t : Int32) : Option (Nat × (Int32)) := dm1 t (fun (v1 : Int32) => if (8 : Int32) ≤ v1 then some (2, v1) else gd (¬ (a1 < 0 ∨ 128 ≤ a1.toNatClampNeg)) (if (((s_allowed a1.toNatClampNeg) >>> (v1 &&& 31)) &&& (1 : Int32)) = 0 then lt (v1 + 1) (fun x2 => some (0, x2)) else some (1, v1)))
def sX3_nextAllowed (a1 : Int32) (a2 : Int32) (s_allowed : Nat → Int32) : Option (Int32) := ob (iter (bX3_nextAllowed_2 a1 s_allowed) FU a2) (fun kt => ex2 kt (fun t => dm1 t (fun (v3 : Int32) => some v3)) (fun t => dm1 t (fun (v4 : Int32) => some (8 : Int32))))
abbrev rmX3_nextAllowed : Room := { frames := 0, cells := 0, slots := 0, locals := 0 }
set_option maxHeartbeats 4000000 in
set_option maxRecDepth 100000 in
theorem c_X3_nextAllowed (l : Launch) (D : va_G) (ky : Nat → ClassId) (q_ q_kind q_allowed q_colour q_nearLow q_nearHigh q_paintedLow q_paintedHigh q_searched q_painted q_upcoming q_left q_leftByLatest : Nat) (a1 : Int32) (a2 : Int32) (s_total : Int32) (s_allowed : Nat → Int32) {o_r : Int32} (h : sX3_nextAllowed a1 a2 s_allowed = some o_r) : MtI l D ky yX3_nextAllowed wsX3_nextAllowed rmX3_nextAllowed [.ref q_, .int a1, .int a2] [(q_, .inr (3, [.int s_total, .ref q_kind, .ref q_allowed, .ref q_colour, .ref q_nearLow, .ref q_nearHigh, .ref q_paintedLow, .ref q_paintedHigh, .ref q_searched, .ref q_painted, .ref q_upcoming, .ref q_left, .ref q_leftByLatest])), (q_allowed, .inl (ky 0, 128, .inl s_allowed))] [(q_, .inr (3, [.int s_total, .ref q_kind, .ref q_allowed, .ref q_colour, .ref q_nearLow, .ref q_nearHigh, .ref q_paintedLow, .ref q_paintedHigh, .ref q_searched, .ref q_painted, .ref q_upcoming, .ref q_left, .ref q_leftByLatest])), (q_allowed, .inl (ky 0, 128, .inl s_allowed))] o_r 0 0 := by
  refine MtI.of (cc := cX3_nextAllowed) (maxL := 4) (by decide +kernel) rfl (Nat.le_of_ble_eq_true rfl) ?_
  intro p e R s m args below meth c A Q ls hR hx hb hts hown hnm hml hP hK hD hA ret hl
  subst hR
  obtain ⟨H, hH⟩ : ∃ H, H = s.heap := ⟨_, rfl⟩
  obtain ⟨locs, hlocs⟩ : ∃ locs : List Loc, locs = [] := ⟨_, rfl⟩
  have hS : va_S A s.heap H locs := by rw [hH, hlocs]; exact va_S.rf
  rw [← hH] at hP
  suffices hgo : W p l e rmX3_nextAllowed s m args below meth c H locs 0 0 Q (F0 m 0 ls []) by rw [hH, hlocs] at hgo; exact hgo
  clear hH hlocs
  replace hl : lv_has ls 4 [(0, .ref q_), (1, .int a1), (2, .int a2)] := hl
  replace hown : s.vm.findClass RX3 = some m.cls := hown
  have hi_X3 : ∀ w ∈ u_ws RX3 TX3 13, w ∈ wsX3_nextAllowed := fun _ h9 => List.mem_cons_of_mem _ (List.mem_append_right _ h9)
  have hf_15 := hts (.fieldLink RX3 15 "GlazierBench$Glazing" "allowed" "[I") (by decide +kernel)
  unfold sX3_nextAllowed at h
  refine lv_iload_n hx hb dX3_nextAllowed_0 rfl (lv_at hl 2 rfl) ?_
  refine lv_istore_n (lv' := [(3, .int a2), (0, .ref q_), (1, .int a1), (2, .int a2)]) hx hb dX3_nextAllowed_1 rfl hl (by decide) rfl (fun ls hl => ?_)
  obtain ⟨⟨k, t⟩, hi, h⟩ := ob_of h
  refine iter_rule (P := fun (k : Nat) (t : Int32) => ∀ (H : Heap) (locs : List Loc) (ls : Array Slot), va_P D vwCl [(q_, .inr (3, [.int s_total, .ref q_kind, .ref q_allowed, .ref q_colour, .ref q_nearLow, .ref q_nearHigh, .ref q_paintedLow, .ref q_paintedHigh, .ref q_searched, .ref q_painted, .ref q_upcoming, .ref q_left, .ref q_leftByLatest])), (q_allowed, .inl (ky 0, 128, .inl s_allowed))] H → va_D A [(q_, .inr (3, [.int s_total, .ref q_kind, .ref q_allowed, .ref q_colour, .ref q_nearLow, .ref q_nearHigh, .ref q_paintedLow, .ref q_paintedHigh, .ref q_searched, .ref q_painted, .ref q_upcoming, .ref q_left, .ref q_leftByLatest])), (q_allowed, .inl (ky 0, 128, .inl s_allowed))] → va_S A s.heap H locs → lv_has ls 4 [(0, .ref q_), (1, .int a1), (3, .int t)] → W p l e rmX3_nextAllowed s m args below meth c H locs 0 0 Q (F0 m ([2, 21, 29].getD k 0) ls [])) ?_ _ _ _ _ hi ?_ H locs ls hP hD hS (lv_sub hl [1, 2, 0] rfl)
  · clear h hi hP hD hS hl
    intro t k t' h K
    obtain ⟨v1, rfl⟩ : ∃ z, z = t := ⟨_, rfl⟩
    intro H locs ls hP hD hS hl
    replace h := dm1_of h
    replace hP : va_P D vwCl [(q_, .inr (3, [.int s_total, .ref q_kind, .ref q_allowed, .ref q_colour, .ref q_nearLow, .ref q_nearHigh, .ref q_paintedLow, .ref q_paintedHigh, .ref q_searched, .ref q_painted, .ref q_upcoming, .ref q_left, .ref q_leftByLatest])), (q_allowed, .inl (ky 0, 128, .inl s_allowed))] H := hP
    replace hD : va_D A [(q_, .inr (3, [.int s_total, .ref q_kind, .ref q_allowed, .ref q_colour, .ref q_nearLow, .ref q_nearHigh, .ref q_paintedLow, .ref q_paintedHigh, .ref q_searched, .ref q_painted, .ref q_upcoming, .ref q_left, .ref q_leftByLatest])), (q_allowed, .inl (ky 0, 128, .inl s_allowed))] := hD
    replace hl : lv_has ls 4 [(0, .ref q_), (1, .int a1), (3, .int v1)] := hl
    refine lv_iload_n hx hb dX3_nextAllowed_2 rfl (lv_at hl 2 rfl) ?_
    refine lv_bipush (v := 8) hx hb dX3_nextAllowed_3 (by decide) ?_
    refine lv_icmp_ge (tgt := 29) hx hb dX3_nextAllowed_5 (by decide) (fun hc => ?_) (fun hc => ?_)
    · replace h := if_t hc h
      cases h
      exact K _ _ _ hP hD hS (lv_sub hl [0, 1, 2] rfl)
    · replace h := if_f hc h
      refine lv_aload_n hx hb dX3_nextAllowed_8 rfl (lv_at hl 0 rfl) ?_
      refine va_get (D := D) (ci := 3) (v := .ref q_allowed) (C := RX3) (T := TX3) (N := 13) hx hb hts hi_X3 hown hK.1 hP 0 rfl rfl 2 (by decide) hf_15 (fun _ h9 => h9) rfl dX3_nextAllowed_9 ?_
      refine lv_iload_n hx hb dX3_nextAllowed_12 rfl (lv_at hl 1 rfl) ?_
      obtain ⟨hg, h⟩ := gd_of h
      refine va_iald hx hb hK.1 hP 1 0 rfl rfl hg dX3_nextAllowed_13 ?_
      refine lv_iload_n hx hb dX3_nextAllowed_14 rfl (lv_at hl 2 rfl) ?_
      refine lv_ishr hx hb dX3_nextAllowed_15 ?_
      refine lv_iconst (v := 1) hx hb dX3_nextAllowed_16 (by decide) ?_
      refine lv_iand hx hb dX3_nextAllowed_17 ?_
      refine lv_if_eq (tgt := 23) hx hb dX3_nextAllowed_18 (by decide) (fun hc => ?_) (fun hc => ?_)
      · replace h := if_t hc h
        obtain ⟨x2, ex2⟩ : ∃ z : Int32, z = v1 + 1 := ⟨_, rfl⟩
        replace h := lt_at ex2 h
        refine lv_iinc (v := x2) (lv' := [(3, .int x2), (0, .ref q_), (1, .int a1)]) hx hb dX3_nextAllowed_23 hl (k := 2) rfl (by rw [ex2]; rfl) (by decide) rfl (fun ls hl => ?_)
        refine lv_goto (tgt := 2) hx hb dX3_nextAllowed_26 (by decide) ?_
        cases h
        exact K _ _ _ hP hD hS (lv_sub hl [1, 2, 0] rfl)
      · replace h := if_f hc h
        cases h
        exact K _ _ _ hP hD hS (lv_sub hl [0, 1, 2] rfl)
  · have h1 := ex2_of h
    clear h hi
    rcases h1 with ⟨rfl, h⟩ | ⟨rfl, h⟩
    · skip
      obtain ⟨v3, rfl⟩ : ∃ z, z = t := ⟨_, rfl⟩
      replace h := dm1_of h
      intro H locs ls hP hD hS hl
      replace hP : va_P D vwCl [(q_, .inr (3, [.int s_total, .ref q_kind, .ref q_allowed, .ref q_colour, .ref q_nearLow, .ref q_nearHigh, .ref q_paintedLow, .ref q_paintedHigh, .ref q_searched, .ref q_painted, .ref q_upcoming, .ref q_left, .ref q_leftByLatest])), (q_allowed, .inl (ky 0, 128, .inl s_allowed))] H := hP
      replace hD : va_D A [(q_, .inr (3, [.int s_total, .ref q_kind, .ref q_allowed, .ref q_colour, .ref q_nearLow, .ref q_nearHigh, .ref q_paintedLow, .ref q_paintedHigh, .ref q_searched, .ref q_painted, .ref q_upcoming, .ref q_left, .ref q_leftByLatest])), (q_allowed, .inl (ky 0, 128, .inl s_allowed))] := hD
      replace hl : lv_has ls 4 [(0, .ref q_), (1, .int a1), (3, .int v3)] := hl
      refine W.eq (g2 := F0 m 21 ls []) rfl ?_
      refine lv_iload_n hx hb dX3_nextAllowed_21 rfl (lv_at hl 2 rfl) ?_
      cases h
      exact ret _ _ _ _ dX3_nextAllowed_22 hP hD hS
    · skip
      obtain ⟨v4, rfl⟩ : ∃ z, z = t := ⟨_, rfl⟩
      replace h := dm1_of h
      intro H locs ls hP hD hS hl
      replace hP : va_P D vwCl [(q_, .inr (3, [.int s_total, .ref q_kind, .ref q_allowed, .ref q_colour, .ref q_nearLow, .ref q_nearHigh, .ref q_paintedLow, .ref q_paintedHigh, .ref q_searched, .ref q_painted, .ref q_upcoming, .ref q_left, .ref q_leftByLatest])), (q_allowed, .inl (ky 0, 128, .inl s_allowed))] H := hP
      replace hD : va_D A [(q_, .inr (3, [.int s_total, .ref q_kind, .ref q_allowed, .ref q_colour, .ref q_nearLow, .ref q_nearHigh, .ref q_paintedLow, .ref q_paintedHigh, .ref q_searched, .ref q_painted, .ref q_upcoming, .ref q_left, .ref q_leftByLatest])), (q_allowed, .inl (ky 0, 128, .inl s_allowed))] := hD
      replace hl : lv_has ls 4 [(0, .ref q_), (1, .int a1), (3, .int v4)] := hl
      refine W.eq (g2 := F0 m 29 ls []) rfl ?_
      refine lv_bipush (v := 8) hx hb dX3_nextAllowed_29 (by decide) ?_
      cases h
      exact ret _ _ _ _ dX3_nextAllowed_31 hP hD hS

def sX3_differs (a1 : Int32) (a2 : Int32) (s_nearHigh : Nat → Int64) (s_nearLow : Nat → Int64) (s_paintedHigh : Nat → Int64) (s_paintedLow : Nat → Int64) : Option (Int32) := gd (¬ (a1 < 0 ∨ 128 ≤ a1.toNatClampNeg)) (gd (¬ (a2 < 0 ∨ 8 ≤ a2.toNatClampNeg)) (gd (¬ (a1 < 0 ∨ 128 ≤ a1.toNatClampNeg)) (gd (¬ (a2 < 0 ∨ 8 ≤ a2.toNatClampNeg)) (if ¬ (lg_cmp (((s_nearLow a1.toNatClampNeg) &&& (s_paintedLow a2.toNatClampNeg)) ||| ((s_nearHigh a1.toNatClampNeg) &&& (s_paintedHigh a2.toNatClampNeg))) (0 : Int64)) = 0 then some (0 : Int32) else some (1 : Int32)))))
abbrev rmX3_differs : Room := { frames := 0, cells := 0, slots := 0, locals := 0 }
set_option maxHeartbeats 4000000 in
set_option maxRecDepth 100000 in
theorem c_X3_differs (l : Launch) (D : va_G) (ky : Nat → ClassId) (q_ q_kind q_allowed q_colour q_nearLow q_nearHigh q_paintedLow q_paintedHigh q_searched q_painted q_upcoming q_left q_leftByLatest : Nat) (a1 : Int32) (a2 : Int32) (s_total : Int32) (s_nearHigh : Nat → Int64) (s_nearLow : Nat → Int64) (s_paintedHigh : Nat → Int64) (s_paintedLow : Nat → Int64) {o_r : Int32} (h : sX3_differs a1 a2 s_nearHigh s_nearLow s_paintedHigh s_paintedLow = some o_r) : MtI l D ky yX3_differs wsX3_differs rmX3_differs [.ref q_, .int a1, .int a2] [(q_, .inr (3, [.int s_total, .ref q_kind, .ref q_allowed, .ref q_colour, .ref q_nearLow, .ref q_nearHigh, .ref q_paintedLow, .ref q_paintedHigh, .ref q_searched, .ref q_painted, .ref q_upcoming, .ref q_left, .ref q_leftByLatest])), (q_nearHigh, .inl (ky 1, 128, .inr (.inl s_nearHigh))), (q_nearLow, .inl (ky 1, 128, .inr (.inl s_nearLow))), (q_paintedHigh, .inl (ky 1, 8, .inr (.inl s_paintedHigh))), (q_paintedLow, .inl (ky 1, 8, .inr (.inl s_paintedLow)))] [(q_, .inr (3, [.int s_total, .ref q_kind, .ref q_allowed, .ref q_colour, .ref q_nearLow, .ref q_nearHigh, .ref q_paintedLow, .ref q_paintedHigh, .ref q_searched, .ref q_painted, .ref q_upcoming, .ref q_left, .ref q_leftByLatest])), (q_nearHigh, .inl (ky 1, 128, .inr (.inl s_nearHigh))), (q_nearLow, .inl (ky 1, 128, .inr (.inl s_nearLow))), (q_paintedHigh, .inl (ky 1, 8, .inr (.inl s_paintedHigh))), (q_paintedLow, .inl (ky 1, 8, .inr (.inl s_paintedLow)))] o_r 0 0 := by
  refine MtI.ofB (cc := cX3_differs) (maxL := 3) (by decide +kernel) rfl (Nat.le_of_ble_eq_true rfl) ?_
  intro p e R s m args below meth c A Q ls hR hx hb hts hown hnm hml hP hK hD hA ret hl
  subst hR
  obtain ⟨H, hH⟩ : ∃ H, H = s.heap := ⟨_, rfl⟩
  obtain ⟨locs, hlocs⟩ : ∃ locs : List Loc, locs = [] := ⟨_, rfl⟩
  have hS : va_S A s.heap H locs := by rw [hH, hlocs]; exact va_S.rf
  rw [← hH] at hP
  suffices hgo : W p l e rmX3_differs s m args below meth c H locs 0 0 Q (F0 m 0 ls []) by rw [hH, hlocs] at hgo; exact hgo
  clear hH hlocs
  replace hl : lv_has ls 3 [(0, .ref q_), (1, .int a1), (2, .int a2)] := hl
  replace hown : s.vm.findClass RX3 = some m.cls := hown
  have hi_X3 : ∀ w ∈ u_ws RX3 TX3 13, w ∈ wsX3_differs := fun _ h9 => List.mem_cons_of_mem _ (List.mem_append_right _ h9)
  have hf_21 := hts (.fieldLink RX3 21 "GlazierBench$Glazing" "nearLow" "[J") (by decide +kernel)
  have hf_28 := hts (.fieldLink RX3 28 "GlazierBench$Glazing" "paintedLow" "[J") (by decide +kernel)
  have hf_25 := hts (.fieldLink RX3 25 "GlazierBench$Glazing" "nearHigh" "[J") (by decide +kernel)
  have hf_31 := hts (.fieldLink RX3 31 "GlazierBench$Glazing" "paintedHigh" "[J") (by decide +kernel)
  unfold sX3_differs at h
  refine lv_aload_n hx hb dX3_differs_0 rfl (lv_at hl 0 rfl) ?_
  refine va_get (D := D) (ci := 3) (v := .ref q_nearLow) (C := RX3) (T := TX3) (N := 13) hx hb hts hi_X3 hown hK.1 hP 0 rfl rfl 4 (by decide) hf_21 (fun _ h9 => h9) rfl dX3_differs_1 ?_
  refine lv_iload_n hx hb dX3_differs_4 rfl (lv_at hl 1 rfl) ?_
  obtain ⟨hg, h⟩ := gd_of h
  refine va_lald hx hb hK.1 hP 2 1 rfl rfl hg dX3_differs_5 ?_
  refine lv_aload_n hx hb dX3_differs_6 rfl (lv_at hl 0 rfl) ?_
  refine va_get (D := D) (ci := 3) (v := .ref q_paintedLow) (C := RX3) (T := TX3) (N := 13) hx hb hts hi_X3 hown hK.1 hP 0 rfl rfl 6 (by decide) hf_28 (fun _ h9 => h9) rfl dX3_differs_7 ?_
  refine lv_iload_n hx hb dX3_differs_10 rfl (lv_at hl 2 rfl) ?_
  obtain ⟨hg, h⟩ := gd_of h
  refine va_lald hx hb hK.1 hP 4 1 rfl rfl hg dX3_differs_11 ?_
  refine lv_land hx hb dX3_differs_12 ?_
  refine lv_aload_n hx hb dX3_differs_13 rfl (lv_at hl 0 rfl) ?_
  refine va_get (D := D) (ci := 3) (v := .ref q_nearHigh) (C := RX3) (T := TX3) (N := 13) hx hb hts hi_X3 hown hK.1 hP 0 rfl rfl 5 (by decide) hf_25 (fun _ h9 => h9) rfl dX3_differs_14 ?_
  refine lv_iload_n hx hb dX3_differs_17 rfl (lv_at hl 1 rfl) ?_
  obtain ⟨hg, h⟩ := gd_of h
  refine va_lald hx hb hK.1 hP 1 1 rfl rfl hg dX3_differs_18 ?_
  refine lv_aload_n hx hb dX3_differs_19 rfl (lv_at hl 0 rfl) ?_
  refine va_get (D := D) (ci := 3) (v := .ref q_paintedHigh) (C := RX3) (T := TX3) (N := 13) hx hb hts hi_X3 hown hK.1 hP 0 rfl rfl 7 (by decide) hf_31 (fun _ h9 => h9) rfl dX3_differs_20 ?_
  refine lv_iload_n hx hb dX3_differs_23 rfl (lv_at hl 2 rfl) ?_
  obtain ⟨hg, h⟩ := gd_of h
  refine va_lald hx hb hK.1 hP 3 1 rfl rfl hg dX3_differs_24 ?_
  refine lv_land hx hb dX3_differs_25 ?_
  refine lv_lor hx hb dX3_differs_26 ?_
  refine lv_lconst (v := 0) hx hb dX3_differs_27 (by decide) ?_
  refine W.lcmp hx hb dX3_differs_28 ?_
  refine lv_if_ne (tgt := 36) hx hb dX3_differs_29 (by decide) (fun hc => ?_) (fun hc => ?_)
  · replace h := if_t hc h
    refine lv_iconst (v := 0) hx hb dX3_differs_36 (by decide) ?_
    cases h
    exact ret _ _ _ _ (Or.inl rfl) dX3_differs_37 hP hD hS
  · replace h := if_f (fun z => z hc) h
    refine lv_iconst (v := 1) hx hb dX3_differs_32 (by decide) ?_
    refine lv_goto (tgt := 37) hx hb dX3_differs_33 (by decide) ?_
    cases h
    exact ret _ _ _ _ (Or.inr rfl) dX3_differs_37 hP hD hS

def sX3_paint (a1 : Int32) (a2 : Int32) (s_painted : Nat → Int32) (s_paintedHigh : Nat → Int64) (s_paintedLow : Nat → Int64) : Option ((Nat → Int32) × (Nat → Int64) × (Nat → Int64)) := gd (¬ (a1 < 0 ∨ 128 ≤ a1.toNatClampNeg)) (lt (upd s_painted a1.toNatClampNeg a2) (fun f1 => if (64 : Int32) ≤ a1 then gd (¬ (a2 < 0 ∨ 8 ≤ a2.toNatClampNeg)) (gd (¬ (a2 < 0 ∨ 8 ≤ a2.toNatClampNeg)) (lt (vp_updL s_paintedHigh a2.toNatClampNeg ((s_paintedHigh a2.toNatClampNeg) ||| ((1 : Int64) <<< ((a1 - (64 : Int32)).toInt64 &&& 63)))) (fun f2 => some (f1, f2, s_paintedLow)))) else gd (¬ (a2 < 0 ∨ 8 ≤ a2.toNatClampNeg)) (gd (¬ (a2 < 0 ∨ 8 ≤ a2.toNatClampNeg)) (lt (vp_updL s_paintedLow a2.toNatClampNeg ((s_paintedLow a2.toNatClampNeg) ||| ((1 : Int64) <<< (a1.toInt64 &&& 63)))) (fun f3 => some (f1, s_paintedHigh, f3))))))
abbrev rmX3_paint : Room := { frames := 0, cells := 0, slots := 0, locals := 0 }
set_option maxHeartbeats 4000000 in
set_option maxRecDepth 100000 in
theorem c_X3_paint (l : Launch) (D : va_G) (ky : Nat → ClassId) (q_ q_kind q_allowed q_colour q_nearLow q_nearHigh q_paintedLow q_paintedHigh q_searched q_painted q_upcoming q_left q_leftByLatest : Nat) (a1 : Int32) (a2 : Int32) (s_total : Int32) (s_painted : Nat → Int32) (s_paintedHigh : Nat → Int64) (s_paintedLow : Nat → Int64) {o_painted : Nat → Int32} {o_paintedHigh : Nat → Int64} {o_paintedLow : Nat → Int64} (h : sX3_paint a1 a2 s_painted s_paintedHigh s_paintedLow = some (o_painted, o_paintedHigh, o_paintedLow)) : MtV l D ky yX3_paint wsX3_paint rmX3_paint [.ref q_, .int a1, .int a2] [(q_, .inr (3, [.int s_total, .ref q_kind, .ref q_allowed, .ref q_colour, .ref q_nearLow, .ref q_nearHigh, .ref q_paintedLow, .ref q_paintedHigh, .ref q_searched, .ref q_painted, .ref q_upcoming, .ref q_left, .ref q_leftByLatest])), (q_painted, .inl (ky 0, 128, .inl s_painted)), (q_paintedHigh, .inl (ky 1, 8, .inr (.inl s_paintedHigh))), (q_paintedLow, .inl (ky 1, 8, .inr (.inl s_paintedLow)))] [(q_, .inr (3, [.int s_total, .ref q_kind, .ref q_allowed, .ref q_colour, .ref q_nearLow, .ref q_nearHigh, .ref q_paintedLow, .ref q_paintedHigh, .ref q_searched, .ref q_painted, .ref q_upcoming, .ref q_left, .ref q_leftByLatest])), (q_painted, .inl (ky 0, 128, .inl o_painted)), (q_paintedHigh, .inl (ky 1, 8, .inr (.inl o_paintedHigh))), (q_paintedLow, .inl (ky 1, 8, .inr (.inl o_paintedLow)))] 0 0 := by
  refine MtV.of (cc := cX3_paint) (maxL := 3) (by decide +kernel) rfl (Nat.le_of_ble_eq_true rfl) ?_
  intro p e R s m args below meth c A Q ls hR hx hb hts hown hnm hml hP hK hD hA ret hl
  have rt := rtV (dc := fun pc => decode cX3_paint pc = .ok (.return_, 1)) (o_painted, o_paintedHigh, o_paintedLow) (fun t => [(q_, .inr (3, [.int s_total, .ref q_kind, .ref q_allowed, .ref q_colour, .ref q_nearLow, .ref q_nearHigh, .ref q_paintedLow, .ref q_paintedHigh, .ref q_searched, .ref q_painted, .ref q_upcoming, .ref q_left, .ref q_leftByLatest])), (q_painted, .inl (ky 0, 128, .inl t.1)), (q_paintedHigh, .inl (ky 1, 8, .inr (.inl t.2.1))), (q_paintedLow, .inl (ky 1, 8, .inr (.inl t.2.2)))]) ret
  subst hR
  obtain ⟨H, hH⟩ : ∃ H, H = s.heap := ⟨_, rfl⟩
  obtain ⟨locs, hlocs⟩ : ∃ locs : List Loc, locs = [] := ⟨_, rfl⟩
  have hS : va_S A s.heap H locs := by rw [hH, hlocs]; exact va_S.rf
  rw [← hH] at hP
  suffices hgo : W p l e rmX3_paint s m args below meth c H locs 0 0 Q (F0 m 0 ls []) by rw [hH, hlocs] at hgo; exact hgo
  clear hH hlocs
  replace hl : lv_has ls 3 [(0, .ref q_), (1, .int a1), (2, .int a2)] := hl
  replace hown : s.vm.findClass RX3 = some m.cls := hown
  have hi_X3 : ∀ w ∈ u_ws RX3 TX3 13, w ∈ wsX3_paint := fun _ h9 => List.mem_cons_of_mem _ (List.mem_append_right _ h9)
  have hf_37 := hts (.fieldLink RX3 37 "GlazierBench$Glazing" "painted" "[I") (by decide +kernel)
  have hf_31 := hts (.fieldLink RX3 31 "GlazierBench$Glazing" "paintedHigh" "[J") (by decide +kernel)
  have hf_28 := hts (.fieldLink RX3 28 "GlazierBench$Glazing" "paintedLow" "[J") (by decide +kernel)
  unfold sX3_paint at h
  refine lv_aload_n hx hb dX3_paint_0 rfl (lv_at hl 0 rfl) ?_
  refine va_get (D := D) (ci := 3) (v := .ref q_painted) (C := RX3) (T := TX3) (N := 13) hx hb hts hi_X3 hown hK.1 hP 0 rfl rfl 9 (by decide) hf_37 (fun _ h9 => h9) rfl dX3_paint_1 ?_
  refine lv_iload_n hx hb dX3_paint_4 rfl (lv_at hl 1 rfl) ?_
  refine lv_iload_n hx hb dX3_paint_5 rfl (lv_at hl 2 rfl) ?_
  obtain ⟨hg, h⟩ := gd_of h
  refine r_iast hx hb hK.1 hP hD hS 1 0 rfl rfl hg dX3_paint_6 (fun f1 ef1 H locs hP hD hS => ?_)
  replace h := lt_at ef1 h
  replace hP : va_P D vwCl [(q_, .inr (3, [.int s_total, .ref q_kind, .ref q_allowed, .ref q_colour, .ref q_nearLow, .ref q_nearHigh, .ref q_paintedLow, .ref q_paintedHigh, .ref q_searched, .ref q_painted, .ref q_upcoming, .ref q_left, .ref q_leftByLatest])), (q_painted, .inl (ky 0, 128, .inl f1)), (q_paintedHigh, .inl (ky 1, 8, .inr (.inl s_paintedHigh))), (q_paintedLow, .inl (ky 1, 8, .inr (.inl s_paintedLow)))] H := hP
  replace hD : va_D A [(q_, .inr (3, [.int s_total, .ref q_kind, .ref q_allowed, .ref q_colour, .ref q_nearLow, .ref q_nearHigh, .ref q_paintedLow, .ref q_paintedHigh, .ref q_searched, .ref q_painted, .ref q_upcoming, .ref q_left, .ref q_leftByLatest])), (q_painted, .inl (ky 0, 128, .inl f1)), (q_paintedHigh, .inl (ky 1, 8, .inr (.inl s_paintedHigh))), (q_paintedLow, .inl (ky 1, 8, .inr (.inl s_paintedLow)))] := hD
  refine lv_iload_n hx hb dX3_paint_7 rfl (lv_at hl 1 rfl) ?_
  refine lv_bipush (v := 64) hx hb dX3_paint_8 (by decide) ?_
  refine lv_icmp_ge (tgt := 28) hx hb dX3_paint_10 (by decide) (fun hc => ?_) (fun hc => ?_)
  · replace h := if_t hc h
    refine lv_aload_n hx hb dX3_paint_28 rfl (lv_at hl 0 rfl) ?_
    refine va_get (D := D) (ci := 3) (v := .ref q_paintedHigh) (C := RX3) (T := TX3) (N := 13) hx hb hts hi_X3 hown hK.1 hP 0 rfl rfl 7 (by decide) hf_31 (fun _ h9 => h9) rfl dX3_paint_29 ?_
    refine lv_iload_n hx hb dX3_paint_32 rfl (lv_at hl 2 rfl) ?_
    refine lv_dup2_11 hx hb dX3_paint_33 rfl rfl ?_
    obtain ⟨hg, h⟩ := gd_of h
    refine va_lald hx hb hK.1 hP 2 1 rfl rfl hg dX3_paint_34 ?_
    refine lv_lconst (v := 1) hx hb dX3_paint_35 (by decide) ?_
    refine lv_iload_n hx hb dX3_paint_36 rfl (lv_at hl 1 rfl) ?_
    refine lv_bipush (v := 64) hx hb dX3_paint_37 (by decide) ?_
    refine lv_isub hx hb dX3_paint_39 ?_
    refine lv_lshl (v := ((1 : Int64) <<< ((a1 - (64 : Int32)).toInt64 &&& 63))) hx hb dX3_paint_40 rfl ?_
    refine lv_lor hx hb dX3_paint_41 ?_
    obtain ⟨hg, h⟩ := gd_of h
    refine r_last hx hb hK.1 hP hD hS 2 1 rfl rfl hg dX3_paint_42 (fun f2 ef2 H locs hP hD hS => ?_)
    replace h := lt_at ef2 h
    replace hP : va_P D vwCl [(q_, .inr (3, [.int s_total, .ref q_kind, .ref q_allowed, .ref q_colour, .ref q_nearLow, .ref q_nearHigh, .ref q_paintedLow, .ref q_paintedHigh, .ref q_searched, .ref q_painted, .ref q_upcoming, .ref q_left, .ref q_leftByLatest])), (q_painted, .inl (ky 0, 128, .inl f1)), (q_paintedHigh, .inl (ky 1, 8, .inr (.inl f2))), (q_paintedLow, .inl (ky 1, 8, .inr (.inl s_paintedLow)))] H := hP
    replace hD : va_D A [(q_, .inr (3, [.int s_total, .ref q_kind, .ref q_allowed, .ref q_colour, .ref q_nearLow, .ref q_nearHigh, .ref q_paintedLow, .ref q_paintedHigh, .ref q_searched, .ref q_painted, .ref q_upcoming, .ref q_left, .ref q_leftByLatest])), (q_painted, .inl (ky 0, 128, .inl f1)), (q_paintedHigh, .inl (ky 1, 8, .inr (.inl f2))), (q_paintedLow, .inl (ky 1, 8, .inr (.inl s_paintedLow)))] := hD
    exact rt _ h _ _ _ _ dX3_paint_43 hP hD hS
  · replace h := if_f hc h
    refine lv_aload_n hx hb dX3_paint_13 rfl (lv_at hl 0 rfl) ?_
    refine va_get (D := D) (ci := 3) (v := .ref q_paintedLow) (C := RX3) (T := TX3) (N := 13) hx hb hts hi_X3 hown hK.1 hP 0 rfl rfl 6 (by decide) hf_28 (fun _ h9 => h9) rfl dX3_paint_14 ?_
    refine lv_iload_n hx hb dX3_paint_17 rfl (lv_at hl 2 rfl) ?_
    refine lv_dup2_11 hx hb dX3_paint_18 rfl rfl ?_
    obtain ⟨hg, h⟩ := gd_of h
    refine va_lald hx hb hK.1 hP 3 1 rfl rfl hg dX3_paint_19 ?_
    refine lv_lconst (v := 1) hx hb dX3_paint_20 (by decide) ?_
    refine lv_iload_n hx hb dX3_paint_21 rfl (lv_at hl 1 rfl) ?_
    refine lv_lshl (v := ((1 : Int64) <<< (a1.toInt64 &&& 63))) hx hb dX3_paint_22 rfl ?_
    refine lv_lor hx hb dX3_paint_23 ?_
    obtain ⟨hg, h⟩ := gd_of h
    refine r_last hx hb hK.1 hP hD hS 3 1 rfl rfl hg dX3_paint_24 (fun f3 ef3 H locs hP hD hS => ?_)
    replace h := lt_at ef3 h
    replace hP : va_P D vwCl [(q_, .inr (3, [.int s_total, .ref q_kind, .ref q_allowed, .ref q_colour, .ref q_nearLow, .ref q_nearHigh, .ref q_paintedLow, .ref q_paintedHigh, .ref q_searched, .ref q_painted, .ref q_upcoming, .ref q_left, .ref q_leftByLatest])), (q_painted, .inl (ky 0, 128, .inl f1)), (q_paintedHigh, .inl (ky 1, 8, .inr (.inl s_paintedHigh))), (q_paintedLow, .inl (ky 1, 8, .inr (.inl f3)))] H := hP
    replace hD : va_D A [(q_, .inr (3, [.int s_total, .ref q_kind, .ref q_allowed, .ref q_colour, .ref q_nearLow, .ref q_nearHigh, .ref q_paintedLow, .ref q_paintedHigh, .ref q_searched, .ref q_painted, .ref q_upcoming, .ref q_left, .ref q_leftByLatest])), (q_painted, .inl (ky 0, 128, .inl f1)), (q_paintedHigh, .inl (ky 1, 8, .inr (.inl s_paintedHigh))), (q_paintedLow, .inl (ky 1, 8, .inr (.inl f3)))] := hD
    refine lv_goto (tgt := 43) hx hb dX3_paint_25 (by decide) ?_
    exact rt _ h _ _ _ _ dX3_paint_43 hP hD hS

def sX3_unpaint (a1 : Int32) (s_painted : Nat → Int32) (s_paintedHigh : Nat → Int64) (s_paintedLow : Nat → Int64) : Option ((Nat → Int64) × (Nat → Int64)) := gd (¬ (a1 < 0 ∨ 128 ≤ a1.toNatClampNeg)) (lt (s_painted a1.toNatClampNeg) (fun x1 => if (64 : Int32) ≤ a1 then gd (¬ (x1 < 0 ∨ 8 ≤ x1.toNatClampNeg)) (gd (¬ (x1 < 0 ∨ 8 ≤ x1.toNatClampNeg)) (lt (vp_updL s_paintedHigh x1.toNatClampNeg ((s_paintedHigh x1.toNatClampNeg) &&& (((1 : Int64) <<< ((a1 - (64 : Int32)).toInt64 &&& 63)) ^^^ (-1 : Int64)))) (fun f2 => some (f2, s_paintedLow)))) else gd (¬ (x1 < 0 ∨ 8 ≤ x1.toNatClampNeg)) (gd (¬ (x1 < 0 ∨ 8 ≤ x1.toNatClampNeg)) (lt (vp_updL s_paintedLow x1.toNatClampNeg ((s_paintedLow x1.toNatClampNeg) &&& (((1 : Int64) <<< (a1.toInt64 &&& 63)) ^^^ (-1 : Int64)))) (fun f3 => some (s_paintedHigh, f3))))))
abbrev rmX3_unpaint : Room := { frames := 0, cells := 0, slots := 0, locals := 0 }
set_option maxHeartbeats 4000000 in
set_option maxRecDepth 100000 in
theorem c_X3_unpaint (l : Launch) (D : va_G) (ky : Nat → ClassId) (q_ q_kind q_allowed q_colour q_nearLow q_nearHigh q_paintedLow q_paintedHigh q_searched q_painted q_upcoming q_left q_leftByLatest : Nat) (a1 : Int32) (s_total : Int32) (s_painted : Nat → Int32) (s_paintedHigh : Nat → Int64) (s_paintedLow : Nat → Int64) {o_paintedHigh : Nat → Int64} {o_paintedLow : Nat → Int64} (h : sX3_unpaint a1 s_painted s_paintedHigh s_paintedLow = some (o_paintedHigh, o_paintedLow)) : MtV l D ky yX3_unpaint wsX3_unpaint rmX3_unpaint [.ref q_, .int a1] [(q_, .inr (3, [.int s_total, .ref q_kind, .ref q_allowed, .ref q_colour, .ref q_nearLow, .ref q_nearHigh, .ref q_paintedLow, .ref q_paintedHigh, .ref q_searched, .ref q_painted, .ref q_upcoming, .ref q_left, .ref q_leftByLatest])), (q_painted, .inl (ky 0, 128, .inl s_painted)), (q_paintedHigh, .inl (ky 1, 8, .inr (.inl s_paintedHigh))), (q_paintedLow, .inl (ky 1, 8, .inr (.inl s_paintedLow)))] [(q_, .inr (3, [.int s_total, .ref q_kind, .ref q_allowed, .ref q_colour, .ref q_nearLow, .ref q_nearHigh, .ref q_paintedLow, .ref q_paintedHigh, .ref q_searched, .ref q_painted, .ref q_upcoming, .ref q_left, .ref q_leftByLatest])), (q_painted, .inl (ky 0, 128, .inl s_painted)), (q_paintedHigh, .inl (ky 1, 8, .inr (.inl o_paintedHigh))), (q_paintedLow, .inl (ky 1, 8, .inr (.inl o_paintedLow)))] 0 0 := by
  refine MtV.of (cc := cX3_unpaint) (maxL := 3) (by decide +kernel) rfl (Nat.le_of_ble_eq_true rfl) ?_
  intro p e R s m args below meth c A Q ls hR hx hb hts hown hnm hml hP hK hD hA ret hl
  have rt := rtV (dc := fun pc => decode cX3_unpaint pc = .ok (.return_, 1)) (o_paintedHigh, o_paintedLow) (fun t => [(q_, .inr (3, [.int s_total, .ref q_kind, .ref q_allowed, .ref q_colour, .ref q_nearLow, .ref q_nearHigh, .ref q_paintedLow, .ref q_paintedHigh, .ref q_searched, .ref q_painted, .ref q_upcoming, .ref q_left, .ref q_leftByLatest])), (q_painted, .inl (ky 0, 128, .inl s_painted)), (q_paintedHigh, .inl (ky 1, 8, .inr (.inl t.1))), (q_paintedLow, .inl (ky 1, 8, .inr (.inl t.2)))]) ret
  subst hR
  obtain ⟨H, hH⟩ : ∃ H, H = s.heap := ⟨_, rfl⟩
  obtain ⟨locs, hlocs⟩ : ∃ locs : List Loc, locs = [] := ⟨_, rfl⟩
  have hS : va_S A s.heap H locs := by rw [hH, hlocs]; exact va_S.rf
  rw [← hH] at hP
  suffices hgo : W p l e rmX3_unpaint s m args below meth c H locs 0 0 Q (F0 m 0 ls []) by rw [hH, hlocs] at hgo; exact hgo
  clear hH hlocs
  replace hl : lv_has ls 3 [(0, .ref q_), (1, .int a1)] := hl
  replace hown : s.vm.findClass RX3 = some m.cls := hown
  have hi_X3 : ∀ w ∈ u_ws RX3 TX3 13, w ∈ wsX3_unpaint := fun _ h9 => List.mem_cons_of_mem _ (List.mem_append_right _ h9)
  have hf_37 := hts (.fieldLink RX3 37 "GlazierBench$Glazing" "painted" "[I") (by decide +kernel)
  have hf_31 := hts (.fieldLink RX3 31 "GlazierBench$Glazing" "paintedHigh" "[J") (by decide +kernel)
  have hk_94 := hts (.constantLong RX3 94 (-1)) (by decide +kernel)
  have hf_28 := hts (.fieldLink RX3 28 "GlazierBench$Glazing" "paintedLow" "[J") (by decide +kernel)
  unfold sX3_unpaint at h
  refine lv_aload_n hx hb dX3_unpaint_0 rfl (lv_at hl 0 rfl) ?_
  refine va_get (D := D) (ci := 3) (v := .ref q_painted) (C := RX3) (T := TX3) (N := 13) hx hb hts hi_X3 hown hK.1 hP 0 rfl rfl 9 (by decide) hf_37 (fun _ h9 => h9) rfl dX3_unpaint_1 ?_
  refine lv_iload_n hx hb dX3_unpaint_4 rfl (lv_at hl 1 rfl) ?_
  obtain ⟨hg, h⟩ := gd_of h
  refine va_iald hx hb hK.1 hP 1 0 rfl rfl hg dX3_unpaint_5 ?_
  refine lv_topi (fun x1 ex1 => ?_)
  replace h := lt_at ex1 h
  refine lv_istore_n (lv' := [(2, .int x1), (0, .ref q_), (1, .int a1)]) hx hb dX3_unpaint_6 rfl hl (by decide) rfl (fun ls hl => ?_)
  refine lv_iload_n hx hb dX3_unpaint_7 rfl (lv_at hl 2 rfl) ?_
  refine lv_bipush (v := 64) hx hb dX3_unpaint_8 (by decide) ?_
  refine lv_icmp_ge (tgt := 32) hx hb dX3_unpaint_10 (by decide) (fun hc => ?_) (fun hc => ?_)
  · replace h := if_t hc h
    refine lv_aload_n hx hb dX3_unpaint_32 rfl (lv_at hl 1 rfl) ?_
    refine va_get (D := D) (ci := 3) (v := .ref q_paintedHigh) (C := RX3) (T := TX3) (N := 13) hx hb hts hi_X3 hown hK.1 hP 0 rfl rfl 7 (by decide) hf_31 (fun _ h9 => h9) rfl dX3_unpaint_33 ?_
    refine lv_iload_n hx hb dX3_unpaint_36 rfl (lv_at hl 0 rfl) ?_
    refine lv_dup2_11 hx hb dX3_unpaint_37 rfl rfl ?_
    obtain ⟨hg, h⟩ := gd_of h
    refine va_lald hx hb hK.1 hP 2 1 rfl rfl hg dX3_unpaint_38 ?_
    refine lv_lconst (v := 1) hx hb dX3_unpaint_39 (by decide) ?_
    refine lv_iload_n hx hb dX3_unpaint_40 rfl (lv_at hl 2 rfl) ?_
    refine lv_bipush (v := 64) hx hb dX3_unpaint_41 (by decide) ?_
    refine lv_isub hx hb dX3_unpaint_43 ?_
    refine lv_lshl (v := ((1 : Int64) <<< ((a1 - (64 : Int32)).toInt64 &&& 63))) hx hb dX3_unpaint_44 rfl ?_
    refine lv_ldc2 hx hb hown hk_94 dX3_unpaint_45 ?_
    refine lv_lxor hx hb dX3_unpaint_48 ?_
    refine lv_land hx hb dX3_unpaint_49 ?_
    obtain ⟨hg, h⟩ := gd_of h
    refine r_last hx hb hK.1 hP hD hS 2 1 rfl rfl hg dX3_unpaint_50 (fun f2 ef2 H locs hP hD hS => ?_)
    replace h := lt_at ef2 h
    replace hP : va_P D vwCl [(q_, .inr (3, [.int s_total, .ref q_kind, .ref q_allowed, .ref q_colour, .ref q_nearLow, .ref q_nearHigh, .ref q_paintedLow, .ref q_paintedHigh, .ref q_searched, .ref q_painted, .ref q_upcoming, .ref q_left, .ref q_leftByLatest])), (q_painted, .inl (ky 0, 128, .inl s_painted)), (q_paintedHigh, .inl (ky 1, 8, .inr (.inl f2))), (q_paintedLow, .inl (ky 1, 8, .inr (.inl s_paintedLow)))] H := hP
    replace hD : va_D A [(q_, .inr (3, [.int s_total, .ref q_kind, .ref q_allowed, .ref q_colour, .ref q_nearLow, .ref q_nearHigh, .ref q_paintedLow, .ref q_paintedHigh, .ref q_searched, .ref q_painted, .ref q_upcoming, .ref q_left, .ref q_leftByLatest])), (q_painted, .inl (ky 0, 128, .inl s_painted)), (q_paintedHigh, .inl (ky 1, 8, .inr (.inl f2))), (q_paintedLow, .inl (ky 1, 8, .inr (.inl s_paintedLow)))] := hD
    exact rt _ h _ _ _ _ dX3_unpaint_51 hP hD hS
  · replace h := if_f hc h
    refine lv_aload_n hx hb dX3_unpaint_13 rfl (lv_at hl 1 rfl) ?_
    refine va_get (D := D) (ci := 3) (v := .ref q_paintedLow) (C := RX3) (T := TX3) (N := 13) hx hb hts hi_X3 hown hK.1 hP 0 rfl rfl 6 (by decide) hf_28 (fun _ h9 => h9) rfl dX3_unpaint_14 ?_
    refine lv_iload_n hx hb dX3_unpaint_17 rfl (lv_at hl 0 rfl) ?_
    refine lv_dup2_11 hx hb dX3_unpaint_18 rfl rfl ?_
    obtain ⟨hg, h⟩ := gd_of h
    refine va_lald hx hb hK.1 hP 3 1 rfl rfl hg dX3_unpaint_19 ?_
    refine lv_lconst (v := 1) hx hb dX3_unpaint_20 (by decide) ?_
    refine lv_iload_n hx hb dX3_unpaint_21 rfl (lv_at hl 2 rfl) ?_
    refine lv_lshl (v := ((1 : Int64) <<< (a1.toInt64 &&& 63))) hx hb dX3_unpaint_22 rfl ?_
    refine lv_ldc2 hx hb hown hk_94 dX3_unpaint_23 ?_
    refine lv_lxor hx hb dX3_unpaint_26 ?_
    refine lv_land hx hb dX3_unpaint_27 ?_
    obtain ⟨hg, h⟩ := gd_of h
    refine r_last hx hb hK.1 hP hD hS 3 1 rfl rfl hg dX3_unpaint_28 (fun f3 ef3 H locs hP hD hS => ?_)
    replace h := lt_at ef3 h
    replace hP : va_P D vwCl [(q_, .inr (3, [.int s_total, .ref q_kind, .ref q_allowed, .ref q_colour, .ref q_nearLow, .ref q_nearHigh, .ref q_paintedLow, .ref q_paintedHigh, .ref q_searched, .ref q_painted, .ref q_upcoming, .ref q_left, .ref q_leftByLatest])), (q_painted, .inl (ky 0, 128, .inl s_painted)), (q_paintedHigh, .inl (ky 1, 8, .inr (.inl s_paintedHigh))), (q_paintedLow, .inl (ky 1, 8, .inr (.inl f3)))] H := hP
    replace hD : va_D A [(q_, .inr (3, [.int s_total, .ref q_kind, .ref q_allowed, .ref q_colour, .ref q_nearLow, .ref q_nearHigh, .ref q_paintedLow, .ref q_paintedHigh, .ref q_searched, .ref q_painted, .ref q_upcoming, .ref q_left, .ref q_leftByLatest])), (q_painted, .inl (ky 0, 128, .inl s_painted)), (q_paintedHigh, .inl (ky 1, 8, .inr (.inl s_paintedHigh))), (q_paintedLow, .inl (ky 1, 8, .inr (.inl f3)))] := hD
    refine lv_goto (tgt := 51) hx hb dX3_unpaint_29 (by decide) ?_
    exact rt _ h _ _ _ _ dX3_unpaint_51 hP hD hS

def bX3_search_13 (a1 : Int32) (s_allowed : Nat → Int32) (s_nearHigh : Nat → Int64) (s_nearLow : Nat → Int64) (r1 : Int32) (o4 : Nat → Int32) (t : Int32 × Int32 × Int32 × (Nat → Int32) × (Nat → Int64) × (Nat → Int64) × (Nat → Int32)) : Option (Nat × (Int32 × Int32 × Int32 × (Nat → Int32) × (Nat → Int64) × (Nat → Int64) × (Nat → Int32))) := dm7 t (fun (v6 : Int32) (v7 : Int32) (v8 : Int32) (v9 : Nat → Int32) (v10 : Nat → Int64) (v11 : Nat → Int64) (v12 : Nat → Int32) => if (((2 : Int32) * a1) + (3 : Int32)) ≤ v8 then some (3, (v6, v7, v8, v9, v10, v11, v12)) else if r1 ≤ v6 then some (3, (v6, v7, v8, v9, v10, v11, v12)) else gd (¬ (v6 < 0 ∨ 128 ≤ v6.toNatClampNeg)) (lt (o4 v6.toNatClampNeg) (fun x13 => gd (¬ (v6 < 0 ∨ 128 ≤ v6.toNatClampNeg)) (ob (sX3_nextAllowed x13 (v12 v6.toNatClampNeg) s_allowed) (fun o => dm1 o (fun (r14 : Int32) => if (8 : Int32) ≤ r14 then if ¬ v6 = 0 then gd (¬ (v6 < 0 ∨ 128 ≤ v6.toNatClampNeg)) (lt (upd v12 v6.toNatClampNeg (0 : Int32)) (fun f15 => lt (v6 + (-1)) (fun x16 => gd (¬ (x16 < 0 ∨ 128 ≤ x16.toNatClampNeg)) (ob (sX3_unpaint (o4 x16.toNatClampNeg) v9 v10 v11) (fun o => dm2 o (fun (o17 : Nat → Int64) (o18 : Nat → Int64) => lt (v8 + 1) (fun x19 => some (0, (x16, v7, x19, v9, o17, o18, f15))))))))) else some (2, (v6, v7, v8, v9, v10, v11, v12)) else if v7 < a1 then lt (v7 + 1) (fun x20 => gd (¬ (v6 < 0 ∨ 128 ≤ v6.toNatClampNeg)) (lt (upd v12 v6.toNatClampNeg (r14 + (1 : Int32))) (fun f21 => ob (sX3_differs x13 r14 s_nearHigh s_nearLow v10 v11) (fun o => dm1 o (fun (r22 : Int32) => ob (if r22 = 0 then some (v6, v9, v10, v11) else ob (sX3_paint x13 r14 v9 v10 v11) (fun o => dm3 o (fun (o28 : Nat → Int32) (o29 : Nat → Int64) (o30 : Nat → Int64) => lt (v6 + 1) (fun x31 => some (x31, o28, o29, o30))))) (fun t => dm4 t (fun (v23 : Int32) (v24 : Nat → Int32) (v25 : Nat → Int64) (v26 : Nat → Int64) => lt (v8 + 1) (fun x27 => some (0, (v23, x20, x27, v24, v25, v26, f21)))))))))) else some (1, (v6, v7, v8, v9, v10, v11, v12))))))))
def sX3_search (a1 : Int32) (s_total : Int32) (s_allowed : Nat → Int32) (s_left : Nat → Int32) (s_nearHigh : Nat → Int64) (s_nearLow : Nat → Int64) (s_painted : Nat → Int32) (s_paintedHigh : Nat → Int64) (s_paintedLow : Nat → Int64) (s_searched : Nat → Int32) (s_upcoming : Nat → Int32) : Option (Int32 × (Nat → Int32) × (Nat → Int64) × (Nat → Int64) × (Nat → Int32) × (Nat → Int32)) := ob (sX3_listSearched s_total s_left s_paintedHigh s_paintedLow s_searched s_upcoming) (fun o => dm5 o (fun (r1 : Int32) (o2 : Nat → Int64) (o3 : Nat → Int64) (o4 : Nat → Int32) (o5 : Nat → Int32) => ob (iter (bX3_search_13 a1 s_allowed s_nearHigh s_nearLow r1 o4) FU ((0 : Int32), (0 : Int32), (0 : Int32), s_painted, o2, o3, o5)) (fun kt => ex3 kt (fun t => dm7 t (fun (v32 : Int32) (v33 : Int32) (v34 : Int32) (v35 : Nat → Int32) (v36 : Nat → Int64) (v37 : Nat → Int64) (v38 : Nat → Int32) => some ((-6 : Int32), v35, v36, v37, o4, v38))) (fun t => dm7 t (fun (v39 : Int32) (v40 : Int32) (v41 : Int32) (v42 : Nat → Int32) (v43 : Nat → Int64) (v44 : Nat → Int64) (v45 : Nat → Int32) => some ((0 : Int32), v42, v43, v44, o4, v45))) (fun t => dm7 t (fun (v46 : Int32) (v47 : Int32) (v48 : Int32) (v49 : Nat → Int32) (v50 : Nat → Int64) (v51 : Nat → Int64) (v52 : Nat → Int32) => if r1 ≤ v46 then some ((1 : Int32), v49, v50, v51, o4, v52) else some ((-6 : Int32), v49, v50, v51, o4, v52))))))
abbrev rmX3_search : Room := { frames := 1, cells := 0, slots := 0, locals := 23 }
set_option maxHeartbeats 4000000 in
set_option maxRecDepth 100000 in
theorem c_X3_search (l : Launch) (D : va_G) (ky : Nat → ClassId) (q_ q_kind q_allowed q_colour q_nearLow q_nearHigh q_paintedLow q_paintedHigh q_searched q_painted q_upcoming q_left q_leftByLatest : Nat) (a1 : Int32) (s_total : Int32) (s_allowed : Nat → Int32) (s_left : Nat → Int32) (s_nearHigh : Nat → Int64) (s_nearLow : Nat → Int64) (s_painted : Nat → Int32) (s_paintedHigh : Nat → Int64) (s_paintedLow : Nat → Int64) (s_searched : Nat → Int32) (s_upcoming : Nat → Int32) {o_r : Int32} {o_painted : Nat → Int32} {o_paintedHigh : Nat → Int64} {o_paintedLow : Nat → Int64} {o_searched : Nat → Int32} {o_upcoming : Nat → Int32} (h : sX3_search a1 s_total s_allowed s_left s_nearHigh s_nearLow s_painted s_paintedHigh s_paintedLow s_searched s_upcoming = some (o_r, o_painted, o_paintedHigh, o_paintedLow, o_searched, o_upcoming)) : MtI l D ky yX3_search wsX3_search rmX3_search [.ref q_, .int a1] [(q_, .inr (3, [.int s_total, .ref q_kind, .ref q_allowed, .ref q_colour, .ref q_nearLow, .ref q_nearHigh, .ref q_paintedLow, .ref q_paintedHigh, .ref q_searched, .ref q_painted, .ref q_upcoming, .ref q_left, .ref q_leftByLatest])), (q_allowed, .inl (ky 0, 128, .inl s_allowed)), (q_left, .inl (ky 2, 128, .inl s_left)), (q_nearHigh, .inl (ky 1, 128, .inr (.inl s_nearHigh))), (q_nearLow, .inl (ky 1, 128, .inr (.inl s_nearLow))), (q_painted, .inl (ky 0, 128, .inl s_painted)), (q_paintedHigh, .inl (ky 1, 8, .inr (.inl s_paintedHigh))), (q_paintedLow, .inl (ky 1, 8, .inr (.inl s_paintedLow))), (q_searched, .inl (ky 0, 128, .inl s_searched)), (q_upcoming, .inl (ky 0, 128, .inl s_upcoming))] [(q_, .inr (3, [.int s_total, .ref q_kind, .ref q_allowed, .ref q_colour, .ref q_nearLow, .ref q_nearHigh, .ref q_paintedLow, .ref q_paintedHigh, .ref q_searched, .ref q_painted, .ref q_upcoming, .ref q_left, .ref q_leftByLatest])), (q_allowed, .inl (ky 0, 128, .inl s_allowed)), (q_left, .inl (ky 2, 128, .inl s_left)), (q_nearHigh, .inl (ky 1, 128, .inr (.inl s_nearHigh))), (q_nearLow, .inl (ky 1, 128, .inr (.inl s_nearLow))), (q_painted, .inl (ky 0, 128, .inl o_painted)), (q_paintedHigh, .inl (ky 1, 8, .inr (.inl o_paintedHigh))), (q_paintedLow, .inl (ky 1, 8, .inr (.inl o_paintedLow))), (q_searched, .inl (ky 0, 128, .inl o_searched)), (q_upcoming, .inl (ky 0, 128, .inl o_upcoming))] o_r 0 0 := by
  refine MtI.of (cc := cX3_search) (maxL := 8) (by decide +kernel) rfl (Nat.le_of_ble_eq_true rfl) ?_
  intro p e R s m args below meth c A Q ls hR hx hb hts hown hnm hml hP hK hD hA ret hl
  have rt := rtI (dc := fun pc => decode cX3_search pc = .ok (.ireturn, 1)) (o_r, o_painted, o_paintedHigh, o_paintedLow, o_searched, o_upcoming) (fun t => [(q_, .inr (3, [.int s_total, .ref q_kind, .ref q_allowed, .ref q_colour, .ref q_nearLow, .ref q_nearHigh, .ref q_paintedLow, .ref q_paintedHigh, .ref q_searched, .ref q_painted, .ref q_upcoming, .ref q_left, .ref q_leftByLatest])), (q_allowed, .inl (ky 0, 128, .inl s_allowed)), (q_left, .inl (ky 2, 128, .inl s_left)), (q_nearHigh, .inl (ky 1, 128, .inr (.inl s_nearHigh))), (q_nearLow, .inl (ky 1, 128, .inr (.inl s_nearLow))), (q_painted, .inl (ky 0, 128, .inl t.2.1)), (q_paintedHigh, .inl (ky 1, 8, .inr (.inl t.2.2.1))), (q_paintedLow, .inl (ky 1, 8, .inr (.inl t.2.2.2.1))), (q_searched, .inl (ky 0, 128, .inl t.2.2.2.2.1)), (q_upcoming, .inl (ky 0, 128, .inl t.2.2.2.2.2))]) (fun t => t.1) ret
  subst hR
  obtain ⟨H, hH⟩ : ∃ H, H = s.heap := ⟨_, rfl⟩
  obtain ⟨locs, hlocs⟩ : ∃ locs : List Loc, locs = [] := ⟨_, rfl⟩
  have hS : va_S A s.heap H locs := by rw [hH, hlocs]; exact va_S.rf
  rw [← hH] at hP
  suffices hgo : W p l e rmX3_search s m args below meth c H locs 0 0 Q (F0 m 0 ls []) by rw [hH, hlocs] at hgo; exact hgo
  clear hH hlocs
  replace hl : lv_has ls 8 [(0, .ref q_), (1, .int a1)] := hl
  replace hown : s.vm.findClass RX3 = some m.cls := hown
  have hi_X3 : ∀ w ∈ u_ws RX3 TX3 13, w ∈ wsX3_search := fun _ h9 => List.mem_cons_of_mem _ (List.mem_append_right _ h9)
  have hf_34 := hts (.fieldLink RX3 34 "GlazierBench$Glazing" "searched" "[I") (by decide +kernel)
  have hf_40 := hts (.fieldLink RX3 40 "GlazierBench$Glazing" "upcoming" "[I") (by decide +kernel)
  unfold sX3_search at h
  refine lv_aload_n hx hb dX3_search_0 rfl (lv_at hl 0 rfl) ?_
  obtain ⟨⟨r1, o2, o3, o4, o5⟩, hc, h⟩ := ob_of h
  replace h := dm5_of h
  refine cv_i (As := []) (rest := []) (wr := [(q_allowed, .inl (ky 0, 128, .inl s_allowed)), (q_nearHigh, .inl (ky 1, 128, .inr (.inl s_nearHigh))), (q_nearLow, .inl (ky 1, 128, .inr (.inl s_nearLow))), (q_painted, .inl (ky 0, 128, .inl s_painted))]) (wn := [(q_, .inr (3, [.int s_total, .ref q_kind, .ref q_allowed, .ref q_colour, .ref q_nearLow, .ref q_nearHigh, .ref q_paintedLow, .ref q_paintedHigh, .ref q_searched, .ref q_painted, .ref q_upcoming, .ref q_left, .ref q_leftByLatest])), (q_allowed, .inl (ky 0, 128, .inl s_allowed)), (q_left, .inl (ky 2, 128, .inl s_left)), (q_nearHigh, .inl (ky 1, 128, .inr (.inl s_nearHigh))), (q_nearLow, .inl (ky 1, 128, .inr (.inl s_nearLow))), (q_painted, .inl (ky 0, 128, .inl s_painted)), (q_paintedHigh, .inl (ky 1, 8, .inr (.inl o2))), (q_paintedLow, .inl (ky 1, 8, .inr (.inl o3))), (q_searched, .inl (ky 0, 128, .inl o4)), (q_upcoming, .inl (ky 0, 128, .inl o5))]) ⟨hx, hb, hml, hown, hts⟩ (c_X3_listSearched l D ky q_ q_kind q_allowed q_colour q_nearLow q_nearHigh q_paintedLow q_paintedHigh q_searched q_painted q_upcoming q_left q_leftByLatest s_total s_left s_paintedHigh s_paintedLow s_searched s_upcoming hc) (cwV 0 hts gX3_search_X3_listSearched rfl rfl rfl (by decide +kernel) ⟨Nat.le_of_ble_eq_true rfl, Nat.le_of_ble_eq_true rfl⟩) (rcv hK.1 hP (q0 := 0) rfl rfl) hP hD hK hS hA [0, 2, 6, 7, 8, 9] [1, 3, 4, 5] [4, 0, 5, 1, 2, 3, 6, 7, 8, 9] rfl (by decide +kernel) rfl (by decide +kernel) (by decide +kernel) (by decide +kernel) rfl rfl rfl hl.1 (Nat.le_of_ble_eq_true rfl) dX3_search_1 ⟨Nat.le_of_ble_eq_true rfl, Nat.le_of_ble_eq_true rfl⟩ (fun H locs hP hD hS => ?_)
  refine lv_istore_n (lv' := [(2, .int r1), (0, .ref q_), (1, .int a1)]) hx hb dX3_search_4 rfl hl (by decide) rfl (fun ls hl => ?_)
  refine lv_iconst (v := 0) hx hb dX3_search_5 (by decide) ?_
  refine lv_istore_n (lv' := [(3, .int (0 : Int32)), (2, .int r1), (0, .ref q_), (1, .int a1)]) hx hb dX3_search_6 rfl hl (by decide) rfl (fun ls hl => ?_)
  refine lv_iconst (v := 0) hx hb dX3_search_7 (by decide) ?_
  refine lv_istore (lv' := [(4, .int (0 : Int32)), (3, .int (0 : Int32)), (2, .int r1), (0, .ref q_), (1, .int a1)]) hx hb dX3_search_8 hl (by decide) rfl (fun ls hl => ?_)
  refine lv_iconst (v := 0) hx hb dX3_search_10 (by decide) ?_
  refine lv_istore (lv' := [(5, .int (0 : Int32)), (4, .int (0 : Int32)), (3, .int (0 : Int32)), (2, .int r1), (0, .ref q_), (1, .int a1)]) hx hb dX3_search_11 hl (by decide) rfl (fun ls hl => ?_)
  obtain ⟨⟨k, t⟩, hi, h⟩ := ob_of h
  refine iter_rule (P := fun (k : Nat) (t : Int32 × Int32 × Int32 × (Nat → Int32) × (Nat → Int64) × (Nat → Int64) × (Nat → Int32)) => ∀ (H : Heap) (locs : List Loc) (ls : Array Slot), va_P D vwCl [(q_, .inr (3, [.int s_total, .ref q_kind, .ref q_allowed, .ref q_colour, .ref q_nearLow, .ref q_nearHigh, .ref q_paintedLow, .ref q_paintedHigh, .ref q_searched, .ref q_painted, .ref q_upcoming, .ref q_left, .ref q_leftByLatest])), (q_allowed, .inl (ky 0, 128, .inl s_allowed)), (q_left, .inl (ky 2, 128, .inl s_left)), (q_nearHigh, .inl (ky 1, 128, .inr (.inl s_nearHigh))), (q_nearLow, .inl (ky 1, 128, .inr (.inl s_nearLow))), (q_painted, .inl (ky 0, 128, .inl t.2.2.2.1)), (q_paintedHigh, .inl (ky 1, 8, .inr (.inl t.2.2.2.2.1))), (q_paintedLow, .inl (ky 1, 8, .inr (.inl t.2.2.2.2.2.1))), (q_searched, .inl (ky 0, 128, .inl o4)), (q_upcoming, .inl (ky 0, 128, .inl t.2.2.2.2.2.2))] H → va_D A [(q_, .inr (3, [.int s_total, .ref q_kind, .ref q_allowed, .ref q_colour, .ref q_nearLow, .ref q_nearHigh, .ref q_paintedLow, .ref q_paintedHigh, .ref q_searched, .ref q_painted, .ref q_upcoming, .ref q_left, .ref q_leftByLatest])), (q_allowed, .inl (ky 0, 128, .inl s_allowed)), (q_left, .inl (ky 2, 128, .inl s_left)), (q_nearHigh, .inl (ky 1, 128, .inr (.inl s_nearHigh))), (q_nearLow, .inl (ky 1, 128, .inr (.inl s_nearLow))), (q_painted, .inl (ky 0, 128, .inl t.2.2.2.1)), (q_paintedHigh, .inl (ky 1, 8, .inr (.inl t.2.2.2.2.1))), (q_paintedLow, .inl (ky 1, 8, .inr (.inl t.2.2.2.2.2.1))), (q_searched, .inl (ky 0, 128, .inl o4)), (q_upcoming, .inl (ky 0, 128, .inl t.2.2.2.2.2.2))] → va_S A s.heap H locs → lv_has ls 8 [(0, .ref q_), (1, .int a1), (2, .int r1), (3, .int t.1), (4, .int t.2.1), (5, .int t.2.2.1)] → W p l e rmX3_search s m args below meth c H locs 0 0 Q (F0 m ([13, 63, 108, 136].getD k 0) ls [])) ?_ _ _ _ _ hi ?_ H locs ls hP hD hS (lv_sub hl [4, 5, 3, 2, 1, 0] rfl)
  · clear h hi hP hD hS hl
    intro t k t' h K
    obtain ⟨v6, v7, v8, v9, v10, v11, v12⟩ := t
    intro H locs ls hP hD hS hl
    replace h := dm7_of h
    replace hP : va_P D vwCl [(q_, .inr (3, [.int s_total, .ref q_kind, .ref q_allowed, .ref q_colour, .ref q_nearLow, .ref q_nearHigh, .ref q_paintedLow, .ref q_paintedHigh, .ref q_searched, .ref q_painted, .ref q_upcoming, .ref q_left, .ref q_leftByLatest])), (q_allowed, .inl (ky 0, 128, .inl s_allowed)), (q_left, .inl (ky 2, 128, .inl s_left)), (q_nearHigh, .inl (ky 1, 128, .inr (.inl s_nearHigh))), (q_nearLow, .inl (ky 1, 128, .inr (.inl s_nearLow))), (q_painted, .inl (ky 0, 128, .inl v9)), (q_paintedHigh, .inl (ky 1, 8, .inr (.inl v10))), (q_paintedLow, .inl (ky 1, 8, .inr (.inl v11))), (q_searched, .inl (ky 0, 128, .inl o4)), (q_upcoming, .inl (ky 0, 128, .inl v12))] H := hP
    replace hD : va_D A [(q_, .inr (3, [.int s_total, .ref q_kind, .ref q_allowed, .ref q_colour, .ref q_nearLow, .ref q_nearHigh, .ref q_paintedLow, .ref q_paintedHigh, .ref q_searched, .ref q_painted, .ref q_upcoming, .ref q_left, .ref q_leftByLatest])), (q_allowed, .inl (ky 0, 128, .inl s_allowed)), (q_left, .inl (ky 2, 128, .inl s_left)), (q_nearHigh, .inl (ky 1, 128, .inr (.inl s_nearHigh))), (q_nearLow, .inl (ky 1, 128, .inr (.inl s_nearLow))), (q_painted, .inl (ky 0, 128, .inl v9)), (q_paintedHigh, .inl (ky 1, 8, .inr (.inl v10))), (q_paintedLow, .inl (ky 1, 8, .inr (.inl v11))), (q_searched, .inl (ky 0, 128, .inl o4)), (q_upcoming, .inl (ky 0, 128, .inl v12))] := hD
    replace hl : lv_has ls 8 [(0, .ref q_), (1, .int a1), (2, .int r1), (3, .int v6), (4, .int v7), (5, .int v8)] := hl
    refine lv_iload hx hb dX3_search_13 (lv_at hl 5 rfl) ?_
    refine lv_iconst (v := 2) hx hb dX3_search_15 (by decide) ?_
    refine lv_iload_n hx hb dX3_search_16 rfl (lv_at hl 1 rfl) ?_
    refine lv_imul hx hb dX3_search_17 ?_
    refine lv_iconst (v := 3) hx hb dX3_search_18 (by decide) ?_
    refine lv_iadd hx hb dX3_search_19 ?_
    refine lv_icmp_ge (tgt := 136) hx hb dX3_search_20 (by decide) (fun hc => ?_) (fun hc => ?_)
    · replace h := if_t hc h
      cases h
      exact K _ _ _ hP hD hS (lv_sub hl [0, 1, 2, 3, 4, 5] rfl)
    · replace h := if_f hc h
      refine lv_iload_n hx hb dX3_search_23 rfl (lv_at hl 3 rfl) ?_
      refine lv_iload_n hx hb dX3_search_24 rfl (lv_at hl 2 rfl) ?_
      refine lv_icmp_ge (tgt := 136) hx hb dX3_search_25 (by decide) (fun hc => ?_) (fun hc => ?_)
      · replace h := if_t hc h
        cases h
        exact K _ _ _ hP hD hS (lv_sub hl [0, 1, 2, 3, 4, 5] rfl)
      · replace h := if_f hc h
        refine lv_aload_n hx hb dX3_search_28 rfl (lv_at hl 0 rfl) ?_
        refine va_get (D := D) (ci := 3) (v := .ref q_searched) (C := RX3) (T := TX3) (N := 13) hx hb hts hi_X3 hown hK.1 hP 0 rfl rfl 8 (by decide) hf_34 (fun _ h9 => h9) rfl dX3_search_29 ?_
        refine lv_iload_n hx hb dX3_search_32 rfl (lv_at hl 3 rfl) ?_
        obtain ⟨hg, h⟩ := gd_of h
        refine va_iald hx hb hK.1 hP 8 0 rfl rfl hg dX3_search_33 ?_
        refine lv_topi (fun x13 ex13 => ?_)
        replace h := lt_at ex13 h
        refine lv_istore (lv' := [(6, .int x13), (0, .ref q_), (1, .int a1), (2, .int r1), (3, .int v6), (4, .int v7), (5, .int v8)]) hx hb dX3_search_34 hl (by decide) rfl (fun ls hl => ?_)
        refine lv_aload_n hx hb dX3_search_36 rfl (lv_at hl 1 rfl) ?_
        refine lv_iload hx hb dX3_search_37 (lv_at hl 0 rfl) ?_
        refine lv_aload_n hx hb dX3_search_39 rfl (lv_at hl 1 rfl) ?_
        refine va_get (D := D) (ci := 3) (v := .ref q_upcoming) (C := RX3) (T := TX3) (N := 13) hx hb hts hi_X3 hown hK.1 hP 0 rfl rfl 10 (by decide) hf_40 (fun _ h9 => h9) rfl dX3_search_40 ?_
        refine lv_iload_n hx hb dX3_search_43 rfl (lv_at hl 4 rfl) ?_
        obtain ⟨hg, h⟩ := gd_of h
        refine va_iald hx hb hK.1 hP 9 0 rfl rfl hg dX3_search_44 ?_
        obtain ⟨r14, hc, h⟩ := ob_of h
        replace h := dm1_of h
        refine cv_i (As := [.int x13, .int (v12 v6.toNatClampNeg)]) (rest := []) (wr := [(q_left, .inl (ky 2, 128, .inl s_left)), (q_nearHigh, .inl (ky 1, 128, .inr (.inl s_nearHigh))), (q_nearLow, .inl (ky 1, 128, .inr (.inl s_nearLow))), (q_painted, .inl (ky 0, 128, .inl v9)), (q_paintedHigh, .inl (ky 1, 8, .inr (.inl v10))), (q_paintedLow, .inl (ky 1, 8, .inr (.inl v11))), (q_searched, .inl (ky 0, 128, .inl o4)), (q_upcoming, .inl (ky 0, 128, .inl v12))]) (wn := [(q_, .inr (3, [.int s_total, .ref q_kind, .ref q_allowed, .ref q_colour, .ref q_nearLow, .ref q_nearHigh, .ref q_paintedLow, .ref q_paintedHigh, .ref q_searched, .ref q_painted, .ref q_upcoming, .ref q_left, .ref q_leftByLatest])), (q_allowed, .inl (ky 0, 128, .inl s_allowed)), (q_left, .inl (ky 2, 128, .inl s_left)), (q_nearHigh, .inl (ky 1, 128, .inr (.inl s_nearHigh))), (q_nearLow, .inl (ky 1, 128, .inr (.inl s_nearLow))), (q_painted, .inl (ky 0, 128, .inl v9)), (q_paintedHigh, .inl (ky 1, 8, .inr (.inl v10))), (q_paintedLow, .inl (ky 1, 8, .inr (.inl v11))), (q_searched, .inl (ky 0, 128, .inl o4)), (q_upcoming, .inl (ky 0, 128, .inl v12))]) ⟨hx, hb, hml, hown, hts⟩ (c_X3_nextAllowed l D ky q_ q_kind q_allowed q_colour q_nearLow q_nearHigh q_paintedLow q_paintedHigh q_searched q_painted q_upcoming q_left q_leftByLatest x13 (v12 v6.toNatClampNeg) s_total s_allowed hc) (cwV 2 hts gX3_search_X3_nextAllowed rfl rfl rfl (by decide +kernel) ⟨Nat.le_of_ble_eq_true rfl, Nat.le_of_ble_eq_true rfl⟩) (rcv hK.1 hP (q0 := 0) rfl rfl) hP hD hK hS hA [0, 1] [2, 3, 4, 5, 6, 7, 8, 9] [8, 9, 0, 1, 2, 3, 4, 5, 6, 7] rfl (by decide +kernel) rfl (by decide +kernel) (by decide +kernel) (by decide +kernel) rfl rfl rfl hl.1 (Nat.le_of_ble_eq_true rfl) dX3_search_45 ⟨Nat.le_of_ble_eq_true rfl, Nat.le_of_ble_eq_true rfl⟩ (fun H locs hP hD hS => ?_)
        refine lv_istore (lv' := [(7, .int r14), (6, .int x13), (0, .ref q_), (1, .int a1), (2, .int r1), (3, .int v6), (4, .int v7), (5, .int v8)]) hx hb dX3_search_48 hl (by decide) rfl (fun ls hl => ?_)
        refine lv_iload hx hb dX3_search_50 (lv_at hl 0 rfl) ?_
        refine lv_bipush (v := 8) hx hb dX3_search_52 (by decide) ?_
        refine lv_icmp_ge (tgt := 104) hx hb dX3_search_54 (by decide) (fun hc => ?_) (fun hc => ?_)
        · replace h := if_t hc h
          refine lv_iload_n hx hb dX3_search_104 rfl (lv_at hl 5 rfl) ?_
          refine lv_if_ne (tgt := 110) hx hb dX3_search_105 (by decide) (fun hc => ?_) (fun hc => ?_)
          · replace h := if_t hc h
            refine lv_aload_n hx hb dX3_search_110 rfl (lv_at hl 2 rfl) ?_
            refine va_get (D := D) (ci := 3) (v := .ref q_upcoming) (C := RX3) (T := TX3) (N := 13) hx hb hts hi_X3 hown hK.1 hP 0 rfl rfl 10 (by decide) hf_40 (fun _ h9 => h9) rfl dX3_search_111 ?_
            refine lv_iload_n hx hb dX3_search_114 rfl (lv_at hl 5 rfl) ?_
            refine lv_iconst (v := 0) hx hb dX3_search_115 (by decide) ?_
            obtain ⟨hg, h⟩ := gd_of h
            refine r_iast hx hb hK.1 hP hD hS 9 0 rfl rfl hg dX3_search_116 (fun f15 ef15 H locs hP hD hS => ?_)
            replace h := lt_at ef15 h
            replace hP : va_P D vwCl [(q_, .inr (3, [.int s_total, .ref q_kind, .ref q_allowed, .ref q_colour, .ref q_nearLow, .ref q_nearHigh, .ref q_paintedLow, .ref q_paintedHigh, .ref q_searched, .ref q_painted, .ref q_upcoming, .ref q_left, .ref q_leftByLatest])), (q_allowed, .inl (ky 0, 128, .inl s_allowed)), (q_left, .inl (ky 2, 128, .inl s_left)), (q_nearHigh, .inl (ky 1, 128, .inr (.inl s_nearHigh))), (q_nearLow, .inl (ky 1, 128, .inr (.inl s_nearLow))), (q_painted, .inl (ky 0, 128, .inl v9)), (q_paintedHigh, .inl (ky 1, 8, .inr (.inl v10))), (q_paintedLow, .inl (ky 1, 8, .inr (.inl v11))), (q_searched, .inl (ky 0, 128, .inl o4)), (q_upcoming, .inl (ky 0, 128, .inl f15))] H := hP
            replace hD : va_D A [(q_, .inr (3, [.int s_total, .ref q_kind, .ref q_allowed, .ref q_colour, .ref q_nearLow, .ref q_nearHigh, .ref q_paintedLow, .ref q_paintedHigh, .ref q_searched, .ref q_painted, .ref q_upcoming, .ref q_left, .ref q_leftByLatest])), (q_allowed, .inl (ky 0, 128, .inl s_allowed)), (q_left, .inl (ky 2, 128, .inl s_left)), (q_nearHigh, .inl (ky 1, 128, .inr (.inl s_nearHigh))), (q_nearLow, .inl (ky 1, 128, .inr (.inl s_nearLow))), (q_painted, .inl (ky 0, 128, .inl v9)), (q_paintedHigh, .inl (ky 1, 8, .inr (.inl v10))), (q_paintedLow, .inl (ky 1, 8, .inr (.inl v11))), (q_searched, .inl (ky 0, 128, .inl o4)), (q_upcoming, .inl (ky 0, 128, .inl f15))] := hD
            obtain ⟨x16, ex16⟩ : ∃ z : Int32, z = v6 + (-1) := ⟨_, rfl⟩
            replace h := lt_at ex16 h
            refine lv_iinc (v := x16) (lv' := [(3, .int x16), (7, .int r14), (6, .int x13), (0, .ref q_), (1, .int a1), (2, .int r1), (4, .int v7), (5, .int v8)]) hx hb dX3_search_117 hl (k := 5) rfl (by rw [ex16]; rfl) (by decide) rfl (fun ls hl => ?_)
            refine lv_aload_n hx hb dX3_search_120 rfl (lv_at hl 3 rfl) ?_
            refine lv_aload_n hx hb dX3_search_121 rfl (lv_at hl 3 rfl) ?_
            refine va_get (D := D) (ci := 3) (v := .ref q_searched) (C := RX3) (T := TX3) (N := 13) hx hb hts hi_X3 hown hK.1 hP 0 rfl rfl 8 (by decide) hf_34 (fun _ h9 => h9) rfl dX3_search_122 ?_
            refine lv_iload_n hx hb dX3_search_125 rfl (lv_at hl 0 rfl) ?_
            obtain ⟨hg, h⟩ := gd_of h
            refine va_iald hx hb hK.1 hP 8 0 rfl rfl hg dX3_search_126 ?_
            obtain ⟨⟨o17, o18⟩, hc, h⟩ := ob_of h
            replace h := dm2_of h
            refine cv_v (As := [.int (o4 x16.toNatClampNeg)]) (rest := []) (wr := [(q_allowed, .inl (ky 0, 128, .inl s_allowed)), (q_left, .inl (ky 2, 128, .inl s_left)), (q_nearHigh, .inl (ky 1, 128, .inr (.inl s_nearHigh))), (q_nearLow, .inl (ky 1, 128, .inr (.inl s_nearLow))), (q_searched, .inl (ky 0, 128, .inl o4)), (q_upcoming, .inl (ky 0, 128, .inl f15))]) (wn := [(q_, .inr (3, [.int s_total, .ref q_kind, .ref q_allowed, .ref q_colour, .ref q_nearLow, .ref q_nearHigh, .ref q_paintedLow, .ref q_paintedHigh, .ref q_searched, .ref q_painted, .ref q_upcoming, .ref q_left, .ref q_leftByLatest])), (q_allowed, .inl (ky 0, 128, .inl s_allowed)), (q_left, .inl (ky 2, 128, .inl s_left)), (q_nearHigh, .inl (ky 1, 128, .inr (.inl s_nearHigh))), (q_nearLow, .inl (ky 1, 128, .inr (.inl s_nearLow))), (q_painted, .inl (ky 0, 128, .inl v9)), (q_paintedHigh, .inl (ky 1, 8, .inr (.inl o17))), (q_paintedLow, .inl (ky 1, 8, .inr (.inl o18))), (q_searched, .inl (ky 0, 128, .inl o4)), (q_upcoming, .inl (ky 0, 128, .inl f15))]) ⟨hx, hb, hml, hown, hts⟩ (c_X3_unpaint l D ky q_ q_kind q_allowed q_colour q_nearLow q_nearHigh q_paintedLow q_paintedHigh q_searched q_painted q_upcoming q_left q_leftByLatest (o4 x16.toNatClampNeg) s_total v9 v10 v11 hc) (cwV 1 hts gX3_search_X3_unpaint rfl rfl rfl (by decide +kernel) ⟨Nat.le_of_ble_eq_true rfl, Nat.le_of_ble_eq_true rfl⟩) (rcv hK.1 hP (q0 := 0) rfl rfl) hP hD hK hS hA [0, 5, 6, 7] [1, 2, 3, 4, 8, 9] [6, 0, 1, 2, 3, 7, 8, 9, 4, 5] rfl (by decide +kernel) rfl (by decide +kernel) (by decide +kernel) (by decide +kernel) rfl rfl rfl hl.1 (Nat.le_of_ble_eq_true rfl) dX3_search_127 ⟨Nat.le_of_ble_eq_true rfl, Nat.le_of_ble_eq_true rfl⟩ (fun H locs hP hD hS => ?_)
            obtain ⟨x19, ex19⟩ : ∃ z : Int32, z = v8 + 1 := ⟨_, rfl⟩
            replace h := lt_at ex19 h
            refine lv_iinc (v := x19) (lv' := [(5, .int x19), (3, .int x16), (7, .int r14), (6, .int x13), (0, .ref q_), (1, .int a1), (2, .int r1), (4, .int v7)]) hx hb dX3_search_130 hl (k := 7) rfl (by rw [ex19]; rfl) (by decide) rfl (fun ls hl => ?_)
            refine lv_goto (tgt := 13) hx hb dX3_search_133 (by decide) ?_
            cases h
            exact K _ _ _ hP hD hS (lv_sub hl [4, 5, 6, 1, 7, 0] rfl)
          · replace h := if_f (fun z => z hc) h
            cases h
            exact K _ _ _ hP hD hS (lv_sub hl [2, 3, 4, 5, 6, 7] rfl)
        · replace h := if_f hc h
          refine lv_iload hx hb dX3_search_57 (lv_at hl 6 rfl) ?_
          refine lv_iload_n hx hb dX3_search_59 rfl (lv_at hl 3 rfl) ?_
          refine lv_icmp_lt (tgt := 66) hx hb dX3_search_60 (by decide) (fun hc => ?_) (fun hc => ?_)
          · replace h := if_t hc h
            obtain ⟨x20, ex20⟩ : ∃ z : Int32, z = v7 + 1 := ⟨_, rfl⟩
            replace h := lt_at ex20 h
            refine lv_iinc (v := x20) (lv' := [(4, .int x20), (7, .int r14), (6, .int x13), (0, .ref q_), (1, .int a1), (2, .int r1), (3, .int v6), (5, .int v8)]) hx hb dX3_search_66 hl (k := 6) rfl (by rw [ex20]; rfl) (by decide) rfl (fun ls hl => ?_)
            refine lv_aload_n hx hb dX3_search_69 rfl (lv_at hl 3 rfl) ?_
            refine va_get (D := D) (ci := 3) (v := .ref q_upcoming) (C := RX3) (T := TX3) (N := 13) hx hb hts hi_X3 hown hK.1 hP 0 rfl rfl 10 (by decide) hf_40 (fun _ h9 => h9) rfl dX3_search_70 ?_
            refine lv_iload_n hx hb dX3_search_73 rfl (lv_at hl 6 rfl) ?_
            refine lv_iload hx hb dX3_search_74 (lv_at hl 1 rfl) ?_
            refine lv_iconst (v := 1) hx hb dX3_search_76 (by decide) ?_
            refine lv_iadd hx hb dX3_search_77 ?_
            obtain ⟨hg, h⟩ := gd_of h
            refine r_iast hx hb hK.1 hP hD hS 9 0 rfl rfl hg dX3_search_78 (fun f21 ef21 H locs hP hD hS => ?_)
            replace h := lt_at ef21 h
            replace hP : va_P D vwCl [(q_, .inr (3, [.int s_total, .ref q_kind, .ref q_allowed, .ref q_colour, .ref q_nearLow, .ref q_nearHigh, .ref q_paintedLow, .ref q_paintedHigh, .ref q_searched, .ref q_painted, .ref q_upcoming, .ref q_left, .ref q_leftByLatest])), (q_allowed, .inl (ky 0, 128, .inl s_allowed)), (q_left, .inl (ky 2, 128, .inl s_left)), (q_nearHigh, .inl (ky 1, 128, .inr (.inl s_nearHigh))), (q_nearLow, .inl (ky 1, 128, .inr (.inl s_nearLow))), (q_painted, .inl (ky 0, 128, .inl v9)), (q_paintedHigh, .inl (ky 1, 8, .inr (.inl v10))), (q_paintedLow, .inl (ky 1, 8, .inr (.inl v11))), (q_searched, .inl (ky 0, 128, .inl o4)), (q_upcoming, .inl (ky 0, 128, .inl f21))] H := hP
            replace hD : va_D A [(q_, .inr (3, [.int s_total, .ref q_kind, .ref q_allowed, .ref q_colour, .ref q_nearLow, .ref q_nearHigh, .ref q_paintedLow, .ref q_paintedHigh, .ref q_searched, .ref q_painted, .ref q_upcoming, .ref q_left, .ref q_leftByLatest])), (q_allowed, .inl (ky 0, 128, .inl s_allowed)), (q_left, .inl (ky 2, 128, .inl s_left)), (q_nearHigh, .inl (ky 1, 128, .inr (.inl s_nearHigh))), (q_nearLow, .inl (ky 1, 128, .inr (.inl s_nearLow))), (q_painted, .inl (ky 0, 128, .inl v9)), (q_paintedHigh, .inl (ky 1, 8, .inr (.inl v10))), (q_paintedLow, .inl (ky 1, 8, .inr (.inl v11))), (q_searched, .inl (ky 0, 128, .inl o4)), (q_upcoming, .inl (ky 0, 128, .inl f21))] := hD
            refine lv_aload_n hx hb dX3_search_79 rfl (lv_at hl 3 rfl) ?_
            refine lv_iload hx hb dX3_search_80 (lv_at hl 2 rfl) ?_
            refine lv_iload hx hb dX3_search_82 (lv_at hl 1 rfl) ?_
            obtain ⟨r22, hc, h⟩ := ob_of h
            replace h := dm1_of h
            refine cv_i (As := [.int x13, .int r14]) (rest := []) (wr := [(q_allowed, .inl (ky 0, 128, .inl s_allowed)), (q_left, .inl (ky 2, 128, .inl s_left)), (q_painted, .inl (ky 0, 128, .inl v9)), (q_searched, .inl (ky 0, 128, .inl o4)), (q_upcoming, .inl (ky 0, 128, .inl f21))]) (wn := [(q_, .inr (3, [.int s_total, .ref q_kind, .ref q_allowed, .ref q_colour, .ref q_nearLow, .ref q_nearHigh, .ref q_paintedLow, .ref q_paintedHigh, .ref q_searched, .ref q_painted, .ref q_upcoming, .ref q_left, .ref q_leftByLatest])), (q_allowed, .inl (ky 0, 128, .inl s_allowed)), (q_left, .inl (ky 2, 128, .inl s_left)), (q_nearHigh, .inl (ky 1, 128, .inr (.inl s_nearHigh))), (q_nearLow, .inl (ky 1, 128, .inr (.inl s_nearLow))), (q_painted, .inl (ky 0, 128, .inl v9)), (q_paintedHigh, .inl (ky 1, 8, .inr (.inl v10))), (q_paintedLow, .inl (ky 1, 8, .inr (.inl v11))), (q_searched, .inl (ky 0, 128, .inl o4)), (q_upcoming, .inl (ky 0, 128, .inl f21))]) ⟨hx, hb, hml, hown, hts⟩ (c_X3_differs l D ky q_ q_kind q_allowed q_colour q_nearLow q_nearHigh q_paintedLow q_paintedHigh q_searched q_painted q_upcoming q_left q_leftByLatest x13 r14 s_total s_nearHigh s_nearLow v10 v11 hc) (cwV 2 hts gX3_search_X3_differs rfl rfl rfl (by decide +kernel) ⟨Nat.le_of_ble_eq_true rfl, Nat.le_of_ble_eq_true rfl⟩) (rcv hK.1 hP (q0 := 0) rfl rfl) hP hD hK hS hA [0, 3, 4, 6, 7] [1, 2, 5, 8, 9] [5, 0, 1, 6, 7, 2, 8, 9, 3, 4] rfl (by decide +kernel) rfl (by decide +kernel) (by decide +kernel) (by decide +kernel) rfl rfl rfl hl.1 (Nat.le_of_ble_eq_true rfl) dX3_search_84 ⟨Nat.le_of_ble_eq_true rfl, Nat.le_of_ble_eq_true rfl⟩ (fun H locs hP hD hS => ?_)
            obtain ⟨t, hd, h⟩ := ob_of h
            have K : ∀ (H : Heap) (locs : List Loc) (ls : Array Slot), va_P D vwCl [(q_, .inr (3, [.int s_total, .ref q_kind, .ref q_allowed, .ref q_colour, .ref q_nearLow, .ref q_nearHigh, .ref q_paintedLow, .ref q_paintedHigh, .ref q_searched, .ref q_painted, .ref q_upcoming, .ref q_left, .ref q_leftByLatest])), (q_allowed, .inl (ky 0, 128, .inl s_allowed)), (q_left, .inl (ky 2, 128, .inl s_left)), (q_nearHigh, .inl (ky 1, 128, .inr (.inl s_nearHigh))), (q_nearLow, .inl (ky 1, 128, .inr (.inl s_nearLow))), (q_painted, .inl (ky 0, 128, .inl t.2.1)), (q_paintedHigh, .inl (ky 1, 8, .inr (.inl t.2.2.1))), (q_paintedLow, .inl (ky 1, 8, .inr (.inl t.2.2.2))), (q_searched, .inl (ky 0, 128, .inl o4)), (q_upcoming, .inl (ky 0, 128, .inl f21))] H → va_D A [(q_, .inr (3, [.int s_total, .ref q_kind, .ref q_allowed, .ref q_colour, .ref q_nearLow, .ref q_nearHigh, .ref q_paintedLow, .ref q_paintedHigh, .ref q_searched, .ref q_painted, .ref q_upcoming, .ref q_left, .ref q_leftByLatest])), (q_allowed, .inl (ky 0, 128, .inl s_allowed)), (q_left, .inl (ky 2, 128, .inl s_left)), (q_nearHigh, .inl (ky 1, 128, .inr (.inl s_nearHigh))), (q_nearLow, .inl (ky 1, 128, .inr (.inl s_nearLow))), (q_painted, .inl (ky 0, 128, .inl t.2.1)), (q_paintedHigh, .inl (ky 1, 8, .inr (.inl t.2.2.1))), (q_paintedLow, .inl (ky 1, 8, .inr (.inl t.2.2.2))), (q_searched, .inl (ky 0, 128, .inl o4)), (q_upcoming, .inl (ky 0, 128, .inl f21))] → va_S A s.heap H locs → lv_has ls 8 [(0, .ref q_), (1, .int a1), (2, .int r1), (3, .int t.1), (4, .int x20), (5, .int v8)] → W p l e rmX3_search s m args below meth c H locs 0 0 Q (F0 m 130 ls []) := by
              clear hd hP hD hS hl
              obtain ⟨v23, v24, v25, v26⟩ := t
              replace h := dm4_of h
              intro H locs ls hP hD hS hl
              replace hP : va_P D vwCl [(q_, .inr (3, [.int s_total, .ref q_kind, .ref q_allowed, .ref q_colour, .ref q_nearLow, .ref q_nearHigh, .ref q_paintedLow, .ref q_paintedHigh, .ref q_searched, .ref q_painted, .ref q_upcoming, .ref q_left, .ref q_leftByLatest])), (q_allowed, .inl (ky 0, 128, .inl s_allowed)), (q_left, .inl (ky 2, 128, .inl s_left)), (q_nearHigh, .inl (ky 1, 128, .inr (.inl s_nearHigh))), (q_nearLow, .inl (ky 1, 128, .inr (.inl s_nearLow))), (q_painted, .inl (ky 0, 128, .inl v24)), (q_paintedHigh, .inl (ky 1, 8, .inr (.inl v25))), (q_paintedLow, .inl (ky 1, 8, .inr (.inl v26))), (q_searched, .inl (ky 0, 128, .inl o4)), (q_upcoming, .inl (ky 0, 128, .inl f21))] H := hP
              replace hD : va_D A [(q_, .inr (3, [.int s_total, .ref q_kind, .ref q_allowed, .ref q_colour, .ref q_nearLow, .ref q_nearHigh, .ref q_paintedLow, .ref q_paintedHigh, .ref q_searched, .ref q_painted, .ref q_upcoming, .ref q_left, .ref q_leftByLatest])), (q_allowed, .inl (ky 0, 128, .inl s_allowed)), (q_left, .inl (ky 2, 128, .inl s_left)), (q_nearHigh, .inl (ky 1, 128, .inr (.inl s_nearHigh))), (q_nearLow, .inl (ky 1, 128, .inr (.inl s_nearLow))), (q_painted, .inl (ky 0, 128, .inl v24)), (q_paintedHigh, .inl (ky 1, 8, .inr (.inl v25))), (q_paintedLow, .inl (ky 1, 8, .inr (.inl v26))), (q_searched, .inl (ky 0, 128, .inl o4)), (q_upcoming, .inl (ky 0, 128, .inl f21))] := hD
              replace hl : lv_has ls 8 [(0, .ref q_), (1, .int a1), (2, .int r1), (3, .int v23), (4, .int x20), (5, .int v8)] := hl
              refine W.eq (g2 := F0 m 130 ls []) rfl ?_
              obtain ⟨x27, ex27⟩ : ∃ z : Int32, z = v8 + 1 := ⟨_, rfl⟩
              replace h := lt_at ex27 h
              refine lv_iinc (v := x27) (lv' := [(5, .int x27), (0, .ref q_), (1, .int a1), (2, .int r1), (3, .int v23), (4, .int x20)]) hx hb dX3_search_130 hl (k := 5) rfl (by rw [ex27]; rfl) (by decide) rfl (fun ls hl => ?_)
              refine lv_goto (tgt := 13) hx hb dX3_search_133 (by decide) ?_
              cases h
              exact K _ _ _ hP hD hS (lv_sub hl [1, 2, 3, 4, 5, 0] rfl)
            replace h := hd
            clear hd
            refine lv_if_eq (tgt := 130) hx hb dX3_search_87 (by decide) (fun hc => ?_) (fun hc => ?_)
            · replace h := if_t hc h
              cases h
              exact K _ _ _ hP hD hS (lv_sub hl [3, 4, 5, 6, 0, 7] rfl)
            · replace h := if_f hc h
              refine lv_aload_n hx hb dX3_search_90 rfl (lv_at hl 3 rfl) ?_
              refine lv_iload hx hb dX3_search_91 (lv_at hl 2 rfl) ?_
              refine lv_iload hx hb dX3_search_93 (lv_at hl 1 rfl) ?_
              obtain ⟨⟨o28, o29, o30⟩, hc, h⟩ := ob_of h
              replace h := dm3_of h
              refine cv_v (As := [.int x13, .int r14]) (rest := []) (wr := [(q_allowed, .inl (ky 0, 128, .inl s_allowed)), (q_left, .inl (ky 2, 128, .inl s_left)), (q_nearHigh, .inl (ky 1, 128, .inr (.inl s_nearHigh))), (q_nearLow, .inl (ky 1, 128, .inr (.inl s_nearLow))), (q_searched, .inl (ky 0, 128, .inl o4)), (q_upcoming, .inl (ky 0, 128, .inl f21))]) (wn := [(q_, .inr (3, [.int s_total, .ref q_kind, .ref q_allowed, .ref q_colour, .ref q_nearLow, .ref q_nearHigh, .ref q_paintedLow, .ref q_paintedHigh, .ref q_searched, .ref q_painted, .ref q_upcoming, .ref q_left, .ref q_leftByLatest])), (q_allowed, .inl (ky 0, 128, .inl s_allowed)), (q_left, .inl (ky 2, 128, .inl s_left)), (q_nearHigh, .inl (ky 1, 128, .inr (.inl s_nearHigh))), (q_nearLow, .inl (ky 1, 128, .inr (.inl s_nearLow))), (q_painted, .inl (ky 0, 128, .inl o28)), (q_paintedHigh, .inl (ky 1, 8, .inr (.inl o29))), (q_paintedLow, .inl (ky 1, 8, .inr (.inl o30))), (q_searched, .inl (ky 0, 128, .inl o4)), (q_upcoming, .inl (ky 0, 128, .inl f21))]) ⟨hx, hb, hml, hown, hts⟩ (c_X3_paint l D ky q_ q_kind q_allowed q_colour q_nearLow q_nearHigh q_paintedLow q_paintedHigh q_searched q_painted q_upcoming q_left q_leftByLatest x13 r14 s_total v9 v10 v11 hc) (cwV 2 hts gX3_search_X3_paint rfl rfl rfl (by decide +kernel) ⟨Nat.le_of_ble_eq_true rfl, Nat.le_of_ble_eq_true rfl⟩) (rcv hK.1 hP (q0 := 0) rfl rfl) hP hD hK hS hA [0, 5, 6, 7] [1, 2, 3, 4, 8, 9] [6, 0, 1, 2, 3, 7, 8, 9, 4, 5] rfl (by decide +kernel) rfl (by decide +kernel) (by decide +kernel) (by decide +kernel) rfl rfl rfl hl.1 (Nat.le_of_ble_eq_true rfl) dX3_search_95 ⟨Nat.le_of_ble_eq_true rfl, Nat.le_of_ble_eq_true rfl⟩ (fun H locs hP hD hS => ?_)
              obtain ⟨x31, ex31⟩ : ∃ z : Int32, z = v6 + 1 := ⟨_, rfl⟩
              replace h := lt_at ex31 h
              refine lv_iinc (v := x31) (lv' := [(3, .int x31), (4, .int x20), (7, .int r14), (6, .int x13), (0, .ref q_), (1, .int a1), (2, .int r1), (5, .int v8)]) hx hb dX3_search_98 hl (k := 6) rfl (by rw [ex31]; rfl) (by decide) rfl (fun ls hl => ?_)
              refine lv_goto (tgt := 130) hx hb dX3_search_101 (by decide) ?_
              cases h
              exact K _ _ _ hP hD hS (lv_sub hl [4, 5, 6, 0, 1, 7] rfl)
          · replace h := if_f hc h
            cases h
            exact K _ _ _ hP hD hS (lv_sub hl [2, 3, 4, 5, 6, 7] rfl)
  · have h1 := ex3_of h
    clear h hi
    rcases h1 with ⟨rfl, h⟩ | ⟨rfl, h⟩ | ⟨rfl, h⟩
    · skip
      obtain ⟨v32, v33, v34, v35, v36, v37, v38⟩ := t
      replace h := dm7_of h
      intro H locs ls hP hD hS hl
      replace hP : va_P D vwCl [(q_, .inr (3, [.int s_total, .ref q_kind, .ref q_allowed, .ref q_colour, .ref q_nearLow, .ref q_nearHigh, .ref q_paintedLow, .ref q_paintedHigh, .ref q_searched, .ref q_painted, .ref q_upcoming, .ref q_left, .ref q_leftByLatest])), (q_allowed, .inl (ky 0, 128, .inl s_allowed)), (q_left, .inl (ky 2, 128, .inl s_left)), (q_nearHigh, .inl (ky 1, 128, .inr (.inl s_nearHigh))), (q_nearLow, .inl (ky 1, 128, .inr (.inl s_nearLow))), (q_painted, .inl (ky 0, 128, .inl v35)), (q_paintedHigh, .inl (ky 1, 8, .inr (.inl v36))), (q_paintedLow, .inl (ky 1, 8, .inr (.inl v37))), (q_searched, .inl (ky 0, 128, .inl o4)), (q_upcoming, .inl (ky 0, 128, .inl v38))] H := hP
      replace hD : va_D A [(q_, .inr (3, [.int s_total, .ref q_kind, .ref q_allowed, .ref q_colour, .ref q_nearLow, .ref q_nearHigh, .ref q_paintedLow, .ref q_paintedHigh, .ref q_searched, .ref q_painted, .ref q_upcoming, .ref q_left, .ref q_leftByLatest])), (q_allowed, .inl (ky 0, 128, .inl s_allowed)), (q_left, .inl (ky 2, 128, .inl s_left)), (q_nearHigh, .inl (ky 1, 128, .inr (.inl s_nearHigh))), (q_nearLow, .inl (ky 1, 128, .inr (.inl s_nearLow))), (q_painted, .inl (ky 0, 128, .inl v35)), (q_paintedHigh, .inl (ky 1, 8, .inr (.inl v36))), (q_paintedLow, .inl (ky 1, 8, .inr (.inl v37))), (q_searched, .inl (ky 0, 128, .inl o4)), (q_upcoming, .inl (ky 0, 128, .inl v38))] := hD
      replace hl : lv_has ls 8 [(0, .ref q_), (1, .int a1), (2, .int r1), (3, .int v32), (4, .int v33), (5, .int v34)] := hl
      refine W.eq (g2 := F0 m 63 ls []) rfl ?_
      refine lv_bipush (v := (-6)) hx hb dX3_search_63 (by decide) ?_
      exact rt _ h _ _ _ _ dX3_search_65 hP hD hS
    · skip
      obtain ⟨v39, v40, v41, v42, v43, v44, v45⟩ := t
      replace h := dm7_of h
      intro H locs ls hP hD hS hl
      replace hP : va_P D vwCl [(q_, .inr (3, [.int s_total, .ref q_kind, .ref q_allowed, .ref q_colour, .ref q_nearLow, .ref q_nearHigh, .ref q_paintedLow, .ref q_paintedHigh, .ref q_searched, .ref q_painted, .ref q_upcoming, .ref q_left, .ref q_leftByLatest])), (q_allowed, .inl (ky 0, 128, .inl s_allowed)), (q_left, .inl (ky 2, 128, .inl s_left)), (q_nearHigh, .inl (ky 1, 128, .inr (.inl s_nearHigh))), (q_nearLow, .inl (ky 1, 128, .inr (.inl s_nearLow))), (q_painted, .inl (ky 0, 128, .inl v42)), (q_paintedHigh, .inl (ky 1, 8, .inr (.inl v43))), (q_paintedLow, .inl (ky 1, 8, .inr (.inl v44))), (q_searched, .inl (ky 0, 128, .inl o4)), (q_upcoming, .inl (ky 0, 128, .inl v45))] H := hP
      replace hD : va_D A [(q_, .inr (3, [.int s_total, .ref q_kind, .ref q_allowed, .ref q_colour, .ref q_nearLow, .ref q_nearHigh, .ref q_paintedLow, .ref q_paintedHigh, .ref q_searched, .ref q_painted, .ref q_upcoming, .ref q_left, .ref q_leftByLatest])), (q_allowed, .inl (ky 0, 128, .inl s_allowed)), (q_left, .inl (ky 2, 128, .inl s_left)), (q_nearHigh, .inl (ky 1, 128, .inr (.inl s_nearHigh))), (q_nearLow, .inl (ky 1, 128, .inr (.inl s_nearLow))), (q_painted, .inl (ky 0, 128, .inl v42)), (q_paintedHigh, .inl (ky 1, 8, .inr (.inl v43))), (q_paintedLow, .inl (ky 1, 8, .inr (.inl v44))), (q_searched, .inl (ky 0, 128, .inl o4)), (q_upcoming, .inl (ky 0, 128, .inl v45))] := hD
      replace hl : lv_has ls 8 [(0, .ref q_), (1, .int a1), (2, .int r1), (3, .int v39), (4, .int v40), (5, .int v41)] := hl
      refine W.eq (g2 := F0 m 108 ls []) rfl ?_
      refine lv_iconst (v := 0) hx hb dX3_search_108 (by decide) ?_
      exact rt _ h _ _ _ _ dX3_search_109 hP hD hS
    · skip
      obtain ⟨v46, v47, v48, v49, v50, v51, v52⟩ := t
      replace h := dm7_of h
      intro H locs ls hP hD hS hl
      replace hP : va_P D vwCl [(q_, .inr (3, [.int s_total, .ref q_kind, .ref q_allowed, .ref q_colour, .ref q_nearLow, .ref q_nearHigh, .ref q_paintedLow, .ref q_paintedHigh, .ref q_searched, .ref q_painted, .ref q_upcoming, .ref q_left, .ref q_leftByLatest])), (q_allowed, .inl (ky 0, 128, .inl s_allowed)), (q_left, .inl (ky 2, 128, .inl s_left)), (q_nearHigh, .inl (ky 1, 128, .inr (.inl s_nearHigh))), (q_nearLow, .inl (ky 1, 128, .inr (.inl s_nearLow))), (q_painted, .inl (ky 0, 128, .inl v49)), (q_paintedHigh, .inl (ky 1, 8, .inr (.inl v50))), (q_paintedLow, .inl (ky 1, 8, .inr (.inl v51))), (q_searched, .inl (ky 0, 128, .inl o4)), (q_upcoming, .inl (ky 0, 128, .inl v52))] H := hP
      replace hD : va_D A [(q_, .inr (3, [.int s_total, .ref q_kind, .ref q_allowed, .ref q_colour, .ref q_nearLow, .ref q_nearHigh, .ref q_paintedLow, .ref q_paintedHigh, .ref q_searched, .ref q_painted, .ref q_upcoming, .ref q_left, .ref q_leftByLatest])), (q_allowed, .inl (ky 0, 128, .inl s_allowed)), (q_left, .inl (ky 2, 128, .inl s_left)), (q_nearHigh, .inl (ky 1, 128, .inr (.inl s_nearHigh))), (q_nearLow, .inl (ky 1, 128, .inr (.inl s_nearLow))), (q_painted, .inl (ky 0, 128, .inl v49)), (q_paintedHigh, .inl (ky 1, 8, .inr (.inl v50))), (q_paintedLow, .inl (ky 1, 8, .inr (.inl v51))), (q_searched, .inl (ky 0, 128, .inl o4)), (q_upcoming, .inl (ky 0, 128, .inl v52))] := hD
      replace hl : lv_has ls 8 [(0, .ref q_), (1, .int a1), (2, .int r1), (3, .int v46), (4, .int v47), (5, .int v48)] := hl
      refine W.eq (g2 := F0 m 136 ls []) rfl ?_
      refine lv_iload_n hx hb dX3_search_136 rfl (lv_at hl 3 rfl) ?_
      refine lv_iload_n hx hb dX3_search_137 rfl (lv_at hl 2 rfl) ?_
      refine lv_icmp_ge (tgt := 146) hx hb dX3_search_138 (by decide) (fun hc => ?_) (fun hc => ?_)
      · replace h := if_t hc h
        refine lv_iconst (v := 1) hx hb dX3_search_146 (by decide) ?_
        exact rt _ h _ _ _ _ dX3_search_147 hP hD hS
      · replace h := if_f hc h
        refine lv_bipush (v := (-6)) hx hb dX3_search_141 (by decide) ?_
        refine lv_goto (tgt := 147) hx hb dX3_search_143 (by decide) ?_
        exact rt _ h _ _ _ _ dX3_search_147 hP hD hS

def bX3_colourAll_2 (s_total : Int32) (t : Int32 × (Nat → Int32)) : Option (Nat × (Int32 × (Nat → Int32))) := dm2 t (fun (v1 : Int32) (v2 : Nat → Int32) => if s_total ≤ v1 then some (1, (v1, v2)) else gd (¬ (v1 < 0 ∨ 128 ≤ v1.toNatClampNeg)) (lt (upd v2 v1.toNatClampNeg (vp_nar .boolean (1 : Int32))) (fun f3 => lt (v1 + 1) (fun x4 => some (0, (x4, f3))))))
def bX3_colourAll_40 (s_total : Int32) (r7 : Int32) (o8 : Nat → Int32) (t : Int32 × (Nat → Int32)) : Option (Nat × (Int32 × (Nat → Int32))) := dm2 t (fun (v13 : Int32) (v14 : Nat → Int32) => if s_total ≤ v13 then some (1, (v13, v14)) else ob (if ¬ r7 = (1 : Int32) then some (8 : Int32) else gd (¬ (v13 < 0 ∨ 128 ≤ v13.toNatClampNeg)) (some (o8 v13.toNatClampNeg))) (fun t => dm1 t (fun (v15 : Int32) => gd (¬ (v13 < 0 ∨ 128 ≤ v13.toNatClampNeg)) (lt (upd v14 v13.toNatClampNeg v15) (fun f16 => lt (v13 + 1) (fun x17 => some (0, (x17, f16))))))))
def sX3_colourAll (a1 : Int32) (s_total : Int32) (s_allowed : Nat → Int32) (s_colour : Nat → Int32) (s_left : Nat → Int32) (s_nearHigh : Nat → Int64) (s_nearLow : Nat → Int64) (s_painted : Nat → Int32) (s_paintedHigh : Nat → Int64) (s_paintedLow : Nat → Int64) (s_searched : Nat → Int32) (s_upcoming : Nat → Int32) : Option (Int32 × (Nat → Int32) × (Nat → Int32) × (Nat → Int32) × (Nat → Int64) × (Nat → Int64) × (Nat → Int32) × (Nat → Int32)) := ob (iter (bX3_colourAll_2 s_total) FU ((0 : Int32), s_left)) (fun kt => ex1 kt (fun t => dm2 t (fun (v5 : Int32) (v6 : Nat → Int32) => ob (sX3_search a1 s_total s_allowed v6 s_nearHigh s_nearLow s_painted s_paintedHigh s_paintedLow s_searched s_upcoming) (fun o => dm6 o (fun (r7 : Int32) (o8 : Nat → Int32) (o9 : Nat → Int64) (o10 : Nat → Int64) (o11 : Nat → Int32) (o12 : Nat → Int32) => if ¬ r7 = (-6 : Int32) then ob (iter (bX3_colourAll_40 s_total r7 o8) FU ((0 : Int32), s_colour)) (fun kt => ex1 kt (fun t => dm2 t (fun (v18 : Int32) (v19 : Nat → Int32) => some (r7, v19, v6, o8, o9, o10, o11, o12)))) else some ((-6 : Int32), s_colour, v6, o8, o9, o10, o11, o12))))))
abbrev rmX3_colourAll : Room := { frames := 2, cells := 0, slots := 0, locals := 50 }
set_option maxHeartbeats 4000000 in
set_option maxRecDepth 100000 in
theorem c_X3_colourAll (l : Launch) (D : va_G) (ky : Nat → ClassId) (q_ q_kind q_allowed q_colour q_nearLow q_nearHigh q_paintedLow q_paintedHigh q_searched q_painted q_upcoming q_left q_leftByLatest : Nat) (a1 : Int32) (s_total : Int32) (s_allowed : Nat → Int32) (s_colour : Nat → Int32) (s_left : Nat → Int32) (s_nearHigh : Nat → Int64) (s_nearLow : Nat → Int64) (s_painted : Nat → Int32) (s_paintedHigh : Nat → Int64) (s_paintedLow : Nat → Int64) (s_searched : Nat → Int32) (s_upcoming : Nat → Int32) {o_r : Int32} {o_colour : Nat → Int32} {o_left : Nat → Int32} {o_painted : Nat → Int32} {o_paintedHigh : Nat → Int64} {o_paintedLow : Nat → Int64} {o_searched : Nat → Int32} {o_upcoming : Nat → Int32} (h : sX3_colourAll a1 s_total s_allowed s_colour s_left s_nearHigh s_nearLow s_painted s_paintedHigh s_paintedLow s_searched s_upcoming = some (o_r, o_colour, o_left, o_painted, o_paintedHigh, o_paintedLow, o_searched, o_upcoming)) : MtI l D ky yX3_colourAll wsX3_colourAll rmX3_colourAll [.ref q_, .int a1] [(q_, .inr (3, [.int s_total, .ref q_kind, .ref q_allowed, .ref q_colour, .ref q_nearLow, .ref q_nearHigh, .ref q_paintedLow, .ref q_paintedHigh, .ref q_searched, .ref q_painted, .ref q_upcoming, .ref q_left, .ref q_leftByLatest])), (q_allowed, .inl (ky 0, 128, .inl s_allowed)), (q_colour, .inl (ky 0, 128, .inl s_colour)), (q_left, .inl (ky 2, 128, .inl s_left)), (q_nearHigh, .inl (ky 1, 128, .inr (.inl s_nearHigh))), (q_nearLow, .inl (ky 1, 128, .inr (.inl s_nearLow))), (q_painted, .inl (ky 0, 128, .inl s_painted)), (q_paintedHigh, .inl (ky 1, 8, .inr (.inl s_paintedHigh))), (q_paintedLow, .inl (ky 1, 8, .inr (.inl s_paintedLow))), (q_searched, .inl (ky 0, 128, .inl s_searched)), (q_upcoming, .inl (ky 0, 128, .inl s_upcoming))] [(q_, .inr (3, [.int s_total, .ref q_kind, .ref q_allowed, .ref q_colour, .ref q_nearLow, .ref q_nearHigh, .ref q_paintedLow, .ref q_paintedHigh, .ref q_searched, .ref q_painted, .ref q_upcoming, .ref q_left, .ref q_leftByLatest])), (q_allowed, .inl (ky 0, 128, .inl s_allowed)), (q_colour, .inl (ky 0, 128, .inl o_colour)), (q_left, .inl (ky 2, 128, .inl o_left)), (q_nearHigh, .inl (ky 1, 128, .inr (.inl s_nearHigh))), (q_nearLow, .inl (ky 1, 128, .inr (.inl s_nearLow))), (q_painted, .inl (ky 0, 128, .inl o_painted)), (q_paintedHigh, .inl (ky 1, 8, .inr (.inl o_paintedHigh))), (q_paintedLow, .inl (ky 1, 8, .inr (.inl o_paintedLow))), (q_searched, .inl (ky 0, 128, .inl o_searched)), (q_upcoming, .inl (ky 0, 128, .inl o_upcoming))] o_r 0 0 := by
  refine MtI.of (cc := cX3_colourAll) (maxL := 4) (by decide +kernel) rfl (Nat.le_of_ble_eq_true rfl) ?_
  intro p e R s m args below meth c A Q ls hR hx hb hts hown hnm hml hP hK hD hA ret hl
  have rt := rtI (dc := fun pc => decode cX3_colourAll pc = .ok (.ireturn, 1)) (o_r, o_colour, o_left, o_painted, o_paintedHigh, o_paintedLow, o_searched, o_upcoming) (fun t => [(q_, .inr (3, [.int s_total, .ref q_kind, .ref q_allowed, .ref q_colour, .ref q_nearLow, .ref q_nearHigh, .ref q_paintedLow, .ref q_paintedHigh, .ref q_searched, .ref q_painted, .ref q_upcoming, .ref q_left, .ref q_leftByLatest])), (q_allowed, .inl (ky 0, 128, .inl s_allowed)), (q_colour, .inl (ky 0, 128, .inl t.2.1)), (q_left, .inl (ky 2, 128, .inl t.2.2.1)), (q_nearHigh, .inl (ky 1, 128, .inr (.inl s_nearHigh))), (q_nearLow, .inl (ky 1, 128, .inr (.inl s_nearLow))), (q_painted, .inl (ky 0, 128, .inl t.2.2.2.1)), (q_paintedHigh, .inl (ky 1, 8, .inr (.inl t.2.2.2.2.1))), (q_paintedLow, .inl (ky 1, 8, .inr (.inl t.2.2.2.2.2.1))), (q_searched, .inl (ky 0, 128, .inl t.2.2.2.2.2.2.1)), (q_upcoming, .inl (ky 0, 128, .inl t.2.2.2.2.2.2.2))]) (fun t => t.1) ret
  subst hR
  obtain ⟨H, hH⟩ : ∃ H, H = s.heap := ⟨_, rfl⟩
  obtain ⟨locs, hlocs⟩ : ∃ locs : List Loc, locs = [] := ⟨_, rfl⟩
  have hS : va_S A s.heap H locs := by rw [hH, hlocs]; exact va_S.rf
  rw [← hH] at hP
  suffices hgo : W p l e rmX3_colourAll s m args below meth c H locs 0 0 Q (F0 m 0 ls []) by rw [hH, hlocs] at hgo; exact hgo
  clear hH hlocs
  replace hl : lv_has ls 4 [(0, .ref q_), (1, .int a1)] := hl
  replace hown : s.vm.findClass RX3 = some m.cls := hown
  have hi_X3 : ∀ w ∈ u_ws RX3 TX3 13, w ∈ wsX3_colourAll := fun _ h9 => List.mem_cons_of_mem _ (List.mem_append_right _ h9)
  have hf_56 := hts (.fieldLink RX3 56 "GlazierBench$Glazing" "total" "I") (by decide +kernel)
  have hf_43 := hts (.fieldLink RX3 43 "GlazierBench$Glazing" "left" "[Z") (by decide +kernel)
  have hf_18 := hts (.fieldLink RX3 18 "GlazierBench$Glazing" "colour" "[I") (by decide +kernel)
  have hf_37 := hts (.fieldLink RX3 37 "GlazierBench$Glazing" "painted" "[I") (by decide +kernel)
  unfold sX3_colourAll at h
  refine lv_iconst (v := 0) hx hb dX3_colourAll_0 (by decide) ?_
  refine lv_istore_n (lv' := [(2, .int (0 : Int32)), (0, .ref q_), (1, .int a1)]) hx hb dX3_colourAll_1 rfl hl (by decide) rfl (fun ls hl => ?_)
  obtain ⟨⟨k, t⟩, hi, h⟩ := ob_of h
  refine iter_rule (P := fun (k : Nat) (t : Int32 × (Nat → Int32)) => ∀ (H : Heap) (locs : List Loc) (ls : Array Slot), va_P D vwCl [(q_, .inr (3, [.int s_total, .ref q_kind, .ref q_allowed, .ref q_colour, .ref q_nearLow, .ref q_nearHigh, .ref q_paintedLow, .ref q_paintedHigh, .ref q_searched, .ref q_painted, .ref q_upcoming, .ref q_left, .ref q_leftByLatest])), (q_allowed, .inl (ky 0, 128, .inl s_allowed)), (q_colour, .inl (ky 0, 128, .inl s_colour)), (q_left, .inl (ky 2, 128, .inl t.2)), (q_nearHigh, .inl (ky 1, 128, .inr (.inl s_nearHigh))), (q_nearLow, .inl (ky 1, 128, .inr (.inl s_nearLow))), (q_painted, .inl (ky 0, 128, .inl s_painted)), (q_paintedHigh, .inl (ky 1, 8, .inr (.inl s_paintedHigh))), (q_paintedLow, .inl (ky 1, 8, .inr (.inl s_paintedLow))), (q_searched, .inl (ky 0, 128, .inl s_searched)), (q_upcoming, .inl (ky 0, 128, .inl s_upcoming))] H → va_D A [(q_, .inr (3, [.int s_total, .ref q_kind, .ref q_allowed, .ref q_colour, .ref q_nearLow, .ref q_nearHigh, .ref q_paintedLow, .ref q_paintedHigh, .ref q_searched, .ref q_painted, .ref q_upcoming, .ref q_left, .ref q_leftByLatest])), (q_allowed, .inl (ky 0, 128, .inl s_allowed)), (q_colour, .inl (ky 0, 128, .inl s_colour)), (q_left, .inl (ky 2, 128, .inl t.2)), (q_nearHigh, .inl (ky 1, 128, .inr (.inl s_nearHigh))), (q_nearLow, .inl (ky 1, 128, .inr (.inl s_nearLow))), (q_painted, .inl (ky 0, 128, .inl s_painted)), (q_paintedHigh, .inl (ky 1, 8, .inr (.inl s_paintedHigh))), (q_paintedLow, .inl (ky 1, 8, .inr (.inl s_paintedLow))), (q_searched, .inl (ky 0, 128, .inl s_searched)), (q_upcoming, .inl (ky 0, 128, .inl s_upcoming))] → va_S A s.heap H locs → lv_has ls 4 [(0, .ref q_), (1, .int a1), (2, .int t.1)] → W p l e rmX3_colourAll s m args below meth c H locs 0 0 Q (F0 m ([2, 23].getD k 0) ls [])) ?_ _ _ _ _ hi ?_ H locs ls hP hD hS (lv_sub hl [1, 2, 0] rfl)
  · clear h hi hP hD hS hl
    intro t k t' h K
    obtain ⟨v1, v2⟩ := t
    intro H locs ls hP hD hS hl
    replace h := dm2_of h
    replace hP : va_P D vwCl [(q_, .inr (3, [.int s_total, .ref q_kind, .ref q_allowed, .ref q_colour, .ref q_nearLow, .ref q_nearHigh, .ref q_paintedLow, .ref q_paintedHigh, .ref q_searched, .ref q_painted, .ref q_upcoming, .ref q_left, .ref q_leftByLatest])), (q_allowed, .inl (ky 0, 128, .inl s_allowed)), (q_colour, .inl (ky 0, 128, .inl s_colour)), (q_left, .inl (ky 2, 128, .inl v2)), (q_nearHigh, .inl (ky 1, 128, .inr (.inl s_nearHigh))), (q_nearLow, .inl (ky 1, 128, .inr (.inl s_nearLow))), (q_painted, .inl (ky 0, 128, .inl s_painted)), (q_paintedHigh, .inl (ky 1, 8, .inr (.inl s_paintedHigh))), (q_paintedLow, .inl (ky 1, 8, .inr (.inl s_paintedLow))), (q_searched, .inl (ky 0, 128, .inl s_searched)), (q_upcoming, .inl (ky 0, 128, .inl s_upcoming))] H := hP
    replace hD : va_D A [(q_, .inr (3, [.int s_total, .ref q_kind, .ref q_allowed, .ref q_colour, .ref q_nearLow, .ref q_nearHigh, .ref q_paintedLow, .ref q_paintedHigh, .ref q_searched, .ref q_painted, .ref q_upcoming, .ref q_left, .ref q_leftByLatest])), (q_allowed, .inl (ky 0, 128, .inl s_allowed)), (q_colour, .inl (ky 0, 128, .inl s_colour)), (q_left, .inl (ky 2, 128, .inl v2)), (q_nearHigh, .inl (ky 1, 128, .inr (.inl s_nearHigh))), (q_nearLow, .inl (ky 1, 128, .inr (.inl s_nearLow))), (q_painted, .inl (ky 0, 128, .inl s_painted)), (q_paintedHigh, .inl (ky 1, 8, .inr (.inl s_paintedHigh))), (q_paintedLow, .inl (ky 1, 8, .inr (.inl s_paintedLow))), (q_searched, .inl (ky 0, 128, .inl s_searched)), (q_upcoming, .inl (ky 0, 128, .inl s_upcoming))] := hD
    replace hl : lv_has ls 4 [(0, .ref q_), (1, .int a1), (2, .int v1)] := hl
    refine lv_iload_n hx hb dX3_colourAll_2 rfl (lv_at hl 2 rfl) ?_
    refine lv_aload_n hx hb dX3_colourAll_3 rfl (lv_at hl 0 rfl) ?_
    refine va_get (D := D) (ci := 3) (v := .int s_total) (C := RX3) (T := TX3) (N := 13) hx hb hts hi_X3 hown hK.1 hP 0 rfl rfl 0 (by decide) hf_56 (fun _ h9 => h9) rfl dX3_colourAll_4 ?_
    refine lv_icmp_ge (tgt := 23) hx hb dX3_colourAll_7 (by decide) (fun hc => ?_) (fun hc => ?_)
    · replace h := if_t hc h
      cases h
      exact K _ _ _ hP hD hS (lv_sub hl [0, 1, 2] rfl)
    · replace h := if_f hc h
      refine lv_aload_n hx hb dX3_colourAll_10 rfl (lv_at hl 0 rfl) ?_
      refine va_get (D := D) (ci := 3) (v := .ref q_left) (C := RX3) (T := TX3) (N := 13) hx hb hts hi_X3 hown hK.1 hP 0 rfl rfl 11 (by decide) hf_43 (fun _ h9 => h9) rfl dX3_colourAll_11 ?_
      refine lv_iload_n hx hb dX3_colourAll_14 rfl (lv_at hl 2 rfl) ?_
      refine lv_iconst (v := 1) hx hb dX3_colourAll_15 (by decide) ?_
      obtain ⟨hg, h⟩ := gd_of h
      refine r_zast hx hb hK.1 hP hD hS 3 2 rfl rfl hg dX3_colourAll_16 (fun f3 ef3 H locs hP hD hS => ?_)
      replace h := lt_at ef3 h
      replace hP : va_P D vwCl [(q_, .inr (3, [.int s_total, .ref q_kind, .ref q_allowed, .ref q_colour, .ref q_nearLow, .ref q_nearHigh, .ref q_paintedLow, .ref q_paintedHigh, .ref q_searched, .ref q_painted, .ref q_upcoming, .ref q_left, .ref q_leftByLatest])), (q_allowed, .inl (ky 0, 128, .inl s_allowed)), (q_colour, .inl (ky 0, 128, .inl s_colour)), (q_left, .inl (ky 2, 128, .inl f3)), (q_nearHigh, .inl (ky 1, 128, .inr (.inl s_nearHigh))), (q_nearLow, .inl (ky 1, 128, .inr (.inl s_nearLow))), (q_painted, .inl (ky 0, 128, .inl s_painted)), (q_paintedHigh, .inl (ky 1, 8, .inr (.inl s_paintedHigh))), (q_paintedLow, .inl (ky 1, 8, .inr (.inl s_paintedLow))), (q_searched, .inl (ky 0, 128, .inl s_searched)), (q_upcoming, .inl (ky 0, 128, .inl s_upcoming))] H := hP
      replace hD : va_D A [(q_, .inr (3, [.int s_total, .ref q_kind, .ref q_allowed, .ref q_colour, .ref q_nearLow, .ref q_nearHigh, .ref q_paintedLow, .ref q_paintedHigh, .ref q_searched, .ref q_painted, .ref q_upcoming, .ref q_left, .ref q_leftByLatest])), (q_allowed, .inl (ky 0, 128, .inl s_allowed)), (q_colour, .inl (ky 0, 128, .inl s_colour)), (q_left, .inl (ky 2, 128, .inl f3)), (q_nearHigh, .inl (ky 1, 128, .inr (.inl s_nearHigh))), (q_nearLow, .inl (ky 1, 128, .inr (.inl s_nearLow))), (q_painted, .inl (ky 0, 128, .inl s_painted)), (q_paintedHigh, .inl (ky 1, 8, .inr (.inl s_paintedHigh))), (q_paintedLow, .inl (ky 1, 8, .inr (.inl s_paintedLow))), (q_searched, .inl (ky 0, 128, .inl s_searched)), (q_upcoming, .inl (ky 0, 128, .inl s_upcoming))] := hD
      obtain ⟨x4, ex4⟩ : ∃ z : Int32, z = v1 + 1 := ⟨_, rfl⟩
      replace h := lt_at ex4 h
      refine lv_iinc (v := x4) (lv' := [(2, .int x4), (0, .ref q_), (1, .int a1)]) hx hb dX3_colourAll_17 hl (k := 2) rfl (by rw [ex4]; rfl) (by decide) rfl (fun ls hl => ?_)
      refine lv_goto (tgt := 2) hx hb dX3_colourAll_20 (by decide) ?_
      cases h
      exact K _ _ _ hP hD hS (lv_sub hl [1, 2, 0] rfl)
  · have h1 := ex1_of h
    clear h hi
    rcases h1 with ⟨rfl, h⟩
    obtain ⟨v5, v6⟩ := t
    replace h := dm2_of h
    intro H locs ls hP hD hS hl
    replace hP : va_P D vwCl [(q_, .inr (3, [.int s_total, .ref q_kind, .ref q_allowed, .ref q_colour, .ref q_nearLow, .ref q_nearHigh, .ref q_paintedLow, .ref q_paintedHigh, .ref q_searched, .ref q_painted, .ref q_upcoming, .ref q_left, .ref q_leftByLatest])), (q_allowed, .inl (ky 0, 128, .inl s_allowed)), (q_colour, .inl (ky 0, 128, .inl s_colour)), (q_left, .inl (ky 2, 128, .inl v6)), (q_nearHigh, .inl (ky 1, 128, .inr (.inl s_nearHigh))), (q_nearLow, .inl (ky 1, 128, .inr (.inl s_nearLow))), (q_painted, .inl (ky 0, 128, .inl s_painted)), (q_paintedHigh, .inl (ky 1, 8, .inr (.inl s_paintedHigh))), (q_paintedLow, .inl (ky 1, 8, .inr (.inl s_paintedLow))), (q_searched, .inl (ky 0, 128, .inl s_searched)), (q_upcoming, .inl (ky 0, 128, .inl s_upcoming))] H := hP
    replace hD : va_D A [(q_, .inr (3, [.int s_total, .ref q_kind, .ref q_allowed, .ref q_colour, .ref q_nearLow, .ref q_nearHigh, .ref q_paintedLow, .ref q_paintedHigh, .ref q_searched, .ref q_painted, .ref q_upcoming, .ref q_left, .ref q_leftByLatest])), (q_allowed, .inl (ky 0, 128, .inl s_allowed)), (q_colour, .inl (ky 0, 128, .inl s_colour)), (q_left, .inl (ky 2, 128, .inl v6)), (q_nearHigh, .inl (ky 1, 128, .inr (.inl s_nearHigh))), (q_nearLow, .inl (ky 1, 128, .inr (.inl s_nearLow))), (q_painted, .inl (ky 0, 128, .inl s_painted)), (q_paintedHigh, .inl (ky 1, 8, .inr (.inl s_paintedHigh))), (q_paintedLow, .inl (ky 1, 8, .inr (.inl s_paintedLow))), (q_searched, .inl (ky 0, 128, .inl s_searched)), (q_upcoming, .inl (ky 0, 128, .inl s_upcoming))] := hD
    replace hl : lv_has ls 4 [(0, .ref q_), (1, .int a1), (2, .int v5)] := hl
    refine W.eq (g2 := F0 m 23 ls []) rfl ?_
    refine lv_aload_n hx hb dX3_colourAll_23 rfl (lv_at hl 0 rfl) ?_
    refine lv_iload_n hx hb dX3_colourAll_24 rfl (lv_at hl 1 rfl) ?_
    obtain ⟨⟨r7, o8, o9, o10, o11, o12⟩, hc, h⟩ := ob_of h
    replace h := dm6_of h
    refine cv_i (As := [.int a1]) (rest := []) (wr := [(q_colour, .inl (ky 0, 128, .inl s_colour))]) (wn := [(q_, .inr (3, [.int s_total, .ref q_kind, .ref q_allowed, .ref q_colour, .ref q_nearLow, .ref q_nearHigh, .ref q_paintedLow, .ref q_paintedHigh, .ref q_searched, .ref q_painted, .ref q_upcoming, .ref q_left, .ref q_leftByLatest])), (q_allowed, .inl (ky 0, 128, .inl s_allowed)), (q_colour, .inl (ky 0, 128, .inl s_colour)), (q_left, .inl (ky 2, 128, .inl v6)), (q_nearHigh, .inl (ky 1, 128, .inr (.inl s_nearHigh))), (q_nearLow, .inl (ky 1, 128, .inr (.inl s_nearLow))), (q_painted, .inl (ky 0, 128, .inl o8)), (q_paintedHigh, .inl (ky 1, 8, .inr (.inl o9))), (q_paintedLow, .inl (ky 1, 8, .inr (.inl o10))), (q_searched, .inl (ky 0, 128, .inl o11)), (q_upcoming, .inl (ky 0, 128, .inl o12))]) ⟨hx, hb, hml, hown, hts⟩ (c_X3_search l D ky q_ q_kind q_allowed q_colour q_nearLow q_nearHigh q_paintedLow q_paintedHigh q_searched q_painted q_upcoming q_left q_leftByLatest a1 s_total s_allowed v6 s_nearHigh s_nearLow s_painted s_paintedHigh s_paintedLow s_searched s_upcoming hc) (cwV 1 hts gX3_colourAll_X3_search rfl rfl rfl (by decide +kernel) ⟨Nat.le_of_ble_eq_true rfl, Nat.le_of_ble_eq_true rfl⟩) (rcv hK.1 hP (q0 := 0) rfl rfl) hP hD hK hS hA [0, 1, 3, 4, 5, 6, 7, 8, 9, 10] [2] [1, 2, 0, 3, 4, 5, 6, 7, 8, 9, 10] rfl (by decide +kernel) rfl (by decide +kernel) (by decide +kernel) (by decide +kernel) rfl rfl rfl hl.1 (Nat.le_of_ble_eq_true rfl) dX3_colourAll_25 ⟨Nat.le_of_ble_eq_true rfl, Nat.le_of_ble_eq_true rfl⟩ (fun H locs hP hD hS => ?_)
    refine lv_istore_n (lv' := [(2, .int r7), (0, .ref q_), (1, .int a1)]) hx hb dX3_colourAll_28 rfl hl (by decide) rfl (fun ls hl => ?_)
    refine lv_iload_n hx hb dX3_colourAll_29 rfl (lv_at hl 0 rfl) ?_
    refine lv_bipush (v := (-6)) hx hb dX3_colourAll_30 (by decide) ?_
    refine lv_icmp_ne (tgt := 38) hx hb dX3_colourAll_32 (by decide) (fun hc => ?_) (fun hc => ?_)
    · replace h := if_t hc h
      refine lv_iconst (v := 0) hx hb dX3_colourAll_38 (by decide) ?_
      refine lv_istore_n (lv' := [(3, .int (0 : Int32)), (2, .int r7), (0, .ref q_), (1, .int a1)]) hx hb dX3_colourAll_39 rfl hl (by decide) rfl (fun ls hl => ?_)
      obtain ⟨⟨k, t⟩, hi, h⟩ := ob_of h
      refine iter_rule (P := fun (k : Nat) (t : Int32 × (Nat → Int32)) => ∀ (H : Heap) (locs : List Loc) (ls : Array Slot), va_P D vwCl [(q_, .inr (3, [.int s_total, .ref q_kind, .ref q_allowed, .ref q_colour, .ref q_nearLow, .ref q_nearHigh, .ref q_paintedLow, .ref q_paintedHigh, .ref q_searched, .ref q_painted, .ref q_upcoming, .ref q_left, .ref q_leftByLatest])), (q_allowed, .inl (ky 0, 128, .inl s_allowed)), (q_colour, .inl (ky 0, 128, .inl t.2)), (q_left, .inl (ky 2, 128, .inl v6)), (q_nearHigh, .inl (ky 1, 128, .inr (.inl s_nearHigh))), (q_nearLow, .inl (ky 1, 128, .inr (.inl s_nearLow))), (q_painted, .inl (ky 0, 128, .inl o8)), (q_paintedHigh, .inl (ky 1, 8, .inr (.inl o9))), (q_paintedLow, .inl (ky 1, 8, .inr (.inl o10))), (q_searched, .inl (ky 0, 128, .inl o11)), (q_upcoming, .inl (ky 0, 128, .inl o12))] H → va_D A [(q_, .inr (3, [.int s_total, .ref q_kind, .ref q_allowed, .ref q_colour, .ref q_nearLow, .ref q_nearHigh, .ref q_paintedLow, .ref q_paintedHigh, .ref q_searched, .ref q_painted, .ref q_upcoming, .ref q_left, .ref q_leftByLatest])), (q_allowed, .inl (ky 0, 128, .inl s_allowed)), (q_colour, .inl (ky 0, 128, .inl t.2)), (q_left, .inl (ky 2, 128, .inl v6)), (q_nearHigh, .inl (ky 1, 128, .inr (.inl s_nearHigh))), (q_nearLow, .inl (ky 1, 128, .inr (.inl s_nearLow))), (q_painted, .inl (ky 0, 128, .inl o8)), (q_paintedHigh, .inl (ky 1, 8, .inr (.inl o9))), (q_paintedLow, .inl (ky 1, 8, .inr (.inl o10))), (q_searched, .inl (ky 0, 128, .inl o11)), (q_upcoming, .inl (ky 0, 128, .inl o12))] → va_S A s.heap H locs → lv_has ls 4 [(0, .ref q_), (2, .int r7), (3, .int t.1)] → W p l e rmX3_colourAll s m args below meth c H locs 0 0 Q (F0 m ([40, 76].getD k 0) ls [])) ?_ _ _ _ _ hi ?_ H locs ls hP hD hS (lv_sub hl [2, 1, 0] rfl)
      · clear h hi hP hD hS hl
        intro t k t' h K
        obtain ⟨v13, v14⟩ := t
        intro H locs ls hP hD hS hl
        replace h := dm2_of h
        replace hP : va_P D vwCl [(q_, .inr (3, [.int s_total, .ref q_kind, .ref q_allowed, .ref q_colour, .ref q_nearLow, .ref q_nearHigh, .ref q_paintedLow, .ref q_paintedHigh, .ref q_searched, .ref q_painted, .ref q_upcoming, .ref q_left, .ref q_leftByLatest])), (q_allowed, .inl (ky 0, 128, .inl s_allowed)), (q_colour, .inl (ky 0, 128, .inl v14)), (q_left, .inl (ky 2, 128, .inl v6)), (q_nearHigh, .inl (ky 1, 128, .inr (.inl s_nearHigh))), (q_nearLow, .inl (ky 1, 128, .inr (.inl s_nearLow))), (q_painted, .inl (ky 0, 128, .inl o8)), (q_paintedHigh, .inl (ky 1, 8, .inr (.inl o9))), (q_paintedLow, .inl (ky 1, 8, .inr (.inl o10))), (q_searched, .inl (ky 0, 128, .inl o11)), (q_upcoming, .inl (ky 0, 128, .inl o12))] H := hP
        replace hD : va_D A [(q_, .inr (3, [.int s_total, .ref q_kind, .ref q_allowed, .ref q_colour, .ref q_nearLow, .ref q_nearHigh, .ref q_paintedLow, .ref q_paintedHigh, .ref q_searched, .ref q_painted, .ref q_upcoming, .ref q_left, .ref q_leftByLatest])), (q_allowed, .inl (ky 0, 128, .inl s_allowed)), (q_colour, .inl (ky 0, 128, .inl v14)), (q_left, .inl (ky 2, 128, .inl v6)), (q_nearHigh, .inl (ky 1, 128, .inr (.inl s_nearHigh))), (q_nearLow, .inl (ky 1, 128, .inr (.inl s_nearLow))), (q_painted, .inl (ky 0, 128, .inl o8)), (q_paintedHigh, .inl (ky 1, 8, .inr (.inl o9))), (q_paintedLow, .inl (ky 1, 8, .inr (.inl o10))), (q_searched, .inl (ky 0, 128, .inl o11)), (q_upcoming, .inl (ky 0, 128, .inl o12))] := hD
        replace hl : lv_has ls 4 [(0, .ref q_), (2, .int r7), (3, .int v13)] := hl
        refine lv_iload_n hx hb dX3_colourAll_40 rfl (lv_at hl 2 rfl) ?_
        refine lv_aload_n hx hb dX3_colourAll_41 rfl (lv_at hl 0 rfl) ?_
        refine va_get (D := D) (ci := 3) (v := .int s_total) (C := RX3) (T := TX3) (N := 13) hx hb hts hi_X3 hown hK.1 hP 0 rfl rfl 0 (by decide) hf_56 (fun _ h9 => h9) rfl dX3_colourAll_42 ?_
        refine lv_icmp_ge (tgt := 76) hx hb dX3_colourAll_45 (by decide) (fun hc => ?_) (fun hc => ?_)
        · replace h := if_t hc h
          cases h
          exact K _ _ _ hP hD hS (lv_sub hl [0, 1, 2] rfl)
        · replace h := if_f hc h
          refine lv_aload_n hx hb dX3_colourAll_48 rfl (lv_at hl 0 rfl) ?_
          refine va_get (D := D) (ci := 3) (v := .ref q_colour) (C := RX3) (T := TX3) (N := 13) hx hb hts hi_X3 hown hK.1 hP 0 rfl rfl 3 (by decide) hf_18 (fun _ h9 => h9) rfl dX3_colourAll_49 ?_
          refine lv_iload_n hx hb dX3_colourAll_52 rfl (lv_at hl 2 rfl) ?_
          refine lv_iload_n hx hb dX3_colourAll_53 rfl (lv_at hl 1 rfl) ?_
          refine lv_iconst (v := 1) hx hb dX3_colourAll_54 (by decide) ?_
          obtain ⟨t, hd, h⟩ := ob_of h
          have K : ∀ (H : Heap) (locs : List Loc) (ls : Array Slot), va_P D vwCl [(q_, .inr (3, [.int s_total, .ref q_kind, .ref q_allowed, .ref q_colour, .ref q_nearLow, .ref q_nearHigh, .ref q_paintedLow, .ref q_paintedHigh, .ref q_searched, .ref q_painted, .ref q_upcoming, .ref q_left, .ref q_leftByLatest])), (q_allowed, .inl (ky 0, 128, .inl s_allowed)), (q_colour, .inl (ky 0, 128, .inl v14)), (q_left, .inl (ky 2, 128, .inl v6)), (q_nearHigh, .inl (ky 1, 128, .inr (.inl s_nearHigh))), (q_nearLow, .inl (ky 1, 128, .inr (.inl s_nearLow))), (q_painted, .inl (ky 0, 128, .inl o8)), (q_paintedHigh, .inl (ky 1, 8, .inr (.inl o9))), (q_paintedLow, .inl (ky 1, 8, .inr (.inl o10))), (q_searched, .inl (ky 0, 128, .inl o11)), (q_upcoming, .inl (ky 0, 128, .inl o12))] H → va_D A [(q_, .inr (3, [.int s_total, .ref q_kind, .ref q_allowed, .ref q_colour, .ref q_nearLow, .ref q_nearHigh, .ref q_paintedLow, .ref q_paintedHigh, .ref q_searched, .ref q_painted, .ref q_upcoming, .ref q_left, .ref q_leftByLatest])), (q_allowed, .inl (ky 0, 128, .inl s_allowed)), (q_colour, .inl (ky 0, 128, .inl v14)), (q_left, .inl (ky 2, 128, .inl v6)), (q_nearHigh, .inl (ky 1, 128, .inr (.inl s_nearHigh))), (q_nearLow, .inl (ky 1, 128, .inr (.inl s_nearLow))), (q_painted, .inl (ky 0, 128, .inl o8)), (q_paintedHigh, .inl (ky 1, 8, .inr (.inl o9))), (q_paintedLow, .inl (ky 1, 8, .inr (.inl o10))), (q_searched, .inl (ky 0, 128, .inl o11)), (q_upcoming, .inl (ky 0, 128, .inl o12))] → va_S A s.heap H locs → lv_has ls 4 [(0, .ref q_), (2, .int r7), (3, .int v13)] → W p l e rmX3_colourAll s m args below meth c H locs 0 0 Q (F0 m 69 ls [.int t, .int v13, .ref q_colour]) := by
            clear hd hP hD hS hl
            obtain ⟨v15, rfl⟩ : ∃ z, z = t := ⟨_, rfl⟩
            replace h := dm1_of h
            intro H locs ls hP hD hS hl
            replace hP : va_P D vwCl [(q_, .inr (3, [.int s_total, .ref q_kind, .ref q_allowed, .ref q_colour, .ref q_nearLow, .ref q_nearHigh, .ref q_paintedLow, .ref q_paintedHigh, .ref q_searched, .ref q_painted, .ref q_upcoming, .ref q_left, .ref q_leftByLatest])), (q_allowed, .inl (ky 0, 128, .inl s_allowed)), (q_colour, .inl (ky 0, 128, .inl v14)), (q_left, .inl (ky 2, 128, .inl v6)), (q_nearHigh, .inl (ky 1, 128, .inr (.inl s_nearHigh))), (q_nearLow, .inl (ky 1, 128, .inr (.inl s_nearLow))), (q_painted, .inl (ky 0, 128, .inl o8)), (q_paintedHigh, .inl (ky 1, 8, .inr (.inl o9))), (q_paintedLow, .inl (ky 1, 8, .inr (.inl o10))), (q_searched, .inl (ky 0, 128, .inl o11)), (q_upcoming, .inl (ky 0, 128, .inl o12))] H := hP
            replace hD : va_D A [(q_, .inr (3, [.int s_total, .ref q_kind, .ref q_allowed, .ref q_colour, .ref q_nearLow, .ref q_nearHigh, .ref q_paintedLow, .ref q_paintedHigh, .ref q_searched, .ref q_painted, .ref q_upcoming, .ref q_left, .ref q_leftByLatest])), (q_allowed, .inl (ky 0, 128, .inl s_allowed)), (q_colour, .inl (ky 0, 128, .inl v14)), (q_left, .inl (ky 2, 128, .inl v6)), (q_nearHigh, .inl (ky 1, 128, .inr (.inl s_nearHigh))), (q_nearLow, .inl (ky 1, 128, .inr (.inl s_nearLow))), (q_painted, .inl (ky 0, 128, .inl o8)), (q_paintedHigh, .inl (ky 1, 8, .inr (.inl o9))), (q_paintedLow, .inl (ky 1, 8, .inr (.inl o10))), (q_searched, .inl (ky 0, 128, .inl o11)), (q_upcoming, .inl (ky 0, 128, .inl o12))] := hD
            replace hl : lv_has ls 4 [(0, .ref q_), (2, .int r7), (3, .int v13)] := hl
            refine W.eq (g2 := F0 m 69 ls [.int v15, .int v13, .ref q_colour]) rfl ?_
            obtain ⟨hg, h⟩ := gd_of h
            refine r_iast hx hb hK.1 hP hD hS 2 0 rfl rfl hg dX3_colourAll_69 (fun f16 ef16 H locs hP hD hS => ?_)
            replace h := lt_at ef16 h
            replace hP : va_P D vwCl [(q_, .inr (3, [.int s_total, .ref q_kind, .ref q_allowed, .ref q_colour, .ref q_nearLow, .ref q_nearHigh, .ref q_paintedLow, .ref q_paintedHigh, .ref q_searched, .ref q_painted, .ref q_upcoming, .ref q_left, .ref q_leftByLatest])), (q_allowed, .inl (ky 0, 128, .inl s_allowed)), (q_colour, .inl (ky 0, 128, .inl f16)), (q_left, .inl (ky 2, 128, .inl v6)), (q_nearHigh, .inl (ky 1, 128, .inr (.inl s_nearHigh))), (q_nearLow, .inl (ky 1, 128, .inr (.inl s_nearLow))), (q_painted, .inl (ky 0, 128, .inl o8)), (q_paintedHigh, .inl (ky 1, 8, .inr (.inl o9))), (q_paintedLow, .inl (ky 1, 8, .inr (.inl o10))), (q_searched, .inl (ky 0, 128, .inl o11)), (q_upcoming, .inl (ky 0, 128, .inl o12))] H := hP
            replace hD : va_D A [(q_, .inr (3, [.int s_total, .ref q_kind, .ref q_allowed, .ref q_colour, .ref q_nearLow, .ref q_nearHigh, .ref q_paintedLow, .ref q_paintedHigh, .ref q_searched, .ref q_painted, .ref q_upcoming, .ref q_left, .ref q_leftByLatest])), (q_allowed, .inl (ky 0, 128, .inl s_allowed)), (q_colour, .inl (ky 0, 128, .inl f16)), (q_left, .inl (ky 2, 128, .inl v6)), (q_nearHigh, .inl (ky 1, 128, .inr (.inl s_nearHigh))), (q_nearLow, .inl (ky 1, 128, .inr (.inl s_nearLow))), (q_painted, .inl (ky 0, 128, .inl o8)), (q_paintedHigh, .inl (ky 1, 8, .inr (.inl o9))), (q_paintedLow, .inl (ky 1, 8, .inr (.inl o10))), (q_searched, .inl (ky 0, 128, .inl o11)), (q_upcoming, .inl (ky 0, 128, .inl o12))] := hD
            obtain ⟨x17, ex17⟩ : ∃ z : Int32, z = v13 + 1 := ⟨_, rfl⟩
            replace h := lt_at ex17 h
            refine lv_iinc (v := x17) (lv' := [(3, .int x17), (0, .ref q_), (2, .int r7)]) hx hb dX3_colourAll_70 hl (k := 2) rfl (by rw [ex17]; rfl) (by decide) rfl (fun ls hl => ?_)
            refine lv_goto (tgt := 40) hx hb dX3_colourAll_73 (by decide) ?_
            cases h
            exact K _ _ _ hP hD hS (lv_sub hl [1, 2, 0] rfl)
          replace h := hd
          clear hd
          refine lv_icmp_ne (tgt := 67) hx hb dX3_colourAll_55 (by decide) (fun hc => ?_) (fun hc => ?_)
          · replace h := if_t hc h
            refine lv_bipush (v := 8) hx hb dX3_colourAll_67 (by decide) ?_
            cases h
            exact K _ _ _ hP hD hS (lv_sub hl [0, 1, 2] rfl)
          · replace h := if_f (fun z => z hc) h
            refine lv_aload_n hx hb dX3_colourAll_58 rfl (lv_at hl 0 rfl) ?_
            refine va_get (D := D) (ci := 3) (v := .ref q_painted) (C := RX3) (T := TX3) (N := 13) hx hb hts hi_X3 hown hK.1 hP 0 rfl rfl 9 (by decide) hf_37 (fun _ h9 => h9) rfl dX3_colourAll_59 ?_
            refine lv_iload_n hx hb dX3_colourAll_62 rfl (lv_at hl 2 rfl) ?_
            obtain ⟨hg, h⟩ := gd_of h
            refine va_iald hx hb hK.1 hP 6 0 rfl rfl hg dX3_colourAll_63 ?_
            refine lv_goto (tgt := 69) hx hb dX3_colourAll_64 (by decide) ?_
            cases h
            exact K _ _ _ hP hD hS (lv_sub hl [0, 1, 2] rfl)
      · have h1 := ex1_of h
        clear h hi
        rcases h1 with ⟨rfl, h⟩
        obtain ⟨v18, v19⟩ := t
        replace h := dm2_of h
        intro H locs ls hP hD hS hl
        replace hP : va_P D vwCl [(q_, .inr (3, [.int s_total, .ref q_kind, .ref q_allowed, .ref q_colour, .ref q_nearLow, .ref q_nearHigh, .ref q_paintedLow, .ref q_paintedHigh, .ref q_searched, .ref q_painted, .ref q_upcoming, .ref q_left, .ref q_leftByLatest])), (q_allowed, .inl (ky 0, 128, .inl s_allowed)), (q_colour, .inl (ky 0, 128, .inl v19)), (q_left, .inl (ky 2, 128, .inl v6)), (q_nearHigh, .inl (ky 1, 128, .inr (.inl s_nearHigh))), (q_nearLow, .inl (ky 1, 128, .inr (.inl s_nearLow))), (q_painted, .inl (ky 0, 128, .inl o8)), (q_paintedHigh, .inl (ky 1, 8, .inr (.inl o9))), (q_paintedLow, .inl (ky 1, 8, .inr (.inl o10))), (q_searched, .inl (ky 0, 128, .inl o11)), (q_upcoming, .inl (ky 0, 128, .inl o12))] H := hP
        replace hD : va_D A [(q_, .inr (3, [.int s_total, .ref q_kind, .ref q_allowed, .ref q_colour, .ref q_nearLow, .ref q_nearHigh, .ref q_paintedLow, .ref q_paintedHigh, .ref q_searched, .ref q_painted, .ref q_upcoming, .ref q_left, .ref q_leftByLatest])), (q_allowed, .inl (ky 0, 128, .inl s_allowed)), (q_colour, .inl (ky 0, 128, .inl v19)), (q_left, .inl (ky 2, 128, .inl v6)), (q_nearHigh, .inl (ky 1, 128, .inr (.inl s_nearHigh))), (q_nearLow, .inl (ky 1, 128, .inr (.inl s_nearLow))), (q_painted, .inl (ky 0, 128, .inl o8)), (q_paintedHigh, .inl (ky 1, 8, .inr (.inl o9))), (q_paintedLow, .inl (ky 1, 8, .inr (.inl o10))), (q_searched, .inl (ky 0, 128, .inl o11)), (q_upcoming, .inl (ky 0, 128, .inl o12))] := hD
        replace hl : lv_has ls 4 [(0, .ref q_), (2, .int r7), (3, .int v18)] := hl
        refine W.eq (g2 := F0 m 76 ls []) rfl ?_
        refine lv_iload_n hx hb dX3_colourAll_76 rfl (lv_at hl 1 rfl) ?_
        exact rt _ h _ _ _ _ dX3_colourAll_77 hP hD hS
    · replace h := if_f (fun z => z hc) h
      refine lv_bipush (v := (-6)) hx hb dX3_colourAll_35 (by decide) ?_
      exact rt _ h _ _ _ _ dX3_colourAll_37 hP hD hS

