def sJ9_floorDiv_f86c9 (a0 : Int64) (a2 : Int64)  : Option (Int64) := gd (¬ a2 = 0) (lt (a0 / a2) (fun x1 => if 0 ≤ (lg_cmp (a0 ^^^ a2) (0 : Int64)) then some x1 else if (lg_cmp (x1 * a2) a0) = 0 then some x1 else some (x1 - (1 : Int64))))
abbrev rmJ9_floorDiv_f86c9 : Room := { frames := 0, cells := 0, slots := 0, locals := 0 }
set_option maxHeartbeats 4000000 in
set_option maxRecDepth 100000 in
theorem c_J9_floorDiv_f86c9 (l : Launch) (D : va_G) (ky : Nat → ClassId) (a0 : Int64) (a2 : Int64) {o_r : Int64} (h : sJ9_floorDiv_f86c9 a0 a2 = some o_r) : MtL l D ky yJ9_floorDiv_f86c9 wsJ9_floorDiv_f86c9 rmJ9_floorDiv_f86c9 [.long a0, .long a2] [] [] o_r 0 0 := by
  refine MtL.ofF (cc := cJ9_floorDiv_f86c9) (maxL := 6) (by decide +kernel) rfl (Nat.le_of_ble_eq_true rfl) ?_
  intro p e R s m args below meth c A Q ls hR hx hb hts hown hnm hml hP hK hD hA ret hl
  subst hR
  obtain ⟨H, hH⟩ : ∃ H, H = s.heap := ⟨_, rfl⟩
  obtain ⟨locs, hlocs⟩ : ∃ locs : List Loc, locs = [] := ⟨_, rfl⟩
  have hS : va_S A s.heap H locs := by rw [hH, hlocs]; exact va_S.rf
  rw [← hH] at hP
  suffices hgo : W p l e rmJ9_floorDiv_f86c9 s m args below meth c H locs 0 0 Q (F0 m 0 ls []) by rw [hH, hlocs] at hgo; exact hgo
  clear hH hlocs
  replace hl : lv_has ls 6 [(0, .long a0), (2, .long a2)] := hl
  replace hown : s.vm.findClass RJ9 = some m.cls := hown
  unfold sJ9_floorDiv_f86c9 at h
  refine lv_lload_n hx hb dJ9_floorDiv_f86c9_0 rfl (lv_at hl 0 rfl) ?_
  refine lv_lload_n hx hb dJ9_floorDiv_f86c9_1 rfl (lv_at hl 1 rfl) ?_
  obtain ⟨hg, h⟩ := gd_of h
  refine lv_ldiv hx hb dJ9_floorDiv_f86c9_2 hg ?_
  refine lv_topl (fun x1 ex1 => ?_)
  replace h := lt_at ex1 h
  refine lv_lstore (lv' := [(4, .long x1), (0, .long a0), (2, .long a2)]) hx hb dJ9_floorDiv_f86c9_3 hl (by decide) rfl (fun ls hl => ?_)
  refine lv_lload_n hx hb dJ9_floorDiv_f86c9_5 rfl (lv_at hl 1 rfl) ?_
  refine lv_lload_n hx hb dJ9_floorDiv_f86c9_6 rfl (lv_at hl 2 rfl) ?_
  refine lv_lxor hx hb dJ9_floorDiv_f86c9_7 ?_
  refine lv_lconst (v := 0) hx hb dJ9_floorDiv_f86c9_8 (by decide) ?_
  refine W.lcmp hx hb dJ9_floorDiv_f86c9_9 ?_
  refine lv_if_ge (tgt := 27) hx hb dJ9_floorDiv_f86c9_10 (by decide) (fun hc => ?_) (fun hc => ?_)
  · replace h := if_t hc h
    refine lv_lload hx hb dJ9_floorDiv_f86c9_27 (lv_at hl 0 rfl) ?_
    cases h
    exact ret _ _ _ _ dJ9_floorDiv_f86c9_29 hP hD hS
  · replace h := if_f hc h
    refine lv_lload hx hb dJ9_floorDiv_f86c9_13 (lv_at hl 0 rfl) ?_
    refine lv_lload_n hx hb dJ9_floorDiv_f86c9_15 rfl (lv_at hl 2 rfl) ?_
    refine lv_lmul hx hb dJ9_floorDiv_f86c9_16 ?_
    refine lv_lload_n hx hb dJ9_floorDiv_f86c9_17 rfl (lv_at hl 1 rfl) ?_
    refine W.lcmp hx hb dJ9_floorDiv_f86c9_18 ?_
    refine lv_if_eq (tgt := 27) hx hb dJ9_floorDiv_f86c9_19 (by decide) (fun hc => ?_) (fun hc => ?_)
    · replace h := if_t hc h
      refine lv_lload hx hb dJ9_floorDiv_f86c9_27 (lv_at hl 0 rfl) ?_
      cases h
      exact ret _ _ _ _ dJ9_floorDiv_f86c9_29 hP hD hS
    · replace h := if_f hc h
      refine lv_lload hx hb dJ9_floorDiv_f86c9_22 (lv_at hl 0 rfl) ?_
      refine lv_lconst (v := 1) hx hb dJ9_floorDiv_f86c9_24 (by decide) ?_
      refine lv_lsub hx hb dJ9_floorDiv_f86c9_25 ?_
      cases h
      exact ret _ _ _ _ dJ9_floorDiv_f86c9_26 hP hD hS

def sJ9_floorMod_f86c9 (a0 : Int64) (a2 : Int64)  : Option (Int64) := gd (¬ a2 = 0) (lt (a0 - a0 / a2 * a2) (fun x1 => if 0 ≤ (lg_cmp (a0 ^^^ a2) (0 : Int64)) then some x1 else if (lg_cmp x1 (0 : Int64)) = 0 then some x1 else some (x1 + a2)))
abbrev rmJ9_floorMod_f86c9 : Room := { frames := 0, cells := 0, slots := 0, locals := 0 }
set_option maxHeartbeats 4000000 in
set_option maxRecDepth 100000 in
theorem c_J9_floorMod_f86c9 (l : Launch) (D : va_G) (ky : Nat → ClassId) (a0 : Int64) (a2 : Int64) {o_r : Int64} (h : sJ9_floorMod_f86c9 a0 a2 = some o_r) : MtL l D ky yJ9_floorMod_f86c9 wsJ9_floorMod_f86c9 rmJ9_floorMod_f86c9 [.long a0, .long a2] [] [] o_r 0 0 := by
  refine MtL.ofF (cc := cJ9_floorMod_f86c9) (maxL := 6) (by decide +kernel) rfl (Nat.le_of_ble_eq_true rfl) ?_
  intro p e R s m args below meth c A Q ls hR hx hb hts hown hnm hml hP hK hD hA ret hl
  subst hR
  obtain ⟨H, hH⟩ : ∃ H, H = s.heap := ⟨_, rfl⟩
  obtain ⟨locs, hlocs⟩ : ∃ locs : List Loc, locs = [] := ⟨_, rfl⟩
  have hS : va_S A s.heap H locs := by rw [hH, hlocs]; exact va_S.rf
  rw [← hH] at hP
  suffices hgo : W p l e rmJ9_floorMod_f86c9 s m args below meth c H locs 0 0 Q (F0 m 0 ls []) by rw [hH, hlocs] at hgo; exact hgo
  clear hH hlocs
  replace hl : lv_has ls 6 [(0, .long a0), (2, .long a2)] := hl
  replace hown : s.vm.findClass RJ9 = some m.cls := hown
  unfold sJ9_floorMod_f86c9 at h
  refine lv_lload_n hx hb dJ9_floorMod_f86c9_0 rfl (lv_at hl 0 rfl) ?_
  refine lv_lload_n hx hb dJ9_floorMod_f86c9_1 rfl (lv_at hl 1 rfl) ?_
  obtain ⟨hg, h⟩ := gd_of h
  refine lv_lrem hx hb dJ9_floorMod_f86c9_2 hg ?_
  refine lv_topl (fun x1 ex1 => ?_)
  replace h := lt_at ex1 h
  refine lv_lstore (lv' := [(4, .long x1), (0, .long a0), (2, .long a2)]) hx hb dJ9_floorMod_f86c9_3 hl (by decide) rfl (fun ls hl => ?_)
  refine lv_lload_n hx hb dJ9_floorMod_f86c9_5 rfl (lv_at hl 1 rfl) ?_
  refine lv_lload_n hx hb dJ9_floorMod_f86c9_6 rfl (lv_at hl 2 rfl) ?_
  refine lv_lxor hx hb dJ9_floorMod_f86c9_7 ?_
  refine lv_lconst (v := 0) hx hb dJ9_floorMod_f86c9_8 (by decide) ?_
  refine W.lcmp hx hb dJ9_floorMod_f86c9_9 ?_
  refine lv_if_ge (tgt := 25) hx hb dJ9_floorMod_f86c9_10 (by decide) (fun hc => ?_) (fun hc => ?_)
  · replace h := if_t hc h
    refine lv_lload hx hb dJ9_floorMod_f86c9_25 (lv_at hl 0 rfl) ?_
    cases h
    exact ret _ _ _ _ dJ9_floorMod_f86c9_27 hP hD hS
  · replace h := if_f hc h
    refine lv_lload hx hb dJ9_floorMod_f86c9_13 (lv_at hl 0 rfl) ?_
    refine lv_lconst (v := 0) hx hb dJ9_floorMod_f86c9_15 (by decide) ?_
    refine W.lcmp hx hb dJ9_floorMod_f86c9_16 ?_
    refine lv_if_eq (tgt := 25) hx hb dJ9_floorMod_f86c9_17 (by decide) (fun hc => ?_) (fun hc => ?_)
    · replace h := if_t hc h
      refine lv_lload hx hb dJ9_floorMod_f86c9_25 (lv_at hl 0 rfl) ?_
      cases h
      exact ret _ _ _ _ dJ9_floorMod_f86c9_27 hP hD hS
    · replace h := if_f hc h
      refine lv_lload hx hb dJ9_floorMod_f86c9_20 (lv_at hl 0 rfl) ?_
      refine lv_lload_n hx hb dJ9_floorMod_f86c9_22 rfl (lv_at hl 2 rfl) ?_
      refine lv_ladd hx hb dJ9_floorMod_f86c9_23 ?_
      cases h
      exact ret _ _ _ _ dJ9_floorMod_f86c9_24 hP hD hS

def sJ13_signum_95d88 (a0 : Int64)  : Option (Int32) := some (((a0 >>> ((63 : Int32).toInt64 &&& 63)) ||| (((-a0).toUInt64 >>> ((63 : Int32).toInt64.toUInt64 &&& Int64.toUInt64 63)).toInt64)).toInt32)
abbrev rmJ13_signum_95d88 : Room := { frames := 0, cells := 0, slots := 0, locals := 0 }
set_option maxHeartbeats 4000000 in
set_option maxRecDepth 100000 in
theorem c_J13_signum_95d88 (l : Launch) (D : va_G) (ky : Nat → ClassId) (a0 : Int64) {o_r : Int32} (h : sJ13_signum_95d88 a0 = some o_r) : MtI l D ky yJ13_signum_95d88 wsJ13_signum_95d88 rmJ13_signum_95d88 [.long a0] [] [] o_r 0 0 := by
  refine MtI.of (cc := cJ13_signum_95d88) (maxL := 2) (by decide +kernel) rfl (Nat.le_of_ble_eq_true rfl) ?_
  intro p e R s m args below meth c A Q ls hR hx hb hts hown hnm hml hP hK hD hA ret hl
  subst hR
  obtain ⟨H, hH⟩ : ∃ H, H = s.heap := ⟨_, rfl⟩
  obtain ⟨locs, hlocs⟩ : ∃ locs : List Loc, locs = [] := ⟨_, rfl⟩
  have hS : va_S A s.heap H locs := by rw [hH, hlocs]; exact va_S.rf
  rw [← hH] at hP
  suffices hgo : W p l e rmJ13_signum_95d88 s m args below meth c H locs 0 0 Q (F0 m 0 ls []) by rw [hH, hlocs] at hgo; exact hgo
  clear hH hlocs
  replace hl : lv_has ls 2 [(0, .long a0)] := hl
  replace hown : s.vm.findClass RJ13 = some m.cls := hown
  unfold sJ13_signum_95d88 at h
  refine lv_lload_n hx hb dJ13_signum_95d88_0 rfl (lv_at hl 0 rfl) ?_
  refine lv_bipush (v := 63) hx hb dJ13_signum_95d88_1 (by decide) ?_
  refine lv_lshr (v := (a0 >>> ((63 : Int32).toInt64 &&& 63))) hx hb dJ13_signum_95d88_3 rfl ?_
  refine lv_lload_n hx hb dJ13_signum_95d88_4 rfl (lv_at hl 0 rfl) ?_
  refine lv_lneg hx hb dJ13_signum_95d88_5 ?_
  refine lv_bipush (v := 63) hx hb dJ13_signum_95d88_6 (by decide) ?_
  refine lv_lushr (v := ((-a0).toUInt64 >>> ((63 : Int32).toInt64.toUInt64 &&& Int64.toUInt64 63)).toInt64) hx hb dJ13_signum_95d88_8 rfl ?_
  refine lv_lor hx hb dJ13_signum_95d88_9 ?_
  refine lv_l2i (v := ((a0 >>> ((63 : Int32).toInt64 &&& 63)) ||| (((-a0).toUInt64 >>> ((63 : Int32).toInt64.toUInt64 &&& Int64.toUInt64 63)).toInt64)).toInt32) hx hb dJ13_signum_95d88_10 rfl ?_
  cases h
  exact ret _ _ _ _ dJ13_signum_95d88_11 hP hD hS

def bX9_greatestCommon_7  (t : Int32 × Int32 × Int32) : Option (Nat × (Int32 × Int32 × Int32)) := dm3 t (fun (v1 : Int32) (v2 : Int32) (v3 : Int32) => if (50 : Int32) ≤ v3 then some (1, (v1, v2, v3)) else if v2 = 0 then some (1, (v1, v2, v3)) else gd (¬ v2 = 0) (lt (v1 - v1 / v2 * v2) (fun x4 => lt (v3 + 1) (fun x5 => some (0, (v2, x4, x5))))))
def sX9_greatestCommon (a0 : Int32) (a1 : Int32)  : Option (Int32) := ob (iter (bX9_greatestCommon_7 ) FU (a0, a1, (0 : Int32))) (fun kt => ex1 kt (fun t => dm3 t (fun (v6 : Int32) (v7 : Int32) (v8 : Int32) => some v6)))
abbrev rmX9_greatestCommon : Room := { frames := 0, cells := 0, slots := 0, locals := 0 }
set_option maxHeartbeats 4000000 in
set_option maxRecDepth 100000 in
theorem c_X9_greatestCommon (l : Launch) (D : va_G) (ky : Nat → ClassId) (a0 : Int32) (a1 : Int32) {o_r : Int32} (h : sX9_greatestCommon a0 a1 = some o_r) : MtI l D ky yX9_greatestCommon wsX9_greatestCommon rmX9_greatestCommon [.int a0, .int a1] [] [] o_r 0 0 := by
  refine MtI.of (cc := cX9_greatestCommon) (maxL := 6) (by decide +kernel) rfl (Nat.le_of_ble_eq_true rfl) ?_
  intro p e R s m args below meth c A Q ls hR hx hb hts hown hnm hml hP hK hD hA ret hl
  subst hR
  obtain ⟨H, hH⟩ : ∃ H, H = s.heap := ⟨_, rfl⟩
  obtain ⟨locs, hlocs⟩ : ∃ locs : List Loc, locs = [] := ⟨_, rfl⟩
  have hS : va_S A s.heap H locs := by rw [hH, hlocs]; exact va_S.rf
  rw [← hH] at hP
  suffices hgo : W p l e rmX9_greatestCommon s m args below meth c H locs 0 0 Q (F0 m 0 ls []) by rw [hH, hlocs] at hgo; exact hgo
  clear hH hlocs
  replace hl : lv_has ls 6 [(0, .int a0), (1, .int a1)] := hl
  replace hown : s.vm.findClass RX9 = some m.cls := hown
  unfold sX9_greatestCommon at h
  refine lv_iload_n hx hb dX9_greatestCommon_0 rfl (lv_at hl 0 rfl) ?_
  refine lv_istore_n (lv' := [(2, .int a0), (0, .int a0), (1, .int a1)]) hx hb dX9_greatestCommon_1 rfl hl (by decide) rfl (fun ls hl => ?_)
  refine lv_iload_n hx hb dX9_greatestCommon_2 rfl (lv_at hl 2 rfl) ?_
  refine lv_istore_n (lv' := [(3, .int a1), (2, .int a0), (0, .int a0), (1, .int a1)]) hx hb dX9_greatestCommon_3 rfl hl (by decide) rfl (fun ls hl => ?_)
  refine lv_iconst (v := 0) hx hb dX9_greatestCommon_4 (by decide) ?_
  refine lv_istore (lv' := [(4, .int (0 : Int32)), (3, .int a1), (2, .int a0), (0, .int a0), (1, .int a1)]) hx hb dX9_greatestCommon_5 hl (by decide) rfl (fun ls hl => ?_)
  obtain ⟨⟨k, t⟩, hi, h⟩ := ob_of h
  refine iter_rule (P := fun (k : Nat) (t : Int32 × Int32 × Int32) => ∀ (H : Heap) (locs : List Loc) (ls : Array Slot), va_P D vwCl [] H → va_D A [] → va_S A s.heap H locs → lv_has ls 6 [(2, .int t.1), (3, .int t.2.1), (4, .int t.2.2)] → W p l e rmX9_greatestCommon s m args below meth c H locs 0 0 Q (F0 m ([7, 34].getD k 0) ls [])) ?_ _ _ _ _ hi ?_ H locs ls hP hD hS (lv_sub hl [2, 1, 0] rfl)
  · clear h hi hP hD hS hl
    intro t k t' h K
    obtain ⟨v1, v2, v3⟩ := t
    intro H locs ls hP hD hS hl
    replace h := dm3_of h
    replace hP : va_P D vwCl [] H := hP
    replace hD : va_D A [] := hD
    replace hl : lv_has ls 6 [(2, .int v1), (3, .int v2), (4, .int v3)] := hl
    refine lv_iload hx hb dX9_greatestCommon_7 (lv_at hl 2 rfl) ?_
    refine lv_bipush (v := 50) hx hb dX9_greatestCommon_9 (by decide) ?_
    refine lv_icmp_ge (tgt := 34) hx hb dX9_greatestCommon_11 (by decide) (fun hc => ?_) (fun hc => ?_)
    · replace h := if_t hc h
      cases h
      exact K _ _ _ hP hD hS (lv_sub hl [0, 1, 2] rfl)
    · replace h := if_f hc h
      refine lv_iload_n hx hb dX9_greatestCommon_14 rfl (lv_at hl 1 rfl) ?_
      refine lv_if_eq (tgt := 34) hx hb dX9_greatestCommon_15 (by decide) (fun hc => ?_) (fun hc => ?_)
      · replace h := if_t hc h
        cases h
        exact K _ _ _ hP hD hS (lv_sub hl [0, 1, 2] rfl)
      · replace h := if_f hc h
        refine lv_iload_n hx hb dX9_greatestCommon_18 rfl (lv_at hl 0 rfl) ?_
        refine lv_iload_n hx hb dX9_greatestCommon_19 rfl (lv_at hl 1 rfl) ?_
        obtain ⟨hg, h⟩ := gd_of h
        refine lv_irem hx hb dX9_greatestCommon_20 hg ?_
        refine lv_topi (fun x4 ex4 => ?_)
        replace h := lt_at ex4 h
        refine lv_istore (lv' := [(5, .int x4), (2, .int v1), (3, .int v2), (4, .int v3)]) hx hb dX9_greatestCommon_21 hl (by decide) rfl (fun ls hl => ?_)
        refine lv_iload_n hx hb dX9_greatestCommon_23 rfl (lv_at hl 2 rfl) ?_
        refine lv_istore_n (lv' := [(2, .int v2), (5, .int x4), (3, .int v2), (4, .int v3)]) hx hb dX9_greatestCommon_24 rfl hl (by decide) rfl (fun ls hl => ?_)
        refine lv_iload hx hb dX9_greatestCommon_25 (lv_at hl 1 rfl) ?_
        refine lv_istore_n (lv' := [(3, .int x4), (2, .int v2), (5, .int x4), (4, .int v3)]) hx hb dX9_greatestCommon_27 rfl hl (by decide) rfl (fun ls hl => ?_)
        obtain ⟨x5, ex5⟩ : ∃ z : Int32, z = v3 + 1 := ⟨_, rfl⟩
        replace h := lt_at ex5 h
        refine lv_iinc (v := x5) (lv' := [(4, .int x5), (3, .int x4), (2, .int v2), (5, .int x4)]) hx hb dX9_greatestCommon_28 hl (k := 3) rfl (by rw [ex5]; rfl) (by decide) rfl (fun ls hl => ?_)
        refine lv_goto (tgt := 7) hx hb dX9_greatestCommon_31 (by decide) ?_
        cases h
        exact K _ _ _ hP hD hS (lv_sub hl [2, 1, 0] rfl)
  · have h1 := ex1_of h
    clear h hi
    rcases h1 with ⟨rfl, h⟩
    obtain ⟨v6, v7, v8⟩ := t
    replace h := dm3_of h
    intro H locs ls hP hD hS hl
    replace hP : va_P D vwCl [] H := hP
    replace hD : va_D A [] := hD
    replace hl : lv_has ls 6 [(2, .int v6), (3, .int v7), (4, .int v8)] := hl
    refine W.eq (g2 := F0 m 34 ls []) rfl ?_
    refine lv_iload_n hx hb dX9_greatestCommon_34 rfl (lv_at hl 0 rfl) ?_
    cases h
    exact ret _ _ _ _ dX9_greatestCommon_35 hP hD hS

