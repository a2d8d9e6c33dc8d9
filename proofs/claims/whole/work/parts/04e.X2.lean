def bX2_clear_12  (t : Int32 × (Nat → Int64)) : Option (Nat × (Int32 × (Nat → Int64))) := dm2 t (fun (v1 : Int32) (v2 : Nat → Int64) => if (32 : Int32) ≤ v1 then some (1, (v1, v2)) else gd (¬ (v1 < 0 ∨ 32 ≤ v1.toNatClampNeg)) (lt (vp_updL v2 v1.toNatClampNeg (0 : Int64)) (fun f3 => lt (v1 + 1) (fun x4 => some (0, (x4, f3))))))
def sX2_clear  (s_whole : Int64) (s_added : Int32) (s_groups : Nat → Int64) : Option (Int64 × Int32 × (Nat → Int64)) := ob (iter (bX2_clear_12 ) FU ((0 : Int32), s_groups)) (fun kt => ex1 kt (fun t => dm2 t (fun (v5 : Int32) (v6 : Nat → Int64) => some ((0 : Int64), (0 : Int32), v6))))
abbrev rmX2_clear : Room := { frames := 0, cells := 0, slots := 0, locals := 0 }
set_option maxHeartbeats 4000000 in
set_option maxRecDepth 100000 in
theorem c_X2_clear (l : Launch) (D : va_G) (ky : Nat → ClassId) (q_ q_groups : Nat) (s_whole : Int64) (s_added : Int32) (s_groups : Nat → Int64) {o_whole : Int64} {o_added : Int32} {o_groups : Nat → Int64} (h : sX2_clear s_whole s_added s_groups = some (o_whole, o_added, o_groups)) : MtV l D ky yX2_clear wsX2_clear rmX2_clear [.ref q_] [(q_, .inr (2, [.long s_whole, .int s_added, .ref q_groups])), (q_groups, .inl (ky 1, 32, .inr (.inl s_groups)))] [(q_, .inr (2, [.long o_whole, .int o_added, .ref q_groups])), (q_groups, .inl (ky 1, 32, .inr (.inl o_groups)))] 0 0 := by
  refine MtV.of (cc := cX2_clear) (maxL := 2) (by decide +kernel) rfl (Nat.le_of_ble_eq_true rfl) ?_
  intro p e R s m args below meth c A Q ls hR hx hb hts hown hnm hml hP hK hD hA ret hl
  have rt := rtV (dc := fun pc => decode cX2_clear pc = .ok (.return_, 1)) (o_whole, o_added, o_groups) (fun t => [(q_, .inr (2, [.long t.1, .int t.2.1, .ref q_groups])), (q_groups, .inl (ky 1, 32, .inr (.inl t.2.2)))]) ret
  subst hR
  obtain ⟨H, hH⟩ : ∃ H, H = s.heap := ⟨_, rfl⟩
  obtain ⟨locs, hlocs⟩ : ∃ locs : List Loc, locs = [] := ⟨_, rfl⟩
  have hS : va_S A s.heap H locs := by rw [hH, hlocs]; exact va_S.rf
  rw [← hH] at hP
  suffices hgo : W p l e rmX2_clear s m args below meth c H locs 0 0 Q (F0 m 0 ls []) by rw [hH, hlocs] at hgo; exact hgo
  clear hH hlocs
  replace hl : lv_has ls 2 [(0, .ref q_)] := hl
  replace hown : s.vm.findClass RX2 = some m.cls := hown
  have hi_X2 : ∀ w ∈ u_ws RX2 TX2 3, w ∈ wsX2_clear := fun _ h9 => List.mem_cons_of_mem _ (List.mem_append_right _ h9)
  have hf_13 := hts (.fieldLink RX2 13 "GlazierBench$ExactSum" "whole" "J") (by decide +kernel)
  have hf_17 := hts (.fieldLink RX2 17 "GlazierBench$ExactSum" "added" "I") (by decide +kernel)
  have hf_9 := hts (.fieldLink RX2 9 "GlazierBench$ExactSum" "groups" "[J") (by decide +kernel)
  unfold sX2_clear at h
  refine lv_aload_n hx hb dX2_clear_0 rfl (lv_at hl 0 rfl) ?_
  refine lv_lconst (v := 0) hx hb dX2_clear_1 (by decide) ?_
  refine va_put (D := D) (ci := 2) (v := .long (0 : Int64)) (ty := .long) (C := RX2) (T := TX2) (N := 3) hx hb hts hi_X2 tyX2 tyX2_ok nmX2 hown hK.1 hP hD hS 0 rfl rfl 0 (by decide) hf_13 (fun _ h9 => h9) rfl (by decide +kernel) rfl rfl (Nat.le_of_ble_eq_true rfl) dX2_clear_2 (fun H locs hP hD hS => ?_)
  replace hP : va_P D vwCl [(q_, .inr (2, [.long (0 : Int64), .int s_added, .ref q_groups])), (q_groups, .inl (ky 1, 32, .inr (.inl s_groups)))] H := hP
  replace hD : va_D A [(q_, .inr (2, [.long (0 : Int64), .int s_added, .ref q_groups])), (q_groups, .inl (ky 1, 32, .inr (.inl s_groups)))] := hD
  refine lv_aload_n hx hb dX2_clear_5 rfl (lv_at hl 0 rfl) ?_
  refine lv_iconst (v := 0) hx hb dX2_clear_6 (by decide) ?_
  refine va_put (D := D) (ci := 2) (v := .int (0 : Int32)) (ty := .int) (C := RX2) (T := TX2) (N := 3) hx hb hts hi_X2 tyX2 tyX2_ok nmX2 hown hK.1 hP hD hS 0 rfl rfl 1 (by decide) hf_17 (fun _ h9 => h9) rfl (by decide +kernel) rfl rfl (Nat.le_of_ble_eq_true rfl) dX2_clear_7 (fun H locs hP hD hS => ?_)
  replace hP : va_P D vwCl [(q_, .inr (2, [.long (0 : Int64), .int (0 : Int32), .ref q_groups])), (q_groups, .inl (ky 1, 32, .inr (.inl s_groups)))] H := hP
  replace hD : va_D A [(q_, .inr (2, [.long (0 : Int64), .int (0 : Int32), .ref q_groups])), (q_groups, .inl (ky 1, 32, .inr (.inl s_groups)))] := hD
  refine lv_iconst (v := 0) hx hb dX2_clear_10 (by decide) ?_
  refine lv_istore_n (lv' := [(1, .int (0 : Int32)), (0, .ref q_)]) hx hb dX2_clear_11 rfl hl (by decide) rfl (fun ls hl => ?_)
  obtain ⟨⟨k, t⟩, hi, h⟩ := ob_of h
  refine iter_rule (P := fun (k : Nat) (t : Int32 × (Nat → Int64)) => ∀ (H : Heap) (locs : List Loc) (ls : Array Slot), va_P D vwCl [(q_, .inr (2, [.long (0 : Int64), .int (0 : Int32), .ref q_groups])), (q_groups, .inl (ky 1, 32, .inr (.inl t.2)))] H → va_D A [(q_, .inr (2, [.long (0 : Int64), .int (0 : Int32), .ref q_groups])), (q_groups, .inl (ky 1, 32, .inr (.inl t.2)))] → va_S A s.heap H locs → lv_has ls 2 [(0, .ref q_), (1, .int t.1)] → W p l e rmX2_clear s m args below meth c H locs 0 0 Q (F0 m ([12, 31].getD k 0) ls [])) ?_ _ _ _ _ hi ?_ H locs ls hP hD hS (lv_sub hl [1, 0] rfl)
  · clear h hi hP hD hS hl
    intro t k t' h K
    obtain ⟨v1, v2⟩ := t
    intro H locs ls hP hD hS hl
    replace h := dm2_of h
    replace hP : va_P D vwCl [(q_, .inr (2, [.long (0 : Int64), .int (0 : Int32), .ref q_groups])), (q_groups, .inl (ky 1, 32, .inr (.inl v2)))] H := hP
    replace hD : va_D A [(q_, .inr (2, [.long (0 : Int64), .int (0 : Int32), .ref q_groups])), (q_groups, .inl (ky 1, 32, .inr (.inl v2)))] := hD
    replace hl : lv_has ls 2 [(0, .ref q_), (1, .int v1)] := hl
    refine lv_iload_n hx hb dX2_clear_12 rfl (lv_at hl 1 rfl) ?_
    refine lv_bipush (v := 32) hx hb dX2_clear_13 (by decide) ?_
    refine lv_icmp_ge (tgt := 31) hx hb dX2_clear_15 (by decide) (fun hc => ?_) (fun hc => ?_)
    · replace h := if_t hc h
      cases h
      exact K _ _ _ hP hD hS (lv_sub hl [0, 1] rfl)
    · replace h := if_f hc h
      refine lv_aload_n hx hb dX2_clear_18 rfl (lv_at hl 0 rfl) ?_
      refine va_get (D := D) (ci := 2) (v := .ref q_groups) (C := RX2) (T := TX2) (N := 3) hx hb hts hi_X2 hown hK.1 hP 0 rfl rfl 2 (by decide) hf_9 (fun _ h9 => h9) rfl dX2_clear_19 ?_
      refine lv_iload_n hx hb dX2_clear_22 rfl (lv_at hl 1 rfl) ?_
      refine lv_lconst (v := 0) hx hb dX2_clear_23 (by decide) ?_
      obtain ⟨hg, h⟩ := gd_of h
      refine r_last hx hb hK.1 hP hD hS 1 1 rfl rfl hg dX2_clear_24 (fun f3 ef3 H locs hP hD hS => ?_)
      replace h := lt_at ef3 h
      replace hP : va_P D vwCl [(q_, .inr (2, [.long (0 : Int64), .int (0 : Int32), .ref q_groups])), (q_groups, .inl (ky 1, 32, .inr (.inl f3)))] H := hP
      replace hD : va_D A [(q_, .inr (2, [.long (0 : Int64), .int (0 : Int32), .ref q_groups])), (q_groups, .inl (ky 1, 32, .inr (.inl f3)))] := hD
      obtain ⟨x4, ex4⟩ : ∃ z : Int32, z = v1 + 1 := ⟨_, rfl⟩
      replace h := lt_at ex4 h
      refine lv_iinc (v := x4) (lv' := [(1, .int x4), (0, .ref q_)]) hx hb dX2_clear_25 hl (k := 1) rfl (by rw [ex4]; rfl) (by decide) rfl (fun ls hl => ?_)
      refine lv_goto (tgt := 12) hx hb dX2_clear_28 (by decide) ?_
      cases h
      exact K _ _ _ hP hD hS (lv_sub hl [1, 0] rfl)
  · have h1 := ex1_of h
    clear h hi
    rcases h1 with ⟨rfl, h⟩
    obtain ⟨v5, v6⟩ := t
    replace h := dm2_of h
    intro H locs ls hP hD hS hl
    replace hP : va_P D vwCl [(q_, .inr (2, [.long (0 : Int64), .int (0 : Int32), .ref q_groups])), (q_groups, .inl (ky 1, 32, .inr (.inl v6)))] H := hP
    replace hD : va_D A [(q_, .inr (2, [.long (0 : Int64), .int (0 : Int32), .ref q_groups])), (q_groups, .inl (ky 1, 32, .inr (.inl v6)))] := hD
    replace hl : lv_has ls 2 [(0, .ref q_), (1, .int v5)] := hl
    refine W.eq (g2 := F0 m 31 ls []) rfl ?_
    exact rt _ h _ _ _ _ dX2_clear_31 hP hD hS

def bX2_plus_31 (a3 : Int64) (t : Int64 × Int32 × (Nat → Int64)) : Option (Nat × (Int64 × Int32 × (Nat → Int64))) := dm3 t (fun (v4 : Int64) (v5 : Int32) (v6 : Nat → Int64) => if (32 : Int32) ≤ v5 then some (1, (v4, v5, v6)) else lt (v4 <<< ((30 : Int32).toInt64 &&& 63)) (fun x7 => gd (¬ (v5 < 0 ∨ 32 ≤ v5.toNatClampNeg)) (gd (¬ a3 = 0) (gd (¬ (v5 < 0 ∨ 32 ≤ v5.toNatClampNeg)) (lt (vp_updL v6 v5.toNatClampNeg ((v6 v5.toNatClampNeg) + (x7 / a3))) (fun f8 => gd (¬ a3 = 0) (lt (x7 - x7 / a3 * a3) (fun x9 => lt (v5 + 1) (fun x10 => some (0, (x9, x10, f8)))))))))))
def sX2_plus (a1 : Int64) (a3 : Int64) (s_whole : Int64) (s_added : Int32) (s_groups : Nat → Int64) : Option (Int64 × Int32 × (Nat → Int64)) := if 0 ≤ (lg_cmp a3 (1 : Int64)) then ob (sJ9_floorDiv_f86c9 a1 a3) (fun o => dm1 o (fun (r1 : Int64) => lt (s_whole + r1) (fun x2 => ob (sJ9_floorMod_f86c9 a1 a3) (fun o => dm1 o (fun (r3 : Int64) => ob (iter (bX2_plus_31 a3) FU (r3, (0 : Int32), s_groups)) (fun kt => ex1 kt (fun t => dm3 t (fun (v11 : Int64) (v12 : Int32) (v13 : Nat → Int64) => lt (s_added + (1 : Int32)) (fun x14 => some (x2, x14, v13)))))))))) else some (s_whole, s_added, s_groups)
abbrev rmX2_plus : Room := { frames := 1, cells := 0, slots := 0, locals := 25 }
set_option maxHeartbeats 4000000 in
set_option maxRecDepth 100000 in
theorem c_X2_plus (l : Launch) (D : va_G) (ky : Nat → ClassId) (q_ q_groups : Nat) (a1 : Int64) (a3 : Int64) (s_whole : Int64) (s_added : Int32) (s_groups : Nat → Int64) {o_whole : Int64} {o_added : Int32} {o_groups : Nat → Int64} (h : sX2_plus a1 a3 s_whole s_added s_groups = some (o_whole, o_added, o_groups)) : MtV l D ky yX2_plus wsX2_plus rmX2_plus [.ref q_, .long a1, .long a3] [(q_, .inr (2, [.long s_whole, .int s_added, .ref q_groups])), (q_groups, .inl (ky 1, 32, .inr (.inl s_groups)))] [(q_, .inr (2, [.long o_whole, .int o_added, .ref q_groups])), (q_groups, .inl (ky 1, 32, .inr (.inl o_groups)))] 0 0 := by
  refine MtV.of (cc := cX2_plus) (maxL := 10) (by decide +kernel) rfl (Nat.le_of_ble_eq_true rfl) ?_
  intro p e R s m args below meth c A Q ls hR hx hb hts hown hnm hml hP hK hD hA ret hl
  have rt := rtV (dc := fun pc => decode cX2_plus pc = .ok (.return_, 1)) (o_whole, o_added, o_groups) (fun t => [(q_, .inr (2, [.long t.1, .int t.2.1, .ref q_groups])), (q_groups, .inl (ky 1, 32, .inr (.inl t.2.2)))]) ret
  subst hR
  obtain ⟨H, hH⟩ : ∃ H, H = s.heap := ⟨_, rfl⟩
  obtain ⟨locs, hlocs⟩ : ∃ locs : List Loc, locs = [] := ⟨_, rfl⟩
  have hS : va_S A s.heap H locs := by rw [hH, hlocs]; exact va_S.rf
  rw [← hH] at hP
  suffices hgo : W p l e rmX2_plus s m args below meth c H locs 0 0 Q (F0 m 0 ls []) by rw [hH, hlocs] at hgo; exact hgo
  clear hH hlocs
  replace hl : lv_has ls 10 [(0, .ref q_), (1, .long a1), (3, .long a3)] := hl
  replace hown : s.vm.findClass RX2 = some m.cls := hown
  have hi_X2 : ∀ w ∈ u_ws RX2 TX2 3, w ∈ wsX2_plus := fun _ h9 => List.mem_cons_of_mem _ (List.mem_append_right _ h9)
  have hf_13 := hts (.fieldLink RX2 13 "GlazierBench$ExactSum" "whole" "J") (by decide +kernel)
  have hf_9 := hts (.fieldLink RX2 9 "GlazierBench$ExactSum" "groups" "[J") (by decide +kernel)
  have hf_17 := hts (.fieldLink RX2 17 "GlazierBench$ExactSum" "added" "I") (by decide +kernel)
  unfold sX2_plus at h
  refine lv_lload_n hx hb dX2_plus_0 rfl (lv_at hl 2 rfl) ?_
  refine lv_lconst (v := 1) hx hb dX2_plus_1 (by decide) ?_
  refine W.lcmp hx hb dX2_plus_2 ?_
  refine lv_if_ge (tgt := 7) hx hb dX2_plus_3 (by decide) (fun hc => ?_) (fun hc => ?_)
  · replace h := if_t hc h
    refine lv_aload_n hx hb dX2_plus_7 rfl (lv_at hl 0 rfl) ?_
    refine lv_dup hx hb dX2_plus_8 rfl ?_
    refine va_get (D := D) (ci := 2) (v := .long s_whole) (C := RX2) (T := TX2) (N := 3) hx hb hts hi_X2 hown hK.1 hP 0 rfl rfl 0 (by decide) hf_13 (fun _ h9 => h9) rfl dX2_plus_9 ?_
    refine lv_lload_n hx hb dX2_plus_12 rfl (lv_at hl 1 rfl) ?_
    refine lv_lload_n hx hb dX2_plus_13 rfl (lv_at hl 2 rfl) ?_
    obtain ⟨r1, hc, h⟩ := ob_of h
    replace h := dm1_of h
    refine cs_l (As := [.long a1, .long a3]) (rest := [.long s_whole, .ref q_]) (wr := [(q_, .inr (2, [.long s_whole, .int s_added, .ref q_groups])), (q_groups, .inl (ky 1, 32, .inr (.inl s_groups)))]) (wn := [(q_, .inr (2, [.long s_whole, .int s_added, .ref q_groups])), (q_groups, .inl (ky 1, 32, .inr (.inl s_groups)))]) ⟨hx, hb, hml, hown, hts⟩ (c_J9_floorDiv_f86c9 l D ky a1 a3 hc) (va_cwS 2 hts gX2_plus_J9_floorDiv_f86c9 rfl rfl rfl (by decide +kernel) ⟨Nat.le_of_ble_eq_true rfl, Nat.le_of_ble_eq_true rfl⟩) hP hD hK hS hA [] [0, 1] [0, 1] rfl (by decide +kernel) rfl (by decide +kernel) (by decide +kernel) (by decide +kernel) rfl rfl rfl hl.1 (Nat.le_of_ble_eq_true rfl) dX2_plus_14 ⟨Nat.le_of_ble_eq_true rfl, Nat.le_of_ble_eq_true rfl⟩ (fun H locs hP hD hS => ?_)
    refine lv_ladd hx hb dX2_plus_17 ?_
    refine lv_topl (fun x2 ex2 => ?_)
    replace h := lt_at ex2 h
    refine va_put (D := D) (ci := 2) (v := .long x2) (ty := .long) (C := RX2) (T := TX2) (N := 3) hx hb hts hi_X2 tyX2 tyX2_ok nmX2 hown hK.1 hP hD hS 0 rfl rfl 0 (by decide) hf_13 (fun _ h9 => h9) rfl (by decide +kernel) rfl rfl (Nat.le_of_ble_eq_true rfl) dX2_plus_18 (fun H locs hP hD hS => ?_)
    replace hP : va_P D vwCl [(q_, .inr (2, [.long x2, .int s_added, .ref q_groups])), (q_groups, .inl (ky 1, 32, .inr (.inl s_groups)))] H := hP
    replace hD : va_D A [(q_, .inr (2, [.long x2, .int s_added, .ref q_groups])), (q_groups, .inl (ky 1, 32, .inr (.inl s_groups)))] := hD
    refine lv_lload_n hx hb dX2_plus_21 rfl (lv_at hl 1 rfl) ?_
    refine lv_lload_n hx hb dX2_plus_22 rfl (lv_at hl 2 rfl) ?_
    obtain ⟨r3, hc, h⟩ := ob_of h
    replace h := dm1_of h
    refine cs_l (As := [.long a1, .long a3]) (rest := []) (wr := [(q_, .inr (2, [.long x2, .int s_added, .ref q_groups])), (q_groups, .inl (ky 1, 32, .inr (.inl s_groups)))]) (wn := [(q_, .inr (2, [.long x2, .int s_added, .ref q_groups])), (q_groups, .inl (ky 1, 32, .inr (.inl s_groups)))]) ⟨hx, hb, hml, hown, hts⟩ (c_J9_floorMod_f86c9 l D ky a1 a3 hc) (va_cwS 2 hts gX2_plus_J9_floorMod_f86c9 rfl rfl rfl (by decide +kernel) ⟨Nat.le_of_ble_eq_true rfl, Nat.le_of_ble_eq_true rfl⟩) hP hD hK hS hA [] [0, 1] [0, 1] rfl (by decide +kernel) rfl (by decide +kernel) (by decide +kernel) (by decide +kernel) rfl rfl rfl hl.1 (Nat.le_of_ble_eq_true rfl) dX2_plus_23 ⟨Nat.le_of_ble_eq_true rfl, Nat.le_of_ble_eq_true rfl⟩ (fun H locs hP hD hS => ?_)
    refine lv_lstore (lv' := [(5, .long r3), (0, .ref q_), (1, .long a1), (3, .long a3)]) hx hb dX2_plus_26 hl (by decide) rfl (fun ls hl => ?_)
    refine lv_iconst (v := 0) hx hb dX2_plus_28 (by decide) ?_
    refine lv_istore (lv' := [(7, .int (0 : Int32)), (5, .long r3), (0, .ref q_), (1, .long a1), (3, .long a3)]) hx hb dX2_plus_29 hl (by decide) rfl (fun ls hl => ?_)
    obtain ⟨⟨k, t⟩, hi, h⟩ := ob_of h
    refine iter_rule (P := fun (k : Nat) (t : Int64 × Int32 × (Nat → Int64)) => ∀ (H : Heap) (locs : List Loc) (ls : Array Slot), va_P D vwCl [(q_, .inr (2, [.long x2, .int s_added, .ref q_groups])), (q_groups, .inl (ky 1, 32, .inr (.inl t.2.2)))] H → va_D A [(q_, .inr (2, [.long x2, .int s_added, .ref q_groups])), (q_groups, .inl (ky 1, 32, .inr (.inl t.2.2)))] → va_S A s.heap H locs → lv_has ls 10 [(0, .ref q_), (3, .long a3), (5, .long t.1), (7, .int t.2.1)] → W p l e rmX2_plus s m args below meth c H locs 0 0 Q (F0 m ([31, 71].getD k 0) ls [])) ?_ _ _ _ _ hi ?_ H locs ls hP hD hS (lv_sub hl [2, 4, 1, 0] rfl)
    · clear h hi hP hD hS hl
      intro t k t' h K
      obtain ⟨v4, v5, v6⟩ := t
      intro H locs ls hP hD hS hl
      replace h := dm3_of h
      replace hP : va_P D vwCl [(q_, .inr (2, [.long x2, .int s_added, .ref q_groups])), (q_groups, .inl (ky 1, 32, .inr (.inl v6)))] H := hP
      replace hD : va_D A [(q_, .inr (2, [.long x2, .int s_added, .ref q_groups])), (q_groups, .inl (ky 1, 32, .inr (.inl v6)))] := hD
      replace hl : lv_has ls 10 [(0, .ref q_), (3, .long a3), (5, .long v4), (7, .int v5)] := hl
      refine lv_iload hx hb dX2_plus_31 (lv_at hl 3 rfl) ?_
      refine lv_bipush (v := 32) hx hb dX2_plus_33 (by decide) ?_
      refine lv_icmp_ge (tgt := 71) hx hb dX2_plus_35 (by decide) (fun hc => ?_) (fun hc => ?_)
      · replace h := if_t hc h
        cases h
        exact K _ _ _ hP hD hS (lv_sub hl [0, 1, 2, 3] rfl)
      · replace h := if_f hc h
        refine lv_lload hx hb dX2_plus_38 (lv_at hl 2 rfl) ?_
        refine lv_bipush (v := 30) hx hb dX2_plus_40 (by decide) ?_
        refine lv_lshl (v := (v4 <<< ((30 : Int32).toInt64 &&& 63))) hx hb dX2_plus_42 rfl ?_
        refine lv_topl (fun x7 ex7 => ?_)
        replace h := lt_at ex7 h
        refine lv_lstore (lv' := [(8, .long x7), (0, .ref q_), (3, .long a3), (5, .long v4), (7, .int v5)]) hx hb dX2_plus_43 hl (by decide) rfl (fun ls hl => ?_)
        refine lv_aload_n hx hb dX2_plus_45 rfl (lv_at hl 1 rfl) ?_
        refine va_get (D := D) (ci := 2) (v := .ref q_groups) (C := RX2) (T := TX2) (N := 3) hx hb hts hi_X2 hown hK.1 hP 0 rfl rfl 2 (by decide) hf_9 (fun _ h9 => h9) rfl dX2_plus_46 ?_
        refine lv_iload hx hb dX2_plus_49 (lv_at hl 4 rfl) ?_
        refine lv_dup2_11 hx hb dX2_plus_51 rfl rfl ?_
        obtain ⟨hg, h⟩ := gd_of h
        refine va_lald hx hb hK.1 hP 1 1 rfl rfl hg dX2_plus_52 ?_
        refine lv_lload hx hb dX2_plus_53 (lv_at hl 0 rfl) ?_
        refine lv_lload_n hx hb dX2_plus_55 rfl (lv_at hl 2 rfl) ?_
        obtain ⟨hg, h⟩ := gd_of h
        refine lv_ldiv hx hb dX2_plus_56 hg ?_
        refine lv_ladd hx hb dX2_plus_57 ?_
        obtain ⟨hg, h⟩ := gd_of h
        refine r_last hx hb hK.1 hP hD hS 1 1 rfl rfl hg dX2_plus_58 (fun f8 ef8 H locs hP hD hS => ?_)
        replace h := lt_at ef8 h
        replace hP : va_P D vwCl [(q_, .inr (2, [.long x2, .int s_added, .ref q_groups])), (q_groups, .inl (ky 1, 32, .inr (.inl f8)))] H := hP
        replace hD : va_D A [(q_, .inr (2, [.long x2, .int s_added, .ref q_groups])), (q_groups, .inl (ky 1, 32, .inr (.inl f8)))] := hD
        refine lv_lload hx hb dX2_plus_59 (lv_at hl 0 rfl) ?_
        refine lv_lload_n hx hb dX2_plus_61 rfl (lv_at hl 2 rfl) ?_
        obtain ⟨hg, h⟩ := gd_of h
        refine lv_lrem hx hb dX2_plus_62 hg ?_
        refine lv_topl (fun x9 ex9 => ?_)
        replace h := lt_at ex9 h
        refine lv_lstore (lv' := [(5, .long x9), (8, .long x7), (0, .ref q_), (3, .long a3), (7, .int v5)]) hx hb dX2_plus_63 hl (by decide) rfl (fun ls hl => ?_)
        obtain ⟨x10, ex10⟩ : ∃ z : Int32, z = v5 + 1 := ⟨_, rfl⟩
        replace h := lt_at ex10 h
        refine lv_iinc (v := x10) (lv' := [(7, .int x10), (5, .long x9), (8, .long x7), (0, .ref q_), (3, .long a3)]) hx hb dX2_plus_65 hl (k := 4) rfl (by rw [ex10]; rfl) (by decide) rfl (fun ls hl => ?_)
        refine lv_goto (tgt := 31) hx hb dX2_plus_68 (by decide) ?_
        cases h
        exact K _ _ _ hP hD hS (lv_sub hl [3, 4, 1, 0] rfl)
    · have h1 := ex1_of h
      clear h hi
      rcases h1 with ⟨rfl, h⟩
      obtain ⟨v11, v12, v13⟩ := t
      replace h := dm3_of h
      intro H locs ls hP hD hS hl
      replace hP : va_P D vwCl [(q_, .inr (2, [.long x2, .int s_added, .ref q_groups])), (q_groups, .inl (ky 1, 32, .inr (.inl v13)))] H := hP
      replace hD : va_D A [(q_, .inr (2, [.long x2, .int s_added, .ref q_groups])), (q_groups, .inl (ky 1, 32, .inr (.inl v13)))] := hD
      replace hl : lv_has ls 10 [(0, .ref q_), (3, .long a3), (5, .long v11), (7, .int v12)] := hl
      refine W.eq (g2 := F0 m 71 ls []) rfl ?_
      refine lv_aload_n hx hb dX2_plus_71 rfl (lv_at hl 0 rfl) ?_
      refine lv_dup hx hb dX2_plus_72 rfl ?_
      refine va_get (D := D) (ci := 2) (v := .int s_added) (C := RX2) (T := TX2) (N := 3) hx hb hts hi_X2 hown hK.1 hP 0 rfl rfl 1 (by decide) hf_17 (fun _ h9 => h9) rfl dX2_plus_73 ?_
      refine lv_iconst (v := 1) hx hb dX2_plus_76 (by decide) ?_
      refine lv_iadd hx hb dX2_plus_77 ?_
      refine lv_topi (fun x14 ex14 => ?_)
      replace h := lt_at ex14 h
      refine va_put (D := D) (ci := 2) (v := .int x14) (ty := .int) (C := RX2) (T := TX2) (N := 3) hx hb hts hi_X2 tyX2 tyX2_ok nmX2 hown hK.1 hP hD hS 0 rfl rfl 1 (by decide) hf_17 (fun _ h9 => h9) rfl (by decide +kernel) rfl rfl (Nat.le_of_ble_eq_true rfl) dX2_plus_78 (fun H locs hP hD hS => ?_)
      replace hP : va_P D vwCl [(q_, .inr (2, [.long x2, .int x14, .ref q_groups])), (q_groups, .inl (ky 1, 32, .inr (.inl v13)))] H := hP
      replace hD : va_D A [(q_, .inr (2, [.long x2, .int x14, .ref q_groups])), (q_groups, .inl (ky 1, 32, .inr (.inl v13)))] := hD
      exact rt _ h _ _ _ _ dX2_plus_81 hP hD hS
  · replace h := if_f hc h
    exact rt _ h _ _ _ _ dX2_plus_6 hP hD hS

def bX2_wholePart_9 (s_groups : Nat → Int64) (t : Int64 × Int32) : Option (Nat × (Int64 × Int32)) := dm2 t (fun (v2 : Int64) (v3 : Int32) => if v3 < 0 then some (1, (v2, v3)) else gd (¬ (v3 < 0 ∨ 32 ≤ v3.toNatClampNeg)) (lt (((s_groups v3.toNatClampNeg) + v2) >>> ((30 : Int32).toInt64 &&& 63)) (fun x4 => lt (v3 + (-1)) (fun x5 => some (0, (x4, x5))))))
def sX2_wholePart  (s_whole : Int64) (s_added : Int32) (s_groups : Nat → Int64) : Option (Int64) := lt (s_added.toInt64) (fun x1 => ob (iter (bX2_wholePart_9 s_groups) FU (x1, (31 : Int32))) (fun kt => ex1 kt (fun t => dm2 t (fun (v6 : Int64) (v7 : Int32) => some (s_whole + v6)))))
abbrev rmX2_wholePart : Room := { frames := 0, cells := 0, slots := 0, locals := 0 }
set_option maxHeartbeats 4000000 in
set_option maxRecDepth 100000 in
theorem c_X2_wholePart (l : Launch) (D : va_G) (ky : Nat → ClassId) (q_ q_groups : Nat) (s_whole : Int64) (s_added : Int32) (s_groups : Nat → Int64) {o_r : Int64} (h : sX2_wholePart s_whole s_added s_groups = some o_r) : MtL l D ky yX2_wholePart wsX2_wholePart rmX2_wholePart [.ref q_] [(q_, .inr (2, [.long s_whole, .int s_added, .ref q_groups])), (q_groups, .inl (ky 1, 32, .inr (.inl s_groups)))] [(q_, .inr (2, [.long s_whole, .int s_added, .ref q_groups])), (q_groups, .inl (ky 1, 32, .inr (.inl s_groups)))] o_r 0 0 := by
  refine MtL.of (cc := cX2_wholePart) (maxL := 4) (by decide +kernel) rfl (Nat.le_of_ble_eq_true rfl) ?_
  intro p e R s m args below meth c A Q ls hR hx hb hts hown hnm hml hP hK hD hA ret hl
  subst hR
  obtain ⟨H, hH⟩ : ∃ H, H = s.heap := ⟨_, rfl⟩
  obtain ⟨locs, hlocs⟩ : ∃ locs : List Loc, locs = [] := ⟨_, rfl⟩
  have hS : va_S A s.heap H locs := by rw [hH, hlocs]; exact va_S.rf
  rw [← hH] at hP
  suffices hgo : W p l e rmX2_wholePart s m args below meth c H locs 0 0 Q (F0 m 0 ls []) by rw [hH, hlocs] at hgo; exact hgo
  clear hH hlocs
  replace hl : lv_has ls 4 [(0, .ref q_)] := hl
  replace hown : s.vm.findClass RX2 = some m.cls := hown
  have hi_X2 : ∀ w ∈ u_ws RX2 TX2 3, w ∈ wsX2_wholePart := fun _ h9 => List.mem_cons_of_mem _ (List.mem_append_right _ h9)
  have hf_17 := hts (.fieldLink RX2 17 "GlazierBench$ExactSum" "added" "I") (by decide +kernel)
  have hf_9 := hts (.fieldLink RX2 9 "GlazierBench$ExactSum" "groups" "[J") (by decide +kernel)
  have hf_13 := hts (.fieldLink RX2 13 "GlazierBench$ExactSum" "whole" "J") (by decide +kernel)
  unfold sX2_wholePart at h
  refine lv_aload_n hx hb dX2_wholePart_0 rfl (lv_at hl 0 rfl) ?_
  refine va_get (D := D) (ci := 2) (v := .int s_added) (C := RX2) (T := TX2) (N := 3) hx hb hts hi_X2 hown hK.1 hP 0 rfl rfl 1 (by decide) hf_17 (fun _ h9 => h9) rfl dX2_wholePart_1 ?_
  refine lv_i2l (v := s_added.toInt64) hx hb dX2_wholePart_4 rfl ?_
  refine lv_topl (fun x1 ex1 => ?_)
  replace h := lt_at ex1 h
  refine lv_lstore_n (lv' := [(1, .long x1), (0, .ref q_)]) hx hb dX2_wholePart_5 rfl hl (by decide) rfl (fun ls hl => ?_)
  refine lv_bipush (v := 31) hx hb dX2_wholePart_6 (by decide) ?_
  refine lv_istore_n (lv' := [(3, .int (31 : Int32)), (1, .long x1), (0, .ref q_)]) hx hb dX2_wholePart_8 rfl hl (by decide) rfl (fun ls hl => ?_)
  obtain ⟨⟨k, t⟩, hi, h⟩ := ob_of h
  refine iter_rule (P := fun (k : Nat) (t : Int64 × Int32) => ∀ (H : Heap) (locs : List Loc) (ls : Array Slot), va_P D vwCl [(q_, .inr (2, [.long s_whole, .int s_added, .ref q_groups])), (q_groups, .inl (ky 1, 32, .inr (.inl s_groups)))] H → va_D A [(q_, .inr (2, [.long s_whole, .int s_added, .ref q_groups])), (q_groups, .inl (ky 1, 32, .inr (.inl s_groups)))] → va_S A s.heap H locs → lv_has ls 4 [(0, .ref q_), (1, .long t.1), (3, .int t.2)] → W p l e rmX2_wholePart s m args below meth c H locs 0 0 Q (F0 m ([9, 31].getD k 0) ls [])) ?_ _ _ _ _ hi ?_ H locs ls hP hD hS (lv_sub hl [2, 1, 0] rfl)
  · clear h hi hP hD hS hl
    intro t k t' h K
    obtain ⟨v2, v3⟩ := t
    intro H locs ls hP hD hS hl
    replace h := dm2_of h
    replace hP : va_P D vwCl [(q_, .inr (2, [.long s_whole, .int s_added, .ref q_groups])), (q_groups, .inl (ky 1, 32, .inr (.inl s_groups)))] H := hP
    replace hD : va_D A [(q_, .inr (2, [.long s_whole, .int s_added, .ref q_groups])), (q_groups, .inl (ky 1, 32, .inr (.inl s_groups)))] := hD
    replace hl : lv_has ls 4 [(0, .ref q_), (1, .long v2), (3, .int v3)] := hl
    refine lv_iload_n hx hb dX2_wholePart_9 rfl (lv_at hl 2 rfl) ?_
    refine lv_if_lt (tgt := 31) hx hb dX2_wholePart_10 (by decide) (fun hc => ?_) (fun hc => ?_)
    · replace h := if_t hc h
      cases h
      exact K _ _ _ hP hD hS (lv_sub hl [0, 1, 2] rfl)
    · replace h := if_f hc h
      refine lv_aload_n hx hb dX2_wholePart_13 rfl (lv_at hl 0 rfl) ?_
      refine va_get (D := D) (ci := 2) (v := .ref q_groups) (C := RX2) (T := TX2) (N := 3) hx hb hts hi_X2 hown hK.1 hP 0 rfl rfl 2 (by decide) hf_9 (fun _ h9 => h9) rfl dX2_wholePart_14 ?_
      refine lv_iload_n hx hb dX2_wholePart_17 rfl (lv_at hl 2 rfl) ?_
      obtain ⟨hg, h⟩ := gd_of h
      refine va_lald hx hb hK.1 hP 1 1 rfl rfl hg dX2_wholePart_18 ?_
      refine lv_lload_n hx hb dX2_wholePart_19 rfl (lv_at hl 1 rfl) ?_
      refine lv_ladd hx hb dX2_wholePart_20 ?_
      refine lv_bipush (v := 30) hx hb dX2_wholePart_21 (by decide) ?_
      refine lv_lshr (v := (((s_groups v3.toNatClampNeg) + v2) >>> ((30 : Int32).toInt64 &&& 63))) hx hb dX2_wholePart_23 rfl ?_
      refine lv_topl (fun x4 ex4 => ?_)
      replace h := lt_at ex4 h
      refine lv_lstore_n (lv' := [(1, .long x4), (0, .ref q_), (3, .int v3)]) hx hb dX2_wholePart_24 rfl hl (by decide) rfl (fun ls hl => ?_)
      obtain ⟨x5, ex5⟩ : ∃ z : Int32, z = v3 + (-1) := ⟨_, rfl⟩
      replace h := lt_at ex5 h
      refine lv_iinc (v := x5) (lv' := [(3, .int x5), (1, .long x4), (0, .ref q_)]) hx hb dX2_wholePart_25 hl (k := 2) rfl (by rw [ex5]; rfl) (by decide) rfl (fun ls hl => ?_)
      refine lv_goto (tgt := 9) hx hb dX2_wholePart_28 (by decide) ?_
      cases h
      exact K _ _ _ hP hD hS (lv_sub hl [2, 1, 0] rfl)
  · have h1 := ex1_of h
    clear h hi
    rcases h1 with ⟨rfl, h⟩
    obtain ⟨v6, v7⟩ := t
    replace h := dm2_of h
    intro H locs ls hP hD hS hl
    replace hP : va_P D vwCl [(q_, .inr (2, [.long s_whole, .int s_added, .ref q_groups])), (q_groups, .inl (ky 1, 32, .inr (.inl s_groups)))] H := hP
    replace hD : va_D A [(q_, .inr (2, [.long s_whole, .int s_added, .ref q_groups])), (q_groups, .inl (ky 1, 32, .inr (.inl s_groups)))] := hD
    replace hl : lv_has ls 4 [(0, .ref q_), (1, .long v6), (3, .int v7)] := hl
    refine W.eq (g2 := F0 m 31 ls []) rfl ?_
    refine lv_aload_n hx hb dX2_wholePart_31 rfl (lv_at hl 0 rfl) ?_
    refine va_get (D := D) (ci := 2) (v := .long s_whole) (C := RX2) (T := TX2) (N := 3) hx hb hts hi_X2 hown hK.1 hP 0 rfl rfl 0 (by decide) hf_13 (fun _ h9 => h9) rfl dX2_wholePart_32 ?_
    refine lv_lload_n hx hb dX2_wholePart_35 rfl (lv_at hl 1 rfl) ?_
    refine lv_ladd hx hb dX2_wholePart_36 ?_
    cases h
    exact ret _ _ _ _ dX2_wholePart_37 hP hD hS

