def bX7_touches_5 (a1 : Int32) (a2 : Int32) (s_paneOf : Nat → Int32) (s_pieces_twin : Nat → Int32) (s_start : Nat → Int32) (s_walk : Nat → Int32) (t : Int32 × Int32) : Option (Nat × (Int32 × Int32)) := dm2 t (fun (v1 : Int32) (v2 : Int32) => ob (sX7_corners a1 s_start) (fun o => dm1 o (fun (r3 : Int32) => if r3 ≤ v2 then some (1, (v1, v2)) else ob (sX7_beyond a1 v2 s_paneOf s_pieces_twin s_start s_walk) (fun o => dm1 o (fun (r4 : Int32) => ob (if ¬ r4 = a2 then some v1 else lt (v1 + 1) (fun x7 => some x7)) (fun t => dm1 t (fun (v5 : Int32) => lt (v2 + 1) (fun x6 => some (0, (v5, x6))))))))))
def sX7_touches (a1 : Int32) (a2 : Int32) (s_paneOf : Nat → Int32) (s_pieces_twin : Nat → Int32) (s_start : Nat → Int32) (s_walk : Nat → Int32) : Option (Int32) := ob (iter (bX7_touches_5 a1 a2 s_paneOf s_pieces_twin s_start s_walk) FU ((0 : Int32), (0 : Int32))) (fun kt => ex1 kt (fun t => dm2 t (fun (v8 : Int32) (v9 : Int32) => if ¬ a1 = a2 then some v8 else gd (¬ (2 : Int32) = 0) (some (v8 / (2 : Int32))))))
abbrev rmX7_touches : Room := { frames := 1, cells := 0, slots := 0, locals := 22 }
set_option maxHeartbeats 4000000 in
set_option maxRecDepth 100000 in
theorem c_X7_touches (l : Launch) (D : va_G) (ky : Nat → ClassId) (q_ q_joints q_pieces q_paneOf q_walk q_start q_sum q_pieces_from q_pieces_to q_pieces_twin q_pieces_firm q_pieces_first q_pieces_firmEnds q_pieces_reached q_pieces_nextLow q_pieces_nextHigh : Nat) (a1 : Int32) (a2 : Int32) (s_total : Int32) (s_paneOf : Nat → Int32) (s_pieces_steps : Int32) (s_pieces_twin : Nat → Int32) (s_start : Nat → Int32) (s_walk : Nat → Int32) {o_r : Int32} (h : sX7_touches a1 a2 s_paneOf s_pieces_twin s_start s_walk = some o_r) : MtI l D ky yX7_touches wsX7_touches rmX7_touches [.ref q_, .int a1, .int a2] [(q_, .inr (7, [.ref q_joints, .ref q_pieces, .int s_total, .ref q_paneOf, .ref q_walk, .ref q_start, .ref q_sum])), (q_paneOf, .inl (ky 0, 768, .inl s_paneOf)), (q_pieces, .inr (8, [.ref q_joints, .int s_pieces_steps, .ref q_pieces_from, .ref q_pieces_to, .ref q_pieces_twin, .ref q_pieces_firm, .ref q_pieces_first, .ref q_pieces_firmEnds, .ref q_pieces_reached, .ref q_pieces_nextLow, .ref q_pieces_nextHigh])), (q_pieces_twin, .inl (ky 0, 768, .inl s_pieces_twin)), (q_start, .inl (ky 0, 129, .inl s_start)), (q_walk, .inl (ky 0, 768, .inl s_walk))] [(q_, .inr (7, [.ref q_joints, .ref q_pieces, .int s_total, .ref q_paneOf, .ref q_walk, .ref q_start, .ref q_sum])), (q_paneOf, .inl (ky 0, 768, .inl s_paneOf)), (q_pieces, .inr (8, [.ref q_joints, .int s_pieces_steps, .ref q_pieces_from, .ref q_pieces_to, .ref q_pieces_twin, .ref q_pieces_firm, .ref q_pieces_first, .ref q_pieces_firmEnds, .ref q_pieces_reached, .ref q_pieces_nextLow, .ref q_pieces_nextHigh])), (q_pieces_twin, .inl (ky 0, 768, .inl s_pieces_twin)), (q_start, .inl (ky 0, 129, .inl s_start)), (q_walk, .inl (ky 0, 768, .inl s_walk))] o_r 0 0 := by
  refine MtI.of (cc := cX7_touches) (maxL := 5) (by decide +kernel) rfl (Nat.le_of_ble_eq_true rfl) ?_
  intro p e R s m args below meth c A Q ls hR hx hb hts hown hnm hml hP hK hD hA ret hl
  subst hR
  obtain ⟨H, hH⟩ : ∃ H, H = s.heap := ⟨_, rfl⟩
  obtain ⟨locs, hlocs⟩ : ∃ locs : List Loc, locs = [] := ⟨_, rfl⟩
  have hS : va_S A s.heap H locs := by rw [hH, hlocs]; exact va_S.rf
  rw [← hH] at hP
  suffices hgo : W p l e rmX7_touches s m args below meth c H locs 0 0 Q (F0 m 0 ls []) by rw [hH, hlocs] at hgo; exact hgo
  clear hH hlocs
  replace hl : lv_has ls 5 [(0, .ref q_), (1, .int a1), (2, .int a2)] := hl
  replace hown : s.vm.findClass RX7 = some m.cls := hown
  unfold sX7_touches at h
  refine lv_iconst (v := 0) hx hb dX7_touches_0 (by decide) ?_
  refine lv_istore_n (lv' := [(3, .int (0 : Int32)), (0, .ref q_), (1, .int a1), (2, .int a2)]) hx hb dX7_touches_1 rfl hl (by decide) rfl (fun ls hl => ?_)
  refine lv_iconst (v := 0) hx hb dX7_touches_2 (by decide) ?_
  refine lv_istore (lv' := [(4, .int (0 : Int32)), (3, .int (0 : Int32)), (0, .ref q_), (1, .int a1), (2, .int a2)]) hx hb dX7_touches_3 hl (by decide) rfl (fun ls hl => ?_)
  obtain ⟨⟨k, t⟩, hi, h⟩ := ob_of h
  refine iter_rule (P := fun (k : Nat) (t : Int32 × Int32) => ∀ (H : Heap) (locs : List Loc) (ls : Array Slot), va_P D vwCl [(q_, .inr (7, [.ref q_joints, .ref q_pieces, .int s_total, .ref q_paneOf, .ref q_walk, .ref q_start, .ref q_sum])), (q_paneOf, .inl (ky 0, 768, .inl s_paneOf)), (q_pieces, .inr (8, [.ref q_joints, .int s_pieces_steps, .ref q_pieces_from, .ref q_pieces_to, .ref q_pieces_twin, .ref q_pieces_firm, .ref q_pieces_first, .ref q_pieces_firmEnds, .ref q_pieces_reached, .ref q_pieces_nextLow, .ref q_pieces_nextHigh])), (q_pieces_twin, .inl (ky 0, 768, .inl s_pieces_twin)), (q_start, .inl (ky 0, 129, .inl s_start)), (q_walk, .inl (ky 0, 768, .inl s_walk))] H → va_D A [(q_, .inr (7, [.ref q_joints, .ref q_pieces, .int s_total, .ref q_paneOf, .ref q_walk, .ref q_start, .ref q_sum])), (q_paneOf, .inl (ky 0, 768, .inl s_paneOf)), (q_pieces, .inr (8, [.ref q_joints, .int s_pieces_steps, .ref q_pieces_from, .ref q_pieces_to, .ref q_pieces_twin, .ref q_pieces_firm, .ref q_pieces_first, .ref q_pieces_firmEnds, .ref q_pieces_reached, .ref q_pieces_nextLow, .ref q_pieces_nextHigh])), (q_pieces_twin, .inl (ky 0, 768, .inl s_pieces_twin)), (q_start, .inl (ky 0, 129, .inl s_start)), (q_walk, .inl (ky 0, 768, .inl s_walk))] → va_S A s.heap H locs → lv_has ls 5 [(0, .ref q_), (1, .int a1), (2, .int a2), (3, .int t.1), (4, .int t.2)] → W p l e rmX7_touches s m args below meth c H locs 0 0 Q (F0 m ([5, 35].getD k 0) ls [])) ?_ _ _ _ _ hi ?_ H locs ls hP hD hS (lv_sub hl [2, 3, 4, 1, 0] rfl)
  · clear h hi hP hD hS hl
    intro t k t' h K
    obtain ⟨v1, v2⟩ := t
    intro H locs ls hP hD hS hl
    replace h := dm2_of h
    replace hP : va_P D vwCl [(q_, .inr (7, [.ref q_joints, .ref q_pieces, .int s_total, .ref q_paneOf, .ref q_walk, .ref q_start, .ref q_sum])), (q_paneOf, .inl (ky 0, 768, .inl s_paneOf)), (q_pieces, .inr (8, [.ref q_joints, .int s_pieces_steps, .ref q_pieces_from, .ref q_pieces_to, .ref q_pieces_twin, .ref q_pieces_firm, .ref q_pieces_first, .ref q_pieces_firmEnds, .ref q_pieces_reached, .ref q_pieces_nextLow, .ref q_pieces_nextHigh])), (q_pieces_twin, .inl (ky 0, 768, .inl s_pieces_twin)), (q_start, .inl (ky 0, 129, .inl s_start)), (q_walk, .inl (ky 0, 768, .inl s_walk))] H := hP
    replace hD : va_D A [(q_, .inr (7, [.ref q_joints, .ref q_pieces, .int s_total, .ref q_paneOf, .ref q_walk, .ref q_start, .ref q_sum])), (q_paneOf, .inl (ky 0, 768, .inl s_paneOf)), (q_pieces, .inr (8, [.ref q_joints, .int s_pieces_steps, .ref q_pieces_from, .ref q_pieces_to, .ref q_pieces_twin, .ref q_pieces_firm, .ref q_pieces_first, .ref q_pieces_firmEnds, .ref q_pieces_reached, .ref q_pieces_nextLow, .ref q_pieces_nextHigh])), (q_pieces_twin, .inl (ky 0, 768, .inl s_pieces_twin)), (q_start, .inl (ky 0, 129, .inl s_start)), (q_walk, .inl (ky 0, 768, .inl s_walk))] := hD
    replace hl : lv_has ls 5 [(0, .ref q_), (1, .int a1), (2, .int a2), (3, .int v1), (4, .int v2)] := hl
    refine lv_iload hx hb dX7_touches_5 (lv_at hl 4 rfl) ?_
    refine lv_aload_n hx hb dX7_touches_7 rfl (lv_at hl 0 rfl) ?_
    refine lv_iload_n hx hb dX7_touches_8 rfl (lv_at hl 1 rfl) ?_
    obtain ⟨r3, hc, h⟩ := ob_of h
    replace h := dm1_of h
    refine cv_i (As := [.int a1]) (rest := [.int v2]) (wr := [(q_paneOf, .inl (ky 0, 768, .inl s_paneOf)), (q_pieces, .inr (8, [.ref q_joints, .int s_pieces_steps, .ref q_pieces_from, .ref q_pieces_to, .ref q_pieces_twin, .ref q_pieces_firm, .ref q_pieces_first, .ref q_pieces_firmEnds, .ref q_pieces_reached, .ref q_pieces_nextLow, .ref q_pieces_nextHigh])), (q_pieces_twin, .inl (ky 0, 768, .inl s_pieces_twin)), (q_walk, .inl (ky 0, 768, .inl s_walk))]) (wn := [(q_, .inr (7, [.ref q_joints, .ref q_pieces, .int s_total, .ref q_paneOf, .ref q_walk, .ref q_start, .ref q_sum])), (q_paneOf, .inl (ky 0, 768, .inl s_paneOf)), (q_pieces, .inr (8, [.ref q_joints, .int s_pieces_steps, .ref q_pieces_from, .ref q_pieces_to, .ref q_pieces_twin, .ref q_pieces_firm, .ref q_pieces_first, .ref q_pieces_firmEnds, .ref q_pieces_reached, .ref q_pieces_nextLow, .ref q_pieces_nextHigh])), (q_pieces_twin, .inl (ky 0, 768, .inl s_pieces_twin)), (q_start, .inl (ky 0, 129, .inl s_start)), (q_walk, .inl (ky 0, 768, .inl s_walk))]) ⟨hx, hb, hml, hown, hts⟩ (c_X7_corners l D ky q_ q_joints q_pieces q_paneOf q_walk q_start q_sum a1 s_total s_start hc) (cwV 1 hts gX7_touches_X7_corners rfl rfl rfl (by decide +kernel) ⟨Nat.le_of_ble_eq_true rfl, Nat.le_of_ble_eq_true rfl⟩) (rcv hK.1 hP (q0 := 0) rfl rfl) hP hD hK hS hA [0, 4] [1, 2, 3, 5] [4, 0, 1, 2, 5, 3] rfl (by decide +kernel) rfl (by decide +kernel) (by decide +kernel) (by decide +kernel) rfl rfl rfl hl.1 (Nat.le_of_ble_eq_true rfl) dX7_touches_9 ⟨Nat.le_of_ble_eq_true rfl, Nat.le_of_ble_eq_true rfl⟩ (fun H locs hP hD hS => ?_)
    refine lv_icmp_ge (tgt := 35) hx hb dX7_touches_12 (by decide) (fun hc => ?_) (fun hc => ?_)
    · replace h := if_t hc h
      cases h
      exact K _ _ _ hP hD hS (lv_sub hl [0, 1, 2, 3, 4] rfl)
    · replace h := if_f hc h
      refine lv_aload_n hx hb dX7_touches_15 rfl (lv_at hl 0 rfl) ?_
      refine lv_iload_n hx hb dX7_touches_16 rfl (lv_at hl 1 rfl) ?_
      refine lv_iload hx hb dX7_touches_17 (lv_at hl 4 rfl) ?_
      obtain ⟨r4, hc, h⟩ := ob_of h
      replace h := dm1_of h
      refine cv_i (As := [.int a1, .int v2]) (rest := []) (wr := []) (wn := [(q_, .inr (7, [.ref q_joints, .ref q_pieces, .int s_total, .ref q_paneOf, .ref q_walk, .ref q_start, .ref q_sum])), (q_paneOf, .inl (ky 0, 768, .inl s_paneOf)), (q_pieces, .inr (8, [.ref q_joints, .int s_pieces_steps, .ref q_pieces_from, .ref q_pieces_to, .ref q_pieces_twin, .ref q_pieces_firm, .ref q_pieces_first, .ref q_pieces_firmEnds, .ref q_pieces_reached, .ref q_pieces_nextLow, .ref q_pieces_nextHigh])), (q_pieces_twin, .inl (ky 0, 768, .inl s_pieces_twin)), (q_start, .inl (ky 0, 129, .inl s_start)), (q_walk, .inl (ky 0, 768, .inl s_walk))]) ⟨hx, hb, hml, hown, hts⟩ (c_X7_beyond l D ky q_ q_joints q_pieces q_paneOf q_walk q_start q_sum q_pieces_from q_pieces_to q_pieces_twin q_pieces_firm q_pieces_first q_pieces_firmEnds q_pieces_reached q_pieces_nextLow q_pieces_nextHigh a1 v2 s_total s_paneOf s_pieces_steps s_pieces_twin s_start s_walk hc) (cwV 2 hts gX7_touches_X7_beyond rfl rfl rfl (by decide +kernel) ⟨Nat.le_of_ble_eq_true rfl, Nat.le_of_ble_eq_true rfl⟩) (rcv hK.1 hP (q0 := 0) rfl rfl) hP hD hK hS hA [0, 1, 2, 3, 4, 5] [] [0, 1, 2, 3, 4, 5] rfl (by decide +kernel) rfl (by decide +kernel) (by decide +kernel) (by decide +kernel) rfl rfl rfl hl.1 (Nat.le_of_ble_eq_true rfl) dX7_touches_19 ⟨Nat.le_of_ble_eq_true rfl, Nat.le_of_ble_eq_true rfl⟩ (fun H locs hP hD hS => ?_)
      refine lv_iload_n hx hb dX7_touches_22 rfl (lv_at hl 2 rfl) ?_
      obtain ⟨t, hd, h⟩ := ob_of h
      have K : ∀ (H : Heap) (locs : List Loc) (ls : Array Slot), va_P D vwCl [(q_, .inr (7, [.ref q_joints, .ref q_pieces, .int s_total, .ref q_paneOf, .ref q_walk, .ref q_start, .ref q_sum])), (q_paneOf, .inl (ky 0, 768, .inl s_paneOf)), (q_pieces, .inr (8, [.ref q_joints, .int s_pieces_steps, .ref q_pieces_from, .ref q_pieces_to, .ref q_pieces_twin, .ref q_pieces_firm, .ref q_pieces_first, .ref q_pieces_firmEnds, .ref q_pieces_reached, .ref q_pieces_nextLow, .ref q_pieces_nextHigh])), (q_pieces_twin, .inl (ky 0, 768, .inl s_pieces_twin)), (q_start, .inl (ky 0, 129, .inl s_start)), (q_walk, .inl (ky 0, 768, .inl s_walk))] H → va_D A [(q_, .inr (7, [.ref q_joints, .ref q_pieces, .int s_total, .ref q_paneOf, .ref q_walk, .ref q_start, .ref q_sum])), (q_paneOf, .inl (ky 0, 768, .inl s_paneOf)), (q_pieces, .inr (8, [.ref q_joints, .int s_pieces_steps, .ref q_pieces_from, .ref q_pieces_to, .ref q_pieces_twin, .ref q_pieces_firm, .ref q_pieces_first, .ref q_pieces_firmEnds, .ref q_pieces_reached, .ref q_pieces_nextLow, .ref q_pieces_nextHigh])), (q_pieces_twin, .inl (ky 0, 768, .inl s_pieces_twin)), (q_start, .inl (ky 0, 129, .inl s_start)), (q_walk, .inl (ky 0, 768, .inl s_walk))] → va_S A s.heap H locs → lv_has ls 5 [(0, .ref q_), (1, .int a1), (2, .int a2), (3, .int t), (4, .int v2)] → W p l e rmX7_touches s m args below meth c H locs 0 0 Q (F0 m 29 ls []) := by
        clear hd hP hD hS hl
        obtain ⟨v5, rfl⟩ : ∃ z, z = t := ⟨_, rfl⟩
        replace h := dm1_of h
        intro H locs ls hP hD hS hl
        replace hP : va_P D vwCl [(q_, .inr (7, [.ref q_joints, .ref q_pieces, .int s_total, .ref q_paneOf, .ref q_walk, .ref q_start, .ref q_sum])), (q_paneOf, .inl (ky 0, 768, .inl s_paneOf)), (q_pieces, .inr (8, [.ref q_joints, .int s_pieces_steps, .ref q_pieces_from, .ref q_pieces_to, .ref q_pieces_twin, .ref q_pieces_firm, .ref q_pieces_first, .ref q_pieces_firmEnds, .ref q_pieces_reached, .ref q_pieces_nextLow, .ref q_pieces_nextHigh])), (q_pieces_twin, .inl (ky 0, 768, .inl s_pieces_twin)), (q_start, .inl (ky 0, 129, .inl s_start)), (q_walk, .inl (ky 0, 768, .inl s_walk))] H := hP
        replace hD : va_D A [(q_, .inr (7, [.ref q_joints, .ref q_pieces, .int s_total, .ref q_paneOf, .ref q_walk, .ref q_start, .ref q_sum])), (q_paneOf, .inl (ky 0, 768, .inl s_paneOf)), (q_pieces, .inr (8, [.ref q_joints, .int s_pieces_steps, .ref q_pieces_from, .ref q_pieces_to, .ref q_pieces_twin, .ref q_pieces_firm, .ref q_pieces_first, .ref q_pieces_firmEnds, .ref q_pieces_reached, .ref q_pieces_nextLow, .ref q_pieces_nextHigh])), (q_pieces_twin, .inl (ky 0, 768, .inl s_pieces_twin)), (q_start, .inl (ky 0, 129, .inl s_start)), (q_walk, .inl (ky 0, 768, .inl s_walk))] := hD
        replace hl : lv_has ls 5 [(0, .ref q_), (1, .int a1), (2, .int a2), (3, .int v5), (4, .int v2)] := hl
        refine W.eq (g2 := F0 m 29 ls []) rfl ?_
        obtain ⟨x6, ex6⟩ : ∃ z : Int32, z = v2 + 1 := ⟨_, rfl⟩
        replace h := lt_at ex6 h
        refine lv_iinc (v := x6) (lv' := [(4, .int x6), (0, .ref q_), (1, .int a1), (2, .int a2), (3, .int v5)]) hx hb dX7_touches_29 hl (k := 4) rfl (by rw [ex6]; rfl) (by decide) rfl (fun ls hl => ?_)
        refine lv_goto (tgt := 5) hx hb dX7_touches_32 (by decide) ?_
        cases h
        exact K _ _ _ hP hD hS (lv_sub hl [1, 2, 3, 4, 0] rfl)
      replace h := hd
      clear hd
      refine lv_icmp_ne (tgt := 29) hx hb dX7_touches_23 (by decide) (fun hc => ?_) (fun hc => ?_)
      · replace h := if_t hc h
        cases h
        exact K _ _ _ hP hD hS (lv_sub hl [0, 1, 2, 3, 4] rfl)
      · replace h := if_f (fun z => z hc) h
        obtain ⟨x7, ex7⟩ : ∃ z : Int32, z = v1 + 1 := ⟨_, rfl⟩
        replace h := lt_at ex7 h
        refine lv_iinc (v := x7) (lv' := [(3, .int x7), (0, .ref q_), (1, .int a1), (2, .int a2), (4, .int v2)]) hx hb dX7_touches_26 hl (k := 3) rfl (by rw [ex7]; rfl) (by decide) rfl (fun ls hl => ?_)
        cases h
        exact K _ _ _ hP hD hS (lv_sub hl [1, 2, 3, 0, 4] rfl)
  · have h1 := ex1_of h
    clear h hi
    rcases h1 with ⟨rfl, h⟩
    obtain ⟨v8, v9⟩ := t
    replace h := dm2_of h
    intro H locs ls hP hD hS hl
    replace hP : va_P D vwCl [(q_, .inr (7, [.ref q_joints, .ref q_pieces, .int s_total, .ref q_paneOf, .ref q_walk, .ref q_start, .ref q_sum])), (q_paneOf, .inl (ky 0, 768, .inl s_paneOf)), (q_pieces, .inr (8, [.ref q_joints, .int s_pieces_steps, .ref q_pieces_from, .ref q_pieces_to, .ref q_pieces_twin, .ref q_pieces_firm, .ref q_pieces_first, .ref q_pieces_firmEnds, .ref q_pieces_reached, .ref q_pieces_nextLow, .ref q_pieces_nextHigh])), (q_pieces_twin, .inl (ky 0, 768, .inl s_pieces_twin)), (q_start, .inl (ky 0, 129, .inl s_start)), (q_walk, .inl (ky 0, 768, .inl s_walk))] H := hP
    replace hD : va_D A [(q_, .inr (7, [.ref q_joints, .ref q_pieces, .int s_total, .ref q_paneOf, .ref q_walk, .ref q_start, .ref q_sum])), (q_paneOf, .inl (ky 0, 768, .inl s_paneOf)), (q_pieces, .inr (8, [.ref q_joints, .int s_pieces_steps, .ref q_pieces_from, .ref q_pieces_to, .ref q_pieces_twin, .ref q_pieces_firm, .ref q_pieces_first, .ref q_pieces_firmEnds, .ref q_pieces_reached, .ref q_pieces_nextLow, .ref q_pieces_nextHigh])), (q_pieces_twin, .inl (ky 0, 768, .inl s_pieces_twin)), (q_start, .inl (ky 0, 129, .inl s_start)), (q_walk, .inl (ky 0, 768, .inl s_walk))] := hD
    replace hl : lv_has ls 5 [(0, .ref q_), (1, .int a1), (2, .int a2), (3, .int v8), (4, .int v9)] := hl
    refine W.eq (g2 := F0 m 35 ls []) rfl ?_
    refine lv_iload_n hx hb dX7_touches_35 rfl (lv_at hl 1 rfl) ?_
    refine lv_iload_n hx hb dX7_touches_36 rfl (lv_at hl 2 rfl) ?_
    refine lv_icmp_ne (tgt := 46) hx hb dX7_touches_37 (by decide) (fun hc => ?_) (fun hc => ?_)
    · replace h := if_t hc h
      refine lv_iload_n hx hb dX7_touches_46 rfl (lv_at hl 3 rfl) ?_
      cases h
      exact ret _ _ _ _ dX7_touches_47 hP hD hS
    · replace h := if_f (fun z => z hc) h
      refine lv_iload_n hx hb dX7_touches_40 rfl (lv_at hl 3 rfl) ?_
      refine lv_iconst (v := 2) hx hb dX7_touches_41 (by decide) ?_
      obtain ⟨hg, h⟩ := gd_of h
      refine lv_idiv hx hb dX7_touches_42 hg ?_
      refine lv_goto (tgt := 47) hx hb dX7_touches_43 (by decide) ?_
      cases h
      exact ret _ _ _ _ dX7_touches_47 hP hD hS

def bX7_touchesOthers_4 (a1 : Int32) (s_paneOf : Nat → Int32) (s_pieces_twin : Nat → Int32) (s_start : Nat → Int32) (s_walk : Nat → Int32) (t : Int32 × Int32) : Option (Nat × (Int32 × Int32)) := dm2 t (fun (v1 : Int32) (v2 : Int32) => ob (sX7_corners a1 s_start) (fun o => dm1 o (fun (r3 : Int32) => if r3 ≤ v2 then some (1, (v1, v2)) else ob (sX7_beyond a1 v2 s_paneOf s_pieces_twin s_start s_walk) (fun o => dm1 o (fun (r4 : Int32) => ob (if r4 < 0 then some v1 else if r4 = a1 then some v1 else lt (v1 + 1) (fun x7 => some x7)) (fun t => dm1 t (fun (v5 : Int32) => lt (v2 + 1) (fun x6 => some (0, (v5, x6))))))))))
def sX7_touchesOthers (a1 : Int32) (s_paneOf : Nat → Int32) (s_pieces_twin : Nat → Int32) (s_start : Nat → Int32) (s_walk : Nat → Int32) : Option (Int32) := ob (iter (bX7_touchesOthers_4 a1 s_paneOf s_pieces_twin s_start s_walk) FU ((0 : Int32), (0 : Int32))) (fun kt => ex1 kt (fun t => dm2 t (fun (v8 : Int32) (v9 : Int32) => some v8)))
abbrev rmX7_touchesOthers : Room := { frames := 1, cells := 0, slots := 0, locals := 22 }
set_option maxHeartbeats 4000000 in
set_option maxRecDepth 100000 in
theorem c_X7_touchesOthers (l : Launch) (D : va_G) (ky : Nat → ClassId) (q_ q_joints q_pieces q_paneOf q_walk q_start q_sum q_pieces_from q_pieces_to q_pieces_twin q_pieces_firm q_pieces_first q_pieces_firmEnds q_pieces_reached q_pieces_nextLow q_pieces_nextHigh : Nat) (a1 : Int32) (s_total : Int32) (s_paneOf : Nat → Int32) (s_pieces_steps : Int32) (s_pieces_twin : Nat → Int32) (s_start : Nat → Int32) (s_walk : Nat → Int32) {o_r : Int32} (h : sX7_touchesOthers a1 s_paneOf s_pieces_twin s_start s_walk = some o_r) : MtI l D ky yX7_touchesOthers wsX7_touchesOthers rmX7_touchesOthers [.ref q_, .int a1] [(q_, .inr (7, [.ref q_joints, .ref q_pieces, .int s_total, .ref q_paneOf, .ref q_walk, .ref q_start, .ref q_sum])), (q_paneOf, .inl (ky 0, 768, .inl s_paneOf)), (q_pieces, .inr (8, [.ref q_joints, .int s_pieces_steps, .ref q_pieces_from, .ref q_pieces_to, .ref q_pieces_twin, .ref q_pieces_firm, .ref q_pieces_first, .ref q_pieces_firmEnds, .ref q_pieces_reached, .ref q_pieces_nextLow, .ref q_pieces_nextHigh])), (q_pieces_twin, .inl (ky 0, 768, .inl s_pieces_twin)), (q_start, .inl (ky 0, 129, .inl s_start)), (q_walk, .inl (ky 0, 768, .inl s_walk))] [(q_, .inr (7, [.ref q_joints, .ref q_pieces, .int s_total, .ref q_paneOf, .ref q_walk, .ref q_start, .ref q_sum])), (q_paneOf, .inl (ky 0, 768, .inl s_paneOf)), (q_pieces, .inr (8, [.ref q_joints, .int s_pieces_steps, .ref q_pieces_from, .ref q_pieces_to, .ref q_pieces_twin, .ref q_pieces_firm, .ref q_pieces_first, .ref q_pieces_firmEnds, .ref q_pieces_reached, .ref q_pieces_nextLow, .ref q_pieces_nextHigh])), (q_pieces_twin, .inl (ky 0, 768, .inl s_pieces_twin)), (q_start, .inl (ky 0, 129, .inl s_start)), (q_walk, .inl (ky 0, 768, .inl s_walk))] o_r 0 0 := by
  refine MtI.of (cc := cX7_touchesOthers) (maxL := 5) (by decide +kernel) rfl (Nat.le_of_ble_eq_true rfl) ?_
  intro p e R s m args below meth c A Q ls hR hx hb hts hown hnm hml hP hK hD hA ret hl
  subst hR
  obtain ⟨H, hH⟩ : ∃ H, H = s.heap := ⟨_, rfl⟩
  obtain ⟨locs, hlocs⟩ : ∃ locs : List Loc, locs = [] := ⟨_, rfl⟩
  have hS : va_S A s.heap H locs := by rw [hH, hlocs]; exact va_S.rf
  rw [← hH] at hP
  suffices hgo : W p l e rmX7_touchesOthers s m args below meth c H locs 0 0 Q (F0 m 0 ls []) by rw [hH, hlocs] at hgo; exact hgo
  clear hH hlocs
  replace hl : lv_has ls 5 [(0, .ref q_), (1, .int a1)] := hl
  replace hown : s.vm.findClass RX7 = some m.cls := hown
  unfold sX7_touchesOthers at h
  refine lv_iconst (v := 0) hx hb dX7_touchesOthers_0 (by decide) ?_
  refine lv_istore_n (lv' := [(2, .int (0 : Int32)), (0, .ref q_), (1, .int a1)]) hx hb dX7_touchesOthers_1 rfl hl (by decide) rfl (fun ls hl => ?_)
  refine lv_iconst (v := 0) hx hb dX7_touchesOthers_2 (by decide) ?_
  refine lv_istore_n (lv' := [(3, .int (0 : Int32)), (2, .int (0 : Int32)), (0, .ref q_), (1, .int a1)]) hx hb dX7_touchesOthers_3 rfl hl (by decide) rfl (fun ls hl => ?_)
  obtain ⟨⟨k, t⟩, hi, h⟩ := ob_of h
  refine iter_rule (P := fun (k : Nat) (t : Int32 × Int32) => ∀ (H : Heap) (locs : List Loc) (ls : Array Slot), va_P D vwCl [(q_, .inr (7, [.ref q_joints, .ref q_pieces, .int s_total, .ref q_paneOf, .ref q_walk, .ref q_start, .ref q_sum])), (q_paneOf, .inl (ky 0, 768, .inl s_paneOf)), (q_pieces, .inr (8, [.ref q_joints, .int s_pieces_steps, .ref q_pieces_from, .ref q_pieces_to, .ref q_pieces_twin, .ref q_pieces_firm, .ref q_pieces_first, .ref q_pieces_firmEnds, .ref q_pieces_reached, .ref q_pieces_nextLow, .ref q_pieces_nextHigh])), (q_pieces_twin, .inl (ky 0, 768, .inl s_pieces_twin)), (q_start, .inl (ky 0, 129, .inl s_start)), (q_walk, .inl (ky 0, 768, .inl s_walk))] H → va_D A [(q_, .inr (7, [.ref q_joints, .ref q_pieces, .int s_total, .ref q_paneOf, .ref q_walk, .ref q_start, .ref q_sum])), (q_paneOf, .inl (ky 0, 768, .inl s_paneOf)), (q_pieces, .inr (8, [.ref q_joints, .int s_pieces_steps, .ref q_pieces_from, .ref q_pieces_to, .ref q_pieces_twin, .ref q_pieces_firm, .ref q_pieces_first, .ref q_pieces_firmEnds, .ref q_pieces_reached, .ref q_pieces_nextLow, .ref q_pieces_nextHigh])), (q_pieces_twin, .inl (ky 0, 768, .inl s_pieces_twin)), (q_start, .inl (ky 0, 129, .inl s_start)), (q_walk, .inl (ky 0, 768, .inl s_walk))] → va_S A s.heap H locs → lv_has ls 5 [(0, .ref q_), (1, .int a1), (2, .int t.1), (3, .int t.2)] → W p l e rmX7_touchesOthers s m args below meth c H locs 0 0 Q (F0 m ([4, 41].getD k 0) ls [])) ?_ _ _ _ _ hi ?_ H locs ls hP hD hS (lv_sub hl [2, 3, 1, 0] rfl)
  · clear h hi hP hD hS hl
    intro t k t' h K
    obtain ⟨v1, v2⟩ := t
    intro H locs ls hP hD hS hl
    replace h := dm2_of h
    replace hP : va_P D vwCl [(q_, .inr (7, [.ref q_joints, .ref q_pieces, .int s_total, .ref q_paneOf, .ref q_walk, .ref q_start, .ref q_sum])), (q_paneOf, .inl (ky 0, 768, .inl s_paneOf)), (q_pieces, .inr (8, [.ref q_joints, .int s_pieces_steps, .ref q_pieces_from, .ref q_pieces_to, .ref q_pieces_twin, .ref q_pieces_firm, .ref q_pieces_first, .ref q_pieces_firmEnds, .ref q_pieces_reached, .ref q_pieces_nextLow, .ref q_pieces_nextHigh])), (q_pieces_twin, .inl (ky 0, 768, .inl s_pieces_twin)), (q_start, .inl (ky 0, 129, .inl s_start)), (q_walk, .inl (ky 0, 768, .inl s_walk))] H := hP
    replace hD : va_D A [(q_, .inr (7, [.ref q_joints, .ref q_pieces, .int s_total, .ref q_paneOf, .ref q_walk, .ref q_start, .ref q_sum])), (q_paneOf, .inl (ky 0, 768, .inl s_paneOf)), (q_pieces, .inr (8, [.ref q_joints, .int s_pieces_steps, .ref q_pieces_from, .ref q_pieces_to, .ref q_pieces_twin, .ref q_pieces_firm, .ref q_pieces_first, .ref q_pieces_firmEnds, .ref q_pieces_reached, .ref q_pieces_nextLow, .ref q_pieces_nextHigh])), (q_pieces_twin, .inl (ky 0, 768, .inl s_pieces_twin)), (q_start, .inl (ky 0, 129, .inl s_start)), (q_walk, .inl (ky 0, 768, .inl s_walk))] := hD
    replace hl : lv_has ls 5 [(0, .ref q_), (1, .int a1), (2, .int v1), (3, .int v2)] := hl
    refine lv_iload_n hx hb dX7_touchesOthers_4 rfl (lv_at hl 3 rfl) ?_
    refine lv_aload_n hx hb dX7_touchesOthers_5 rfl (lv_at hl 0 rfl) ?_
    refine lv_iload_n hx hb dX7_touchesOthers_6 rfl (lv_at hl 1 rfl) ?_
    obtain ⟨r3, hc, h⟩ := ob_of h
    replace h := dm1_of h
    refine cv_i (As := [.int a1]) (rest := [.int v2]) (wr := [(q_paneOf, .inl (ky 0, 768, .inl s_paneOf)), (q_pieces, .inr (8, [.ref q_joints, .int s_pieces_steps, .ref q_pieces_from, .ref q_pieces_to, .ref q_pieces_twin, .ref q_pieces_firm, .ref q_pieces_first, .ref q_pieces_firmEnds, .ref q_pieces_reached, .ref q_pieces_nextLow, .ref q_pieces_nextHigh])), (q_pieces_twin, .inl (ky 0, 768, .inl s_pieces_twin)), (q_walk, .inl (ky 0, 768, .inl s_walk))]) (wn := [(q_, .inr (7, [.ref q_joints, .ref q_pieces, .int s_total, .ref q_paneOf, .ref q_walk, .ref q_start, .ref q_sum])), (q_paneOf, .inl (ky 0, 768, .inl s_paneOf)), (q_pieces, .inr (8, [.ref q_joints, .int s_pieces_steps, .ref q_pieces_from, .ref q_pieces_to, .ref q_pieces_twin, .ref q_pieces_firm, .ref q_pieces_first, .ref q_pieces_firmEnds, .ref q_pieces_reached, .ref q_pieces_nextLow, .ref q_pieces_nextHigh])), (q_pieces_twin, .inl (ky 0, 768, .inl s_pieces_twin)), (q_start, .inl (ky 0, 129, .inl s_start)), (q_walk, .inl (ky 0, 768, .inl s_walk))]) ⟨hx, hb, hml, hown, hts⟩ (c_X7_corners l D ky q_ q_joints q_pieces q_paneOf q_walk q_start q_sum a1 s_total s_start hc) (cwV 1 hts gX7_touchesOthers_X7_corners rfl rfl rfl (by decide +kernel) ⟨Nat.le_of_ble_eq_true rfl, Nat.le_of_ble_eq_true rfl⟩) (rcv hK.1 hP (q0 := 0) rfl rfl) hP hD hK hS hA [0, 4] [1, 2, 3, 5] [4, 0, 1, 2, 5, 3] rfl (by decide +kernel) rfl (by decide +kernel) (by decide +kernel) (by decide +kernel) rfl rfl rfl hl.1 (Nat.le_of_ble_eq_true rfl) dX7_touchesOthers_7 ⟨Nat.le_of_ble_eq_true rfl, Nat.le_of_ble_eq_true rfl⟩ (fun H locs hP hD hS => ?_)
    refine lv_icmp_ge (tgt := 41) hx hb dX7_touchesOthers_10 (by decide) (fun hc => ?_) (fun hc => ?_)
    · replace h := if_t hc h
      cases h
      exact K _ _ _ hP hD hS (lv_sub hl [0, 1, 2, 3] rfl)
    · replace h := if_f hc h
      refine lv_aload_n hx hb dX7_touchesOthers_13 rfl (lv_at hl 0 rfl) ?_
      refine lv_iload_n hx hb dX7_touchesOthers_14 rfl (lv_at hl 1 rfl) ?_
      refine lv_iload_n hx hb dX7_touchesOthers_15 rfl (lv_at hl 3 rfl) ?_
      obtain ⟨r4, hc, h⟩ := ob_of h
      replace h := dm1_of h
      refine cv_i (As := [.int a1, .int v2]) (rest := []) (wr := []) (wn := [(q_, .inr (7, [.ref q_joints, .ref q_pieces, .int s_total, .ref q_paneOf, .ref q_walk, .ref q_start, .ref q_sum])), (q_paneOf, .inl (ky 0, 768, .inl s_paneOf)), (q_pieces, .inr (8, [.ref q_joints, .int s_pieces_steps, .ref q_pieces_from, .ref q_pieces_to, .ref q_pieces_twin, .ref q_pieces_firm, .ref q_pieces_first, .ref q_pieces_firmEnds, .ref q_pieces_reached, .ref q_pieces_nextLow, .ref q_pieces_nextHigh])), (q_pieces_twin, .inl (ky 0, 768, .inl s_pieces_twin)), (q_start, .inl (ky 0, 129, .inl s_start)), (q_walk, .inl (ky 0, 768, .inl s_walk))]) ⟨hx, hb, hml, hown, hts⟩ (c_X7_beyond l D ky q_ q_joints q_pieces q_paneOf q_walk q_start q_sum q_pieces_from q_pieces_to q_pieces_twin q_pieces_firm q_pieces_first q_pieces_firmEnds q_pieces_reached q_pieces_nextLow q_pieces_nextHigh a1 v2 s_total s_paneOf s_pieces_steps s_pieces_twin s_start s_walk hc) (cwV 2 hts gX7_touchesOthers_X7_beyond rfl rfl rfl (by decide +kernel) ⟨Nat.le_of_ble_eq_true rfl, Nat.le_of_ble_eq_true rfl⟩) (rcv hK.1 hP (q0 := 0) rfl rfl) hP hD hK hS hA [0, 1, 2, 3, 4, 5] [] [0, 1, 2, 3, 4, 5] rfl (by decide +kernel) rfl (by decide +kernel) (by decide +kernel) (by decide +kernel) rfl rfl rfl hl.1 (Nat.le_of_ble_eq_true rfl) dX7_touchesOthers_16 ⟨Nat.le_of_ble_eq_true rfl, Nat.le_of_ble_eq_true rfl⟩ (fun H locs hP hD hS => ?_)
      refine lv_istore (lv' := [(4, .int r4), (0, .ref q_), (1, .int a1), (2, .int v1), (3, .int v2)]) hx hb dX7_touchesOthers_19 hl (by decide) rfl (fun ls hl => ?_)
      refine lv_iload hx hb dX7_touchesOthers_21 (lv_at hl 0 rfl) ?_
      obtain ⟨t, hd, h⟩ := ob_of h
      have K : ∀ (H : Heap) (locs : List Loc) (ls : Array Slot), va_P D vwCl [(q_, .inr (7, [.ref q_joints, .ref q_pieces, .int s_total, .ref q_paneOf, .ref q_walk, .ref q_start, .ref q_sum])), (q_paneOf, .inl (ky 0, 768, .inl s_paneOf)), (q_pieces, .inr (8, [.ref q_joints, .int s_pieces_steps, .ref q_pieces_from, .ref q_pieces_to, .ref q_pieces_twin, .ref q_pieces_firm, .ref q_pieces_first, .ref q_pieces_firmEnds, .ref q_pieces_reached, .ref q_pieces_nextLow, .ref q_pieces_nextHigh])), (q_pieces_twin, .inl (ky 0, 768, .inl s_pieces_twin)), (q_start, .inl (ky 0, 129, .inl s_start)), (q_walk, .inl (ky 0, 768, .inl s_walk))] H → va_D A [(q_, .inr (7, [.ref q_joints, .ref q_pieces, .int s_total, .ref q_paneOf, .ref q_walk, .ref q_start, .ref q_sum])), (q_paneOf, .inl (ky 0, 768, .inl s_paneOf)), (q_pieces, .inr (8, [.ref q_joints, .int s_pieces_steps, .ref q_pieces_from, .ref q_pieces_to, .ref q_pieces_twin, .ref q_pieces_firm, .ref q_pieces_first, .ref q_pieces_firmEnds, .ref q_pieces_reached, .ref q_pieces_nextLow, .ref q_pieces_nextHigh])), (q_pieces_twin, .inl (ky 0, 768, .inl s_pieces_twin)), (q_start, .inl (ky 0, 129, .inl s_start)), (q_walk, .inl (ky 0, 768, .inl s_walk))] → va_S A s.heap H locs → lv_has ls 5 [(0, .ref q_), (1, .int a1), (2, .int t), (3, .int v2)] → W p l e rmX7_touchesOthers s m args below meth c H locs 0 0 Q (F0 m 35 ls []) := by
        clear hd hP hD hS hl
        obtain ⟨v5, rfl⟩ : ∃ z, z = t := ⟨_, rfl⟩
        replace h := dm1_of h
        intro H locs ls hP hD hS hl
        replace hP : va_P D vwCl [(q_, .inr (7, [.ref q_joints, .ref q_pieces, .int s_total, .ref q_paneOf, .ref q_walk, .ref q_start, .ref q_sum])), (q_paneOf, .inl (ky 0, 768, .inl s_paneOf)), (q_pieces, .inr (8, [.ref q_joints, .int s_pieces_steps, .ref q_pieces_from, .ref q_pieces_to, .ref q_pieces_twin, .ref q_pieces_firm, .ref q_pieces_first, .ref q_pieces_firmEnds, .ref q_pieces_reached, .ref q_pieces_nextLow, .ref q_pieces_nextHigh])), (q_pieces_twin, .inl (ky 0, 768, .inl s_pieces_twin)), (q_start, .inl (ky 0, 129, .inl s_start)), (q_walk, .inl (ky 0, 768, .inl s_walk))] H := hP
        replace hD : va_D A [(q_, .inr (7, [.ref q_joints, .ref q_pieces, .int s_total, .ref q_paneOf, .ref q_walk, .ref q_start, .ref q_sum])), (q_paneOf, .inl (ky 0, 768, .inl s_paneOf)), (q_pieces, .inr (8, [.ref q_joints, .int s_pieces_steps, .ref q_pieces_from, .ref q_pieces_to, .ref q_pieces_twin, .ref q_pieces_firm, .ref q_pieces_first, .ref q_pieces_firmEnds, .ref q_pieces_reached, .ref q_pieces_nextLow, .ref q_pieces_nextHigh])), (q_pieces_twin, .inl (ky 0, 768, .inl s_pieces_twin)), (q_start, .inl (ky 0, 129, .inl s_start)), (q_walk, .inl (ky 0, 768, .inl s_walk))] := hD
        replace hl : lv_has ls 5 [(0, .ref q_), (1, .int a1), (2, .int v5), (3, .int v2)] := hl
        refine W.eq (g2 := F0 m 35 ls []) rfl ?_
        obtain ⟨x6, ex6⟩ : ∃ z : Int32, z = v2 + 1 := ⟨_, rfl⟩
        replace h := lt_at ex6 h
        refine lv_iinc (v := x6) (lv' := [(3, .int x6), (0, .ref q_), (1, .int a1), (2, .int v5)]) hx hb dX7_touchesOthers_35 hl (k := 3) rfl (by rw [ex6]; rfl) (by decide) rfl (fun ls hl => ?_)
        refine lv_goto (tgt := 4) hx hb dX7_touchesOthers_38 (by decide) ?_
        cases h
        exact K _ _ _ hP hD hS (lv_sub hl [1, 2, 3, 0] rfl)
      replace h := hd
      clear hd
      refine lv_if_lt (tgt := 35) hx hb dX7_touchesOthers_23 (by decide) (fun hc => ?_) (fun hc => ?_)
      · replace h := if_t hc h
        cases h
        exact K _ _ _ hP hD hS (lv_sub hl [1, 2, 3, 4] rfl)
      · replace h := if_f hc h
        refine lv_iload hx hb dX7_touchesOthers_26 (lv_at hl 0 rfl) ?_
        refine lv_iload_n hx hb dX7_touchesOthers_28 rfl (lv_at hl 2 rfl) ?_
        refine lv_icmp_eq (tgt := 35) hx hb dX7_touchesOthers_29 (by decide) (fun hc => ?_) (fun hc => ?_)
        · replace h := if_t hc h
          cases h
          exact K _ _ _ hP hD hS (lv_sub hl [1, 2, 3, 4] rfl)
        · replace h := if_f hc h
          obtain ⟨x7, ex7⟩ : ∃ z : Int32, z = v1 + 1 := ⟨_, rfl⟩
          replace h := lt_at ex7 h
          refine lv_iinc (v := x7) (lv' := [(2, .int x7), (4, .int r4), (0, .ref q_), (1, .int a1), (3, .int v2)]) hx hb dX7_touchesOthers_32 hl (k := 3) rfl (by rw [ex7]; rfl) (by decide) rfl (fun ls hl => ?_)
          cases h
          exact K _ _ _ hP hD hS (lv_sub hl [2, 3, 0, 4] rfl)
  · have h1 := ex1_of h
    clear h hi
    rcases h1 with ⟨rfl, h⟩
    obtain ⟨v8, v9⟩ := t
    replace h := dm2_of h
    intro H locs ls hP hD hS hl
    replace hP : va_P D vwCl [(q_, .inr (7, [.ref q_joints, .ref q_pieces, .int s_total, .ref q_paneOf, .ref q_walk, .ref q_start, .ref q_sum])), (q_paneOf, .inl (ky 0, 768, .inl s_paneOf)), (q_pieces, .inr (8, [.ref q_joints, .int s_pieces_steps, .ref q_pieces_from, .ref q_pieces_to, .ref q_pieces_twin, .ref q_pieces_firm, .ref q_pieces_first, .ref q_pieces_firmEnds, .ref q_pieces_reached, .ref q_pieces_nextLow, .ref q_pieces_nextHigh])), (q_pieces_twin, .inl (ky 0, 768, .inl s_pieces_twin)), (q_start, .inl (ky 0, 129, .inl s_start)), (q_walk, .inl (ky 0, 768, .inl s_walk))] H := hP
    replace hD : va_D A [(q_, .inr (7, [.ref q_joints, .ref q_pieces, .int s_total, .ref q_paneOf, .ref q_walk, .ref q_start, .ref q_sum])), (q_paneOf, .inl (ky 0, 768, .inl s_paneOf)), (q_pieces, .inr (8, [.ref q_joints, .int s_pieces_steps, .ref q_pieces_from, .ref q_pieces_to, .ref q_pieces_twin, .ref q_pieces_firm, .ref q_pieces_first, .ref q_pieces_firmEnds, .ref q_pieces_reached, .ref q_pieces_nextLow, .ref q_pieces_nextHigh])), (q_pieces_twin, .inl (ky 0, 768, .inl s_pieces_twin)), (q_start, .inl (ky 0, 129, .inl s_start)), (q_walk, .inl (ky 0, 768, .inl s_walk))] := hD
    replace hl : lv_has ls 5 [(0, .ref q_), (1, .int a1), (2, .int v8), (3, .int v9)] := hl
    refine W.eq (g2 := F0 m 41 ls []) rfl ?_
    refine lv_iload_n hx hb dX7_touchesOthers_41 rfl (lv_at hl 2 rfl) ?_
    cases h
    exact ret _ _ _ _ dX7_touchesOthers_42 hP hD hS

def bX7_millionths_14 (a1 : Int32) (s_joints_under : Nat → Int32) (s_joints_x : Nat → Int32) (s_joints_y : Nat → Int32) (s_pieces_from : Nat → Int32) (s_pieces_to : Nat → Int32) (s_start : Nat → Int32) (s_walk : Nat → Int32) (t : Int32 × Int64 × Int32 × (Nat → Int64)) : Option (Nat × (Int32 × Int64 × Int32 × (Nat → Int64))) := dm4 t (fun (v5 : Int32) (v6 : Int64) (v7 : Int32) (v8 : Nat → Int64) => gd (¬ ((a1 + (1 : Int32)) < 0 ∨ 129 ≤ (a1 + (1 : Int32)).toNatClampNeg)) (if (s_start (a1 + (1 : Int32)).toNatClampNeg) ≤ v5 then some (1, (v5, v6, v7, v8)) else gd (¬ (v5 < 0 ∨ 768 ≤ v5.toNatClampNeg)) (gd (¬ ((s_walk v5.toNatClampNeg) < 0 ∨ 768 ≤ (s_walk v5.toNatClampNeg).toNatClampNeg)) (lt (s_pieces_from (s_walk v5.toNatClampNeg).toNatClampNeg) (fun x9 => gd (¬ (v5 < 0 ∨ 768 ≤ v5.toNatClampNeg)) (gd (¬ ((s_walk v5.toNatClampNeg) < 0 ∨ 768 ≤ (s_walk v5.toNatClampNeg).toNatClampNeg)) (lt (s_pieces_to (s_walk v5.toNatClampNeg).toNatClampNeg) (fun x10 => gd (¬ (x9 < 0 ∨ 129 ≤ x9.toNatClampNeg)) (gd (¬ (x10 < 0 ∨ 129 ≤ x10.toNatClampNeg)) (gd (¬ (x10 < 0 ∨ 129 ≤ x10.toNatClampNeg)) (gd (¬ (x9 < 0 ∨ 129 ≤ x9.toNatClampNeg)) (lt ((((s_joints_x x9.toNatClampNeg).toInt64) * ((s_joints_y x10.toNatClampNeg).toInt64)) - (((s_joints_x x10.toNatClampNeg).toInt64) * ((s_joints_y x9.toNatClampNeg).toInt64))) (fun x11 => gd (¬ (x9 < 0 ∨ 129 ≤ x9.toNatClampNeg)) (gd (¬ (x10 < 0 ∨ 129 ≤ x10.toNatClampNeg)) (ob (sX2_plus ((500000 : Int64) * x11) (((s_joints_under x9.toNatClampNeg).toInt64) * ((s_joints_under x10.toNatClampNeg).toInt64)) v6 v7 v8) (fun o => dm3 o (fun (o12 : Int64) (o13 : Int32) (o14 : Nat → Int64) => lt (v5 + 1) (fun x15 => some (0, (x15, o12, o13, o14))))))))))))))))))))
def sX7_millionths (a1 : Int32) (s_joints_under : Nat → Int32) (s_joints_x : Nat → Int32) (s_joints_y : Nat → Int32) (s_pieces_from : Nat → Int32) (s_pieces_to : Nat → Int32) (s_start : Nat → Int32) (s_sum_whole : Int64) (s_sum_added : Int32) (s_sum_groups : Nat → Int64) (s_walk : Nat → Int32) : Option (Int64 × Int64 × Int32 × (Nat → Int64)) := ob (sX2_clear s_sum_whole s_sum_added s_sum_groups) (fun o => dm3 o (fun (o1 : Int64) (o2 : Int32) (o3 : Nat → Int64) => gd (¬ (a1 < 0 ∨ 129 ≤ a1.toNatClampNeg)) (lt (s_start a1.toNatClampNeg) (fun x4 => ob (iter (bX7_millionths_14 a1 s_joints_under s_joints_x s_joints_y s_pieces_from s_pieces_to s_start s_walk) FU (x4, o1, o2, o3)) (fun kt => ex1 kt (fun t => dm4 t (fun (v16 : Int32) (v17 : Int64) (v18 : Int32) (v19 : Nat → Int64) => ob (sX2_wholePart v17 v18 v19) (fun o => dm1 o (fun (r20 : Int64) => some (r20, v17, v18, v19))))))))))
abbrev rmX7_millionths : Room := { frames := 2, cells := 0, slots := 0, locals := 54 }
set_option maxHeartbeats 4000000 in
set_option maxRecDepth 100000 in
theorem c_X7_millionths (l : Launch) (D : va_G) (ky : Nat → ClassId) (q_ q_joints q_pieces q_paneOf q_walk q_start q_sum q_joints_x q_joints_y q_joints_under q_pieces_from q_pieces_to q_pieces_twin q_pieces_firm q_pieces_first q_pieces_firmEnds q_pieces_reached q_pieces_nextLow q_pieces_nextHigh q_sum_groups : Nat) (a1 : Int32) (s_total : Int32) (s_joints_total : Int32) (s_joints_under : Nat → Int32) (s_joints_x : Nat → Int32) (s_joints_y : Nat → Int32) (s_pieces_steps : Int32) (s_pieces_from : Nat → Int32) (s_pieces_to : Nat → Int32) (s_start : Nat → Int32) (s_sum_whole : Int64) (s_sum_added : Int32) (s_sum_groups : Nat → Int64) (s_walk : Nat → Int32) {o_r : Int64} {o_sum_whole : Int64} {o_sum_added : Int32} {o_sum_groups : Nat → Int64} (h : sX7_millionths a1 s_joints_under s_joints_x s_joints_y s_pieces_from s_pieces_to s_start s_sum_whole s_sum_added s_sum_groups s_walk = some (o_r, o_sum_whole, o_sum_added, o_sum_groups)) : MtL l D ky yX7_millionths wsX7_millionths rmX7_millionths [.ref q_, .int a1] [(q_, .inr (7, [.ref q_joints, .ref q_pieces, .int s_total, .ref q_paneOf, .ref q_walk, .ref q_start, .ref q_sum])), (q_joints, .inr (4, [.int s_joints_total, .ref q_joints_x, .ref q_joints_y, .ref q_joints_under])), (q_joints_under, .inl (ky 0, 129, .inl s_joints_under)), (q_joints_x, .inl (ky 0, 129, .inl s_joints_x)), (q_joints_y, .inl (ky 0, 129, .inl s_joints_y)), (q_pieces, .inr (8, [.ref q_joints, .int s_pieces_steps, .ref q_pieces_from, .ref q_pieces_to, .ref q_pieces_twin, .ref q_pieces_firm, .ref q_pieces_first, .ref q_pieces_firmEnds, .ref q_pieces_reached, .ref q_pieces_nextLow, .ref q_pieces_nextHigh])), (q_pieces_from, .inl (ky 0, 768, .inl s_pieces_from)), (q_pieces_to, .inl (ky 0, 768, .inl s_pieces_to)), (q_start, .inl (ky 0, 129, .inl s_start)), (q_sum, .inr (2, [.long s_sum_whole, .int s_sum_added, .ref q_sum_groups])), (q_sum_groups, .inl (ky 1, 32, .inr (.inl s_sum_groups))), (q_walk, .inl (ky 0, 768, .inl s_walk))] [(q_, .inr (7, [.ref q_joints, .ref q_pieces, .int s_total, .ref q_paneOf, .ref q_walk, .ref q_start, .ref q_sum])), (q_joints, .inr (4, [.int s_joints_total, .ref q_joints_x, .ref q_joints_y, .ref q_joints_under])), (q_joints_under, .inl (ky 0, 129, .inl s_joints_under)), (q_joints_x, .inl (ky 0, 129, .inl s_joints_x)), (q_joints_y, .inl (ky 0, 129, .inl s_joints_y)), (q_pieces, .inr (8, [.ref q_joints, .int s_pieces_steps, .ref q_pieces_from, .ref q_pieces_to, .ref q_pieces_twin, .ref q_pieces_firm, .ref q_pieces_first, .ref q_pieces_firmEnds, .ref q_pieces_reached, .ref q_pieces_nextLow, .ref q_pieces_nextHigh])), (q_pieces_from, .inl (ky 0, 768, .inl s_pieces_from)), (q_pieces_to, .inl (ky 0, 768, .inl s_pieces_to)), (q_start, .inl (ky 0, 129, .inl s_start)), (q_sum, .inr (2, [.long o_sum_whole, .int o_sum_added, .ref q_sum_groups])), (q_sum_groups, .inl (ky 1, 32, .inr (.inl o_sum_groups))), (q_walk, .inl (ky 0, 768, .inl s_walk))] o_r 0 0 := by
  refine MtL.of (cc := cX7_millionths) (maxL := 7) (by decide +kernel) rfl (Nat.le_of_ble_eq_true rfl) ?_
  intro p e R s m args below meth c A Q ls hR hx hb hts hown hnm hml hP hK hD hA ret hl
  have rt := rtL (dc := fun pc => decode cX7_millionths pc = .ok (.lreturn, 1)) (o_r, o_sum_whole, o_sum_added, o_sum_groups) (fun t => [(q_, .inr (7, [.ref q_joints, .ref q_pieces, .int s_total, .ref q_paneOf, .ref q_walk, .ref q_start, .ref q_sum])), (q_joints, .inr (4, [.int s_joints_total, .ref q_joints_x, .ref q_joints_y, .ref q_joints_under])), (q_joints_under, .inl (ky 0, 129, .inl s_joints_under)), (q_joints_x, .inl (ky 0, 129, .inl s_joints_x)), (q_joints_y, .inl (ky 0, 129, .inl s_joints_y)), (q_pieces, .inr (8, [.ref q_joints, .int s_pieces_steps, .ref q_pieces_from, .ref q_pieces_to, .ref q_pieces_twin, .ref q_pieces_firm, .ref q_pieces_first, .ref q_pieces_firmEnds, .ref q_pieces_reached, .ref q_pieces_nextLow, .ref q_pieces_nextHigh])), (q_pieces_from, .inl (ky 0, 768, .inl s_pieces_from)), (q_pieces_to, .inl (ky 0, 768, .inl s_pieces_to)), (q_start, .inl (ky 0, 129, .inl s_start)), (q_sum, .inr (2, [.long t.2.1, .int t.2.2.1, .ref q_sum_groups])), (q_sum_groups, .inl (ky 1, 32, .inr (.inl t.2.2.2))), (q_walk, .inl (ky 0, 768, .inl s_walk))]) (fun t => t.1) ret
  subst hR
  obtain ⟨H, hH⟩ : ∃ H, H = s.heap := ⟨_, rfl⟩
  obtain ⟨locs, hlocs⟩ : ∃ locs : List Loc, locs = [] := ⟨_, rfl⟩
  have hS : va_S A s.heap H locs := by rw [hH, hlocs]; exact va_S.rf
  rw [← hH] at hP
  suffices hgo : W p l e rmX7_millionths s m args below meth c H locs 0 0 Q (F0 m 0 ls []) by rw [hH, hlocs] at hgo; exact hgo
  clear hH hlocs
  replace hl : lv_has ls 7 [(0, .ref q_), (1, .int a1)] := hl
  replace hown : s.vm.findClass RX7 = some m.cls := hown
  have hi_X7 : ∀ w ∈ u_ws RX7 TX7 7, w ∈ wsX7_millionths := fun _ h9 => List.mem_cons_of_mem _ (List.mem_append_left _ (List.mem_append_left _ (List.mem_append_left _ (List.mem_append_right _ h9))))
  have hf_36 := hts (.fieldLink RX7 36 "GlazierBench$Panes" "sum" "LGlazierBench$ExactSum;") (by decide +kernel)
  have hf_30 := hts (.fieldLink RX7 30 "GlazierBench$Panes" "start" "[I") (by decide +kernel)
  have hf_22 := hts (.fieldLink RX7 22 "GlazierBench$Panes" "pieces" "LGlazierBench$Pieces;") (by decide +kernel)
  have hi_X8 : ∀ w ∈ u_ws RX8 TX8 11, w ∈ wsX7_millionths := fun _ h9 => List.mem_cons_of_mem _ (List.mem_append_left _ (List.mem_append_left _ (List.mem_append_right _ h9)))
  have hf_76 := hts (.fieldLink RX7 76 "GlazierBench$Pieces" "from" "[I") (by decide +kernel)
  have hf_27 := hts (.fieldLink RX7 27 "GlazierBench$Panes" "walk" "[I") (by decide +kernel)
  have hf_69 := hts (.fieldLink RX7 69 "GlazierBench$Pieces" "to" "[I") (by decide +kernel)
  have hf_15 := hts (.fieldLink RX7 15 "GlazierBench$Panes" "joints" "LGlazierBench$Joints;") (by decide +kernel)
  have hi_X4 : ∀ w ∈ u_ws RX4 TX4 4, w ∈ wsX7_millionths := fun _ h9 => List.mem_cons_of_mem _ (List.mem_append_left _ (List.mem_append_right _ h9))
  have hf_64 := hts (.fieldLink RX7 64 "GlazierBench$Joints" "x" "[I") (by decide +kernel)
  have hf_100 := hts (.fieldLink RX7 100 "GlazierBench$Joints" "y" "[I") (by decide +kernel)
  have hk_121 := hts (.constantLong RX7 121 (500000)) (by decide +kernel)
  have hf_89 := hts (.fieldLink RX7 89 "GlazierBench$Joints" "under" "[I") (by decide +kernel)
  unfold sX7_millionths at h
  refine lv_aload_n hx hb dX7_millionths_0 rfl (lv_at hl 0 rfl) ?_
  refine va_get (D := D) (ci := 7) (v := .ref q_sum) (C := RX7) (T := TX7) (N := 7) hx hb hts hi_X7 hown hK.1 hP 0 rfl rfl 6 (by decide) hf_36 (fun _ h9 => h9) rfl dX7_millionths_1 ?_
  obtain ⟨⟨o1, o2, o3⟩, hc, h⟩ := ob_of h
  replace h := dm3_of h
  refine cv_v (As := []) (rest := []) (wr := [(q_, .inr (7, [.ref q_joints, .ref q_pieces, .int s_total, .ref q_paneOf, .ref q_walk, .ref q_start, .ref q_sum])), (q_joints, .inr (4, [.int s_joints_total, .ref q_joints_x, .ref q_joints_y, .ref q_joints_under])), (q_joints_under, .inl (ky 0, 129, .inl s_joints_under)), (q_joints_x, .inl (ky 0, 129, .inl s_joints_x)), (q_joints_y, .inl (ky 0, 129, .inl s_joints_y)), (q_pieces, .inr (8, [.ref q_joints, .int s_pieces_steps, .ref q_pieces_from, .ref q_pieces_to, .ref q_pieces_twin, .ref q_pieces_firm, .ref q_pieces_first, .ref q_pieces_firmEnds, .ref q_pieces_reached, .ref q_pieces_nextLow, .ref q_pieces_nextHigh])), (q_pieces_from, .inl (ky 0, 768, .inl s_pieces_from)), (q_pieces_to, .inl (ky 0, 768, .inl s_pieces_to)), (q_start, .inl (ky 0, 129, .inl s_start)), (q_walk, .inl (ky 0, 768, .inl s_walk))]) (wn := [(q_, .inr (7, [.ref q_joints, .ref q_pieces, .int s_total, .ref q_paneOf, .ref q_walk, .ref q_start, .ref q_sum])), (q_joints, .inr (4, [.int s_joints_total, .ref q_joints_x, .ref q_joints_y, .ref q_joints_under])), (q_joints_under, .inl (ky 0, 129, .inl s_joints_under)), (q_joints_x, .inl (ky 0, 129, .inl s_joints_x)), (q_joints_y, .inl (ky 0, 129, .inl s_joints_y)), (q_pieces, .inr (8, [.ref q_joints, .int s_pieces_steps, .ref q_pieces_from, .ref q_pieces_to, .ref q_pieces_twin, .ref q_pieces_firm, .ref q_pieces_first, .ref q_pieces_firmEnds, .ref q_pieces_reached, .ref q_pieces_nextLow, .ref q_pieces_nextHigh])), (q_pieces_from, .inl (ky 0, 768, .inl s_pieces_from)), (q_pieces_to, .inl (ky 0, 768, .inl s_pieces_to)), (q_start, .inl (ky 0, 129, .inl s_start)), (q_sum, .inr (2, [.long o1, .int o2, .ref q_sum_groups])), (q_sum_groups, .inl (ky 1, 32, .inr (.inl o3))), (q_walk, .inl (ky 0, 768, .inl s_walk))]) ⟨hx, hb, hml, hown, hts⟩ (c_X2_clear l D ky q_sum q_sum_groups s_sum_whole s_sum_added s_sum_groups hc) (cwV 0 hts gX7_millionths_X2_clear rfl rfl rfl (by decide +kernel) ⟨Nat.le_of_ble_eq_true rfl, Nat.le_of_ble_eq_true rfl⟩) (rcv hK.1 hP (q0 := 9) rfl rfl) hP hD hK hS hA [9, 10] [0, 1, 2, 3, 4, 5, 6, 7, 8, 11] [0, 1, 2, 3, 4, 5, 6, 7, 8, 10, 11, 9] rfl (by decide +kernel) rfl (by decide +kernel) (by decide +kernel) (by decide +kernel) rfl rfl rfl hl.1 (Nat.le_of_ble_eq_true rfl) dX7_millionths_4 ⟨Nat.le_of_ble_eq_true rfl, Nat.le_of_ble_eq_true rfl⟩ (fun H locs hP hD hS => ?_)
  refine lv_aload_n hx hb dX7_millionths_7 rfl (lv_at hl 0 rfl) ?_
  refine va_get (D := D) (ci := 7) (v := .ref q_start) (C := RX7) (T := TX7) (N := 7) hx hb hts hi_X7 hown hK.1 hP 0 rfl rfl 5 (by decide) hf_30 (fun _ h9 => h9) rfl dX7_millionths_8 ?_
  refine lv_iload_n hx hb dX7_millionths_11 rfl (lv_at hl 1 rfl) ?_
  obtain ⟨hg, h⟩ := gd_of h
  refine va_iald hx hb hK.1 hP 8 0 rfl rfl hg dX7_millionths_12 ?_
  refine lv_topi (fun x4 ex4 => ?_)
  replace h := lt_at ex4 h
  refine lv_istore_n (lv' := [(2, .int x4), (0, .ref q_), (1, .int a1)]) hx hb dX7_millionths_13 rfl hl (by decide) rfl (fun ls hl => ?_)
  obtain ⟨⟨k, t⟩, hi, h⟩ := ob_of h
  refine iter_rule (P := fun (k : Nat) (t : Int32 × Int64 × Int32 × (Nat → Int64)) => ∀ (H : Heap) (locs : List Loc) (ls : Array Slot), va_P D vwCl [(q_, .inr (7, [.ref q_joints, .ref q_pieces, .int s_total, .ref q_paneOf, .ref q_walk, .ref q_start, .ref q_sum])), (q_joints, .inr (4, [.int s_joints_total, .ref q_joints_x, .ref q_joints_y, .ref q_joints_under])), (q_joints_under, .inl (ky 0, 129, .inl s_joints_under)), (q_joints_x, .inl (ky 0, 129, .inl s_joints_x)), (q_joints_y, .inl (ky 0, 129, .inl s_joints_y)), (q_pieces, .inr (8, [.ref q_joints, .int s_pieces_steps, .ref q_pieces_from, .ref q_pieces_to, .ref q_pieces_twin, .ref q_pieces_firm, .ref q_pieces_first, .ref q_pieces_firmEnds, .ref q_pieces_reached, .ref q_pieces_nextLow, .ref q_pieces_nextHigh])), (q_pieces_from, .inl (ky 0, 768, .inl s_pieces_from)), (q_pieces_to, .inl (ky 0, 768, .inl s_pieces_to)), (q_start, .inl (ky 0, 129, .inl s_start)), (q_sum, .inr (2, [.long t.2.1, .int t.2.2.1, .ref q_sum_groups])), (q_sum_groups, .inl (ky 1, 32, .inr (.inl t.2.2.2))), (q_walk, .inl (ky 0, 768, .inl s_walk))] H → va_D A [(q_, .inr (7, [.ref q_joints, .ref q_pieces, .int s_total, .ref q_paneOf, .ref q_walk, .ref q_start, .ref q_sum])), (q_joints, .inr (4, [.int s_joints_total, .ref q_joints_x, .ref q_joints_y, .ref q_joints_under])), (q_joints_under, .inl (ky 0, 129, .inl s_joints_under)), (q_joints_x, .inl (ky 0, 129, .inl s_joints_x)), (q_joints_y, .inl (ky 0, 129, .inl s_joints_y)), (q_pieces, .inr (8, [.ref q_joints, .int s_pieces_steps, .ref q_pieces_from, .ref q_pieces_to, .ref q_pieces_twin, .ref q_pieces_firm, .ref q_pieces_first, .ref q_pieces_firmEnds, .ref q_pieces_reached, .ref q_pieces_nextLow, .ref q_pieces_nextHigh])), (q_pieces_from, .inl (ky 0, 768, .inl s_pieces_from)), (q_pieces_to, .inl (ky 0, 768, .inl s_pieces_to)), (q_start, .inl (ky 0, 129, .inl s_start)), (q_sum, .inr (2, [.long t.2.1, .int t.2.2.1, .ref q_sum_groups])), (q_sum_groups, .inl (ky 1, 32, .inr (.inl t.2.2.2))), (q_walk, .inl (ky 0, 768, .inl s_walk))] → va_S A s.heap H locs → lv_has ls 7 [(0, .ref q_), (1, .int a1), (2, .int t.1)] → W p l e rmX7_millionths s m args below meth c H locs 0 0 Q (F0 m ([14, 145].getD k 0) ls [])) ?_ _ _ _ _ hi ?_ H locs ls hP hD hS (lv_sub hl [1, 2, 0] rfl)
  · clear h hi hP hD hS hl
    intro t k t' h K
    obtain ⟨v5, v6, v7, v8⟩ := t
    intro H locs ls hP hD hS hl
    replace h := dm4_of h
    replace hP : va_P D vwCl [(q_, .inr (7, [.ref q_joints, .ref q_pieces, .int s_total, .ref q_paneOf, .ref q_walk, .ref q_start, .ref q_sum])), (q_joints, .inr (4, [.int s_joints_total, .ref q_joints_x, .ref q_joints_y, .ref q_joints_under])), (q_joints_under, .inl (ky 0, 129, .inl s_joints_under)), (q_joints_x, .inl (ky 0, 129, .inl s_joints_x)), (q_joints_y, .inl (ky 0, 129, .inl s_joints_y)), (q_pieces, .inr (8, [.ref q_joints, .int s_pieces_steps, .ref q_pieces_from, .ref q_pieces_to, .ref q_pieces_twin, .ref q_pieces_firm, .ref q_pieces_first, .ref q_pieces_firmEnds, .ref q_pieces_reached, .ref q_pieces_nextLow, .ref q_pieces_nextHigh])), (q_pieces_from, .inl (ky 0, 768, .inl s_pieces_from)), (q_pieces_to, .inl (ky 0, 768, .inl s_pieces_to)), (q_start, .inl (ky 0, 129, .inl s_start)), (q_sum, .inr (2, [.long v6, .int v7, .ref q_sum_groups])), (q_sum_groups, .inl (ky 1, 32, .inr (.inl v8))), (q_walk, .inl (ky 0, 768, .inl s_walk))] H := hP
    replace hD : va_D A [(q_, .inr (7, [.ref q_joints, .ref q_pieces, .int s_total, .ref q_paneOf, .ref q_walk, .ref q_start, .ref q_sum])), (q_joints, .inr (4, [.int s_joints_total, .ref q_joints_x, .ref q_joints_y, .ref q_joints_under])), (q_joints_under, .inl (ky 0, 129, .inl s_joints_under)), (q_joints_x, .inl (ky 0, 129, .inl s_joints_x)), (q_joints_y, .inl (ky 0, 129, .inl s_joints_y)), (q_pieces, .inr (8, [.ref q_joints, .int s_pieces_steps, .ref q_pieces_from, .ref q_pieces_to, .ref q_pieces_twin, .ref q_pieces_firm, .ref q_pieces_first, .ref q_pieces_firmEnds, .ref q_pieces_reached, .ref q_pieces_nextLow, .ref q_pieces_nextHigh])), (q_pieces_from, .inl (ky 0, 768, .inl s_pieces_from)), (q_pieces_to, .inl (ky 0, 768, .inl s_pieces_to)), (q_start, .inl (ky 0, 129, .inl s_start)), (q_sum, .inr (2, [.long v6, .int v7, .ref q_sum_groups])), (q_sum_groups, .inl (ky 1, 32, .inr (.inl v8))), (q_walk, .inl (ky 0, 768, .inl s_walk))] := hD
    replace hl : lv_has ls 7 [(0, .ref q_), (1, .int a1), (2, .int v5)] := hl
    refine lv_iload_n hx hb dX7_millionths_14 rfl (lv_at hl 2 rfl) ?_
    refine lv_aload_n hx hb dX7_millionths_15 rfl (lv_at hl 0 rfl) ?_
    refine va_get (D := D) (ci := 7) (v := .ref q_start) (C := RX7) (T := TX7) (N := 7) hx hb hts hi_X7 hown hK.1 hP 0 rfl rfl 5 (by decide) hf_30 (fun _ h9 => h9) rfl dX7_millionths_16 ?_
    refine lv_iload_n hx hb dX7_millionths_19 rfl (lv_at hl 1 rfl) ?_
    refine lv_iconst (v := 1) hx hb dX7_millionths_20 (by decide) ?_
    refine lv_iadd hx hb dX7_millionths_21 ?_
    obtain ⟨hg, h⟩ := gd_of h
    refine va_iald hx hb hK.1 hP 8 0 rfl rfl hg dX7_millionths_22 ?_
    refine lv_icmp_ge (tgt := 145) hx hb dX7_millionths_23 (by decide) (fun hc => ?_) (fun hc => ?_)
    · replace h := if_t hc h
      cases h
      exact K _ _ _ hP hD hS (lv_sub hl [0, 1, 2] rfl)
    · replace h := if_f hc h
      refine lv_aload_n hx hb dX7_millionths_26 rfl (lv_at hl 0 rfl) ?_
      refine va_get (D := D) (ci := 7) (v := .ref q_pieces) (C := RX7) (T := TX7) (N := 7) hx hb hts hi_X7 hown hK.1 hP 0 rfl rfl 1 (by decide) hf_22 (fun _ h9 => h9) rfl dX7_millionths_27 ?_
      refine va_get (D := D) (ci := 8) (v := .ref q_pieces_from) (C := RX8) (T := TX8) (N := 11) hx hb hts hi_X8 hown hK.1 hP 5 rfl rfl 2 (by decide) hf_76 (fun _ h9 => h9) rfl dX7_millionths_30 ?_
      refine lv_aload_n hx hb dX7_millionths_33 rfl (lv_at hl 0 rfl) ?_
      refine va_get (D := D) (ci := 7) (v := .ref q_walk) (C := RX7) (T := TX7) (N := 7) hx hb hts hi_X7 hown hK.1 hP 0 rfl rfl 4 (by decide) hf_27 (fun _ h9 => h9) rfl dX7_millionths_34 ?_
      refine lv_iload_n hx hb dX7_millionths_37 rfl (lv_at hl 2 rfl) ?_
      obtain ⟨hg, h⟩ := gd_of h
      refine va_iald hx hb hK.1 hP 11 0 rfl rfl hg dX7_millionths_38 ?_
      obtain ⟨hg, h⟩ := gd_of h
      refine va_iald hx hb hK.1 hP 6 0 rfl rfl hg dX7_millionths_39 ?_
      refine lv_topi (fun x9 ex9 => ?_)
      replace h := lt_at ex9 h
      refine lv_istore_n (lv' := [(3, .int x9), (0, .ref q_), (1, .int a1), (2, .int v5)]) hx hb dX7_millionths_40 rfl hl (by decide) rfl (fun ls hl => ?_)
      refine lv_aload_n hx hb dX7_millionths_41 rfl (lv_at hl 1 rfl) ?_
      refine va_get (D := D) (ci := 7) (v := .ref q_pieces) (C := RX7) (T := TX7) (N := 7) hx hb hts hi_X7 hown hK.1 hP 0 rfl rfl 1 (by decide) hf_22 (fun _ h9 => h9) rfl dX7_millionths_42 ?_
      refine va_get (D := D) (ci := 8) (v := .ref q_pieces_to) (C := RX8) (T := TX8) (N := 11) hx hb hts hi_X8 hown hK.1 hP 5 rfl rfl 3 (by decide) hf_69 (fun _ h9 => h9) rfl dX7_millionths_45 ?_
      refine lv_aload_n hx hb dX7_millionths_48 rfl (lv_at hl 1 rfl) ?_
      refine va_get (D := D) (ci := 7) (v := .ref q_walk) (C := RX7) (T := TX7) (N := 7) hx hb hts hi_X7 hown hK.1 hP 0 rfl rfl 4 (by decide) hf_27 (fun _ h9 => h9) rfl dX7_millionths_49 ?_
      refine lv_iload_n hx hb dX7_millionths_52 rfl (lv_at hl 3 rfl) ?_
      obtain ⟨hg, h⟩ := gd_of h
      refine va_iald hx hb hK.1 hP 11 0 rfl rfl hg dX7_millionths_53 ?_
      obtain ⟨hg, h⟩ := gd_of h
      refine va_iald hx hb hK.1 hP 7 0 rfl rfl hg dX7_millionths_54 ?_
      refine lv_topi (fun x10 ex10 => ?_)
      replace h := lt_at ex10 h
      refine lv_istore (lv' := [(4, .int x10), (3, .int x9), (0, .ref q_), (1, .int a1), (2, .int v5)]) hx hb dX7_millionths_55 hl (by decide) rfl (fun ls hl => ?_)
      refine lv_aload_n hx hb dX7_millionths_57 rfl (lv_at hl 2 rfl) ?_
      refine va_get (D := D) (ci := 7) (v := .ref q_joints) (C := RX7) (T := TX7) (N := 7) hx hb hts hi_X7 hown hK.1 hP 0 rfl rfl 0 (by decide) hf_15 (fun _ h9 => h9) rfl dX7_millionths_58 ?_
      refine va_get (D := D) (ci := 4) (v := .ref q_joints_x) (C := RX4) (T := TX4) (N := 4) hx hb hts hi_X4 hown hK.1 hP 1 rfl rfl 1 (by decide) hf_64 (fun _ h9 => h9) rfl dX7_millionths_61 ?_
      refine lv_iload_n hx hb dX7_millionths_64 rfl (lv_at hl 1 rfl) ?_
      obtain ⟨hg, h⟩ := gd_of h
      refine va_iald hx hb hK.1 hP 3 0 rfl rfl hg dX7_millionths_65 ?_
      refine lv_i2l (v := (s_joints_x x9.toNatClampNeg).toInt64) hx hb dX7_millionths_66 rfl ?_
      refine lv_aload_n hx hb dX7_millionths_67 rfl (lv_at hl 2 rfl) ?_
      refine va_get (D := D) (ci := 7) (v := .ref q_joints) (C := RX7) (T := TX7) (N := 7) hx hb hts hi_X7 hown hK.1 hP 0 rfl rfl 0 (by decide) hf_15 (fun _ h9 => h9) rfl dX7_millionths_68 ?_
      refine va_get (D := D) (ci := 4) (v := .ref q_joints_y) (C := RX4) (T := TX4) (N := 4) hx hb hts hi_X4 hown hK.1 hP 1 rfl rfl 2 (by decide) hf_100 (fun _ h9 => h9) rfl dX7_millionths_71 ?_
      refine lv_iload hx hb dX7_millionths_74 (lv_at hl 0 rfl) ?_
      obtain ⟨hg, h⟩ := gd_of h
      refine va_iald hx hb hK.1 hP 4 0 rfl rfl hg dX7_millionths_76 ?_
      refine lv_i2l (v := (s_joints_y x10.toNatClampNeg).toInt64) hx hb dX7_millionths_77 rfl ?_
      refine lv_lmul hx hb dX7_millionths_78 ?_
      refine lv_aload_n hx hb dX7_millionths_79 rfl (lv_at hl 2 rfl) ?_
      refine va_get (D := D) (ci := 7) (v := .ref q_joints) (C := RX7) (T := TX7) (N := 7) hx hb hts hi_X7 hown hK.1 hP 0 rfl rfl 0 (by decide) hf_15 (fun _ h9 => h9) rfl dX7_millionths_80 ?_
      refine va_get (D := D) (ci := 4) (v := .ref q_joints_x) (C := RX4) (T := TX4) (N := 4) hx hb hts hi_X4 hown hK.1 hP 1 rfl rfl 1 (by decide) hf_64 (fun _ h9 => h9) rfl dX7_millionths_83 ?_
      refine lv_iload hx hb dX7_millionths_86 (lv_at hl 0 rfl) ?_
      obtain ⟨hg, h⟩ := gd_of h
      refine va_iald hx hb hK.1 hP 3 0 rfl rfl hg dX7_millionths_88 ?_
      refine lv_i2l (v := (s_joints_x x10.toNatClampNeg).toInt64) hx hb dX7_millionths_89 rfl ?_
      refine lv_aload_n hx hb dX7_millionths_90 rfl (lv_at hl 2 rfl) ?_
      refine va_get (D := D) (ci := 7) (v := .ref q_joints) (C := RX7) (T := TX7) (N := 7) hx hb hts hi_X7 hown hK.1 hP 0 rfl rfl 0 (by decide) hf_15 (fun _ h9 => h9) rfl dX7_millionths_91 ?_
      refine va_get (D := D) (ci := 4) (v := .ref q_joints_y) (C := RX4) (T := TX4) (N := 4) hx hb hts hi_X4 hown hK.1 hP 1 rfl rfl 2 (by decide) hf_100 (fun _ h9 => h9) rfl dX7_millionths_94 ?_
      refine lv_iload_n hx hb dX7_millionths_97 rfl (lv_at hl 1 rfl) ?_
      obtain ⟨hg, h⟩ := gd_of h
      refine va_iald hx hb hK.1 hP 4 0 rfl rfl hg dX7_millionths_98 ?_
      refine lv_i2l (v := (s_joints_y x9.toNatClampNeg).toInt64) hx hb dX7_millionths_99 rfl ?_
      refine lv_lmul hx hb dX7_millionths_100 ?_
      refine lv_lsub hx hb dX7_millionths_101 ?_
      refine lv_topl (fun x11 ex11 => ?_)
      replace h := lt_at ex11 h
      refine lv_lstore (lv' := [(5, .long x11), (4, .int x10), (3, .int x9), (0, .ref q_), (1, .int a1), (2, .int v5)]) hx hb dX7_millionths_102 hl (by decide) rfl (fun ls hl => ?_)
      refine lv_aload_n hx hb dX7_millionths_104 rfl (lv_at hl 3 rfl) ?_
      refine va_get (D := D) (ci := 7) (v := .ref q_sum) (C := RX7) (T := TX7) (N := 7) hx hb hts hi_X7 hown hK.1 hP 0 rfl rfl 6 (by decide) hf_36 (fun _ h9 => h9) rfl dX7_millionths_105 ?_
      refine lv_ldc2 hx hb hown hk_121 dX7_millionths_108 ?_
      refine lv_lload hx hb dX7_millionths_111 (lv_at hl 0 rfl) ?_
      refine lv_lmul hx hb dX7_millionths_113 ?_
      refine lv_aload_n hx hb dX7_millionths_114 rfl (lv_at hl 3 rfl) ?_
      refine va_get (D := D) (ci := 7) (v := .ref q_joints) (C := RX7) (T := TX7) (N := 7) hx hb hts hi_X7 hown hK.1 hP 0 rfl rfl 0 (by decide) hf_15 (fun _ h9 => h9) rfl dX7_millionths_115 ?_
      refine va_get (D := D) (ci := 4) (v := .ref q_joints_under) (C := RX4) (T := TX4) (N := 4) hx hb hts hi_X4 hown hK.1 hP 1 rfl rfl 3 (by decide) hf_89 (fun _ h9 => h9) rfl dX7_millionths_118 ?_
      refine lv_iload_n hx hb dX7_millionths_121 rfl (lv_at hl 2 rfl) ?_
      obtain ⟨hg, h⟩ := gd_of h
      refine va_iald hx hb hK.1 hP 2 0 rfl rfl hg dX7_millionths_122 ?_
      refine lv_i2l (v := (s_joints_under x9.toNatClampNeg).toInt64) hx hb dX7_millionths_123 rfl ?_
      refine lv_aload_n hx hb dX7_millionths_124 rfl (lv_at hl 3 rfl) ?_
      refine va_get (D := D) (ci := 7) (v := .ref q_joints) (C := RX7) (T := TX7) (N := 7) hx hb hts hi_X7 hown hK.1 hP 0 rfl rfl 0 (by decide) hf_15 (fun _ h9 => h9) rfl dX7_millionths_125 ?_
      refine va_get (D := D) (ci := 4) (v := .ref q_joints_under) (C := RX4) (T := TX4) (N := 4) hx hb hts hi_X4 hown hK.1 hP 1 rfl rfl 3 (by decide) hf_89 (fun _ h9 => h9) rfl dX7_millionths_128 ?_
      refine lv_iload hx hb dX7_millionths_131 (lv_at hl 1 rfl) ?_
      obtain ⟨hg, h⟩ := gd_of h
      refine va_iald hx hb hK.1 hP 2 0 rfl rfl hg dX7_millionths_133 ?_
      refine lv_i2l (v := (s_joints_under x10.toNatClampNeg).toInt64) hx hb dX7_millionths_134 rfl ?_
      refine lv_lmul hx hb dX7_millionths_135 ?_
      obtain ⟨⟨o12, o13, o14⟩, hc, h⟩ := ob_of h
      replace h := dm3_of h
      refine cv_v (As := [.long ((500000 : Int64) * x11), .long (((s_joints_under x9.toNatClampNeg).toInt64) * ((s_joints_under x10.toNatClampNeg).toInt64))]) (rest := []) (wr := [(q_, .inr (7, [.ref q_joints, .ref q_pieces, .int s_total, .ref q_paneOf, .ref q_walk, .ref q_start, .ref q_sum])), (q_joints, .inr (4, [.int s_joints_total, .ref q_joints_x, .ref q_joints_y, .ref q_joints_under])), (q_joints_under, .inl (ky 0, 129, .inl s_joints_under)), (q_joints_x, .inl (ky 0, 129, .inl s_joints_x)), (q_joints_y, .inl (ky 0, 129, .inl s_joints_y)), (q_pieces, .inr (8, [.ref q_joints, .int s_pieces_steps, .ref q_pieces_from, .ref q_pieces_to, .ref q_pieces_twin, .ref q_pieces_firm, .ref q_pieces_first, .ref q_pieces_firmEnds, .ref q_pieces_reached, .ref q_pieces_nextLow, .ref q_pieces_nextHigh])), (q_pieces_from, .inl (ky 0, 768, .inl s_pieces_from)), (q_pieces_to, .inl (ky 0, 768, .inl s_pieces_to)), (q_start, .inl (ky 0, 129, .inl s_start)), (q_walk, .inl (ky 0, 768, .inl s_walk))]) (wn := [(q_, .inr (7, [.ref q_joints, .ref q_pieces, .int s_total, .ref q_paneOf, .ref q_walk, .ref q_start, .ref q_sum])), (q_joints, .inr (4, [.int s_joints_total, .ref q_joints_x, .ref q_joints_y, .ref q_joints_under])), (q_joints_under, .inl (ky 0, 129, .inl s_joints_under)), (q_joints_x, .inl (ky 0, 129, .inl s_joints_x)), (q_joints_y, .inl (ky 0, 129, .inl s_joints_y)), (q_pieces, .inr (8, [.ref q_joints, .int s_pieces_steps, .ref q_pieces_from, .ref q_pieces_to, .ref q_pieces_twin, .ref q_pieces_firm, .ref q_pieces_first, .ref q_pieces_firmEnds, .ref q_pieces_reached, .ref q_pieces_nextLow, .ref q_pieces_nextHigh])), (q_pieces_from, .inl (ky 0, 768, .inl s_pieces_from)), (q_pieces_to, .inl (ky 0, 768, .inl s_pieces_to)), (q_start, .inl (ky 0, 129, .inl s_start)), (q_sum, .inr (2, [.long o12, .int o13, .ref q_sum_groups])), (q_sum_groups, .inl (ky 1, 32, .inr (.inl o14))), (q_walk, .inl (ky 0, 768, .inl s_walk))]) ⟨hx, hb, hml, hown, hts⟩ (c_X2_plus l D ky q_sum q_sum_groups ((500000 : Int64) * x11) (((s_joints_under x9.toNatClampNeg).toInt64) * ((s_joints_under x10.toNatClampNeg).toInt64)) v6 v7 v8 hc) (cwV 2 hts gX7_millionths_X2_plus rfl rfl rfl (by decide +kernel) ⟨Nat.le_of_ble_eq_true rfl, Nat.le_of_ble_eq_true rfl⟩) (rcv hK.1 hP (q0 := 9) rfl rfl) hP hD hK hS hA [9, 10] [0, 1, 2, 3, 4, 5, 6, 7, 8, 11] [0, 1, 2, 3, 4, 5, 6, 7, 8, 10, 11, 9] rfl (by decide +kernel) rfl (by decide +kernel) (by decide +kernel) (by decide +kernel) rfl rfl rfl hl.1 (Nat.le_of_ble_eq_true rfl) dX7_millionths_136 ⟨Nat.le_of_ble_eq_true rfl, Nat.le_of_ble_eq_true rfl⟩ (fun H locs hP hD hS => ?_)
      obtain ⟨x15, ex15⟩ : ∃ z : Int32, z = v5 + 1 := ⟨_, rfl⟩
      replace h := lt_at ex15 h
      refine lv_iinc (v := x15) (lv' := [(2, .int x15), (5, .long x11), (4, .int x10), (3, .int x9), (0, .ref q_), (1, .int a1)]) hx hb dX7_millionths_139 hl (k := 5) rfl (by rw [ex15]; rfl) (by decide) rfl (fun ls hl => ?_)
      refine lv_goto (tgt := 14) hx hb dX7_millionths_142 (by decide) ?_
      cases h
      exact K _ _ _ hP hD hS (lv_sub hl [4, 5, 0] rfl)
  · have h1 := ex1_of h
    clear h hi
    rcases h1 with ⟨rfl, h⟩
    obtain ⟨v16, v17, v18, v19⟩ := t
    replace h := dm4_of h
    intro H locs ls hP hD hS hl
    replace hP : va_P D vwCl [(q_, .inr (7, [.ref q_joints, .ref q_pieces, .int s_total, .ref q_paneOf, .ref q_walk, .ref q_start, .ref q_sum])), (q_joints, .inr (4, [.int s_joints_total, .ref q_joints_x, .ref q_joints_y, .ref q_joints_under])), (q_joints_under, .inl (ky 0, 129, .inl s_joints_under)), (q_joints_x, .inl (ky 0, 129, .inl s_joints_x)), (q_joints_y, .inl (ky 0, 129, .inl s_joints_y)), (q_pieces, .inr (8, [.ref q_joints, .int s_pieces_steps, .ref q_pieces_from, .ref q_pieces_to, .ref q_pieces_twin, .ref q_pieces_firm, .ref q_pieces_first, .ref q_pieces_firmEnds, .ref q_pieces_reached, .ref q_pieces_nextLow, .ref q_pieces_nextHigh])), (q_pieces_from, .inl (ky 0, 768, .inl s_pieces_from)), (q_pieces_to, .inl (ky 0, 768, .inl s_pieces_to)), (q_start, .inl (ky 0, 129, .inl s_start)), (q_sum, .inr (2, [.long v17, .int v18, .ref q_sum_groups])), (q_sum_groups, .inl (ky 1, 32, .inr (.inl v19))), (q_walk, .inl (ky 0, 768, .inl s_walk))] H := hP
    replace hD : va_D A [(q_, .inr (7, [.ref q_joints, .ref q_pieces, .int s_total, .ref q_paneOf, .ref q_walk, .ref q_start, .ref q_sum])), (q_joints, .inr (4, [.int s_joints_total, .ref q_joints_x, .ref q_joints_y, .ref q_joints_under])), (q_joints_under, .inl (ky 0, 129, .inl s_joints_under)), (q_joints_x, .inl (ky 0, 129, .inl s_joints_x)), (q_joints_y, .inl (ky 0, 129, .inl s_joints_y)), (q_pieces, .inr (8, [.ref q_joints, .int s_pieces_steps, .ref q_pieces_from, .ref q_pieces_to, .ref q_pieces_twin, .ref q_pieces_firm, .ref q_pieces_first, .ref q_pieces_firmEnds, .ref q_pieces_reached, .ref q_pieces_nextLow, .ref q_pieces_nextHigh])), (q_pieces_from, .inl (ky 0, 768, .inl s_pieces_from)), (q_pieces_to, .inl (ky 0, 768, .inl s_pieces_to)), (q_start, .inl (ky 0, 129, .inl s_start)), (q_sum, .inr (2, [.long v17, .int v18, .ref q_sum_groups])), (q_sum_groups, .inl (ky 1, 32, .inr (.inl v19))), (q_walk, .inl (ky 0, 768, .inl s_walk))] := hD
    replace hl : lv_has ls 7 [(0, .ref q_), (1, .int a1), (2, .int v16)] := hl
    refine W.eq (g2 := F0 m 145 ls []) rfl ?_
    refine lv_aload_n hx hb dX7_millionths_145 rfl (lv_at hl 0 rfl) ?_
    refine va_get (D := D) (ci := 7) (v := .ref q_sum) (C := RX7) (T := TX7) (N := 7) hx hb hts hi_X7 hown hK.1 hP 0 rfl rfl 6 (by decide) hf_36 (fun _ h9 => h9) rfl dX7_millionths_146 ?_
    obtain ⟨r20, hc, h⟩ := ob_of h
    replace h := dm1_of h
    refine cv_l (As := []) (rest := []) (wr := [(q_, .inr (7, [.ref q_joints, .ref q_pieces, .int s_total, .ref q_paneOf, .ref q_walk, .ref q_start, .ref q_sum])), (q_joints, .inr (4, [.int s_joints_total, .ref q_joints_x, .ref q_joints_y, .ref q_joints_under])), (q_joints_under, .inl (ky 0, 129, .inl s_joints_under)), (q_joints_x, .inl (ky 0, 129, .inl s_joints_x)), (q_joints_y, .inl (ky 0, 129, .inl s_joints_y)), (q_pieces, .inr (8, [.ref q_joints, .int s_pieces_steps, .ref q_pieces_from, .ref q_pieces_to, .ref q_pieces_twin, .ref q_pieces_firm, .ref q_pieces_first, .ref q_pieces_firmEnds, .ref q_pieces_reached, .ref q_pieces_nextLow, .ref q_pieces_nextHigh])), (q_pieces_from, .inl (ky 0, 768, .inl s_pieces_from)), (q_pieces_to, .inl (ky 0, 768, .inl s_pieces_to)), (q_start, .inl (ky 0, 129, .inl s_start)), (q_walk, .inl (ky 0, 768, .inl s_walk))]) (wn := [(q_, .inr (7, [.ref q_joints, .ref q_pieces, .int s_total, .ref q_paneOf, .ref q_walk, .ref q_start, .ref q_sum])), (q_joints, .inr (4, [.int s_joints_total, .ref q_joints_x, .ref q_joints_y, .ref q_joints_under])), (q_joints_under, .inl (ky 0, 129, .inl s_joints_under)), (q_joints_x, .inl (ky 0, 129, .inl s_joints_x)), (q_joints_y, .inl (ky 0, 129, .inl s_joints_y)), (q_pieces, .inr (8, [.ref q_joints, .int s_pieces_steps, .ref q_pieces_from, .ref q_pieces_to, .ref q_pieces_twin, .ref q_pieces_firm, .ref q_pieces_first, .ref q_pieces_firmEnds, .ref q_pieces_reached, .ref q_pieces_nextLow, .ref q_pieces_nextHigh])), (q_pieces_from, .inl (ky 0, 768, .inl s_pieces_from)), (q_pieces_to, .inl (ky 0, 768, .inl s_pieces_to)), (q_start, .inl (ky 0, 129, .inl s_start)), (q_sum, .inr (2, [.long v17, .int v18, .ref q_sum_groups])), (q_sum_groups, .inl (ky 1, 32, .inr (.inl v19))), (q_walk, .inl (ky 0, 768, .inl s_walk))]) ⟨hx, hb, hml, hown, hts⟩ (c_X2_wholePart l D ky q_sum q_sum_groups v17 v18 v19 hc) (cwV 0 hts gX7_millionths_X2_wholePart rfl rfl rfl (by decide +kernel) ⟨Nat.le_of_ble_eq_true rfl, Nat.le_of_ble_eq_true rfl⟩) (rcv hK.1 hP (q0 := 9) rfl rfl) hP hD hK hS hA [9, 10] [0, 1, 2, 3, 4, 5, 6, 7, 8, 11] [0, 1, 2, 3, 4, 5, 6, 7, 8, 10, 11, 9] rfl (by decide +kernel) rfl (by decide +kernel) (by decide +kernel) (by decide +kernel) rfl rfl rfl hl.1 (Nat.le_of_ble_eq_true rfl) dX7_millionths_149 ⟨Nat.le_of_ble_eq_true rfl, Nat.le_of_ble_eq_true rfl⟩ (fun H locs hP hD hS => ?_)
    exact rt _ h _ _ _ _ dX7_millionths_152 hP hD hS

def sX7_isOn (a1 : Int32) (s_joints_under : Nat → Int32) (s_joints_x : Nat → Int32) (s_joints_y : Nat → Int32) (s_pieces_from : Nat → Int32) (s_pieces_to : Nat → Int32) : Option (Int32) := gd (¬ (a1 < 0 ∨ 768 ≤ a1.toNatClampNeg)) (gd (¬ (a1 < 0 ∨ 768 ≤ a1.toNatClampNeg)) (lt (if (s_pieces_to a1.toNatClampNeg) < (s_pieces_from a1.toNatClampNeg) then (s_pieces_to a1.toNatClampNeg) else (s_pieces_from a1.toNatClampNeg)) (fun x1 => gd (¬ (a1 < 0 ∨ 768 ≤ a1.toNatClampNeg)) (gd (¬ (a1 < 0 ∨ 768 ≤ a1.toNatClampNeg)) (lt (if (s_pieces_from a1.toNatClampNeg) < (s_pieces_to a1.toNatClampNeg) then (s_pieces_to a1.toNatClampNeg) else (s_pieces_from a1.toNatClampNeg)) (fun x2 => ob (sX4_side x1 x2 (128 : Int32) s_joints_under s_joints_x s_joints_y) (fun o => dm1 o (fun (r3 : Int64) => if ¬ (lg_cmp r3 (0 : Int64)) = 0 then some (0 : Int32) else ob (sX4_order x1 (128 : Int32) s_joints_under s_joints_x s_joints_y) (fun o => dm1 o (fun (r4 : Int32) => if 0 < r4 then some (0 : Int32) else ob (sX4_order (128 : Int32) x2 s_joints_under s_joints_x s_joints_y) (fun o => dm1 o (fun (r5 : Int32) => if 0 < r5 then some (0 : Int32) else some (1 : Int32)))))))))))))
abbrev rmX7_isOn : Room := { frames := 1, cells := 0, slots := 0, locals := 40 }
set_option maxHeartbeats 4000000 in
set_option maxRecDepth 100000 in
theorem c_X7_isOn (l : Launch) (D : va_G) (ky : Nat → ClassId) (q_ q_joints q_pieces q_paneOf q_walk q_start q_sum q_joints_x q_joints_y q_joints_under q_pieces_from q_pieces_to q_pieces_twin q_pieces_firm q_pieces_first q_pieces_firmEnds q_pieces_reached q_pieces_nextLow q_pieces_nextHigh : Nat) (a1 : Int32) (s_total : Int32) (s_joints_total : Int32) (s_joints_under : Nat → Int32) (s_joints_x : Nat → Int32) (s_joints_y : Nat → Int32) (s_pieces_steps : Int32) (s_pieces_from : Nat → Int32) (s_pieces_to : Nat → Int32) {o_r : Int32} (h : sX7_isOn a1 s_joints_under s_joints_x s_joints_y s_pieces_from s_pieces_to = some o_r) : MtI l D ky yX7_isOn wsX7_isOn rmX7_isOn [.ref q_, .int a1] [(q_, .inr (7, [.ref q_joints, .ref q_pieces, .int s_total, .ref q_paneOf, .ref q_walk, .ref q_start, .ref q_sum])), (q_joints, .inr (4, [.int s_joints_total, .ref q_joints_x, .ref q_joints_y, .ref q_joints_under])), (q_joints_under, .inl (ky 0, 129, .inl s_joints_under)), (q_joints_x, .inl (ky 0, 129, .inl s_joints_x)), (q_joints_y, .inl (ky 0, 129, .inl s_joints_y)), (q_pieces, .inr (8, [.ref q_joints, .int s_pieces_steps, .ref q_pieces_from, .ref q_pieces_to, .ref q_pieces_twin, .ref q_pieces_firm, .ref q_pieces_first, .ref q_pieces_firmEnds, .ref q_pieces_reached, .ref q_pieces_nextLow, .ref q_pieces_nextHigh])), (q_pieces_from, .inl (ky 0, 768, .inl s_pieces_from)), (q_pieces_to, .inl (ky 0, 768, .inl s_pieces_to))] [(q_, .inr (7, [.ref q_joints, .ref q_pieces, .int s_total, .ref q_paneOf, .ref q_walk, .ref q_start, .ref q_sum])), (q_joints, .inr (4, [.int s_joints_total, .ref q_joints_x, .ref q_joints_y, .ref q_joints_under])), (q_joints_under, .inl (ky 0, 129, .inl s_joints_under)), (q_joints_x, .inl (ky 0, 129, .inl s_joints_x)), (q_joints_y, .inl (ky 0, 129, .inl s_joints_y)), (q_pieces, .inr (8, [.ref q_joints, .int s_pieces_steps, .ref q_pieces_from, .ref q_pieces_to, .ref q_pieces_twin, .ref q_pieces_firm, .ref q_pieces_first, .ref q_pieces_firmEnds, .ref q_pieces_reached, .ref q_pieces_nextLow, .ref q_pieces_nextHigh])), (q_pieces_from, .inl (ky 0, 768, .inl s_pieces_from)), (q_pieces_to, .inl (ky 0, 768, .inl s_pieces_to))] o_r 0 0 := by
  refine MtI.ofB (cc := cX7_isOn) (maxL := 4) (by decide +kernel) rfl (Nat.le_of_ble_eq_true rfl) ?_
  intro p e R s m args below meth c A Q ls hR hx hb hts hown hnm hml hP hK hD hA ret hl
  subst hR
  obtain ⟨H, hH⟩ : ∃ H, H = s.heap := ⟨_, rfl⟩
  obtain ⟨locs, hlocs⟩ : ∃ locs : List Loc, locs = [] := ⟨_, rfl⟩
  have hS : va_S A s.heap H locs := by rw [hH, hlocs]; exact va_S.rf
  rw [← hH] at hP
  suffices hgo : W p l e rmX7_isOn s m args below meth c H locs 0 0 Q (F0 m 0 ls []) by rw [hH, hlocs] at hgo; exact hgo
  clear hH hlocs
  replace hl : lv_has ls 4 [(0, .ref q_), (1, .int a1)] := hl
  replace hown : s.vm.findClass RX7 = some m.cls := hown
  have hi_X7 : ∀ w ∈ u_ws RX7 TX7 7, w ∈ wsX7_isOn := fun _ h9 => List.mem_cons_of_mem _ (List.mem_append_left _ (List.mem_append_left _ (List.mem_append_right _ h9)))
  have hf_22 := hts (.fieldLink RX7 22 "GlazierBench$Panes" "pieces" "LGlazierBench$Pieces;") (by decide +kernel)
  have hi_X8 : ∀ w ∈ u_ws RX8 TX8 11, w ∈ wsX7_isOn := fun _ h9 => List.mem_cons_of_mem _ (List.mem_append_left _ (List.mem_append_right _ h9))
  have hf_76 := hts (.fieldLink RX7 76 "GlazierBench$Pieces" "from" "[I") (by decide +kernel)
  have hf_69 := hts (.fieldLink RX7 69 "GlazierBench$Pieces" "to" "[I") (by decide +kernel)
  have hm_95 := hts (.methodLink RX7 95 Lib.Math.min.name) (by decide +kernel)
  have hs_mmin := hts (.static Lib.Math.min.name) (by decide +kernel)
  have hini_Math := hts (.initialized "java/lang/Math") (by decide +kernel)
  have hco_mmin := hts (.code Lib.Math.min.name Lib.Math.min.code 2 (some .int)) (by decide +kernel)
  have hm_106 := hts (.methodLink RX7 106 Lib.Math.max.name) (by decide +kernel)
  have hs_mmax := hts (.static Lib.Math.max.name) (by decide +kernel)
  have hco_mmax := hts (.code Lib.Math.max.name Lib.Math.max.code 2 (some .int)) (by decide +kernel)
  have hf_15 := hts (.fieldLink RX7 15 "GlazierBench$Panes" "joints" "LGlazierBench$Joints;") (by decide +kernel)
  unfold sX7_isOn at h
  refine lv_aload_n hx hb dX7_isOn_0 rfl (lv_at hl 0 rfl) ?_
  refine va_get (D := D) (ci := 7) (v := .ref q_pieces) (C := RX7) (T := TX7) (N := 7) hx hb hts hi_X7 hown hK.1 hP 0 rfl rfl 1 (by decide) hf_22 (fun _ h9 => h9) rfl dX7_isOn_1 ?_
  refine va_get (D := D) (ci := 8) (v := .ref q_pieces_from) (C := RX8) (T := TX8) (N := 11) hx hb hts hi_X8 hown hK.1 hP 5 rfl rfl 2 (by decide) hf_76 (fun _ h9 => h9) rfl dX7_isOn_4 ?_
  refine lv_iload_n hx hb dX7_isOn_7 rfl (lv_at hl 1 rfl) ?_
  obtain ⟨hg, h⟩ := gd_of h
  refine va_iald hx hb hK.1 hP 6 0 rfl rfl hg dX7_isOn_8 ?_
  refine lv_aload_n hx hb dX7_isOn_9 rfl (lv_at hl 0 rfl) ?_
  refine va_get (D := D) (ci := 7) (v := .ref q_pieces) (C := RX7) (T := TX7) (N := 7) hx hb hts hi_X7 hown hK.1 hP 0 rfl rfl 1 (by decide) hf_22 (fun _ h9 => h9) rfl dX7_isOn_10 ?_
  refine va_get (D := D) (ci := 8) (v := .ref q_pieces_to) (C := RX8) (T := TX8) (N := 11) hx hb hts hi_X8 hown hK.1 hP 5 rfl rfl 3 (by decide) hf_69 (fun _ h9 => h9) rfl dX7_isOn_13 ?_
  refine lv_iload_n hx hb dX7_isOn_16 rfl (lv_at hl 1 rfl) ?_
  obtain ⟨hg, h⟩ := gd_of h
  refine va_iald hx hb hK.1 hP 7 0 rfl rfl hg dX7_isOn_17 ?_
  refine va_mmin hx hb (hml.trans hl.1.symm) hown hm_95 hs_mmin hini_Math hco_mmin (Nat.le_of_ble_eq_true rfl) (Nat.le_of_ble_eq_true rfl) (Nat.le_of_ble_eq_true rfl) (Nat.le_of_ble_eq_true rfl) dX7_isOn_18 ?_
  refine lv_topi (fun x1 ex1 => ?_)
  replace h := lt_at ex1 h
  refine lv_istore_n (lv' := [(2, .int x1), (0, .ref q_), (1, .int a1)]) hx hb dX7_isOn_21 rfl hl (by decide) rfl (fun ls hl => ?_)
  refine lv_aload_n hx hb dX7_isOn_22 rfl (lv_at hl 1 rfl) ?_
  refine va_get (D := D) (ci := 7) (v := .ref q_pieces) (C := RX7) (T := TX7) (N := 7) hx hb hts hi_X7 hown hK.1 hP 0 rfl rfl 1 (by decide) hf_22 (fun _ h9 => h9) rfl dX7_isOn_23 ?_
  refine va_get (D := D) (ci := 8) (v := .ref q_pieces_from) (C := RX8) (T := TX8) (N := 11) hx hb hts hi_X8 hown hK.1 hP 5 rfl rfl 2 (by decide) hf_76 (fun _ h9 => h9) rfl dX7_isOn_26 ?_
  refine lv_iload_n hx hb dX7_isOn_29 rfl (lv_at hl 2 rfl) ?_
  obtain ⟨hg, h⟩ := gd_of h
  refine va_iald hx hb hK.1 hP 6 0 rfl rfl hg dX7_isOn_30 ?_
  refine lv_aload_n hx hb dX7_isOn_31 rfl (lv_at hl 1 rfl) ?_
  refine va_get (D := D) (ci := 7) (v := .ref q_pieces) (C := RX7) (T := TX7) (N := 7) hx hb hts hi_X7 hown hK.1 hP 0 rfl rfl 1 (by decide) hf_22 (fun _ h9 => h9) rfl dX7_isOn_32 ?_
  refine va_get (D := D) (ci := 8) (v := .ref q_pieces_to) (C := RX8) (T := TX8) (N := 11) hx hb hts hi_X8 hown hK.1 hP 5 rfl rfl 3 (by decide) hf_69 (fun _ h9 => h9) rfl dX7_isOn_35 ?_
  refine lv_iload_n hx hb dX7_isOn_38 rfl (lv_at hl 2 rfl) ?_
  obtain ⟨hg, h⟩ := gd_of h
  refine va_iald hx hb hK.1 hP 7 0 rfl rfl hg dX7_isOn_39 ?_
  refine va_mmax hx hb (hml.trans hl.1.symm) hown hm_106 hs_mmax hini_Math hco_mmax (Nat.le_of_ble_eq_true rfl) (Nat.le_of_ble_eq_true rfl) (Nat.le_of_ble_eq_true rfl) (Nat.le_of_ble_eq_true rfl) dX7_isOn_40 ?_
  refine lv_topi (fun x2 ex2 => ?_)
  replace h := lt_at ex2 h
  refine lv_istore_n (lv' := [(3, .int x2), (2, .int x1), (0, .ref q_), (1, .int a1)]) hx hb dX7_isOn_43 rfl hl (by decide) rfl (fun ls hl => ?_)
  refine lv_aload_n hx hb dX7_isOn_44 rfl (lv_at hl 2 rfl) ?_
  refine va_get (D := D) (ci := 7) (v := .ref q_joints) (C := RX7) (T := TX7) (N := 7) hx hb hts hi_X7 hown hK.1 hP 0 rfl rfl 0 (by decide) hf_15 (fun _ h9 => h9) rfl dX7_isOn_45 ?_
  refine lv_iload_n hx hb dX7_isOn_48 rfl (lv_at hl 1 rfl) ?_
  refine lv_iload_n hx hb dX7_isOn_49 rfl (lv_at hl 0 rfl) ?_
  refine lv_sipush (v := 128) hx hb dX7_isOn_50 (by decide) ?_
  obtain ⟨r3, hc, h⟩ := ob_of h
  replace h := dm1_of h
  refine cv_l (As := [.int x1, .int x2, .int (128 : Int32)]) (rest := []) (wr := [(q_, .inr (7, [.ref q_joints, .ref q_pieces, .int s_total, .ref q_paneOf, .ref q_walk, .ref q_start, .ref q_sum])), (q_pieces, .inr (8, [.ref q_joints, .int s_pieces_steps, .ref q_pieces_from, .ref q_pieces_to, .ref q_pieces_twin, .ref q_pieces_firm, .ref q_pieces_first, .ref q_pieces_firmEnds, .ref q_pieces_reached, .ref q_pieces_nextLow, .ref q_pieces_nextHigh])), (q_pieces_from, .inl (ky 0, 768, .inl s_pieces_from)), (q_pieces_to, .inl (ky 0, 768, .inl s_pieces_to))]) (wn := [(q_, .inr (7, [.ref q_joints, .ref q_pieces, .int s_total, .ref q_paneOf, .ref q_walk, .ref q_start, .ref q_sum])), (q_joints, .inr (4, [.int s_joints_total, .ref q_joints_x, .ref q_joints_y, .ref q_joints_under])), (q_joints_under, .inl (ky 0, 129, .inl s_joints_under)), (q_joints_x, .inl (ky 0, 129, .inl s_joints_x)), (q_joints_y, .inl (ky 0, 129, .inl s_joints_y)), (q_pieces, .inr (8, [.ref q_joints, .int s_pieces_steps, .ref q_pieces_from, .ref q_pieces_to, .ref q_pieces_twin, .ref q_pieces_firm, .ref q_pieces_first, .ref q_pieces_firmEnds, .ref q_pieces_reached, .ref q_pieces_nextLow, .ref q_pieces_nextHigh])), (q_pieces_from, .inl (ky 0, 768, .inl s_pieces_from)), (q_pieces_to, .inl (ky 0, 768, .inl s_pieces_to))]) ⟨hx, hb, hml, hown, hts⟩ (c_X4_side l D ky q_joints q_joints_x q_joints_y q_joints_under x1 x2 (128 : Int32) s_joints_total s_joints_under s_joints_x s_joints_y hc) (cwV 3 hts gX7_isOn_X4_side rfl rfl rfl (by decide +kernel) ⟨Nat.le_of_ble_eq_true rfl, Nat.le_of_ble_eq_true rfl⟩) (rcv hK.1 hP (q0 := 1) rfl rfl) hP hD hK hS hA [1, 2, 3, 4] [0, 5, 6, 7] [0, 4, 5, 6, 7, 1, 2, 3] rfl (by decide +kernel) rfl (by decide +kernel) (by decide +kernel) (by decide +kernel) rfl rfl rfl hl.1 (Nat.le_of_ble_eq_true rfl) dX7_isOn_53 ⟨Nat.le_of_ble_eq_true rfl, Nat.le_of_ble_eq_true rfl⟩ (fun H locs hP hD hS => ?_)
  refine lv_lconst (v := 0) hx hb dX7_isOn_56 (by decide) ?_
  refine W.lcmp hx hb dX7_isOn_57 ?_
  refine lv_if_ne (tgt := 93) hx hb dX7_isOn_58 (by decide) (fun hc => ?_) (fun hc => ?_)
  · replace h := if_t hc h
    refine lv_iconst (v := 0) hx hb dX7_isOn_93 (by decide) ?_
    cases h
    exact ret _ _ _ _ (Or.inl rfl) dX7_isOn_94 hP hD hS
  · replace h := if_f (fun z => z hc) h
    refine lv_aload_n hx hb dX7_isOn_61 rfl (lv_at hl 2 rfl) ?_
    refine va_get (D := D) (ci := 7) (v := .ref q_joints) (C := RX7) (T := TX7) (N := 7) hx hb hts hi_X7 hown hK.1 hP 0 rfl rfl 0 (by decide) hf_15 (fun _ h9 => h9) rfl dX7_isOn_62 ?_
    refine lv_iload_n hx hb dX7_isOn_65 rfl (lv_at hl 1 rfl) ?_
    refine lv_sipush (v := 128) hx hb dX7_isOn_66 (by decide) ?_
    obtain ⟨r4, hc, h⟩ := ob_of h
    replace h := dm1_of h
    refine cv_i (As := [.int x1, .int (128 : Int32)]) (rest := []) (wr := [(q_, .inr (7, [.ref q_joints, .ref q_pieces, .int s_total, .ref q_paneOf, .ref q_walk, .ref q_start, .ref q_sum])), (q_pieces, .inr (8, [.ref q_joints, .int s_pieces_steps, .ref q_pieces_from, .ref q_pieces_to, .ref q_pieces_twin, .ref q_pieces_firm, .ref q_pieces_first, .ref q_pieces_firmEnds, .ref q_pieces_reached, .ref q_pieces_nextLow, .ref q_pieces_nextHigh])), (q_pieces_from, .inl (ky 0, 768, .inl s_pieces_from)), (q_pieces_to, .inl (ky 0, 768, .inl s_pieces_to))]) (wn := [(q_, .inr (7, [.ref q_joints, .ref q_pieces, .int s_total, .ref q_paneOf, .ref q_walk, .ref q_start, .ref q_sum])), (q_joints, .inr (4, [.int s_joints_total, .ref q_joints_x, .ref q_joints_y, .ref q_joints_under])), (q_joints_under, .inl (ky 0, 129, .inl s_joints_under)), (q_joints_x, .inl (ky 0, 129, .inl s_joints_x)), (q_joints_y, .inl (ky 0, 129, .inl s_joints_y)), (q_pieces, .inr (8, [.ref q_joints, .int s_pieces_steps, .ref q_pieces_from, .ref q_pieces_to, .ref q_pieces_twin, .ref q_pieces_firm, .ref q_pieces_first, .ref q_pieces_firmEnds, .ref q_pieces_reached, .ref q_pieces_nextLow, .ref q_pieces_nextHigh])), (q_pieces_from, .inl (ky 0, 768, .inl s_pieces_from)), (q_pieces_to, .inl (ky 0, 768, .inl s_pieces_to))]) ⟨hx, hb, hml, hown, hts⟩ (c_X4_order l D ky q_joints q_joints_x q_joints_y q_joints_under x1 (128 : Int32) s_joints_total s_joints_under s_joints_x s_joints_y hc) (cwV 2 hts gX7_isOn_X4_order rfl rfl rfl (by decide +kernel) ⟨Nat.le_of_ble_eq_true rfl, Nat.le_of_ble_eq_true rfl⟩) (rcv hK.1 hP (q0 := 1) rfl rfl) hP hD hK hS hA [1, 2, 3, 4] [0, 5, 6, 7] [0, 4, 5, 6, 7, 1, 2, 3] rfl (by decide +kernel) rfl (by decide +kernel) (by decide +kernel) (by decide +kernel) rfl rfl rfl hl.1 (Nat.le_of_ble_eq_true rfl) dX7_isOn_69 ⟨Nat.le_of_ble_eq_true rfl, Nat.le_of_ble_eq_true rfl⟩ (fun H locs hP hD hS => ?_)
    refine lv_if_gt (tgt := 93) hx hb dX7_isOn_72 (by decide) (fun hc => ?_) (fun hc => ?_)
    · replace h := if_t hc h
      refine lv_iconst (v := 0) hx hb dX7_isOn_93 (by decide) ?_
      cases h
      exact ret _ _ _ _ (Or.inl rfl) dX7_isOn_94 hP hD hS
    · replace h := if_f hc h
      refine lv_aload_n hx hb dX7_isOn_75 rfl (lv_at hl 2 rfl) ?_
      refine va_get (D := D) (ci := 7) (v := .ref q_joints) (C := RX7) (T := TX7) (N := 7) hx hb hts hi_X7 hown hK.1 hP 0 rfl rfl 0 (by decide) hf_15 (fun _ h9 => h9) rfl dX7_isOn_76 ?_
      refine lv_sipush (v := 128) hx hb dX7_isOn_79 (by decide) ?_
      refine lv_iload_n hx hb dX7_isOn_82 rfl (lv_at hl 0 rfl) ?_
      obtain ⟨r5, hc, h⟩ := ob_of h
      replace h := dm1_of h
      refine cv_i (As := [.int (128 : Int32), .int x2]) (rest := []) (wr := [(q_, .inr (7, [.ref q_joints, .ref q_pieces, .int s_total, .ref q_paneOf, .ref q_walk, .ref q_start, .ref q_sum])), (q_pieces, .inr (8, [.ref q_joints, .int s_pieces_steps, .ref q_pieces_from, .ref q_pieces_to, .ref q_pieces_twin, .ref q_pieces_firm, .ref q_pieces_first, .ref q_pieces_firmEnds, .ref q_pieces_reached, .ref q_pieces_nextLow, .ref q_pieces_nextHigh])), (q_pieces_from, .inl (ky 0, 768, .inl s_pieces_from)), (q_pieces_to, .inl (ky 0, 768, .inl s_pieces_to))]) (wn := [(q_, .inr (7, [.ref q_joints, .ref q_pieces, .int s_total, .ref q_paneOf, .ref q_walk, .ref q_start, .ref q_sum])), (q_joints, .inr (4, [.int s_joints_total, .ref q_joints_x, .ref q_joints_y, .ref q_joints_under])), (q_joints_under, .inl (ky 0, 129, .inl s_joints_under)), (q_joints_x, .inl (ky 0, 129, .inl s_joints_x)), (q_joints_y, .inl (ky 0, 129, .inl s_joints_y)), (q_pieces, .inr (8, [.ref q_joints, .int s_pieces_steps, .ref q_pieces_from, .ref q_pieces_to, .ref q_pieces_twin, .ref q_pieces_firm, .ref q_pieces_first, .ref q_pieces_firmEnds, .ref q_pieces_reached, .ref q_pieces_nextLow, .ref q_pieces_nextHigh])), (q_pieces_from, .inl (ky 0, 768, .inl s_pieces_from)), (q_pieces_to, .inl (ky 0, 768, .inl s_pieces_to))]) ⟨hx, hb, hml, hown, hts⟩ (c_X4_order l D ky q_joints q_joints_x q_joints_y q_joints_under (128 : Int32) x2 s_joints_total s_joints_under s_joints_x s_joints_y hc) (cwV 2 hts gX7_isOn_X4_order rfl rfl rfl (by decide +kernel) ⟨Nat.le_of_ble_eq_true rfl, Nat.le_of_ble_eq_true rfl⟩) (rcv hK.1 hP (q0 := 1) rfl rfl) hP hD hK hS hA [1, 2, 3, 4] [0, 5, 6, 7] [0, 4, 5, 6, 7, 1, 2, 3] rfl (by decide +kernel) rfl (by decide +kernel) (by decide +kernel) (by decide +kernel) rfl rfl rfl hl.1 (Nat.le_of_ble_eq_true rfl) dX7_isOn_83 ⟨Nat.le_of_ble_eq_true rfl, Nat.le_of_ble_eq_true rfl⟩ (fun H locs hP hD hS => ?_)
      refine lv_if_gt (tgt := 93) hx hb dX7_isOn_86 (by decide) (fun hc => ?_) (fun hc => ?_)
      · replace h := if_t hc h
        refine lv_iconst (v := 0) hx hb dX7_isOn_93 (by decide) ?_
        cases h
        exact ret _ _ _ _ (Or.inl rfl) dX7_isOn_94 hP hD hS
      · replace h := if_f hc h
        refine lv_iconst (v := 1) hx hb dX7_isOn_89 (by decide) ?_
        refine lv_goto (tgt := 94) hx hb dX7_isOn_90 (by decide) ?_
        cases h
        exact ret _ _ _ _ (Or.inr rfl) dX7_isOn_94 hP hD hS

def sX7_isCrossed (a1 : Int32) (s_joints_under : Nat → Int32) (s_joints_x : Nat → Int32) (s_joints_y : Nat → Int32) (s_pieces_from : Nat → Int32) (s_pieces_to : Nat → Int32) : Option (Int32) := gd (¬ (a1 < 0 ∨ 768 ≤ a1.toNatClampNeg)) (gd (¬ (a1 < 0 ∨ 768 ≤ a1.toNatClampNeg)) (lt (if (s_pieces_to a1.toNatClampNeg) < (s_pieces_from a1.toNatClampNeg) then (s_pieces_to a1.toNatClampNeg) else (s_pieces_from a1.toNatClampNeg)) (fun x1 => gd (¬ (a1 < 0 ∨ 768 ≤ a1.toNatClampNeg)) (gd (¬ (a1 < 0 ∨ 768 ≤ a1.toNatClampNeg)) (lt (if (s_pieces_from a1.toNatClampNeg) < (s_pieces_to a1.toNatClampNeg) then (s_pieces_to a1.toNatClampNeg) else (s_pieces_from a1.toNatClampNeg)) (fun x2 => ob (sX4_heightOrder x1 (128 : Int32) s_joints_under s_joints_y) (fun o => dm1 o (fun (r3 : Int32) => if 0 < r3 then some (0 : Int32) else ob (sX4_heightOrder (128 : Int32) x2 s_joints_under s_joints_y) (fun o => dm1 o (fun (r4 : Int32) => if 0 ≤ r4 then some (0 : Int32) else ob (sX4_side x1 x2 (128 : Int32) s_joints_under s_joints_x s_joints_y) (fun o => dm1 o (fun (r5 : Int64) => if (lg_cmp r5 (0 : Int64)) ≤ 0 then some (0 : Int32) else some (1 : Int32)))))))))))))
abbrev rmX7_isCrossed : Room := { frames := 1, cells := 0, slots := 0, locals := 40 }
set_option maxHeartbeats 4000000 in
set_option maxRecDepth 100000 in
theorem c_X7_isCrossed (l : Launch) (D : va_G) (ky : Nat → ClassId) (q_ q_joints q_pieces q_paneOf q_walk q_start q_sum q_joints_x q_joints_y q_joints_under q_pieces_from q_pieces_to q_pieces_twin q_pieces_firm q_pieces_first q_pieces_firmEnds q_pieces_reached q_pieces_nextLow q_pieces_nextHigh : Nat) (a1 : Int32) (s_total : Int32) (s_joints_total : Int32) (s_joints_under : Nat → Int32) (s_joints_x : Nat → Int32) (s_joints_y : Nat → Int32) (s_pieces_steps : Int32) (s_pieces_from : Nat → Int32) (s_pieces_to : Nat → Int32) {o_r : Int32} (h : sX7_isCrossed a1 s_joints_under s_joints_x s_joints_y s_pieces_from s_pieces_to = some o_r) : MtI l D ky yX7_isCrossed wsX7_isCrossed rmX7_isCrossed [.ref q_, .int a1] [(q_, .inr (7, [.ref q_joints, .ref q_pieces, .int s_total, .ref q_paneOf, .ref q_walk, .ref q_start, .ref q_sum])), (q_joints, .inr (4, [.int s_joints_total, .ref q_joints_x, .ref q_joints_y, .ref q_joints_under])), (q_joints_under, .inl (ky 0, 129, .inl s_joints_under)), (q_joints_x, .inl (ky 0, 129, .inl s_joints_x)), (q_joints_y, .inl (ky 0, 129, .inl s_joints_y)), (q_pieces, .inr (8, [.ref q_joints, .int s_pieces_steps, .ref q_pieces_from, .ref q_pieces_to, .ref q_pieces_twin, .ref q_pieces_firm, .ref q_pieces_first, .ref q_pieces_firmEnds, .ref q_pieces_reached, .ref q_pieces_nextLow, .ref q_pieces_nextHigh])), (q_pieces_from, .inl (ky 0, 768, .inl s_pieces_from)), (q_pieces_to, .inl (ky 0, 768, .inl s_pieces_to))] [(q_, .inr (7, [.ref q_joints, .ref q_pieces, .int s_total, .ref q_paneOf, .ref q_walk, .ref q_start, .ref q_sum])), (q_joints, .inr (4, [.int s_joints_total, .ref q_joints_x, .ref q_joints_y, .ref q_joints_under])), (q_joints_under, .inl (ky 0, 129, .inl s_joints_under)), (q_joints_x, .inl (ky 0, 129, .inl s_joints_x)), (q_joints_y, .inl (ky 0, 129, .inl s_joints_y)), (q_pieces, .inr (8, [.ref q_joints, .int s_pieces_steps, .ref q_pieces_from, .ref q_pieces_to, .ref q_pieces_twin, .ref q_pieces_firm, .ref q_pieces_first, .ref q_pieces_firmEnds, .ref q_pieces_reached, .ref q_pieces_nextLow, .ref q_pieces_nextHigh])), (q_pieces_from, .inl (ky 0, 768, .inl s_pieces_from)), (q_pieces_to, .inl (ky 0, 768, .inl s_pieces_to))] o_r 0 0 := by
  refine MtI.ofB (cc := cX7_isCrossed) (maxL := 4) (by decide +kernel) rfl (Nat.le_of_ble_eq_true rfl) ?_
  intro p e R s m args below meth c A Q ls hR hx hb hts hown hnm hml hP hK hD hA ret hl
  subst hR
  obtain ⟨H, hH⟩ : ∃ H, H = s.heap := ⟨_, rfl⟩
  obtain ⟨locs, hlocs⟩ : ∃ locs : List Loc, locs = [] := ⟨_, rfl⟩
  have hS : va_S A s.heap H locs := by rw [hH, hlocs]; exact va_S.rf
  rw [← hH] at hP
  suffices hgo : W p l e rmX7_isCrossed s m args below meth c H locs 0 0 Q (F0 m 0 ls []) by rw [hH, hlocs] at hgo; exact hgo
  clear hH hlocs
  replace hl : lv_has ls 4 [(0, .ref q_), (1, .int a1)] := hl
  replace hown : s.vm.findClass RX7 = some m.cls := hown
  have hi_X7 : ∀ w ∈ u_ws RX7 TX7 7, w ∈ wsX7_isCrossed := fun _ h9 => List.mem_cons_of_mem _ (List.mem_append_left _ (List.mem_append_left _ (List.mem_append_right _ h9)))
  have hf_22 := hts (.fieldLink RX7 22 "GlazierBench$Panes" "pieces" "LGlazierBench$Pieces;") (by decide +kernel)
  have hi_X8 : ∀ w ∈ u_ws RX8 TX8 11, w ∈ wsX7_isCrossed := fun _ h9 => List.mem_cons_of_mem _ (List.mem_append_left _ (List.mem_append_right _ h9))
  have hf_76 := hts (.fieldLink RX7 76 "GlazierBench$Pieces" "from" "[I") (by decide +kernel)
  have hf_69 := hts (.fieldLink RX7 69 "GlazierBench$Pieces" "to" "[I") (by decide +kernel)
  have hm_95 := hts (.methodLink RX7 95 Lib.Math.min.name) (by decide +kernel)
  have hs_mmin := hts (.static Lib.Math.min.name) (by decide +kernel)
  have hini_Math := hts (.initialized "java/lang/Math") (by decide +kernel)
  have hco_mmin := hts (.code Lib.Math.min.name Lib.Math.min.code 2 (some .int)) (by decide +kernel)
  have hm_106 := hts (.methodLink RX7 106 Lib.Math.max.name) (by decide +kernel)
  have hs_mmax := hts (.static Lib.Math.max.name) (by decide +kernel)
  have hco_mmax := hts (.code Lib.Math.max.name Lib.Math.max.code 2 (some .int)) (by decide +kernel)
  have hf_15 := hts (.fieldLink RX7 15 "GlazierBench$Panes" "joints" "LGlazierBench$Joints;") (by decide +kernel)
  unfold sX7_isCrossed at h
  refine lv_aload_n hx hb dX7_isCrossed_0 rfl (lv_at hl 0 rfl) ?_
  refine va_get (D := D) (ci := 7) (v := .ref q_pieces) (C := RX7) (T := TX7) (N := 7) hx hb hts hi_X7 hown hK.1 hP 0 rfl rfl 1 (by decide) hf_22 (fun _ h9 => h9) rfl dX7_isCrossed_1 ?_
  refine va_get (D := D) (ci := 8) (v := .ref q_pieces_from) (C := RX8) (T := TX8) (N := 11) hx hb hts hi_X8 hown hK.1 hP 5 rfl rfl 2 (by decide) hf_76 (fun _ h9 => h9) rfl dX7_isCrossed_4 ?_
  refine lv_iload_n hx hb dX7_isCrossed_7 rfl (lv_at hl 1 rfl) ?_
  obtain ⟨hg, h⟩ := gd_of h
  refine va_iald hx hb hK.1 hP 6 0 rfl rfl hg dX7_isCrossed_8 ?_
  refine lv_aload_n hx hb dX7_isCrossed_9 rfl (lv_at hl 0 rfl) ?_
  refine va_get (D := D) (ci := 7) (v := .ref q_pieces) (C := RX7) (T := TX7) (N := 7) hx hb hts hi_X7 hown hK.1 hP 0 rfl rfl 1 (by decide) hf_22 (fun _ h9 => h9) rfl dX7_isCrossed_10 ?_
  refine va_get (D := D) (ci := 8) (v := .ref q_pieces_to) (C := RX8) (T := TX8) (N := 11) hx hb hts hi_X8 hown hK.1 hP 5 rfl rfl 3 (by decide) hf_69 (fun _ h9 => h9) rfl dX7_isCrossed_13 ?_
  refine lv_iload_n hx hb dX7_isCrossed_16 rfl (lv_at hl 1 rfl) ?_
  obtain ⟨hg, h⟩ := gd_of h
  refine va_iald hx hb hK.1 hP 7 0 rfl rfl hg dX7_isCrossed_17 ?_
  refine va_mmin hx hb (hml.trans hl.1.symm) hown hm_95 hs_mmin hini_Math hco_mmin (Nat.le_of_ble_eq_true rfl) (Nat.le_of_ble_eq_true rfl) (Nat.le_of_ble_eq_true rfl) (Nat.le_of_ble_eq_true rfl) dX7_isCrossed_18 ?_
  refine lv_topi (fun x1 ex1 => ?_)
  replace h := lt_at ex1 h
  refine lv_istore_n (lv' := [(2, .int x1), (0, .ref q_), (1, .int a1)]) hx hb dX7_isCrossed_21 rfl hl (by decide) rfl (fun ls hl => ?_)
  refine lv_aload_n hx hb dX7_isCrossed_22 rfl (lv_at hl 1 rfl) ?_
  refine va_get (D := D) (ci := 7) (v := .ref q_pieces) (C := RX7) (T := TX7) (N := 7) hx hb hts hi_X7 hown hK.1 hP 0 rfl rfl 1 (by decide) hf_22 (fun _ h9 => h9) rfl dX7_isCrossed_23 ?_
  refine va_get (D := D) (ci := 8) (v := .ref q_pieces_from) (C := RX8) (T := TX8) (N := 11) hx hb hts hi_X8 hown hK.1 hP 5 rfl rfl 2 (by decide) hf_76 (fun _ h9 => h9) rfl dX7_isCrossed_26 ?_
  refine lv_iload_n hx hb dX7_isCrossed_29 rfl (lv_at hl 2 rfl) ?_
  obtain ⟨hg, h⟩ := gd_of h
  refine va_iald hx hb hK.1 hP 6 0 rfl rfl hg dX7_isCrossed_30 ?_
  refine lv_aload_n hx hb dX7_isCrossed_31 rfl (lv_at hl 1 rfl) ?_
  refine va_get (D := D) (ci := 7) (v := .ref q_pieces) (C := RX7) (T := TX7) (N := 7) hx hb hts hi_X7 hown hK.1 hP 0 rfl rfl 1 (by decide) hf_22 (fun _ h9 => h9) rfl dX7_isCrossed_32 ?_
  refine va_get (D := D) (ci := 8) (v := .ref q_pieces_to) (C := RX8) (T := TX8) (N := 11) hx hb hts hi_X8 hown hK.1 hP 5 rfl rfl 3 (by decide) hf_69 (fun _ h9 => h9) rfl dX7_isCrossed_35 ?_
  refine lv_iload_n hx hb dX7_isCrossed_38 rfl (lv_at hl 2 rfl) ?_
  obtain ⟨hg, h⟩ := gd_of h
  refine va_iald hx hb hK.1 hP 7 0 rfl rfl hg dX7_isCrossed_39 ?_
  refine va_mmax hx hb (hml.trans hl.1.symm) hown hm_106 hs_mmax hini_Math hco_mmax (Nat.le_of_ble_eq_true rfl) (Nat.le_of_ble_eq_true rfl) (Nat.le_of_ble_eq_true rfl) (Nat.le_of_ble_eq_true rfl) dX7_isCrossed_40 ?_
  refine lv_topi (fun x2 ex2 => ?_)
  replace h := lt_at ex2 h
  refine lv_istore_n (lv' := [(3, .int x2), (2, .int x1), (0, .ref q_), (1, .int a1)]) hx hb dX7_isCrossed_43 rfl hl (by decide) rfl (fun ls hl => ?_)
  refine lv_aload_n hx hb dX7_isCrossed_44 rfl (lv_at hl 2 rfl) ?_
  refine va_get (D := D) (ci := 7) (v := .ref q_joints) (C := RX7) (T := TX7) (N := 7) hx hb hts hi_X7 hown hK.1 hP 0 rfl rfl 0 (by decide) hf_15 (fun _ h9 => h9) rfl dX7_isCrossed_45 ?_
  refine lv_iload_n hx hb dX7_isCrossed_48 rfl (lv_at hl 1 rfl) ?_
  refine lv_sipush (v := 128) hx hb dX7_isCrossed_49 (by decide) ?_
  obtain ⟨r3, hc, h⟩ := ob_of h
  replace h := dm1_of h
  refine cv_i (As := [.int x1, .int (128 : Int32)]) (rest := []) (wr := [(q_, .inr (7, [.ref q_joints, .ref q_pieces, .int s_total, .ref q_paneOf, .ref q_walk, .ref q_start, .ref q_sum])), (q_joints_x, .inl (ky 0, 129, .inl s_joints_x)), (q_pieces, .inr (8, [.ref q_joints, .int s_pieces_steps, .ref q_pieces_from, .ref q_pieces_to, .ref q_pieces_twin, .ref q_pieces_firm, .ref q_pieces_first, .ref q_pieces_firmEnds, .ref q_pieces_reached, .ref q_pieces_nextLow, .ref q_pieces_nextHigh])), (q_pieces_from, .inl (ky 0, 768, .inl s_pieces_from)), (q_pieces_to, .inl (ky 0, 768, .inl s_pieces_to))]) (wn := [(q_, .inr (7, [.ref q_joints, .ref q_pieces, .int s_total, .ref q_paneOf, .ref q_walk, .ref q_start, .ref q_sum])), (q_joints, .inr (4, [.int s_joints_total, .ref q_joints_x, .ref q_joints_y, .ref q_joints_under])), (q_joints_under, .inl (ky 0, 129, .inl s_joints_under)), (q_joints_x, .inl (ky 0, 129, .inl s_joints_x)), (q_joints_y, .inl (ky 0, 129, .inl s_joints_y)), (q_pieces, .inr (8, [.ref q_joints, .int s_pieces_steps, .ref q_pieces_from, .ref q_pieces_to, .ref q_pieces_twin, .ref q_pieces_firm, .ref q_pieces_first, .ref q_pieces_firmEnds, .ref q_pieces_reached, .ref q_pieces_nextLow, .ref q_pieces_nextHigh])), (q_pieces_from, .inl (ky 0, 768, .inl s_pieces_from)), (q_pieces_to, .inl (ky 0, 768, .inl s_pieces_to))]) ⟨hx, hb, hml, hown, hts⟩ (c_X4_heightOrder l D ky q_joints q_joints_x q_joints_y q_joints_under x1 (128 : Int32) s_joints_total s_joints_under s_joints_y hc) (cwV 2 hts gX7_isCrossed_X4_heightOrder rfl rfl rfl (by decide +kernel) ⟨Nat.le_of_ble_eq_true rfl, Nat.le_of_ble_eq_true rfl⟩) (rcv hK.1 hP (q0 := 1) rfl rfl) hP hD hK hS hA [1, 2, 4] [0, 3, 5, 6, 7] [0, 5, 6, 1, 7, 2, 3, 4] rfl (by decide +kernel) rfl (by decide +kernel) (by decide +kernel) (by decide +kernel) rfl rfl rfl hl.1 (Nat.le_of_ble_eq_true rfl) dX7_isCrossed_52 ⟨Nat.le_of_ble_eq_true rfl, Nat.le_of_ble_eq_true rfl⟩ (fun H locs hP hD hS => ?_)
  refine lv_if_gt (tgt := 93) hx hb dX7_isCrossed_55 (by decide) (fun hc => ?_) (fun hc => ?_)
  · replace h := if_t hc h
    refine lv_iconst (v := 0) hx hb dX7_isCrossed_93 (by decide) ?_
    cases h
    exact ret _ _ _ _ (Or.inl rfl) dX7_isCrossed_94 hP hD hS
  · replace h := if_f hc h
    refine lv_aload_n hx hb dX7_isCrossed_58 rfl (lv_at hl 2 rfl) ?_
    refine va_get (D := D) (ci := 7) (v := .ref q_joints) (C := RX7) (T := TX7) (N := 7) hx hb hts hi_X7 hown hK.1 hP 0 rfl rfl 0 (by decide) hf_15 (fun _ h9 => h9) rfl dX7_isCrossed_59 ?_
    refine lv_sipush (v := 128) hx hb dX7_isCrossed_62 (by decide) ?_
    refine lv_iload_n hx hb dX7_isCrossed_65 rfl (lv_at hl 0 rfl) ?_
    obtain ⟨r4, hc, h⟩ := ob_of h
    replace h := dm1_of h
    refine cv_i (As := [.int (128 : Int32), .int x2]) (rest := []) (wr := [(q_, .inr (7, [.ref q_joints, .ref q_pieces, .int s_total, .ref q_paneOf, .ref q_walk, .ref q_start, .ref q_sum])), (q_joints_x, .inl (ky 0, 129, .inl s_joints_x)), (q_pieces, .inr (8, [.ref q_joints, .int s_pieces_steps, .ref q_pieces_from, .ref q_pieces_to, .ref q_pieces_twin, .ref q_pieces_firm, .ref q_pieces_first, .ref q_pieces_firmEnds, .ref q_pieces_reached, .ref q_pieces_nextLow, .ref q_pieces_nextHigh])), (q_pieces_from, .inl (ky 0, 768, .inl s_pieces_from)), (q_pieces_to, .inl (ky 0, 768, .inl s_pieces_to))]) (wn := [(q_, .inr (7, [.ref q_joints, .ref q_pieces, .int s_total, .ref q_paneOf, .ref q_walk, .ref q_start, .ref q_sum])), (q_joints, .inr (4, [.int s_joints_total, .ref q_joints_x, .ref q_joints_y, .ref q_joints_under])), (q_joints_under, .inl (ky 0, 129, .inl s_joints_under)), (q_joints_x, .inl (ky 0, 129, .inl s_joints_x)), (q_joints_y, .inl (ky 0, 129, .inl s_joints_y)), (q_pieces, .inr (8, [.ref q_joints, .int s_pieces_steps, .ref q_pieces_from, .ref q_pieces_to, .ref q_pieces_twin, .ref q_pieces_firm, .ref q_pieces_first, .ref q_pieces_firmEnds, .ref q_pieces_reached, .ref q_pieces_nextLow, .ref q_pieces_nextHigh])), (q_pieces_from, .inl (ky 0, 768, .inl s_pieces_from)), (q_pieces_to, .inl (ky 0, 768, .inl s_pieces_to))]) ⟨hx, hb, hml, hown, hts⟩ (c_X4_heightOrder l D ky q_joints q_joints_x q_joints_y q_joints_under (128 : Int32) x2 s_joints_total s_joints_under s_joints_y hc) (cwV 2 hts gX7_isCrossed_X4_heightOrder rfl rfl rfl (by decide +kernel) ⟨Nat.le_of_ble_eq_true rfl, Nat.le_of_ble_eq_true rfl⟩) (rcv hK.1 hP (q0 := 1) rfl rfl) hP hD hK hS hA [1, 2, 4] [0, 3, 5, 6, 7] [0, 5, 6, 1, 7, 2, 3, 4] rfl (by decide +kernel) rfl (by decide +kernel) (by decide +kernel) (by decide +kernel) rfl rfl rfl hl.1 (Nat.le_of_ble_eq_true rfl) dX7_isCrossed_66 ⟨Nat.le_of_ble_eq_true rfl, Nat.le_of_ble_eq_true rfl⟩ (fun H locs hP hD hS => ?_)
    refine lv_if_ge (tgt := 93) hx hb dX7_isCrossed_69 (by decide) (fun hc => ?_) (fun hc => ?_)
    · replace h := if_t hc h
      refine lv_iconst (v := 0) hx hb dX7_isCrossed_93 (by decide) ?_
      cases h
      exact ret _ _ _ _ (Or.inl rfl) dX7_isCrossed_94 hP hD hS
    · replace h := if_f hc h
      refine lv_aload_n hx hb dX7_isCrossed_72 rfl (lv_at hl 2 rfl) ?_
      refine va_get (D := D) (ci := 7) (v := .ref q_joints) (C := RX7) (T := TX7) (N := 7) hx hb hts hi_X7 hown hK.1 hP 0 rfl rfl 0 (by decide) hf_15 (fun _ h9 => h9) rfl dX7_isCrossed_73 ?_
      refine lv_iload_n hx hb dX7_isCrossed_76 rfl (lv_at hl 1 rfl) ?_
      refine lv_iload_n hx hb dX7_isCrossed_77 rfl (lv_at hl 0 rfl) ?_
      refine lv_sipush (v := 128) hx hb dX7_isCrossed_78 (by decide) ?_
      obtain ⟨r5, hc, h⟩ := ob_of h
      replace h := dm1_of h
      refine cv_l (As := [.int x1, .int x2, .int (128 : Int32)]) (rest := []) (wr := [(q_, .inr (7, [.ref q_joints, .ref q_pieces, .int s_total, .ref q_paneOf, .ref q_walk, .ref q_start, .ref q_sum])), (q_pieces, .inr (8, [.ref q_joints, .int s_pieces_steps, .ref q_pieces_from, .ref q_pieces_to, .ref q_pieces_twin, .ref q_pieces_firm, .ref q_pieces_first, .ref q_pieces_firmEnds, .ref q_pieces_reached, .ref q_pieces_nextLow, .ref q_pieces_nextHigh])), (q_pieces_from, .inl (ky 0, 768, .inl s_pieces_from)), (q_pieces_to, .inl (ky 0, 768, .inl s_pieces_to))]) (wn := [(q_, .inr (7, [.ref q_joints, .ref q_pieces, .int s_total, .ref q_paneOf, .ref q_walk, .ref q_start, .ref q_sum])), (q_joints, .inr (4, [.int s_joints_total, .ref q_joints_x, .ref q_joints_y, .ref q_joints_under])), (q_joints_under, .inl (ky 0, 129, .inl s_joints_under)), (q_joints_x, .inl (ky 0, 129, .inl s_joints_x)), (q_joints_y, .inl (ky 0, 129, .inl s_joints_y)), (q_pieces, .inr (8, [.ref q_joints, .int s_pieces_steps, .ref q_pieces_from, .ref q_pieces_to, .ref q_pieces_twin, .ref q_pieces_firm, .ref q_pieces_first, .ref q_pieces_firmEnds, .ref q_pieces_reached, .ref q_pieces_nextLow, .ref q_pieces_nextHigh])), (q_pieces_from, .inl (ky 0, 768, .inl s_pieces_from)), (q_pieces_to, .inl (ky 0, 768, .inl s_pieces_to))]) ⟨hx, hb, hml, hown, hts⟩ (c_X4_side l D ky q_joints q_joints_x q_joints_y q_joints_under x1 x2 (128 : Int32) s_joints_total s_joints_under s_joints_x s_joints_y hc) (cwV 3 hts gX7_isCrossed_X4_side rfl rfl rfl (by decide +kernel) ⟨Nat.le_of_ble_eq_true rfl, Nat.le_of_ble_eq_true rfl⟩) (rcv hK.1 hP (q0 := 1) rfl rfl) hP hD hK hS hA [1, 2, 3, 4] [0, 5, 6, 7] [0, 4, 5, 6, 7, 1, 2, 3] rfl (by decide +kernel) rfl (by decide +kernel) (by decide +kernel) (by decide +kernel) rfl rfl rfl hl.1 (Nat.le_of_ble_eq_true rfl) dX7_isCrossed_81 ⟨Nat.le_of_ble_eq_true rfl, Nat.le_of_ble_eq_true rfl⟩ (fun H locs hP hD hS => ?_)
      refine lv_lconst (v := 0) hx hb dX7_isCrossed_84 (by decide) ?_
      refine W.lcmp hx hb dX7_isCrossed_85 ?_
      refine lv_if_le (tgt := 93) hx hb dX7_isCrossed_86 (by decide) (fun hc => ?_) (fun hc => ?_)
      · replace h := if_t hc h
        refine lv_iconst (v := 0) hx hb dX7_isCrossed_93 (by decide) ?_
        cases h
        exact ret _ _ _ _ (Or.inl rfl) dX7_isCrossed_94 hP hD hS
      · replace h := if_f hc h
        refine lv_iconst (v := 1) hx hb dX7_isCrossed_89 (by decide) ?_
        refine lv_goto (tgt := 94) hx hb dX7_isCrossed_90 (by decide) ?_
        cases h
        exact ret _ _ _ _ (Or.inr rfl) dX7_isCrossed_94 hP hD hS

def bX7_isInside_9 (a1 : Int32) (s_joints_under : Nat → Int32) (s_joints_x : Nat → Int32) (s_joints_y : Nat → Int32) (s_pieces_from : Nat → Int32) (s_pieces_to : Nat → Int32) (s_start : Nat → Int32) (s_walk : Nat → Int32) (t : Int32 × Int32) : Option (Nat × (Int32 × Int32)) := dm2 t (fun (v2 : Int32) (v3 : Int32) => gd (¬ ((a1 + (1 : Int32)) < 0 ∨ 129 ≤ (a1 + (1 : Int32)).toNatClampNeg)) (if (s_start (a1 + (1 : Int32)).toNatClampNeg) ≤ v3 then some (1, (v2, v3)) else gd (¬ (v3 < 0 ∨ 768 ≤ v3.toNatClampNeg)) (ob (sX7_isCrossed (s_walk v3.toNatClampNeg) s_joints_under s_joints_x s_joints_y s_pieces_from s_pieces_to) (fun o => dm1 o (fun (r4 : Int32) => ob (if r4 = 0 then some v2 else if ¬ v2 = 0 then some (0 : Int32) else some (1 : Int32)) (fun t => dm1 t (fun (v5 : Int32) => lt (v3 + 1) (fun x6 => some (0, (v5, x6))))))))))
def sX7_isInside (a1 : Int32) (s_joints_under : Nat → Int32) (s_joints_x : Nat → Int32) (s_joints_y : Nat → Int32) (s_pieces_from : Nat → Int32) (s_pieces_to : Nat → Int32) (s_start : Nat → Int32) (s_walk : Nat → Int32) : Option (Int32) := gd (¬ (a1 < 0 ∨ 129 ≤ a1.toNatClampNeg)) (lt (s_start a1.toNatClampNeg) (fun x1 => ob (iter (bX7_isInside_9 a1 s_joints_under s_joints_x s_joints_y s_pieces_from s_pieces_to s_start s_walk) FU ((0 : Int32), x1)) (fun kt => ex1 kt (fun t => dm2 t (fun (v7 : Int32) (v8 : Int32) => gd (v7 = 0 ∨ v7 = 1) (some v7))))))
abbrev rmX7_isInside : Room := { frames := 2, cells := 0, slots := 0, locals := 63 }
set_option maxHeartbeats 4000000 in
set_option maxRecDepth 100000 in
theorem c_X7_isInside (l : Launch) (D : va_G) (ky : Nat → ClassId) (q_ q_joints q_pieces q_paneOf q_walk q_start q_sum q_joints_x q_joints_y q_joints_under q_pieces_from q_pieces_to q_pieces_twin q_pieces_firm q_pieces_first q_pieces_firmEnds q_pieces_reached q_pieces_nextLow q_pieces_nextHigh : Nat) (a1 : Int32) (s_total : Int32) (s_joints_total : Int32) (s_joints_under : Nat → Int32) (s_joints_x : Nat → Int32) (s_joints_y : Nat → Int32) (s_pieces_steps : Int32) (s_pieces_from : Nat → Int32) (s_pieces_to : Nat → Int32) (s_start : Nat → Int32) (s_walk : Nat → Int32) {o_r : Int32} (h : sX7_isInside a1 s_joints_under s_joints_x s_joints_y s_pieces_from s_pieces_to s_start s_walk = some o_r) : MtI l D ky yX7_isInside wsX7_isInside rmX7_isInside [.ref q_, .int a1] [(q_, .inr (7, [.ref q_joints, .ref q_pieces, .int s_total, .ref q_paneOf, .ref q_walk, .ref q_start, .ref q_sum])), (q_joints, .inr (4, [.int s_joints_total, .ref q_joints_x, .ref q_joints_y, .ref q_joints_under])), (q_joints_under, .inl (ky 0, 129, .inl s_joints_under)), (q_joints_x, .inl (ky 0, 129, .inl s_joints_x)), (q_joints_y, .inl (ky 0, 129, .inl s_joints_y)), (q_pieces, .inr (8, [.ref q_joints, .int s_pieces_steps, .ref q_pieces_from, .ref q_pieces_to, .ref q_pieces_twin, .ref q_pieces_firm, .ref q_pieces_first, .ref q_pieces_firmEnds, .ref q_pieces_reached, .ref q_pieces_nextLow, .ref q_pieces_nextHigh])), (q_pieces_from, .inl (ky 0, 768, .inl s_pieces_from)), (q_pieces_to, .inl (ky 0, 768, .inl s_pieces_to)), (q_start, .inl (ky 0, 129, .inl s_start)), (q_walk, .inl (ky 0, 768, .inl s_walk))] [(q_, .inr (7, [.ref q_joints, .ref q_pieces, .int s_total, .ref q_paneOf, .ref q_walk, .ref q_start, .ref q_sum])), (q_joints, .inr (4, [.int s_joints_total, .ref q_joints_x, .ref q_joints_y, .ref q_joints_under])), (q_joints_under, .inl (ky 0, 129, .inl s_joints_under)), (q_joints_x, .inl (ky 0, 129, .inl s_joints_x)), (q_joints_y, .inl (ky 0, 129, .inl s_joints_y)), (q_pieces, .inr (8, [.ref q_joints, .int s_pieces_steps, .ref q_pieces_from, .ref q_pieces_to, .ref q_pieces_twin, .ref q_pieces_firm, .ref q_pieces_first, .ref q_pieces_firmEnds, .ref q_pieces_reached, .ref q_pieces_nextLow, .ref q_pieces_nextHigh])), (q_pieces_from, .inl (ky 0, 768, .inl s_pieces_from)), (q_pieces_to, .inl (ky 0, 768, .inl s_pieces_to)), (q_start, .inl (ky 0, 129, .inl s_start)), (q_walk, .inl (ky 0, 768, .inl s_walk))] o_r 0 0 := by
  refine MtI.ofB (cc := cX7_isInside) (maxL := 4) (by decide +kernel) rfl (Nat.le_of_ble_eq_true rfl) ?_
  intro p e R s m args below meth c A Q ls hR hx hb hts hown hnm hml hP hK hD hA ret hl
  subst hR
  obtain ⟨H, hH⟩ : ∃ H, H = s.heap := ⟨_, rfl⟩
  obtain ⟨locs, hlocs⟩ : ∃ locs : List Loc, locs = [] := ⟨_, rfl⟩
  have hS : va_S A s.heap H locs := by rw [hH, hlocs]; exact va_S.rf
  rw [← hH] at hP
  suffices hgo : W p l e rmX7_isInside s m args below meth c H locs 0 0 Q (F0 m 0 ls []) by rw [hH, hlocs] at hgo; exact hgo
  clear hH hlocs
  replace hl : lv_has ls 4 [(0, .ref q_), (1, .int a1)] := hl
  replace hown : s.vm.findClass RX7 = some m.cls := hown
  have hi_X7 : ∀ w ∈ u_ws RX7 TX7 7, w ∈ wsX7_isInside := fun _ h9 => List.mem_cons_of_mem _ (List.mem_append_left _ (List.mem_append_left _ (List.mem_append_right _ h9)))
  have hf_30 := hts (.fieldLink RX7 30 "GlazierBench$Panes" "start" "[I") (by decide +kernel)
  have hf_27 := hts (.fieldLink RX7 27 "GlazierBench$Panes" "walk" "[I") (by decide +kernel)
  unfold sX7_isInside at h
  refine lv_iconst (v := 0) hx hb dX7_isInside_0 (by decide) ?_
  refine lv_istore_n (lv' := [(2, .int (0 : Int32)), (0, .ref q_), (1, .int a1)]) hx hb dX7_isInside_1 rfl hl (by decide) rfl (fun ls hl => ?_)
  refine lv_aload_n hx hb dX7_isInside_2 rfl (lv_at hl 1 rfl) ?_
  refine va_get (D := D) (ci := 7) (v := .ref q_start) (C := RX7) (T := TX7) (N := 7) hx hb hts hi_X7 hown hK.1 hP 0 rfl rfl 5 (by decide) hf_30 (fun _ h9 => h9) rfl dX7_isInside_3 ?_
  refine lv_iload_n hx hb dX7_isInside_6 rfl (lv_at hl 2 rfl) ?_
  obtain ⟨hg, h⟩ := gd_of h
  refine va_iald hx hb hK.1 hP 8 0 rfl rfl hg dX7_isInside_7 ?_
  refine lv_topi (fun x1 ex1 => ?_)
  replace h := lt_at ex1 h
  refine lv_istore_n (lv' := [(3, .int x1), (2, .int (0 : Int32)), (0, .ref q_), (1, .int a1)]) hx hb dX7_isInside_8 rfl hl (by decide) rfl (fun ls hl => ?_)
  obtain ⟨⟨k, t⟩, hi, h⟩ := ob_of h
  refine iter_rule (P := fun (k : Nat) (t : Int32 × Int32) => ∀ (H : Heap) (locs : List Loc) (ls : Array Slot), va_P D vwCl [(q_, .inr (7, [.ref q_joints, .ref q_pieces, .int s_total, .ref q_paneOf, .ref q_walk, .ref q_start, .ref q_sum])), (q_joints, .inr (4, [.int s_joints_total, .ref q_joints_x, .ref q_joints_y, .ref q_joints_under])), (q_joints_under, .inl (ky 0, 129, .inl s_joints_under)), (q_joints_x, .inl (ky 0, 129, .inl s_joints_x)), (q_joints_y, .inl (ky 0, 129, .inl s_joints_y)), (q_pieces, .inr (8, [.ref q_joints, .int s_pieces_steps, .ref q_pieces_from, .ref q_pieces_to, .ref q_pieces_twin, .ref q_pieces_firm, .ref q_pieces_first, .ref q_pieces_firmEnds, .ref q_pieces_reached, .ref q_pieces_nextLow, .ref q_pieces_nextHigh])), (q_pieces_from, .inl (ky 0, 768, .inl s_pieces_from)), (q_pieces_to, .inl (ky 0, 768, .inl s_pieces_to)), (q_start, .inl (ky 0, 129, .inl s_start)), (q_walk, .inl (ky 0, 768, .inl s_walk))] H → va_D A [(q_, .inr (7, [.ref q_joints, .ref q_pieces, .int s_total, .ref q_paneOf, .ref q_walk, .ref q_start, .ref q_sum])), (q_joints, .inr (4, [.int s_joints_total, .ref q_joints_x, .ref q_joints_y, .ref q_joints_under])), (q_joints_under, .inl (ky 0, 129, .inl s_joints_under)), (q_joints_x, .inl (ky 0, 129, .inl s_joints_x)), (q_joints_y, .inl (ky 0, 129, .inl s_joints_y)), (q_pieces, .inr (8, [.ref q_joints, .int s_pieces_steps, .ref q_pieces_from, .ref q_pieces_to, .ref q_pieces_twin, .ref q_pieces_firm, .ref q_pieces_first, .ref q_pieces_firmEnds, .ref q_pieces_reached, .ref q_pieces_nextLow, .ref q_pieces_nextHigh])), (q_pieces_from, .inl (ky 0, 768, .inl s_pieces_from)), (q_pieces_to, .inl (ky 0, 768, .inl s_pieces_to)), (q_start, .inl (ky 0, 129, .inl s_start)), (q_walk, .inl (ky 0, 768, .inl s_walk))] → va_S A s.heap H locs → lv_has ls 4 [(0, .ref q_), (1, .int a1), (2, .int t.1), (3, .int t.2)] → W p l e rmX7_isInside s m args below meth c H locs 0 0 Q (F0 m ([9, 50].getD k 0) ls [])) ?_ _ _ _ _ hi ?_ H locs ls hP hD hS (lv_sub hl [2, 3, 1, 0] rfl)
  · clear h hi hP hD hS hl
    intro t k t' h K
    obtain ⟨v2, v3⟩ := t
    intro H locs ls hP hD hS hl
    replace h := dm2_of h
    replace hP : va_P D vwCl [(q_, .inr (7, [.ref q_joints, .ref q_pieces, .int s_total, .ref q_paneOf, .ref q_walk, .ref q_start, .ref q_sum])), (q_joints, .inr (4, [.int s_joints_total, .ref q_joints_x, .ref q_joints_y, .ref q_joints_under])), (q_joints_under, .inl (ky 0, 129, .inl s_joints_under)), (q_joints_x, .inl (ky 0, 129, .inl s_joints_x)), (q_joints_y, .inl (ky 0, 129, .inl s_joints_y)), (q_pieces, .inr (8, [.ref q_joints, .int s_pieces_steps, .ref q_pieces_from, .ref q_pieces_to, .ref q_pieces_twin, .ref q_pieces_firm, .ref q_pieces_first, .ref q_pieces_firmEnds, .ref q_pieces_reached, .ref q_pieces_nextLow, .ref q_pieces_nextHigh])), (q_pieces_from, .inl (ky 0, 768, .inl s_pieces_from)), (q_pieces_to, .inl (ky 0, 768, .inl s_pieces_to)), (q_start, .inl (ky 0, 129, .inl s_start)), (q_walk, .inl (ky 0, 768, .inl s_walk))] H := hP
    replace hD : va_D A [(q_, .inr (7, [.ref q_joints, .ref q_pieces, .int s_total, .ref q_paneOf, .ref q_walk, .ref q_start, .ref q_sum])), (q_joints, .inr (4, [.int s_joints_total, .ref q_joints_x, .ref q_joints_y, .ref q_joints_under])), (q_joints_under, .inl (ky 0, 129, .inl s_joints_under)), (q_joints_x, .inl (ky 0, 129, .inl s_joints_x)), (q_joints_y, .inl (ky 0, 129, .inl s_joints_y)), (q_pieces, .inr (8, [.ref q_joints, .int s_pieces_steps, .ref q_pieces_from, .ref q_pieces_to, .ref q_pieces_twin, .ref q_pieces_firm, .ref q_pieces_first, .ref q_pieces_firmEnds, .ref q_pieces_reached, .ref q_pieces_nextLow, .ref q_pieces_nextHigh])), (q_pieces_from, .inl (ky 0, 768, .inl s_pieces_from)), (q_pieces_to, .inl (ky 0, 768, .inl s_pieces_to)), (q_start, .inl (ky 0, 129, .inl s_start)), (q_walk, .inl (ky 0, 768, .inl s_walk))] := hD
    replace hl : lv_has ls 4 [(0, .ref q_), (1, .int a1), (2, .int v2), (3, .int v3)] := hl
    refine lv_iload_n hx hb dX7_isInside_9 rfl (lv_at hl 3 rfl) ?_
    refine lv_aload_n hx hb dX7_isInside_10 rfl (lv_at hl 0 rfl) ?_
    refine va_get (D := D) (ci := 7) (v := .ref q_start) (C := RX7) (T := TX7) (N := 7) hx hb hts hi_X7 hown hK.1 hP 0 rfl rfl 5 (by decide) hf_30 (fun _ h9 => h9) rfl dX7_isInside_11 ?_
    refine lv_iload_n hx hb dX7_isInside_14 rfl (lv_at hl 1 rfl) ?_
    refine lv_iconst (v := 1) hx hb dX7_isInside_15 (by decide) ?_
    refine lv_iadd hx hb dX7_isInside_16 ?_
    obtain ⟨hg, h⟩ := gd_of h
    refine va_iald hx hb hK.1 hP 8 0 rfl rfl hg dX7_isInside_17 ?_
    refine lv_icmp_ge (tgt := 50) hx hb dX7_isInside_18 (by decide) (fun hc => ?_) (fun hc => ?_)
    · replace h := if_t hc h
      cases h
      exact K _ _ _ hP hD hS (lv_sub hl [0, 1, 2, 3] rfl)
    · replace h := if_f hc h
      refine lv_aload_n hx hb dX7_isInside_21 rfl (lv_at hl 0 rfl) ?_
      refine lv_aload_n hx hb dX7_isInside_22 rfl (lv_at hl 0 rfl) ?_
      refine va_get (D := D) (ci := 7) (v := .ref q_walk) (C := RX7) (T := TX7) (N := 7) hx hb hts hi_X7 hown hK.1 hP 0 rfl rfl 4 (by decide) hf_27 (fun _ h9 => h9) rfl dX7_isInside_23 ?_
      refine lv_iload_n hx hb dX7_isInside_26 rfl (lv_at hl 3 rfl) ?_
      obtain ⟨hg, h⟩ := gd_of h
      refine va_iald hx hb hK.1 hP 9 0 rfl rfl hg dX7_isInside_27 ?_
      obtain ⟨r4, hc, h⟩ := ob_of h
      replace h := dm1_of h
      refine cv_i (As := [.int (s_walk v3.toNatClampNeg)]) (rest := []) (wr := [(q_start, .inl (ky 0, 129, .inl s_start)), (q_walk, .inl (ky 0, 768, .inl s_walk))]) (wn := [(q_, .inr (7, [.ref q_joints, .ref q_pieces, .int s_total, .ref q_paneOf, .ref q_walk, .ref q_start, .ref q_sum])), (q_joints, .inr (4, [.int s_joints_total, .ref q_joints_x, .ref q_joints_y, .ref q_joints_under])), (q_joints_under, .inl (ky 0, 129, .inl s_joints_under)), (q_joints_x, .inl (ky 0, 129, .inl s_joints_x)), (q_joints_y, .inl (ky 0, 129, .inl s_joints_y)), (q_pieces, .inr (8, [.ref q_joints, .int s_pieces_steps, .ref q_pieces_from, .ref q_pieces_to, .ref q_pieces_twin, .ref q_pieces_firm, .ref q_pieces_first, .ref q_pieces_firmEnds, .ref q_pieces_reached, .ref q_pieces_nextLow, .ref q_pieces_nextHigh])), (q_pieces_from, .inl (ky 0, 768, .inl s_pieces_from)), (q_pieces_to, .inl (ky 0, 768, .inl s_pieces_to)), (q_start, .inl (ky 0, 129, .inl s_start)), (q_walk, .inl (ky 0, 768, .inl s_walk))]) ⟨hx, hb, hml, hown, hts⟩ (c_X7_isCrossed l D ky q_ q_joints q_pieces q_paneOf q_walk q_start q_sum q_joints_x q_joints_y q_joints_under q_pieces_from q_pieces_to q_pieces_twin q_pieces_firm q_pieces_first q_pieces_firmEnds q_pieces_reached q_pieces_nextLow q_pieces_nextHigh (s_walk v3.toNatClampNeg) s_total s_joints_total s_joints_under s_joints_x s_joints_y s_pieces_steps s_pieces_from s_pieces_to hc) (cwV 1 hts gX7_isInside_X7_isCrossed rfl rfl rfl (by decide +kernel) ⟨Nat.le_of_ble_eq_true rfl, Nat.le_of_ble_eq_true rfl⟩) (rcv hK.1 hP (q0 := 0) rfl rfl) hP hD hK hS hA [0, 1, 2, 3, 4, 5, 6, 7] [8, 9] [2, 3, 4, 5, 6, 7, 8, 9, 0, 1] rfl (by decide +kernel) rfl (by decide +kernel) (by decide +kernel) (by decide +kernel) rfl rfl rfl hl.1 (Nat.le_of_ble_eq_true rfl) dX7_isInside_28 ⟨Nat.le_of_ble_eq_true rfl, Nat.le_of_ble_eq_true rfl⟩ (fun H locs hP hD hS => ?_)
      obtain ⟨t, hd, h⟩ := ob_of h
      have K : ∀ (H : Heap) (locs : List Loc) (ls : Array Slot), va_P D vwCl [(q_, .inr (7, [.ref q_joints, .ref q_pieces, .int s_total, .ref q_paneOf, .ref q_walk, .ref q_start, .ref q_sum])), (q_joints, .inr (4, [.int s_joints_total, .ref q_joints_x, .ref q_joints_y, .ref q_joints_under])), (q_joints_under, .inl (ky 0, 129, .inl s_joints_under)), (q_joints_x, .inl (ky 0, 129, .inl s_joints_x)), (q_joints_y, .inl (ky 0, 129, .inl s_joints_y)), (q_pieces, .inr (8, [.ref q_joints, .int s_pieces_steps, .ref q_pieces_from, .ref q_pieces_to, .ref q_pieces_twin, .ref q_pieces_firm, .ref q_pieces_first, .ref q_pieces_firmEnds, .ref q_pieces_reached, .ref q_pieces_nextLow, .ref q_pieces_nextHigh])), (q_pieces_from, .inl (ky 0, 768, .inl s_pieces_from)), (q_pieces_to, .inl (ky 0, 768, .inl s_pieces_to)), (q_start, .inl (ky 0, 129, .inl s_start)), (q_walk, .inl (ky 0, 768, .inl s_walk))] H → va_D A [(q_, .inr (7, [.ref q_joints, .ref q_pieces, .int s_total, .ref q_paneOf, .ref q_walk, .ref q_start, .ref q_sum])), (q_joints, .inr (4, [.int s_joints_total, .ref q_joints_x, .ref q_joints_y, .ref q_joints_under])), (q_joints_under, .inl (ky 0, 129, .inl s_joints_under)), (q_joints_x, .inl (ky 0, 129, .inl s_joints_x)), (q_joints_y, .inl (ky 0, 129, .inl s_joints_y)), (q_pieces, .inr (8, [.ref q_joints, .int s_pieces_steps, .ref q_pieces_from, .ref q_pieces_to, .ref q_pieces_twin, .ref q_pieces_firm, .ref q_pieces_first, .ref q_pieces_firmEnds, .ref q_pieces_reached, .ref q_pieces_nextLow, .ref q_pieces_nextHigh])), (q_pieces_from, .inl (ky 0, 768, .inl s_pieces_from)), (q_pieces_to, .inl (ky 0, 768, .inl s_pieces_to)), (q_start, .inl (ky 0, 129, .inl s_start)), (q_walk, .inl (ky 0, 768, .inl s_walk))] → va_S A s.heap H locs → lv_has ls 4 [(0, .ref q_), (1, .int a1), (2, .int t), (3, .int v3)] → W p l e rmX7_isInside s m args below meth c H locs 0 0 Q (F0 m 44 ls []) := by
        clear hd hP hD hS hl
        obtain ⟨v5, rfl⟩ : ∃ z, z = t := ⟨_, rfl⟩
        replace h := dm1_of h
        intro H locs ls hP hD hS hl
        replace hP : va_P D vwCl [(q_, .inr (7, [.ref q_joints, .ref q_pieces, .int s_total, .ref q_paneOf, .ref q_walk, .ref q_start, .ref q_sum])), (q_joints, .inr (4, [.int s_joints_total, .ref q_joints_x, .ref q_joints_y, .ref q_joints_under])), (q_joints_under, .inl (ky 0, 129, .inl s_joints_under)), (q_joints_x, .inl (ky 0, 129, .inl s_joints_x)), (q_joints_y, .inl (ky 0, 129, .inl s_joints_y)), (q_pieces, .inr (8, [.ref q_joints, .int s_pieces_steps, .ref q_pieces_from, .ref q_pieces_to, .ref q_pieces_twin, .ref q_pieces_firm, .ref q_pieces_first, .ref q_pieces_firmEnds, .ref q_pieces_reached, .ref q_pieces_nextLow, .ref q_pieces_nextHigh])), (q_pieces_from, .inl (ky 0, 768, .inl s_pieces_from)), (q_pieces_to, .inl (ky 0, 768, .inl s_pieces_to)), (q_start, .inl (ky 0, 129, .inl s_start)), (q_walk, .inl (ky 0, 768, .inl s_walk))] H := hP
        replace hD : va_D A [(q_, .inr (7, [.ref q_joints, .ref q_pieces, .int s_total, .ref q_paneOf, .ref q_walk, .ref q_start, .ref q_sum])), (q_joints, .inr (4, [.int s_joints_total, .ref q_joints_x, .ref q_joints_y, .ref q_joints_under])), (q_joints_under, .inl (ky 0, 129, .inl s_joints_under)), (q_joints_x, .inl (ky 0, 129, .inl s_joints_x)), (q_joints_y, .inl (ky 0, 129, .inl s_joints_y)), (q_pieces, .inr (8, [.ref q_joints, .int s_pieces_steps, .ref q_pieces_from, .ref q_pieces_to, .ref q_pieces_twin, .ref q_pieces_firm, .ref q_pieces_first, .ref q_pieces_firmEnds, .ref q_pieces_reached, .ref q_pieces_nextLow, .ref q_pieces_nextHigh])), (q_pieces_from, .inl (ky 0, 768, .inl s_pieces_from)), (q_pieces_to, .inl (ky 0, 768, .inl s_pieces_to)), (q_start, .inl (ky 0, 129, .inl s_start)), (q_walk, .inl (ky 0, 768, .inl s_walk))] := hD
        replace hl : lv_has ls 4 [(0, .ref q_), (1, .int a1), (2, .int v5), (3, .int v3)] := hl
        refine W.eq (g2 := F0 m 44 ls []) rfl ?_
        obtain ⟨x6, ex6⟩ : ∃ z : Int32, z = v3 + 1 := ⟨_, rfl⟩
        replace h := lt_at ex6 h
        refine lv_iinc (v := x6) (lv' := [(3, .int x6), (0, .ref q_), (1, .int a1), (2, .int v5)]) hx hb dX7_isInside_44 hl (k := 3) rfl (by rw [ex6]; rfl) (by decide) rfl (fun ls hl => ?_)
        refine lv_goto (tgt := 9) hx hb dX7_isInside_47 (by decide) ?_
        cases h
        exact K _ _ _ hP hD hS (lv_sub hl [1, 2, 3, 0] rfl)
      replace h := hd
      clear hd
      refine lv_if_eq (tgt := 44) hx hb dX7_isInside_31 (by decide) (fun hc => ?_) (fun hc => ?_)
      · replace h := if_t hc h
        cases h
        exact K _ _ _ hP hD hS (lv_sub hl [0, 1, 2, 3] rfl)
      · replace h := if_f hc h
        refine lv_iload_n hx hb dX7_isInside_34 rfl (lv_at hl 2 rfl) ?_
        refine lv_if_ne (tgt := 42) hx hb dX7_isInside_35 (by decide) (fun hc => ?_) (fun hc => ?_)
        · replace h := if_t hc h
          refine lv_iconst (v := 0) hx hb dX7_isInside_42 (by decide) ?_
          refine lv_istore_n (lv' := [(2, .int (0 : Int32)), (0, .ref q_), (1, .int a1), (3, .int v3)]) hx hb dX7_isInside_43 rfl hl (by decide) rfl (fun ls hl => ?_)
          cases h
          exact K _ _ _ hP hD hS (lv_sub hl [1, 2, 0, 3] rfl)
        · replace h := if_f (fun z => z hc) h
          refine lv_iconst (v := 1) hx hb dX7_isInside_38 (by decide) ?_
          refine lv_goto (tgt := 43) hx hb dX7_isInside_39 (by decide) ?_
          refine lv_istore_n (lv' := [(2, .int (1 : Int32)), (0, .ref q_), (1, .int a1), (3, .int v3)]) hx hb dX7_isInside_43 rfl hl (by decide) rfl (fun ls hl => ?_)
          cases h
          exact K _ _ _ hP hD hS (lv_sub hl [1, 2, 0, 3] rfl)
  · have h1 := ex1_of h
    clear h hi
    rcases h1 with ⟨rfl, h⟩
    obtain ⟨v7, v8⟩ := t
    replace h := dm2_of h
    intro H locs ls hP hD hS hl
    replace hP : va_P D vwCl [(q_, .inr (7, [.ref q_joints, .ref q_pieces, .int s_total, .ref q_paneOf, .ref q_walk, .ref q_start, .ref q_sum])), (q_joints, .inr (4, [.int s_joints_total, .ref q_joints_x, .ref q_joints_y, .ref q_joints_under])), (q_joints_under, .inl (ky 0, 129, .inl s_joints_under)), (q_joints_x, .inl (ky 0, 129, .inl s_joints_x)), (q_joints_y, .inl (ky 0, 129, .inl s_joints_y)), (q_pieces, .inr (8, [.ref q_joints, .int s_pieces_steps, .ref q_pieces_from, .ref q_pieces_to, .ref q_pieces_twin, .ref q_pieces_firm, .ref q_pieces_first, .ref q_pieces_firmEnds, .ref q_pieces_reached, .ref q_pieces_nextLow, .ref q_pieces_nextHigh])), (q_pieces_from, .inl (ky 0, 768, .inl s_pieces_from)), (q_pieces_to, .inl (ky 0, 768, .inl s_pieces_to)), (q_start, .inl (ky 0, 129, .inl s_start)), (q_walk, .inl (ky 0, 768, .inl s_walk))] H := hP
    replace hD : va_D A [(q_, .inr (7, [.ref q_joints, .ref q_pieces, .int s_total, .ref q_paneOf, .ref q_walk, .ref q_start, .ref q_sum])), (q_joints, .inr (4, [.int s_joints_total, .ref q_joints_x, .ref q_joints_y, .ref q_joints_under])), (q_joints_under, .inl (ky 0, 129, .inl s_joints_under)), (q_joints_x, .inl (ky 0, 129, .inl s_joints_x)), (q_joints_y, .inl (ky 0, 129, .inl s_joints_y)), (q_pieces, .inr (8, [.ref q_joints, .int s_pieces_steps, .ref q_pieces_from, .ref q_pieces_to, .ref q_pieces_twin, .ref q_pieces_firm, .ref q_pieces_first, .ref q_pieces_firmEnds, .ref q_pieces_reached, .ref q_pieces_nextLow, .ref q_pieces_nextHigh])), (q_pieces_from, .inl (ky 0, 768, .inl s_pieces_from)), (q_pieces_to, .inl (ky 0, 768, .inl s_pieces_to)), (q_start, .inl (ky 0, 129, .inl s_start)), (q_walk, .inl (ky 0, 768, .inl s_walk))] := hD
    replace hl : lv_has ls 4 [(0, .ref q_), (1, .int a1), (2, .int v7), (3, .int v8)] := hl
    refine W.eq (g2 := F0 m 50 ls []) rfl ?_
    refine lv_iload_n hx hb dX7_isInside_50 rfl (lv_at hl 2 rfl) ?_
    obtain ⟨hg, h⟩ := gd_of h
    cases h
    exact ret _ _ _ _ hg dX7_isInside_51 hP hD hS

def bX7_around_13 (s_pieces_steps : Int32) (s_pieces_firm : Nat → Int32) (s_pieces_from : Nat → Int32) (s_pieces_to : Nat → Int32) (o1 : Nat → Int32) (o2 : Nat → Int32) (o3 : Nat → Int32) (t : Int32) : Option (Nat × (Int32)) := dm1 t (fun (v4 : Int32) => if s_pieces_steps ≤ v4 then some (2, v4) else gd (¬ (v4 < 0 ∨ 768 ≤ v4.toNatClampNeg)) (if (s_pieces_firm v4.toNatClampNeg) = 0 then lt (v4 + 1) (fun x5 => some (0, x5)) else ob (sX7_isOn v4 o1 o2 o3 s_pieces_from s_pieces_to) (fun o => dm1 o (fun (r6 : Int32) => if r6 = 0 then lt (v4 + 1) (fun x7 => some (0, x7)) else some (1, v4)))))
def bX7_around_58 (s_total : Int32) (s_pieces_from : Nat → Int32) (s_pieces_to : Nat → Int32) (s_start : Nat → Int32) (s_walk : Nat → Int32) (o1 : Nat → Int32) (o2 : Nat → Int32) (o3 : Nat → Int32) (t : Int32) : Option (Nat × (Int32)) := dm1 t (fun (v10 : Int32) => if s_total ≤ v10 then some (2, v10) else ob (sX7_isInside v10 o1 o2 o3 s_pieces_from s_pieces_to s_start s_walk) (fun o => dm1 o (fun (r11 : Int32) => if r11 = 0 then lt (v10 + 1) (fun x12 => some (0, x12)) else some (1, v10))))
def sX7_around (a1 : Int32) (a2 : Int32) (a3 : Int32) (s_total : Int32) (s_joints_under : Nat → Int32) (s_joints_x : Nat → Int32) (s_joints_y : Nat → Int32) (s_pieces_steps : Int32) (s_pieces_firm : Nat → Int32) (s_pieces_from : Nat → Int32) (s_pieces_to : Nat → Int32) (s_start : Nat → Int32) (s_walk : Nat → Int32) : Option (Int32 × (Nat → Int32) × (Nat → Int32) × (Nat → Int32)) := ob (sX4_ask a1 a2 a3 s_joints_under s_joints_x s_joints_y) (fun o => dm3 o (fun (o1 : Nat → Int32) (o2 : Nat → Int32) (o3 : Nat → Int32) => ob (iter (bX7_around_13 s_pieces_steps s_pieces_firm s_pieces_from s_pieces_to o1 o2 o3) FU (0 : Int32)) (fun kt => ex2 kt (fun t => dm1 t (fun (v8 : Int32) => some ((-1 : Int32), o1, o2, o3))) (fun t => dm1 t (fun (v9 : Int32) => ob (iter (bX7_around_58 s_total s_pieces_from s_pieces_to s_start s_walk o1 o2 o3) FU (0 : Int32)) (fun kt => ex2 kt (fun t => dm1 t (fun (v13 : Int32) => some (v13, o1, o2, o3))) (fun t => dm1 t (fun (v14 : Int32) => some ((-1 : Int32), o1, o2, o3)))))))))
abbrev rmX7_around : Room := { frames := 3, cells := 0, slots := 0, locals := 86 }
set_option maxHeartbeats 4000000 in
set_option maxRecDepth 100000 in
theorem c_X7_around (l : Launch) (D : va_G) (ky : Nat → ClassId) (q_ q_joints q_pieces q_paneOf q_walk q_start q_sum q_joints_x q_joints_y q_joints_under q_pieces_from q_pieces_to q_pieces_twin q_pieces_firm q_pieces_first q_pieces_firmEnds q_pieces_reached q_pieces_nextLow q_pieces_nextHigh : Nat) (a1 : Int32) (a2 : Int32) (a3 : Int32) (s_total : Int32) (s_joints_total : Int32) (s_joints_under : Nat → Int32) (s_joints_x : Nat → Int32) (s_joints_y : Nat → Int32) (s_pieces_steps : Int32) (s_pieces_firm : Nat → Int32) (s_pieces_from : Nat → Int32) (s_pieces_to : Nat → Int32) (s_start : Nat → Int32) (s_walk : Nat → Int32) {o_r : Int32} {o_joints_under : Nat → Int32} {o_joints_x : Nat → Int32} {o_joints_y : Nat → Int32} (h : sX7_around a1 a2 a3 s_total s_joints_under s_joints_x s_joints_y s_pieces_steps s_pieces_firm s_pieces_from s_pieces_to s_start s_walk = some (o_r, o_joints_under, o_joints_x, o_joints_y)) : MtI l D ky yX7_around wsX7_around rmX7_around [.ref q_, .int a1, .int a2, .int a3] [(q_, .inr (7, [.ref q_joints, .ref q_pieces, .int s_total, .ref q_paneOf, .ref q_walk, .ref q_start, .ref q_sum])), (q_joints, .inr (4, [.int s_joints_total, .ref q_joints_x, .ref q_joints_y, .ref q_joints_under])), (q_joints_under, .inl (ky 0, 129, .inl s_joints_under)), (q_joints_x, .inl (ky 0, 129, .inl s_joints_x)), (q_joints_y, .inl (ky 0, 129, .inl s_joints_y)), (q_pieces, .inr (8, [.ref q_joints, .int s_pieces_steps, .ref q_pieces_from, .ref q_pieces_to, .ref q_pieces_twin, .ref q_pieces_firm, .ref q_pieces_first, .ref q_pieces_firmEnds, .ref q_pieces_reached, .ref q_pieces_nextLow, .ref q_pieces_nextHigh])), (q_pieces_firm, .inl (ky 2, 768, .inl s_pieces_firm)), (q_pieces_from, .inl (ky 0, 768, .inl s_pieces_from)), (q_pieces_to, .inl (ky 0, 768, .inl s_pieces_to)), (q_start, .inl (ky 0, 129, .inl s_start)), (q_walk, .inl (ky 0, 768, .inl s_walk))] [(q_, .inr (7, [.ref q_joints, .ref q_pieces, .int s_total, .ref q_paneOf, .ref q_walk, .ref q_start, .ref q_sum])), (q_joints, .inr (4, [.int s_joints_total, .ref q_joints_x, .ref q_joints_y, .ref q_joints_under])), (q_joints_under, .inl (ky 0, 129, .inl o_joints_under)), (q_joints_x, .inl (ky 0, 129, .inl o_joints_x)), (q_joints_y, .inl (ky 0, 129, .inl o_joints_y)), (q_pieces, .inr (8, [.ref q_joints, .int s_pieces_steps, .ref q_pieces_from, .ref q_pieces_to, .ref q_pieces_twin, .ref q_pieces_firm, .ref q_pieces_first, .ref q_pieces_firmEnds, .ref q_pieces_reached, .ref q_pieces_nextLow, .ref q_pieces_nextHigh])), (q_pieces_firm, .inl (ky 2, 768, .inl s_pieces_firm)), (q_pieces_from, .inl (ky 0, 768, .inl s_pieces_from)), (q_pieces_to, .inl (ky 0, 768, .inl s_pieces_to)), (q_start, .inl (ky 0, 129, .inl s_start)), (q_walk, .inl (ky 0, 768, .inl s_walk))] o_r 0 0 := by
  refine MtI.of (cc := cX7_around) (maxL := 5) (by decide +kernel) rfl (Nat.le_of_ble_eq_true rfl) ?_
  intro p e R s m args below meth c A Q ls hR hx hb hts hown hnm hml hP hK hD hA ret hl
  have rt := rtI (dc := fun pc => decode cX7_around pc = .ok (.ireturn, 1)) (o_r, o_joints_under, o_joints_x, o_joints_y) (fun t => [(q_, .inr (7, [.ref q_joints, .ref q_pieces, .int s_total, .ref q_paneOf, .ref q_walk, .ref q_start, .ref q_sum])), (q_joints, .inr (4, [.int s_joints_total, .ref q_joints_x, .ref q_joints_y, .ref q_joints_under])), (q_joints_under, .inl (ky 0, 129, .inl t.2.1)), (q_joints_x, .inl (ky 0, 129, .inl t.2.2.1)), (q_joints_y, .inl (ky 0, 129, .inl t.2.2.2)), (q_pieces, .inr (8, [.ref q_joints, .int s_pieces_steps, .ref q_pieces_from, .ref q_pieces_to, .ref q_pieces_twin, .ref q_pieces_firm, .ref q_pieces_first, .ref q_pieces_firmEnds, .ref q_pieces_reached, .ref q_pieces_nextLow, .ref q_pieces_nextHigh])), (q_pieces_firm, .inl (ky 2, 768, .inl s_pieces_firm)), (q_pieces_from, .inl (ky 0, 768, .inl s_pieces_from)), (q_pieces_to, .inl (ky 0, 768, .inl s_pieces_to)), (q_start, .inl (ky 0, 129, .inl s_start)), (q_walk, .inl (ky 0, 768, .inl s_walk))]) (fun t => t.1) ret
  subst hR
  obtain ⟨H, hH⟩ : ∃ H, H = s.heap := ⟨_, rfl⟩
  obtain ⟨locs, hlocs⟩ : ∃ locs : List Loc, locs = [] := ⟨_, rfl⟩
  have hS : va_S A s.heap H locs := by rw [hH, hlocs]; exact va_S.rf
  rw [← hH] at hP
  suffices hgo : W p l e rmX7_around s m args below meth c H locs 0 0 Q (F0 m 0 ls []) by rw [hH, hlocs] at hgo; exact hgo
  clear hH hlocs
  replace hl : lv_has ls 5 [(0, .ref q_), (1, .int a1), (2, .int a2), (3, .int a3)] := hl
  replace hown : s.vm.findClass RX7 = some m.cls := hown
  have hi_X7 : ∀ w ∈ u_ws RX7 TX7 7, w ∈ wsX7_around := fun _ h9 => List.mem_cons_of_mem _ (List.mem_append_left _ (List.mem_append_left _ (List.mem_append_right _ h9)))
  have hf_15 := hts (.fieldLink RX7 15 "GlazierBench$Panes" "joints" "LGlazierBench$Joints;") (by decide +kernel)
  have hf_22 := hts (.fieldLink RX7 22 "GlazierBench$Panes" "pieces" "LGlazierBench$Pieces;") (by decide +kernel)
  have hi_X8 : ∀ w ∈ u_ws RX8 TX8 11, w ∈ wsX7_around := fun _ h9 => List.mem_cons_of_mem _ (List.mem_append_left _ (List.mem_append_right _ h9))
  have hf_40 := hts (.fieldLink RX7 40 "GlazierBench$Pieces" "steps" "I") (by decide +kernel)
  have hf_46 := hts (.fieldLink RX7 46 "GlazierBench$Pieces" "firm" "[Z") (by decide +kernel)
  have hf_58 := hts (.fieldLink RX7 58 "GlazierBench$Panes" "total" "I") (by decide +kernel)
  unfold sX7_around at h
  refine lv_aload_n hx hb dX7_around_0 rfl (lv_at hl 0 rfl) ?_
  refine va_get (D := D) (ci := 7) (v := .ref q_joints) (C := RX7) (T := TX7) (N := 7) hx hb hts hi_X7 hown hK.1 hP 0 rfl rfl 0 (by decide) hf_15 (fun _ h9 => h9) rfl dX7_around_1 ?_
  refine lv_iload_n hx hb dX7_around_4 rfl (lv_at hl 1 rfl) ?_
  refine lv_iload_n hx hb dX7_around_5 rfl (lv_at hl 2 rfl) ?_
  refine lv_iload_n hx hb dX7_around_6 rfl (lv_at hl 3 rfl) ?_
  obtain ⟨⟨o1, o2, o3⟩, hc, h⟩ := ob_of h
  replace h := dm3_of h
  refine cv_v (As := [.int a1, .int a2, .int a3]) (rest := []) (wr := [(q_, .inr (7, [.ref q_joints, .ref q_pieces, .int s_total, .ref q_paneOf, .ref q_walk, .ref q_start, .ref q_sum])), (q_pieces, .inr (8, [.ref q_joints, .int s_pieces_steps, .ref q_pieces_from, .ref q_pieces_to, .ref q_pieces_twin, .ref q_pieces_firm, .ref q_pieces_first, .ref q_pieces_firmEnds, .ref q_pieces_reached, .ref q_pieces_nextLow, .ref q_pieces_nextHigh])), (q_pieces_firm, .inl (ky 2, 768, .inl s_pieces_firm)), (q_pieces_from, .inl (ky 0, 768, .inl s_pieces_from)), (q_pieces_to, .inl (ky 0, 768, .inl s_pieces_to)), (q_start, .inl (ky 0, 129, .inl s_start)), (q_walk, .inl (ky 0, 768, .inl s_walk))]) (wn := [(q_, .inr (7, [.ref q_joints, .ref q_pieces, .int s_total, .ref q_paneOf, .ref q_walk, .ref q_start, .ref q_sum])), (q_joints, .inr (4, [.int s_joints_total, .ref q_joints_x, .ref q_joints_y, .ref q_joints_under])), (q_joints_under, .inl (ky 0, 129, .inl o1)), (q_joints_x, .inl (ky 0, 129, .inl o2)), (q_joints_y, .inl (ky 0, 129, .inl o3)), (q_pieces, .inr (8, [.ref q_joints, .int s_pieces_steps, .ref q_pieces_from, .ref q_pieces_to, .ref q_pieces_twin, .ref q_pieces_firm, .ref q_pieces_first, .ref q_pieces_firmEnds, .ref q_pieces_reached, .ref q_pieces_nextLow, .ref q_pieces_nextHigh])), (q_pieces_firm, .inl (ky 2, 768, .inl s_pieces_firm)), (q_pieces_from, .inl (ky 0, 768, .inl s_pieces_from)), (q_pieces_to, .inl (ky 0, 768, .inl s_pieces_to)), (q_start, .inl (ky 0, 129, .inl s_start)), (q_walk, .inl (ky 0, 768, .inl s_walk))]) ⟨hx, hb, hml, hown, hts⟩ (c_X4_ask l D ky q_joints q_joints_x q_joints_y q_joints_under a1 a2 a3 s_joints_total s_joints_under s_joints_x s_joints_y hc) (cwV 3 hts gX7_around_X4_ask rfl rfl rfl (by decide +kernel) ⟨Nat.le_of_ble_eq_true rfl, Nat.le_of_ble_eq_true rfl⟩) (rcv hK.1 hP (q0 := 1) rfl rfl) hP hD hK hS hA [1, 2, 3, 4] [0, 5, 6, 7, 8, 9, 10] [0, 7, 8, 9, 10, 1, 2, 3, 4, 5, 6] rfl (by decide +kernel) rfl (by decide +kernel) (by decide +kernel) (by decide +kernel) rfl rfl rfl hl.1 (Nat.le_of_ble_eq_true rfl) dX7_around_7 ⟨Nat.le_of_ble_eq_true rfl, Nat.le_of_ble_eq_true rfl⟩ (fun H locs hP hD hS => ?_)
  refine lv_iconst (v := 0) hx hb dX7_around_10 (by decide) ?_
  refine lv_istore (lv' := [(4, .int (0 : Int32)), (0, .ref q_), (1, .int a1), (2, .int a2), (3, .int a3)]) hx hb dX7_around_11 hl (by decide) rfl (fun ls hl => ?_)
  obtain ⟨⟨k, t⟩, hi, h⟩ := ob_of h
  refine iter_rule (P := fun (k : Nat) (t : Int32) => ∀ (H : Heap) (locs : List Loc) (ls : Array Slot), va_P D vwCl [(q_, .inr (7, [.ref q_joints, .ref q_pieces, .int s_total, .ref q_paneOf, .ref q_walk, .ref q_start, .ref q_sum])), (q_joints, .inr (4, [.int s_joints_total, .ref q_joints_x, .ref q_joints_y, .ref q_joints_under])), (q_joints_under, .inl (ky 0, 129, .inl o1)), (q_joints_x, .inl (ky 0, 129, .inl o2)), (q_joints_y, .inl (ky 0, 129, .inl o3)), (q_pieces, .inr (8, [.ref q_joints, .int s_pieces_steps, .ref q_pieces_from, .ref q_pieces_to, .ref q_pieces_twin, .ref q_pieces_firm, .ref q_pieces_first, .ref q_pieces_firmEnds, .ref q_pieces_reached, .ref q_pieces_nextLow, .ref q_pieces_nextHigh])), (q_pieces_firm, .inl (ky 2, 768, .inl s_pieces_firm)), (q_pieces_from, .inl (ky 0, 768, .inl s_pieces_from)), (q_pieces_to, .inl (ky 0, 768, .inl s_pieces_to)), (q_start, .inl (ky 0, 129, .inl s_start)), (q_walk, .inl (ky 0, 768, .inl s_walk))] H → va_D A [(q_, .inr (7, [.ref q_joints, .ref q_pieces, .int s_total, .ref q_paneOf, .ref q_walk, .ref q_start, .ref q_sum])), (q_joints, .inr (4, [.int s_joints_total, .ref q_joints_x, .ref q_joints_y, .ref q_joints_under])), (q_joints_under, .inl (ky 0, 129, .inl o1)), (q_joints_x, .inl (ky 0, 129, .inl o2)), (q_joints_y, .inl (ky 0, 129, .inl o3)), (q_pieces, .inr (8, [.ref q_joints, .int s_pieces_steps, .ref q_pieces_from, .ref q_pieces_to, .ref q_pieces_twin, .ref q_pieces_firm, .ref q_pieces_first, .ref q_pieces_firmEnds, .ref q_pieces_reached, .ref q_pieces_nextLow, .ref q_pieces_nextHigh])), (q_pieces_firm, .inl (ky 2, 768, .inl s_pieces_firm)), (q_pieces_from, .inl (ky 0, 768, .inl s_pieces_from)), (q_pieces_to, .inl (ky 0, 768, .inl s_pieces_to)), (q_start, .inl (ky 0, 129, .inl s_start)), (q_walk, .inl (ky 0, 768, .inl s_walk))] → va_S A s.heap H locs → lv_has ls 5 [(0, .ref q_), (4, .int t)] → W p l e rmX7_around s m args below meth c H locs 0 0 Q (F0 m ([13, 47, 55].getD k 0) ls [])) ?_ _ _ _ _ hi ?_ H locs ls hP hD hS (lv_sub hl [1, 0] rfl)
  · clear h hi hP hD hS hl
    intro t k t' h K
    obtain ⟨v4, rfl⟩ : ∃ z, z = t := ⟨_, rfl⟩
    intro H locs ls hP hD hS hl
    replace h := dm1_of h
    replace hP : va_P D vwCl [(q_, .inr (7, [.ref q_joints, .ref q_pieces, .int s_total, .ref q_paneOf, .ref q_walk, .ref q_start, .ref q_sum])), (q_joints, .inr (4, [.int s_joints_total, .ref q_joints_x, .ref q_joints_y, .ref q_joints_under])), (q_joints_under, .inl (ky 0, 129, .inl o1)), (q_joints_x, .inl (ky 0, 129, .inl o2)), (q_joints_y, .inl (ky 0, 129, .inl o3)), (q_pieces, .inr (8, [.ref q_joints, .int s_pieces_steps, .ref q_pieces_from, .ref q_pieces_to, .ref q_pieces_twin, .ref q_pieces_firm, .ref q_pieces_first, .ref q_pieces_firmEnds, .ref q_pieces_reached, .ref q_pieces_nextLow, .ref q_pieces_nextHigh])), (q_pieces_firm, .inl (ky 2, 768, .inl s_pieces_firm)), (q_pieces_from, .inl (ky 0, 768, .inl s_pieces_from)), (q_pieces_to, .inl (ky 0, 768, .inl s_pieces_to)), (q_start, .inl (ky 0, 129, .inl s_start)), (q_walk, .inl (ky 0, 768, .inl s_walk))] H := hP
    replace hD : va_D A [(q_, .inr (7, [.ref q_joints, .ref q_pieces, .int s_total, .ref q_paneOf, .ref q_walk, .ref q_start, .ref q_sum])), (q_joints, .inr (4, [.int s_joints_total, .ref q_joints_x, .ref q_joints_y, .ref q_joints_under])), (q_joints_under, .inl (ky 0, 129, .inl o1)), (q_joints_x, .inl (ky 0, 129, .inl o2)), (q_joints_y, .inl (ky 0, 129, .inl o3)), (q_pieces, .inr (8, [.ref q_joints, .int s_pieces_steps, .ref q_pieces_from, .ref q_pieces_to, .ref q_pieces_twin, .ref q_pieces_firm, .ref q_pieces_first, .ref q_pieces_firmEnds, .ref q_pieces_reached, .ref q_pieces_nextLow, .ref q_pieces_nextHigh])), (q_pieces_firm, .inl (ky 2, 768, .inl s_pieces_firm)), (q_pieces_from, .inl (ky 0, 768, .inl s_pieces_from)), (q_pieces_to, .inl (ky 0, 768, .inl s_pieces_to)), (q_start, .inl (ky 0, 129, .inl s_start)), (q_walk, .inl (ky 0, 768, .inl s_walk))] := hD
    replace hl : lv_has ls 5 [(0, .ref q_), (4, .int v4)] := hl
    refine lv_iload hx hb dX7_around_13 (lv_at hl 1 rfl) ?_
    refine lv_aload_n hx hb dX7_around_15 rfl (lv_at hl 0 rfl) ?_
    refine va_get (D := D) (ci := 7) (v := .ref q_pieces) (C := RX7) (T := TX7) (N := 7) hx hb hts hi_X7 hown hK.1 hP 0 rfl rfl 1 (by decide) hf_22 (fun _ h9 => h9) rfl dX7_around_16 ?_
    refine va_get (D := D) (ci := 8) (v := .int s_pieces_steps) (C := RX8) (T := TX8) (N := 11) hx hb hts hi_X8 hown hK.1 hP 5 rfl rfl 1 (by decide) hf_40 (fun _ h9 => h9) rfl dX7_around_19 ?_
    refine lv_icmp_ge (tgt := 55) hx hb dX7_around_22 (by decide) (fun hc => ?_) (fun hc => ?_)
    · replace h := if_t hc h
      cases h
      exact K _ _ _ hP hD hS (lv_sub hl [0, 1] rfl)
    · replace h := if_f hc h
      refine lv_aload_n hx hb dX7_around_25 rfl (lv_at hl 0 rfl) ?_
      refine va_get (D := D) (ci := 7) (v := .ref q_pieces) (C := RX7) (T := TX7) (N := 7) hx hb hts hi_X7 hown hK.1 hP 0 rfl rfl 1 (by decide) hf_22 (fun _ h9 => h9) rfl dX7_around_26 ?_
      refine va_get (D := D) (ci := 8) (v := .ref q_pieces_firm) (C := RX8) (T := TX8) (N := 11) hx hb hts hi_X8 hown hK.1 hP 5 rfl rfl 5 (by decide) hf_46 (fun _ h9 => h9) rfl dX7_around_29 ?_
      refine lv_iload hx hb dX7_around_32 (lv_at hl 1 rfl) ?_
      obtain ⟨hg, h⟩ := gd_of h
      refine va_zald hx hb hK.1 hP 6 2 rfl rfl hg dX7_around_34 ?_
      refine lv_if_eq (tgt := 49) hx hb dX7_around_35 (by decide) (fun hc => ?_) (fun hc => ?_)
      · replace h := if_t hc h
        obtain ⟨x5, ex5⟩ : ∃ z : Int32, z = v4 + 1 := ⟨_, rfl⟩
        replace h := lt_at ex5 h
        refine lv_iinc (v := x5) (lv' := [(4, .int x5), (0, .ref q_)]) hx hb dX7_around_49 hl (k := 1) rfl (by rw [ex5]; rfl) (by decide) rfl (fun ls hl => ?_)
        refine lv_goto (tgt := 13) hx hb dX7_around_52 (by decide) ?_
        cases h
        exact K _ _ _ hP hD hS (lv_sub hl [1, 0] rfl)
      · replace h := if_f hc h
        refine lv_aload_n hx hb dX7_around_38 rfl (lv_at hl 0 rfl) ?_
        refine lv_iload hx hb dX7_around_39 (lv_at hl 1 rfl) ?_
        obtain ⟨r6, hc, h⟩ := ob_of h
        replace h := dm1_of h
        refine cv_i (As := [.int v4]) (rest := []) (wr := [(q_pieces_firm, .inl (ky 2, 768, .inl s_pieces_firm)), (q_start, .inl (ky 0, 129, .inl s_start)), (q_walk, .inl (ky 0, 768, .inl s_walk))]) (wn := [(q_, .inr (7, [.ref q_joints, .ref q_pieces, .int s_total, .ref q_paneOf, .ref q_walk, .ref q_start, .ref q_sum])), (q_joints, .inr (4, [.int s_joints_total, .ref q_joints_x, .ref q_joints_y, .ref q_joints_under])), (q_joints_under, .inl (ky 0, 129, .inl o1)), (q_joints_x, .inl (ky 0, 129, .inl o2)), (q_joints_y, .inl (ky 0, 129, .inl o3)), (q_pieces, .inr (8, [.ref q_joints, .int s_pieces_steps, .ref q_pieces_from, .ref q_pieces_to, .ref q_pieces_twin, .ref q_pieces_firm, .ref q_pieces_first, .ref q_pieces_firmEnds, .ref q_pieces_reached, .ref q_pieces_nextLow, .ref q_pieces_nextHigh])), (q_pieces_firm, .inl (ky 2, 768, .inl s_pieces_firm)), (q_pieces_from, .inl (ky 0, 768, .inl s_pieces_from)), (q_pieces_to, .inl (ky 0, 768, .inl s_pieces_to)), (q_start, .inl (ky 0, 129, .inl s_start)), (q_walk, .inl (ky 0, 768, .inl s_walk))]) ⟨hx, hb, hml, hown, hts⟩ (c_X7_isOn l D ky q_ q_joints q_pieces q_paneOf q_walk q_start q_sum q_joints_x q_joints_y q_joints_under q_pieces_from q_pieces_to q_pieces_twin q_pieces_firm q_pieces_first q_pieces_firmEnds q_pieces_reached q_pieces_nextLow q_pieces_nextHigh v4 s_total s_joints_total o1 o2 o3 s_pieces_steps s_pieces_from s_pieces_to hc) (cwV 1 hts gX7_around_X7_isOn rfl rfl rfl (by decide +kernel) ⟨Nat.le_of_ble_eq_true rfl, Nat.le_of_ble_eq_true rfl⟩) (rcv hK.1 hP (q0 := 0) rfl rfl) hP hD hK hS hA [0, 1, 2, 3, 4, 5, 7, 8] [6, 9, 10] [3, 4, 5, 6, 7, 8, 0, 9, 10, 1, 2] rfl (by decide +kernel) rfl (by decide +kernel) (by decide +kernel) (by decide +kernel) rfl rfl rfl hl.1 (Nat.le_of_ble_eq_true rfl) dX7_around_41 ⟨Nat.le_of_ble_eq_true rfl, Nat.le_of_ble_eq_true rfl⟩ (fun H locs hP hD hS => ?_)
        refine lv_if_eq (tgt := 49) hx hb dX7_around_44 (by decide) (fun hc => ?_) (fun hc => ?_)
        · replace h := if_t hc h
          obtain ⟨x7, ex7⟩ : ∃ z : Int32, z = v4 + 1 := ⟨_, rfl⟩
          replace h := lt_at ex7 h
          refine lv_iinc (v := x7) (lv' := [(4, .int x7), (0, .ref q_)]) hx hb dX7_around_49 hl (k := 1) rfl (by rw [ex7]; rfl) (by decide) rfl (fun ls hl => ?_)
          refine lv_goto (tgt := 13) hx hb dX7_around_52 (by decide) ?_
          cases h
          exact K _ _ _ hP hD hS (lv_sub hl [1, 0] rfl)
        · replace h := if_f hc h
          cases h
          exact K _ _ _ hP hD hS (lv_sub hl [0, 1] rfl)
  · have h1 := ex2_of h
    clear h hi
    rcases h1 with ⟨rfl, h⟩ | ⟨rfl, h⟩
    · skip
      obtain ⟨v8, rfl⟩ : ∃ z, z = t := ⟨_, rfl⟩
      replace h := dm1_of h
      intro H locs ls hP hD hS hl
      replace hP : va_P D vwCl [(q_, .inr (7, [.ref q_joints, .ref q_pieces, .int s_total, .ref q_paneOf, .ref q_walk, .ref q_start, .ref q_sum])), (q_joints, .inr (4, [.int s_joints_total, .ref q_joints_x, .ref q_joints_y, .ref q_joints_under])), (q_joints_under, .inl (ky 0, 129, .inl o1)), (q_joints_x, .inl (ky 0, 129, .inl o2)), (q_joints_y, .inl (ky 0, 129, .inl o3)), (q_pieces, .inr (8, [.ref q_joints, .int s_pieces_steps, .ref q_pieces_from, .ref q_pieces_to, .ref q_pieces_twin, .ref q_pieces_firm, .ref q_pieces_first, .ref q_pieces_firmEnds, .ref q_pieces_reached, .ref q_pieces_nextLow, .ref q_pieces_nextHigh])), (q_pieces_firm, .inl (ky 2, 768, .inl s_pieces_firm)), (q_pieces_from, .inl (ky 0, 768, .inl s_pieces_from)), (q_pieces_to, .inl (ky 0, 768, .inl s_pieces_to)), (q_start, .inl (ky 0, 129, .inl s_start)), (q_walk, .inl (ky 0, 768, .inl s_walk))] H := hP
      replace hD : va_D A [(q_, .inr (7, [.ref q_joints, .ref q_pieces, .int s_total, .ref q_paneOf, .ref q_walk, .ref q_start, .ref q_sum])), (q_joints, .inr (4, [.int s_joints_total, .ref q_joints_x, .ref q_joints_y, .ref q_joints_under])), (q_joints_under, .inl (ky 0, 129, .inl o1)), (q_joints_x, .inl (ky 0, 129, .inl o2)), (q_joints_y, .inl (ky 0, 129, .inl o3)), (q_pieces, .inr (8, [.ref q_joints, .int s_pieces_steps, .ref q_pieces_from, .ref q_pieces_to, .ref q_pieces_twin, .ref q_pieces_firm, .ref q_pieces_first, .ref q_pieces_firmEnds, .ref q_pieces_reached, .ref q_pieces_nextLow, .ref q_pieces_nextHigh])), (q_pieces_firm, .inl (ky 2, 768, .inl s_pieces_firm)), (q_pieces_from, .inl (ky 0, 768, .inl s_pieces_from)), (q_pieces_to, .inl (ky 0, 768, .inl s_pieces_to)), (q_start, .inl (ky 0, 129, .inl s_start)), (q_walk, .inl (ky 0, 768, .inl s_walk))] := hD
      replace hl : lv_has ls 5 [(0, .ref q_), (4, .int v8)] := hl
      refine W.eq (g2 := F0 m 47 ls []) rfl ?_
      refine lv_iconst (v := (-1)) hx hb dX7_around_47 (by decide) ?_
      exact rt _ h _ _ _ _ dX7_around_48 hP hD hS
    · skip
      obtain ⟨v9, rfl⟩ : ∃ z, z = t := ⟨_, rfl⟩
      replace h := dm1_of h
      intro H locs ls hP hD hS hl
      replace hP : va_P D vwCl [(q_, .inr (7, [.ref q_joints, .ref q_pieces, .int s_total, .ref q_paneOf, .ref q_walk, .ref q_start, .ref q_sum])), (q_joints, .inr (4, [.int s_joints_total, .ref q_joints_x, .ref q_joints_y, .ref q_joints_under])), (q_joints_under, .inl (ky 0, 129, .inl o1)), (q_joints_x, .inl (ky 0, 129, .inl o2)), (q_joints_y, .inl (ky 0, 129, .inl o3)), (q_pieces, .inr (8, [.ref q_joints, .int s_pieces_steps, .ref q_pieces_from, .ref q_pieces_to, .ref q_pieces_twin, .ref q_pieces_firm, .ref q_pieces_first, .ref q_pieces_firmEnds, .ref q_pieces_reached, .ref q_pieces_nextLow, .ref q_pieces_nextHigh])), (q_pieces_firm, .inl (ky 2, 768, .inl s_pieces_firm)), (q_pieces_from, .inl (ky 0, 768, .inl s_pieces_from)), (q_pieces_to, .inl (ky 0, 768, .inl s_pieces_to)), (q_start, .inl (ky 0, 129, .inl s_start)), (q_walk, .inl (ky 0, 768, .inl s_walk))] H := hP
      replace hD : va_D A [(q_, .inr (7, [.ref q_joints, .ref q_pieces, .int s_total, .ref q_paneOf, .ref q_walk, .ref q_start, .ref q_sum])), (q_joints, .inr (4, [.int s_joints_total, .ref q_joints_x, .ref q_joints_y, .ref q_joints_under])), (q_joints_under, .inl (ky 0, 129, .inl o1)), (q_joints_x, .inl (ky 0, 129, .inl o2)), (q_joints_y, .inl (ky 0, 129, .inl o3)), (q_pieces, .inr (8, [.ref q_joints, .int s_pieces_steps, .ref q_pieces_from, .ref q_pieces_to, .ref q_pieces_twin, .ref q_pieces_firm, .ref q_pieces_first, .ref q_pieces_firmEnds, .ref q_pieces_reached, .ref q_pieces_nextLow, .ref q_pieces_nextHigh])), (q_pieces_firm, .inl (ky 2, 768, .inl s_pieces_firm)), (q_pieces_from, .inl (ky 0, 768, .inl s_pieces_from)), (q_pieces_to, .inl (ky 0, 768, .inl s_pieces_to)), (q_start, .inl (ky 0, 129, .inl s_start)), (q_walk, .inl (ky 0, 768, .inl s_walk))] := hD
      replace hl : lv_has ls 5 [(0, .ref q_), (4, .int v9)] := hl
      refine W.eq (g2 := F0 m 55 ls []) rfl ?_
      refine lv_iconst (v := 0) hx hb dX7_around_55 (by decide) ?_
      refine lv_istore (lv' := [(4, .int (0 : Int32)), (0, .ref q_)]) hx hb dX7_around_56 hl (by decide) rfl (fun ls hl => ?_)
      obtain ⟨⟨k, t⟩, hi, h⟩ := ob_of h
      refine iter_rule (P := fun (k : Nat) (t : Int32) => ∀ (H : Heap) (locs : List Loc) (ls : Array Slot), va_P D vwCl [(q_, .inr (7, [.ref q_joints, .ref q_pieces, .int s_total, .ref q_paneOf, .ref q_walk, .ref q_start, .ref q_sum])), (q_joints, .inr (4, [.int s_joints_total, .ref q_joints_x, .ref q_joints_y, .ref q_joints_under])), (q_joints_under, .inl (ky 0, 129, .inl o1)), (q_joints_x, .inl (ky 0, 129, .inl o2)), (q_joints_y, .inl (ky 0, 129, .inl o3)), (q_pieces, .inr (8, [.ref q_joints, .int s_pieces_steps, .ref q_pieces_from, .ref q_pieces_to, .ref q_pieces_twin, .ref q_pieces_firm, .ref q_pieces_first, .ref q_pieces_firmEnds, .ref q_pieces_reached, .ref q_pieces_nextLow, .ref q_pieces_nextHigh])), (q_pieces_firm, .inl (ky 2, 768, .inl s_pieces_firm)), (q_pieces_from, .inl (ky 0, 768, .inl s_pieces_from)), (q_pieces_to, .inl (ky 0, 768, .inl s_pieces_to)), (q_start, .inl (ky 0, 129, .inl s_start)), (q_walk, .inl (ky 0, 768, .inl s_walk))] H → va_D A [(q_, .inr (7, [.ref q_joints, .ref q_pieces, .int s_total, .ref q_paneOf, .ref q_walk, .ref q_start, .ref q_sum])), (q_joints, .inr (4, [.int s_joints_total, .ref q_joints_x, .ref q_joints_y, .ref q_joints_under])), (q_joints_under, .inl (ky 0, 129, .inl o1)), (q_joints_x, .inl (ky 0, 129, .inl o2)), (q_joints_y, .inl (ky 0, 129, .inl o3)), (q_pieces, .inr (8, [.ref q_joints, .int s_pieces_steps, .ref q_pieces_from, .ref q_pieces_to, .ref q_pieces_twin, .ref q_pieces_firm, .ref q_pieces_first, .ref q_pieces_firmEnds, .ref q_pieces_reached, .ref q_pieces_nextLow, .ref q_pieces_nextHigh])), (q_pieces_firm, .inl (ky 2, 768, .inl s_pieces_firm)), (q_pieces_from, .inl (ky 0, 768, .inl s_pieces_from)), (q_pieces_to, .inl (ky 0, 768, .inl s_pieces_to)), (q_start, .inl (ky 0, 129, .inl s_start)), (q_walk, .inl (ky 0, 768, .inl s_walk))] → va_S A s.heap H locs → lv_has ls 5 [(0, .ref q_), (4, .int t)] → W p l e rmX7_around s m args below meth c H locs 0 0 Q (F0 m ([58, 76, 85].getD k 0) ls [])) ?_ _ _ _ _ hi ?_ H locs ls hP hD hS (lv_sub hl [1, 0] rfl)
      · clear h hi hP hD hS hl
        intro t k t' h K
        obtain ⟨v10, rfl⟩ : ∃ z, z = t := ⟨_, rfl⟩
        intro H locs ls hP hD hS hl
        replace h := dm1_of h
        replace hP : va_P D vwCl [(q_, .inr (7, [.ref q_joints, .ref q_pieces, .int s_total, .ref q_paneOf, .ref q_walk, .ref q_start, .ref q_sum])), (q_joints, .inr (4, [.int s_joints_total, .ref q_joints_x, .ref q_joints_y, .ref q_joints_under])), (q_joints_under, .inl (ky 0, 129, .inl o1)), (q_joints_x, .inl (ky 0, 129, .inl o2)), (q_joints_y, .inl (ky 0, 129, .inl o3)), (q_pieces, .inr (8, [.ref q_joints, .int s_pieces_steps, .ref q_pieces_from, .ref q_pieces_to, .ref q_pieces_twin, .ref q_pieces_firm, .ref q_pieces_first, .ref q_pieces_firmEnds, .ref q_pieces_reached, .ref q_pieces_nextLow, .ref q_pieces_nextHigh])), (q_pieces_firm, .inl (ky 2, 768, .inl s_pieces_firm)), (q_pieces_from, .inl (ky 0, 768, .inl s_pieces_from)), (q_pieces_to, .inl (ky 0, 768, .inl s_pieces_to)), (q_start, .inl (ky 0, 129, .inl s_start)), (q_walk, .inl (ky 0, 768, .inl s_walk))] H := hP
        replace hD : va_D A [(q_, .inr (7, [.ref q_joints, .ref q_pieces, .int s_total, .ref q_paneOf, .ref q_walk, .ref q_start, .ref q_sum])), (q_joints, .inr (4, [.int s_joints_total, .ref q_joints_x, .ref q_joints_y, .ref q_joints_under])), (q_joints_under, .inl (ky 0, 129, .inl o1)), (q_joints_x, .inl (ky 0, 129, .inl o2)), (q_joints_y, .inl (ky 0, 129, .inl o3)), (q_pieces, .inr (8, [.ref q_joints, .int s_pieces_steps, .ref q_pieces_from, .ref q_pieces_to, .ref q_pieces_twin, .ref q_pieces_firm, .ref q_pieces_first, .ref q_pieces_firmEnds, .ref q_pieces_reached, .ref q_pieces_nextLow, .ref q_pieces_nextHigh])), (q_pieces_firm, .inl (ky 2, 768, .inl s_pieces_firm)), (q_pieces_from, .inl (ky 0, 768, .inl s_pieces_from)), (q_pieces_to, .inl (ky 0, 768, .inl s_pieces_to)), (q_start, .inl (ky 0, 129, .inl s_start)), (q_walk, .inl (ky 0, 768, .inl s_walk))] := hD
        replace hl : lv_has ls 5 [(0, .ref q_), (4, .int v10)] := hl
        refine lv_iload hx hb dX7_around_58 (lv_at hl 1 rfl) ?_
        refine lv_aload_n hx hb dX7_around_60 rfl (lv_at hl 0 rfl) ?_
        refine va_get (D := D) (ci := 7) (v := .int s_total) (C := RX7) (T := TX7) (N := 7) hx hb hts hi_X7 hown hK.1 hP 0 rfl rfl 2 (by decide) hf_58 (fun _ h9 => h9) rfl dX7_around_61 ?_
        refine lv_icmp_ge (tgt := 85) hx hb dX7_around_64 (by decide) (fun hc => ?_) (fun hc => ?_)
        · replace h := if_t hc h
          cases h
          exact K _ _ _ hP hD hS (lv_sub hl [0, 1] rfl)
        · replace h := if_f hc h
          refine lv_aload_n hx hb dX7_around_67 rfl (lv_at hl 0 rfl) ?_
          refine lv_iload hx hb dX7_around_68 (lv_at hl 1 rfl) ?_
          obtain ⟨r11, hc, h⟩ := ob_of h
          replace h := dm1_of h
          refine cv_i (As := [.int v10]) (rest := []) (wr := [(q_pieces_firm, .inl (ky 2, 768, .inl s_pieces_firm))]) (wn := [(q_, .inr (7, [.ref q_joints, .ref q_pieces, .int s_total, .ref q_paneOf, .ref q_walk, .ref q_start, .ref q_sum])), (q_joints, .inr (4, [.int s_joints_total, .ref q_joints_x, .ref q_joints_y, .ref q_joints_under])), (q_joints_under, .inl (ky 0, 129, .inl o1)), (q_joints_x, .inl (ky 0, 129, .inl o2)), (q_joints_y, .inl (ky 0, 129, .inl o3)), (q_pieces, .inr (8, [.ref q_joints, .int s_pieces_steps, .ref q_pieces_from, .ref q_pieces_to, .ref q_pieces_twin, .ref q_pieces_firm, .ref q_pieces_first, .ref q_pieces_firmEnds, .ref q_pieces_reached, .ref q_pieces_nextLow, .ref q_pieces_nextHigh])), (q_pieces_firm, .inl (ky 2, 768, .inl s_pieces_firm)), (q_pieces_from, .inl (ky 0, 768, .inl s_pieces_from)), (q_pieces_to, .inl (ky 0, 768, .inl s_pieces_to)), (q_start, .inl (ky 0, 129, .inl s_start)), (q_walk, .inl (ky 0, 768, .inl s_walk))]) ⟨hx, hb, hml, hown, hts⟩ (c_X7_isInside l D ky q_ q_joints q_pieces q_paneOf q_walk q_start q_sum q_joints_x q_joints_y q_joints_under q_pieces_from q_pieces_to q_pieces_twin q_pieces_firm q_pieces_first q_pieces_firmEnds q_pieces_reached q_pieces_nextLow q_pieces_nextHigh v10 s_total s_joints_total o1 o2 o3 s_pieces_steps s_pieces_from s_pieces_to s_start s_walk hc) (cwV 1 hts gX7_around_X7_isInside rfl rfl rfl (by decide +kernel) ⟨Nat.le_of_ble_eq_true rfl, Nat.le_of_ble_eq_true rfl⟩) (rcv hK.1 hP (q0 := 0) rfl rfl) hP hD hK hS hA [0, 1, 2, 3, 4, 5, 7, 8, 9, 10] [6] [1, 2, 3, 4, 5, 6, 0, 7, 8, 9, 10] rfl (by decide +kernel) rfl (by decide +kernel) (by decide +kernel) (by decide +kernel) rfl rfl rfl hl.1 (Nat.le_of_ble_eq_true rfl) dX7_around_70 ⟨Nat.le_of_ble_eq_true rfl, Nat.le_of_ble_eq_true rfl⟩ (fun H locs hP hD hS => ?_)
          refine lv_if_eq (tgt := 79) hx hb dX7_around_73 (by decide) (fun hc => ?_) (fun hc => ?_)
          · replace h := if_t hc h
            obtain ⟨x12, ex12⟩ : ∃ z : Int32, z = v10 + 1 := ⟨_, rfl⟩
            replace h := lt_at ex12 h
            refine lv_iinc (v := x12) (lv' := [(4, .int x12), (0, .ref q_)]) hx hb dX7_around_79 hl (k := 1) rfl (by rw [ex12]; rfl) (by decide) rfl (fun ls hl => ?_)
            refine lv_goto (tgt := 58) hx hb dX7_around_82 (by decide) ?_
            cases h
            exact K _ _ _ hP hD hS (lv_sub hl [1, 0] rfl)
          · replace h := if_f hc h
            cases h
            exact K _ _ _ hP hD hS (lv_sub hl [0, 1] rfl)
      · have h1 := ex2_of h
        clear h hi
        rcases h1 with ⟨rfl, h⟩ | ⟨rfl, h⟩
        · skip
          obtain ⟨v13, rfl⟩ : ∃ z, z = t := ⟨_, rfl⟩
          replace h := dm1_of h
          intro H locs ls hP hD hS hl
          replace hP : va_P D vwCl [(q_, .inr (7, [.ref q_joints, .ref q_pieces, .int s_total, .ref q_paneOf, .ref q_walk, .ref q_start, .ref q_sum])), (q_joints, .inr (4, [.int s_joints_total, .ref q_joints_x, .ref q_joints_y, .ref q_joints_under])), (q_joints_under, .inl (ky 0, 129, .inl o1)), (q_joints_x, .inl (ky 0, 129, .inl o2)), (q_joints_y, .inl (ky 0, 129, .inl o3)), (q_pieces, .inr (8, [.ref q_joints, .int s_pieces_steps, .ref q_pieces_from, .ref q_pieces_to, .ref q_pieces_twin, .ref q_pieces_firm, .ref q_pieces_first, .ref q_pieces_firmEnds, .ref q_pieces_reached, .ref q_pieces_nextLow, .ref q_pieces_nextHigh])), (q_pieces_firm, .inl (ky 2, 768, .inl s_pieces_firm)), (q_pieces_from, .inl (ky 0, 768, .inl s_pieces_from)), (q_pieces_to, .inl (ky 0, 768, .inl s_pieces_to)), (q_start, .inl (ky 0, 129, .inl s_start)), (q_walk, .inl (ky 0, 768, .inl s_walk))] H := hP
          replace hD : va_D A [(q_, .inr (7, [.ref q_joints, .ref q_pieces, .int s_total, .ref q_paneOf, .ref q_walk, .ref q_start, .ref q_sum])), (q_joints, .inr (4, [.int s_joints_total, .ref q_joints_x, .ref q_joints_y, .ref q_joints_under])), (q_joints_under, .inl (ky 0, 129, .inl o1)), (q_joints_x, .inl (ky 0, 129, .inl o2)), (q_joints_y, .inl (ky 0, 129, .inl o3)), (q_pieces, .inr (8, [.ref q_joints, .int s_pieces_steps, .ref q_pieces_from, .ref q_pieces_to, .ref q_pieces_twin, .ref q_pieces_firm, .ref q_pieces_first, .ref q_pieces_firmEnds, .ref q_pieces_reached, .ref q_pieces_nextLow, .ref q_pieces_nextHigh])), (q_pieces_firm, .inl (ky 2, 768, .inl s_pieces_firm)), (q_pieces_from, .inl (ky 0, 768, .inl s_pieces_from)), (q_pieces_to, .inl (ky 0, 768, .inl s_pieces_to)), (q_start, .inl (ky 0, 129, .inl s_start)), (q_walk, .inl (ky 0, 768, .inl s_walk))] := hD
          replace hl : lv_has ls 5 [(0, .ref q_), (4, .int v13)] := hl
          refine W.eq (g2 := F0 m 76 ls []) rfl ?_
          refine lv_iload hx hb dX7_around_76 (lv_at hl 1 rfl) ?_
          exact rt _ h _ _ _ _ dX7_around_78 hP hD hS
        · skip
          obtain ⟨v14, rfl⟩ : ∃ z, z = t := ⟨_, rfl⟩
          replace h := dm1_of h
          intro H locs ls hP hD hS hl
          replace hP : va_P D vwCl [(q_, .inr (7, [.ref q_joints, .ref q_pieces, .int s_total, .ref q_paneOf, .ref q_walk, .ref q_start, .ref q_sum])), (q_joints, .inr (4, [.int s_joints_total, .ref q_joints_x, .ref q_joints_y, .ref q_joints_under])), (q_joints_under, .inl (ky 0, 129, .inl o1)), (q_joints_x, .inl (ky 0, 129, .inl o2)), (q_joints_y, .inl (ky 0, 129, .inl o3)), (q_pieces, .inr (8, [.ref q_joints, .int s_pieces_steps, .ref q_pieces_from, .ref q_pieces_to, .ref q_pieces_twin, .ref q_pieces_firm, .ref q_pieces_first, .ref q_pieces_firmEnds, .ref q_pieces_reached, .ref q_pieces_nextLow, .ref q_pieces_nextHigh])), (q_pieces_firm, .inl (ky 2, 768, .inl s_pieces_firm)), (q_pieces_from, .inl (ky 0, 768, .inl s_pieces_from)), (q_pieces_to, .inl (ky 0, 768, .inl s_pieces_to)), (q_start, .inl (ky 0, 129, .inl s_start)), (q_walk, .inl (ky 0, 768, .inl s_walk))] H := hP
          replace hD : va_D A [(q_, .inr (7, [.ref q_joints, .ref q_pieces, .int s_total, .ref q_paneOf, .ref q_walk, .ref q_start, .ref q_sum])), (q_joints, .inr (4, [.int s_joints_total, .ref q_joints_x, .ref q_joints_y, .ref q_joints_under])), (q_joints_under, .inl (ky 0, 129, .inl o1)), (q_joints_x, .inl (ky 0, 129, .inl o2)), (q_joints_y, .inl (ky 0, 129, .inl o3)), (q_pieces, .inr (8, [.ref q_joints, .int s_pieces_steps, .ref q_pieces_from, .ref q_pieces_to, .ref q_pieces_twin, .ref q_pieces_firm, .ref q_pieces_first, .ref q_pieces_firmEnds, .ref q_pieces_reached, .ref q_pieces_nextLow, .ref q_pieces_nextHigh])), (q_pieces_firm, .inl (ky 2, 768, .inl s_pieces_firm)), (q_pieces_from, .inl (ky 0, 768, .inl s_pieces_from)), (q_pieces_to, .inl (ky 0, 768, .inl s_pieces_to)), (q_start, .inl (ky 0, 129, .inl s_start)), (q_walk, .inl (ky 0, 768, .inl s_walk))] := hD
          replace hl : lv_has ls 5 [(0, .ref q_), (4, .int v14)] := hl
          refine W.eq (g2 := F0 m 85 ls []) rfl ?_
          refine lv_iconst (v := (-1)) hx hb dX7_around_85 (by decide) ?_
          exact rt _ h _ _ _ _ dX7_around_86 hP hD hS

