def sJ13_compare_74951 (a0 : Int64) (a2 : Int64)  : Option (Int32) := if 0 ≤ (lg_cmp a0 a2) then if ¬ (lg_cmp a0 a2) = 0 then some (1 : Int32) else some (0 : Int32) else some (-1 : Int32)
abbrev rmJ13_compare_74951 : Room := { frames := 0, cells := 0, slots := 0, locals := 0 }
set_option maxHeartbeats 4000000 in
set_option maxRecDepth 100000 in
theorem c_J13_compare_74951 (l : Launch) (D : va_G) (ky : Nat → ClassId) (a0 : Int64) (a2 : Int64) {o_r : Int32} (h : sJ13_compare_74951 a0 a2 = some o_r) : MtI l D ky yJ13_compare_74951 wsJ13_compare_74951 rmJ13_compare_74951 [.long a0, .long a2] [] [] o_r 0 0 := by
  refine MtI.of (cc := cJ13_compare_74951) (maxL := 4) (by decide +kernel) rfl (Nat.le_of_ble_eq_true rfl) ?_
  intro p e R s m args below meth c A Q ls hR hx hb hts hown hnm hml hP hK hD hA ret hl
  subst hR
  obtain ⟨H, hH⟩ : ∃ H, H = s.heap := ⟨_, rfl⟩
  obtain ⟨locs, hlocs⟩ : ∃ locs : List Loc, locs = [] := ⟨_, rfl⟩
  have hS : va_S A s.heap H locs := by rw [hH, hlocs]; exact va_S.rf
  rw [← hH] at hP
  suffices hgo : W p l e rmJ13_compare_74951 s m args below meth c H locs 0 0 Q (F0 m 0 ls []) by rw [hH, hlocs] at hgo; exact hgo
  clear hH hlocs
  replace hl : lv_has ls 4 [(0, .long a0), (2, .long a2)] := hl
  replace hown : s.vm.findClass RJ13 = some m.cls := hown
  unfold sJ13_compare_74951 at h
  refine lv_lload_n hx hb dJ13_compare_74951_0 rfl (lv_at hl 0 rfl) ?_
  refine lv_lload_n hx hb dJ13_compare_74951_1 rfl (lv_at hl 1 rfl) ?_
  refine W.lcmp hx hb dJ13_compare_74951_2 ?_
  refine lv_if_ge (tgt := 10) hx hb dJ13_compare_74951_3 (by decide) (fun hc => ?_) (fun hc => ?_)
  · replace h := if_t hc h
    refine lv_lload_n hx hb dJ13_compare_74951_10 rfl (lv_at hl 0 rfl) ?_
    refine lv_lload_n hx hb dJ13_compare_74951_11 rfl (lv_at hl 1 rfl) ?_
    refine W.lcmp hx hb dJ13_compare_74951_12 ?_
    refine lv_if_ne (tgt := 20) hx hb dJ13_compare_74951_13 (by decide) (fun hc => ?_) (fun hc => ?_)
    · replace h := if_t hc h
      refine lv_iconst (v := 1) hx hb dJ13_compare_74951_20 (by decide) ?_
      cases h
      exact ret _ _ _ _ dJ13_compare_74951_21 hP hD hS
    · replace h := if_f (fun z => z hc) h
      refine lv_iconst (v := 0) hx hb dJ13_compare_74951_16 (by decide) ?_
      refine lv_goto (tgt := 21) hx hb dJ13_compare_74951_17 (by decide) ?_
      cases h
      exact ret _ _ _ _ dJ13_compare_74951_21 hP hD hS
  · replace h := if_f hc h
    refine lv_iconst (v := (-1)) hx hb dJ13_compare_74951_6 (by decide) ?_
    refine lv_goto (tgt := 21) hx hb dJ13_compare_74951_7 (by decide) ?_
    cases h
    exact ret _ _ _ _ dJ13_compare_74951_21 hP hD hS

