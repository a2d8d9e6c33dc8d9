/-- a relation of the two systems, with so many calls left, that each pair of calls keeps, the two answers being one -/
def StepOK (Rel : Nat → SX → SM → Prop) : Prop := (∀ (n : Nat) (x : SX) (y : SM), Rel (n + 1) x y → Rel n x y) ∧ (∀ (n : Nat) (a1 a2 : Int32) (x : SX) (y : SM), Rel (n + 1) x y → ∃ (r : Int32) (x' : SX) (y' : SM), stX_window a1 a2 x = some (r, x') ∧ stM_window a1 a2 y = some (r, y') ∧ Rel n x' y') ∧ (∀ (n : Nat) (a1 a2 a3 a4 : Int32) (x : SX) (y : SM), Rel (n + 1) x y → ∃ (r : Int32) (x' : SX) (y' : SM), stX_lead a1 a2 a3 a4 x = some (r, x') ∧ stM_lead a1 a2 a3 a4 y = some (r, y') ∧ Rel n x' y') ∧ (∀ (n : Nat)  (x : SX) (y : SM), Rel (n + 1) x y → ∃ (r : Int32) (x' : SX) (y' : SM), stX_undo  x = some (r, x') ∧ stM_undo  y = some (r, y') ∧ Rel n x' y') ∧ (∀ (n : Nat) (a1 : Int32) (x : SX) (y : SM), Rel (n + 1) x y → ∃ (r : Int32) (x' : SX) (y' : SM), stX_count a1 x = some (r, x') ∧ stM_count a1 y = some (r, y') ∧ Rel n x' y') ∧ (∀ (n : Nat) (a1 a2 : Int32) (x : SX) (y : SM), Rel (n + 1) x y → ∃ (r : Int32) (x' : SX) (y' : SM), stX_joint a1 a2 x = some (r, x') ∧ stM_joint a1 a2 y = some (r, y') ∧ Rel n x' y') ∧ (∀ (n : Nat) (a1 a2 : Int32) (x : SX) (y : SM), Rel (n + 1) x y → ∃ (r : Int32) (x' : SX) (y' : SM), stX_piece a1 a2 x = some (r, x') ∧ stM_piece a1 a2 y = some (r, y') ∧ Rel n x' y') ∧ (∀ (n : Nat) (a1 a2 : Int32) (x : SX) (y : SM), Rel (n + 1) x y → ∃ (r : Int32) (x' : SX) (y' : SM), stX_corner a1 a2 x = some (r, x') ∧ stM_corner a1 a2 y = some (r, y') ∧ Rel n x' y') ∧ (∀ (n : Nat) (a1 a2 : Int32) (x : SX) (y : SM), Rel (n + 1) x y → ∃ (r : Int32) (x' : SX) (y' : SM), stX_pane a1 a2 x = some (r, x') ∧ stM_pane a1 a2 y = some (r, y') ∧ Rel n x' y') ∧ (∀ (n : Nat) (a1 : Int32) (x : SX) (y : SM), Rel (n + 1) x y → ∃ (r : Int64) (x' : SX) (y' : SM), stX_area a1 x = some (r, x') ∧ stM_area a1 y = some (r, y') ∧ Rel n x' y') ∧ (∀ (n : Nat) (a1 a2 : Int32) (x : SX) (y : SM), Rel (n + 1) x y → ∃ (r : Int32) (x' : SX) (y' : SM), stX_touch a1 a2 x = some (r, x') ∧ stM_touch a1 a2 y = some (r, y') ∧ Rel n x' y') ∧ (∀ (n : Nat) (a1 a2 : Int32) (x : SX) (y : SM), Rel (n + 1) x y → ∃ (r : Int32) (x' : SX) (y' : SM), stX_at a1 a2 x = some (r, x') ∧ stM_at a1 a2 y = some (r, y') ∧ Rel n x' y') ∧ (∀ (n : Nat) (a1 a2 a3 : Int32) (x : SX) (y : SM), Rel (n + 1) x y → ∃ (r : Int32) (x' : SX) (y' : SM), stX_glass a1 a2 a3 x = some (r, x') ∧ stM_glass a1 a2 a3 y = some (r, y') ∧ Rel n x' y') ∧ (∀ (n : Nat) (a1 : Int32) (x : SX) (y : SM), Rel (n + 1) x y → ∃ (r : Int32) (x' : SX) (y' : SM), stX_colours a1 x = some (r, x') ∧ stM_colours a1 y = some (r, y') ∧ Rel n x' y') ∧ (∀ (n : Nat) (a1 : Int32) (x : SX) (y : SM), Rel (n + 1) x y → ∃ (r : Int32) (x' : SX) (y' : SM), stX_lack a1 x = some (r, x') ∧ stM_lack a1 y = some (r, y') ∧ Rel n x' y') ∧ (∀ (n : Nat) (a1 : Int32) (x : SX) (y : SM), Rel (n + 1) x y → ∃ (r : Int32) (x' : SX) (y' : SM), stX_bits a1 x = some (r, x') ∧ stM_bits a1 y = some (r, y') ∧ Rel n x' y') ∧ (∀ (n : Nat) (a1 : Int32) (x : SX) (y : SM), Rel (n + 1) x y → ∃ (r : Int32) (x' : SX) (y' : SM), stX_pick a1 x = some (r, x') ∧ stM_pick a1 y = some (r, y') ∧ Rel n x' y') ∧ (∀ (n : Nat)  (x : SX) (y : SM), Rel (n + 1) x y → ∃ (r : Int32) (x' : SX) (y' : SM), stX_unpick  x = some (r, x') ∧ stM_unpick  y = some (r, y') ∧ Rel n x' y') ∧ (∀ (n : Nat) (a1 a2 a3 : Int32) (x : SX) (y : SM), (a3 = 0 ∨ a3 = 1) → Rel (n + 1) x y → ∃ (r : Int32) (x' : SX) (y' : SM), stX_sheets a1 a2 a3 x = some (r, x') ∧ stM_sheets a1 a2 a3 y = some (r, y') ∧ Rel n x' y') ∧ (∀ (n : Nat) (a1 : Int32) (x : SX) (y : SM), Rel (n + 1) x y → ∃ (r : Int32) (x' : SX) (y' : SM), stX_keep a1 x = some (r, x') ∧ stM_keep a1 y = some (r, y') ∧ Rel n x' y') ∧ (∀ (n : Nat) (a1 : Int32) (x : SX) (y : SM), Rel (n + 1) x y → ∃ (r : Int32) (x' : SX) (y' : SM), stX_back a1 x = some (r, x') ∧ stM_back a1 y = some (r, y') ∧ Rel n x' y') ∧ (∀ (n : Nat) (a1 : Int32) (x : SX) (y : SM), Rel (n + 1) x y → ∃ (r : Int32) (x' : SX) (y' : SM), stX_alike a1 x = some (r, x') ∧ stM_alike a1 y = some (r, y') ∧ Rel n x' y') ∧ (∀ (n : Nat) (a1 a2 : Int32) (x : SX) (y : SM), Rel (n + 1) x y → ∃ (r : Int32) (x' : SX) (y' : SM), stX_rack a1 a2 x = some (r, x') ∧ stM_rack a1 a2 y = some (r, y') ∧ Rel n x' y') ∧ (∀ (n : Nat) (a1 a2 : Int32) (x : SX) (y : SM), Rel (n + 1) x y → ∃ (r : Int32) (x' : SX) (y' : SM), stX_as a1 a2 x = some (r, x') ∧ stM_as a1 a2 y = some (r, y') ∧ Rel n x' y') ∧ (∀ (n : Nat) (a1 : Int32) (x : SX) (y : SM), Rel (n + 1) x y → ∃ (r : Int32) (x' : SX) (y' : SM), stX_found a1 x = some (r, x') ∧ stM_found a1 y = some (r, y') ∧ Rel n x' y')
theorem lg_cmp_self (r : Int64) : lg_cmp r r = 0 := (lg_cmp_eq _ _).mpr rfl
theorem lw_ix {a L : Nat} (k : Nat) (h : a + k < L) (hL : L ≤ 2560) : vp_in (nI a + nI k) L := by
  rw [nI_add]; exact vp_in_nI h (by omega)
theorem lw_next (j : Nat) : nI (5 * j) + 5 = nI (5 * (j + 1)) := by
  have h : nI (5 * j) + nI 5 = nI (5 * j + 5) := nI_add (5 * j) 5
  exact h
theorem lw_sub5 {L : Nat} (hL : L ≤ 2560) : (Int32.ofNat L - 5).toInt = (L : Int) - 5 := by
  have h := pk_sub_toInt (a := L) (b := 5) (by omega) (by omega)
  exact h
theorem lw_past {j L : Nat} {x3 : Int32} (e3 : x3 = nI (5 * j)) (hL : L ≤ 2560) (h : L < 5 * j + 5 ∧ 5 * j ≤ L) : Int32.ofNat L - 5 < x3 := by
  rw [Int32.lt_iff_toInt_lt, lw_sub5 hL, e3, nI_toInt (by omega)]
  omega
theorem lw_notpast {j L : Nat} {x3 : Int32} (e3 : x3 = nI (5 * j)) (hL : L ≤ 2560) (h : 5 * j + 5 ≤ L) : ¬ Int32.ofNat L - 5 < x3 := by
  rw [Int32.lt_iff_toInt_lt, lw_sub5 hL, e3, nI_toInt (by omega)]
  omega
section LAWOPS
variable {p : Program} {l : Launch} {e : Env} {s : State} {m : MethodId} {below : List Frame} {meth : Method} {c : Code} {Q : State → Prop} {b L : Nat} {xs : Nat → Int32} {D : va_G} {ky : Nat → ClassId} {ax am : Nat → Nat} {x3 : Int32}
set_option maxHeartbeats 4000000 in
set_option maxRecDepth 100000 in
theorem lwo_0 (C0 : lw_At p s m meth c b L xs) (hK : Kx D ky s) (h1 : vp_in (x3 + 1) L) (h2 : vp_in (x3 + 2) L) (h3 : vp_in (x3 + 3) L) (h4 : vp_in (x3 + 4) L) {x x' : SX} {y y' : SM} {r : Int32} (e1 : stX_window (xs (x3 + 1).toNatClampNeg) (xs (x3 + 2).toNatClampNeg) x = some (r, x')) (e2 : stM_window (xs (x3 + 1).toNatClampNeg) (xs (x3 + 2).toNatClampNeg) y = some (r, y')) {H : Heap} {locs : List Loc} {cells slots : Nat} {ls : Array Slot} (hP : va_P D vwCl (wX ky ax x ++ wM ky am y) H) (hD : va_D (fun q : Nat => s.heap.size ≤ q) (wX ky ax x ++ wM ky am y)) (hS : va_S (fun q : Nat => s.heap.size ≤ q) s.heap H locs) (hl : lv_has ls 4 [(0, .ref b), (1, .ref (ax 0)), (2, .ref (am 0)), (3, .int x3)]) (hc : cells + 1 ≤ 600000) (hs : slots + 240 ≤ 7302250)
    (kk : ∀ (H : Heap) (locs : List Loc), va_P D vwCl (wX ky ax x' ++ wM ky am y') H → va_D (fun q : Nat => s.heap.size ≤ q) (wX ky ax x' ++ wM ky am y') → va_S (fun q : Nat => s.heap.size ≤ q) s.heap H locs → W p l e room_1 s m #[Value.ref b] below meth c H locs (cells + 1) (slots + 240) Q (F0 m 853 ls [])) : W p l e room_1 s m #[Value.ref b] below meth c H locs cells slots Q (F0 m 144 ls []) := by
  obtain ⟨hx, hb, hr, hml, hown, hts, hX, hbl, hlocks, hgv⟩ := id C0
  replace hown : s.vm.findClass RL = some m.cls := hown
  have hA : ∀ q : Nat, s.heap.size ≤ q → (fun q : Nat => s.heap.size ≤ q) q := fun _ h => h
  have hbA : ¬ (fun q : Nat => s.heap.size ≤ q) b := Nat.not_le.mpr hbl
  have htL : ∀ w ∈ wsL_law, w.before #[Value.ref b] s = true := fun w h => hts w (wsL_law_in w h)
  refine lv_aload_n hx hb dL_law_144 rfl (lv_at hl 1 rfl) ?_
  refine lv_aload_n hx hb dL_law_145 rfl (lv_at hl 0 rfl) ?_
  refine lv_iload_n hx hb dL_law_146 rfl (lv_at hl 3 rfl) ?_
  refine lv_iconst (v := 1) hx hb dL_law_147 (by decide) ?_
  refine lv_iadd hx hb dL_law_148 ?_
  refine va_sld hx hb hX hbl hbA hS h1 dL_law_149 ?_
  refine lv_aload_n hx hb dL_law_150 rfl (lv_at hl 0 rfl) ?_
  refine lv_iload_n hx hb dL_law_151 rfl (lv_at hl 3 rfl) ?_
  refine lv_iconst (v := 2) hx hb dL_law_152 (by decide) ?_
  refine lv_iadd hx hb dL_law_153 ?_
  refine va_sld hx hb hX hbl hbA hS h2 dL_law_154 ?_
  refine cL_i (As := [.int (xs (x3 + 1).toNatClampNeg), .int (xs (x3 + 2).toNatClampNeg)]) (rest := []) (wr := wM ky am y) ⟨hx, hb, hml, hown, htL⟩ (cX_window l D ky ax _ _ x e1) (cwV 2 htL gL_law_X9_window rfl rfl rfl (by decide +kernel) ⟨(Nat.le_of_ble_eq_true rfl), (Nat.le_of_ble_eq_true rfl)⟩) (rcv hK.1 hP (ci := 9) (q0 := 0) rfl rfl) hP hD hK hS hA rfl rfl hl.1 (Nat.le_of_ble_eq_true rfl) dL_law_155 ⟨by show cells + 0 ≤ 600000; omega, by show slots + 0 ≤ 7302250; omega⟩ (fun H locs hP hD hS => ?_)
  refine lv_aload_n hx hb dL_law_158 rfl (lv_at hl 2 rfl) ?_
  refine lv_aload_n hx hb dL_law_159 rfl (lv_at hl 0 rfl) ?_
  refine lv_iload_n hx hb dL_law_160 rfl (lv_at hl 3 rfl) ?_
  refine lv_iconst (v := 1) hx hb dL_law_161 (by decide) ?_
  refine lv_iadd hx hb dL_law_162 ?_
  refine va_sld hx hb hX hbl hbA hS h1 dL_law_163 ?_
  refine lv_aload_n hx hb dL_law_164 rfl (lv_at hl 0 rfl) ?_
  refine lv_iload_n hx hb dL_law_165 rfl (lv_at hl 3 rfl) ?_
  refine lv_iconst (v := 2) hx hb dL_law_166 (by decide) ?_
  refine lv_iadd hx hb dL_law_167 ?_
  refine va_sld hx hb hX hbl hbA hS h2 dL_law_168 ?_
  refine cL_i (As := [.int (xs (x3 + 1).toNatClampNeg), .int (xs (x3 + 2).toNatClampNeg)]) (rest := [.int r]) (wr := wX ky ax x') ⟨hx, hb, hml, hown, htL⟩ (cM_window l D ky am _ _ y e2) (cwV 2 htL gL_law_X12_window rfl rfl rfl (by decide +kernel) ⟨(Nat.le_of_ble_eq_true rfl), (Nat.le_of_ble_eq_true rfl)⟩) (rcv hK.1 hP (ci := 12) (q0 := 0) rfl rfl) hP hD hK hS hA rfl rfl hl.1 (Nat.le_of_ble_eq_true rfl) dL_law_169 ⟨by show cells + 1 ≤ 600000; omega, by show slots + 240 ≤ 7302250; omega⟩ (fun H locs hP hD hS => ?_)
  refine lv_icmp_eq (tgt := 853) hx hb dL_law_172 (by decide) (fun _ => ?_) (fun hq => absurd rfl hq)
  refine W.widen (k := cells + 1) (n := slots + 240) (by omega) (by omega) ?_
  exact kk H locs hP hD hS

set_option maxHeartbeats 4000000 in
set_option maxRecDepth 100000 in
theorem lwo_1 (C0 : lw_At p s m meth c b L xs) (hK : Kx D ky s) (h1 : vp_in (x3 + 1) L) (h2 : vp_in (x3 + 2) L) (h3 : vp_in (x3 + 3) L) (h4 : vp_in (x3 + 4) L) {x x' : SX} {y y' : SM} {r : Int32} (e1 : stX_lead (xs (x3 + 1).toNatClampNeg) (xs (x3 + 2).toNatClampNeg) (xs (x3 + 3).toNatClampNeg) (xs (x3 + 4).toNatClampNeg) x = some (r, x')) (e2 : stM_lead (xs (x3 + 1).toNatClampNeg) (xs (x3 + 2).toNatClampNeg) (xs (x3 + 3).toNatClampNeg) (xs (x3 + 4).toNatClampNeg) y = some (r, y')) {H : Heap} {locs : List Loc} {cells slots : Nat} {ls : Array Slot} (hP : va_P D vwCl (wX ky ax x ++ wM ky am y) H) (hD : va_D (fun q : Nat => s.heap.size ≤ q) (wX ky ax x ++ wM ky am y)) (hS : va_S (fun q : Nat => s.heap.size ≤ q) s.heap H locs) (hl : lv_has ls 4 [(0, .ref b), (1, .ref (ax 0)), (2, .ref (am 0)), (3, .int x3)]) (hc : cells + 1 ≤ 600000) (hs : slots + 240 ≤ 7302250)
    (kk : ∀ (H : Heap) (locs : List Loc), va_P D vwCl (wX ky ax x' ++ wM ky am y') H → va_D (fun q : Nat => s.heap.size ≤ q) (wX ky ax x' ++ wM ky am y') → va_S (fun q : Nat => s.heap.size ≤ q) s.heap H locs → W p l e room_1 s m #[Value.ref b] below meth c H locs (cells + 1) (slots + 240) Q (F0 m 853 ls [])) : W p l e room_1 s m #[Value.ref b] below meth c H locs cells slots Q (F0 m 177 ls []) := by
  obtain ⟨hx, hb, hr, hml, hown, hts, hX, hbl, hlocks, hgv⟩ := id C0
  replace hown : s.vm.findClass RL = some m.cls := hown
  have hA : ∀ q : Nat, s.heap.size ≤ q → (fun q : Nat => s.heap.size ≤ q) q := fun _ h => h
  have hbA : ¬ (fun q : Nat => s.heap.size ≤ q) b := Nat.not_le.mpr hbl
  have htL : ∀ w ∈ wsL_law, w.before #[Value.ref b] s = true := fun w h => hts w (wsL_law_in w h)
  refine lv_aload_n hx hb dL_law_177 rfl (lv_at hl 1 rfl) ?_
  refine lv_aload_n hx hb dL_law_178 rfl (lv_at hl 0 rfl) ?_
  refine lv_iload_n hx hb dL_law_179 rfl (lv_at hl 3 rfl) ?_
  refine lv_iconst (v := 1) hx hb dL_law_180 (by decide) ?_
  refine lv_iadd hx hb dL_law_181 ?_
  refine va_sld hx hb hX hbl hbA hS h1 dL_law_182 ?_
  refine lv_aload_n hx hb dL_law_183 rfl (lv_at hl 0 rfl) ?_
  refine lv_iload_n hx hb dL_law_184 rfl (lv_at hl 3 rfl) ?_
  refine lv_iconst (v := 2) hx hb dL_law_185 (by decide) ?_
  refine lv_iadd hx hb dL_law_186 ?_
  refine va_sld hx hb hX hbl hbA hS h2 dL_law_187 ?_
  refine lv_aload_n hx hb dL_law_188 rfl (lv_at hl 0 rfl) ?_
  refine lv_iload_n hx hb dL_law_189 rfl (lv_at hl 3 rfl) ?_
  refine lv_iconst (v := 3) hx hb dL_law_190 (by decide) ?_
  refine lv_iadd hx hb dL_law_191 ?_
  refine va_sld hx hb hX hbl hbA hS h3 dL_law_192 ?_
  refine lv_aload_n hx hb dL_law_193 rfl (lv_at hl 0 rfl) ?_
  refine lv_iload_n hx hb dL_law_194 rfl (lv_at hl 3 rfl) ?_
  refine lv_iconst (v := 4) hx hb dL_law_195 (by decide) ?_
  refine lv_iadd hx hb dL_law_196 ?_
  refine va_sld hx hb hX hbl hbA hS h4 dL_law_197 ?_
  refine cL_i (As := [.int (xs (x3 + 1).toNatClampNeg), .int (xs (x3 + 2).toNatClampNeg), .int (xs (x3 + 3).toNatClampNeg), .int (xs (x3 + 4).toNatClampNeg)]) (rest := []) (wr := wM ky am y) ⟨hx, hb, hml, hown, htL⟩ (cX_lead l D ky ax _ _ _ _ x e1) (cwV 4 htL gL_law_X9_lead rfl rfl rfl (by decide +kernel) ⟨(Nat.le_of_ble_eq_true rfl), (Nat.le_of_ble_eq_true rfl)⟩) (rcv hK.1 hP (ci := 9) (q0 := 0) rfl rfl) hP hD hK hS hA rfl rfl hl.1 (Nat.le_of_ble_eq_true rfl) dL_law_198 ⟨by show cells + 0 ≤ 600000; omega, by show slots + 0 ≤ 7302250; omega⟩ (fun H locs hP hD hS => ?_)
  refine lv_aload_n hx hb dL_law_201 rfl (lv_at hl 2 rfl) ?_
  refine lv_aload_n hx hb dL_law_202 rfl (lv_at hl 0 rfl) ?_
  refine lv_iload_n hx hb dL_law_203 rfl (lv_at hl 3 rfl) ?_
  refine lv_iconst (v := 1) hx hb dL_law_204 (by decide) ?_
  refine lv_iadd hx hb dL_law_205 ?_
  refine va_sld hx hb hX hbl hbA hS h1 dL_law_206 ?_
  refine lv_aload_n hx hb dL_law_207 rfl (lv_at hl 0 rfl) ?_
  refine lv_iload_n hx hb dL_law_208 rfl (lv_at hl 3 rfl) ?_
  refine lv_iconst (v := 2) hx hb dL_law_209 (by decide) ?_
  refine lv_iadd hx hb dL_law_210 ?_
  refine va_sld hx hb hX hbl hbA hS h2 dL_law_211 ?_
  refine lv_aload_n hx hb dL_law_212 rfl (lv_at hl 0 rfl) ?_
  refine lv_iload_n hx hb dL_law_213 rfl (lv_at hl 3 rfl) ?_
  refine lv_iconst (v := 3) hx hb dL_law_214 (by decide) ?_
  refine lv_iadd hx hb dL_law_215 ?_
  refine va_sld hx hb hX hbl hbA hS h3 dL_law_216 ?_
  refine lv_aload_n hx hb dL_law_217 rfl (lv_at hl 0 rfl) ?_
  refine lv_iload_n hx hb dL_law_218 rfl (lv_at hl 3 rfl) ?_
  refine lv_iconst (v := 4) hx hb dL_law_219 (by decide) ?_
  refine lv_iadd hx hb dL_law_220 ?_
  refine va_sld hx hb hX hbl hbA hS h4 dL_law_221 ?_
  refine cL_i (As := [.int (xs (x3 + 1).toNatClampNeg), .int (xs (x3 + 2).toNatClampNeg), .int (xs (x3 + 3).toNatClampNeg), .int (xs (x3 + 4).toNatClampNeg)]) (rest := [.int r]) (wr := wX ky ax x') ⟨hx, hb, hml, hown, htL⟩ (cM_lead l D ky am _ _ _ _ y e2) (cwV 4 htL gL_law_X12_lead rfl rfl rfl (by decide +kernel) ⟨(Nat.le_of_ble_eq_true rfl), (Nat.le_of_ble_eq_true rfl)⟩) (rcv hK.1 hP (ci := 12) (q0 := 0) rfl rfl) hP hD hK hS hA rfl rfl hl.1 (Nat.le_of_ble_eq_true rfl) dL_law_222 ⟨by show cells + 1 ≤ 600000; omega, by show slots + 240 ≤ 7302250; omega⟩ (fun H locs hP hD hS => ?_)
  refine lv_icmp_eq (tgt := 853) hx hb dL_law_225 (by decide) (fun _ => ?_) (fun hq => absurd rfl hq)
  refine W.widen (k := cells + 1) (n := slots + 240) (by omega) (by omega) ?_
  exact kk H locs hP hD hS

set_option maxHeartbeats 4000000 in
set_option maxRecDepth 100000 in
theorem lwo_2 (C0 : lw_At p s m meth c b L xs) (hK : Kx D ky s) (h1 : vp_in (x3 + 1) L) (h2 : vp_in (x3 + 2) L) (h3 : vp_in (x3 + 3) L) (h4 : vp_in (x3 + 4) L) {x x' : SX} {y y' : SM} {r : Int32} (e1 : stX_undo  x = some (r, x')) (e2 : stM_undo  y = some (r, y')) {H : Heap} {locs : List Loc} {cells slots : Nat} {ls : Array Slot} (hP : va_P D vwCl (wX ky ax x ++ wM ky am y) H) (hD : va_D (fun q : Nat => s.heap.size ≤ q) (wX ky ax x ++ wM ky am y)) (hS : va_S (fun q : Nat => s.heap.size ≤ q) s.heap H locs) (hl : lv_has ls 4 [(0, .ref b), (1, .ref (ax 0)), (2, .ref (am 0)), (3, .int x3)]) (hc : cells + 1 ≤ 600000) (hs : slots + 240 ≤ 7302250)
    (kk : ∀ (H : Heap) (locs : List Loc), va_P D vwCl (wX ky ax x' ++ wM ky am y') H → va_D (fun q : Nat => s.heap.size ≤ q) (wX ky ax x' ++ wM ky am y') → va_S (fun q : Nat => s.heap.size ≤ q) s.heap H locs → W p l e room_1 s m #[Value.ref b] below meth c H locs (cells + 1) (slots + 240) Q (F0 m 853 ls [])) : W p l e room_1 s m #[Value.ref b] below meth c H locs cells slots Q (F0 m 230 ls []) := by
  obtain ⟨hx, hb, hr, hml, hown, hts, hX, hbl, hlocks, hgv⟩ := id C0
  replace hown : s.vm.findClass RL = some m.cls := hown
  have hA : ∀ q : Nat, s.heap.size ≤ q → (fun q : Nat => s.heap.size ≤ q) q := fun _ h => h
  have hbA : ¬ (fun q : Nat => s.heap.size ≤ q) b := Nat.not_le.mpr hbl
  have htL : ∀ w ∈ wsL_law, w.before #[Value.ref b] s = true := fun w h => hts w (wsL_law_in w h)
  refine lv_aload_n hx hb dL_law_230 rfl (lv_at hl 1 rfl) ?_
  refine cL_i (As := []) (rest := []) (wr := wM ky am y) ⟨hx, hb, hml, hown, htL⟩ (cX_undo l D ky ax  x e1) (cwV 0 htL gL_law_X9_undo rfl rfl rfl (by decide +kernel) ⟨(Nat.le_of_ble_eq_true rfl), (Nat.le_of_ble_eq_true rfl)⟩) (rcv hK.1 hP (ci := 9) (q0 := 0) rfl rfl) hP hD hK hS hA rfl rfl hl.1 (Nat.le_of_ble_eq_true rfl) dL_law_231 ⟨by show cells + 0 ≤ 600000; omega, by show slots + 0 ≤ 7302250; omega⟩ (fun H locs hP hD hS => ?_)
  refine lv_aload_n hx hb dL_law_234 rfl (lv_at hl 2 rfl) ?_
  refine cL_i (As := []) (rest := [.int r]) (wr := wX ky ax x') ⟨hx, hb, hml, hown, htL⟩ (cM_undo l D ky am  y e2) (cwV 0 htL gL_law_X12_undo rfl rfl rfl (by decide +kernel) ⟨(Nat.le_of_ble_eq_true rfl), (Nat.le_of_ble_eq_true rfl)⟩) (rcv hK.1 hP (ci := 12) (q0 := 0) rfl rfl) hP hD hK hS hA rfl rfl hl.1 (Nat.le_of_ble_eq_true rfl) dL_law_235 ⟨by show cells + 1 ≤ 600000; omega, by show slots + 240 ≤ 7302250; omega⟩ (fun H locs hP hD hS => ?_)
  refine lv_icmp_eq (tgt := 853) hx hb dL_law_238 (by decide) (fun _ => ?_) (fun hq => absurd rfl hq)
  refine W.widen (k := cells + 1) (n := slots + 240) (by omega) (by omega) ?_
  exact kk H locs hP hD hS

set_option maxHeartbeats 4000000 in
set_option maxRecDepth 100000 in
theorem lwo_3 (C0 : lw_At p s m meth c b L xs) (hK : Kx D ky s) (h1 : vp_in (x3 + 1) L) (h2 : vp_in (x3 + 2) L) (h3 : vp_in (x3 + 3) L) (h4 : vp_in (x3 + 4) L) {x x' : SX} {y y' : SM} {r : Int32} (e1 : stX_count (xs (x3 + 1).toNatClampNeg) x = some (r, x')) (e2 : stM_count (xs (x3 + 1).toNatClampNeg) y = some (r, y')) {H : Heap} {locs : List Loc} {cells slots : Nat} {ls : Array Slot} (hP : va_P D vwCl (wX ky ax x ++ wM ky am y) H) (hD : va_D (fun q : Nat => s.heap.size ≤ q) (wX ky ax x ++ wM ky am y)) (hS : va_S (fun q : Nat => s.heap.size ≤ q) s.heap H locs) (hl : lv_has ls 4 [(0, .ref b), (1, .ref (ax 0)), (2, .ref (am 0)), (3, .int x3)]) (hc : cells + 1 ≤ 600000) (hs : slots + 240 ≤ 7302250)
    (kk : ∀ (H : Heap) (locs : List Loc), va_P D vwCl (wX ky ax x' ++ wM ky am y') H → va_D (fun q : Nat => s.heap.size ≤ q) (wX ky ax x' ++ wM ky am y') → va_S (fun q : Nat => s.heap.size ≤ q) s.heap H locs → W p l e room_1 s m #[Value.ref b] below meth c H locs (cells + 1) (slots + 240) Q (F0 m 853 ls [])) : W p l e room_1 s m #[Value.ref b] below meth c H locs cells slots Q (F0 m 243 ls []) := by
  obtain ⟨hx, hb, hr, hml, hown, hts, hX, hbl, hlocks, hgv⟩ := id C0
  replace hown : s.vm.findClass RL = some m.cls := hown
  have hA : ∀ q : Nat, s.heap.size ≤ q → (fun q : Nat => s.heap.size ≤ q) q := fun _ h => h
  have hbA : ¬ (fun q : Nat => s.heap.size ≤ q) b := Nat.not_le.mpr hbl
  have htL : ∀ w ∈ wsL_law, w.before #[Value.ref b] s = true := fun w h => hts w (wsL_law_in w h)
  refine lv_aload_n hx hb dL_law_243 rfl (lv_at hl 1 rfl) ?_
  refine lv_aload_n hx hb dL_law_244 rfl (lv_at hl 0 rfl) ?_
  refine lv_iload_n hx hb dL_law_245 rfl (lv_at hl 3 rfl) ?_
  refine lv_iconst (v := 1) hx hb dL_law_246 (by decide) ?_
  refine lv_iadd hx hb dL_law_247 ?_
  refine va_sld hx hb hX hbl hbA hS h1 dL_law_248 ?_
  refine cL_i (As := [.int (xs (x3 + 1).toNatClampNeg)]) (rest := []) (wr := wM ky am y) ⟨hx, hb, hml, hown, htL⟩ (cX_count l D ky ax _ x e1) (cwV 1 htL gL_law_X9_count rfl rfl rfl (by decide +kernel) ⟨(Nat.le_of_ble_eq_true rfl), (Nat.le_of_ble_eq_true rfl)⟩) (rcv hK.1 hP (ci := 9) (q0 := 0) rfl rfl) hP hD hK hS hA rfl rfl hl.1 (Nat.le_of_ble_eq_true rfl) dL_law_249 ⟨by show cells + 0 ≤ 600000; omega, by show slots + 0 ≤ 7302250; omega⟩ (fun H locs hP hD hS => ?_)
  refine lv_aload_n hx hb dL_law_252 rfl (lv_at hl 2 rfl) ?_
  refine lv_aload_n hx hb dL_law_253 rfl (lv_at hl 0 rfl) ?_
  refine lv_iload_n hx hb dL_law_254 rfl (lv_at hl 3 rfl) ?_
  refine lv_iconst (v := 1) hx hb dL_law_255 (by decide) ?_
  refine lv_iadd hx hb dL_law_256 ?_
  refine va_sld hx hb hX hbl hbA hS h1 dL_law_257 ?_
  refine cL_i (As := [.int (xs (x3 + 1).toNatClampNeg)]) (rest := [.int r]) (wr := wX ky ax x') ⟨hx, hb, hml, hown, htL⟩ (cM_count l D ky am _ y e2) (cwV 1 htL gL_law_X12_count rfl rfl rfl (by decide +kernel) ⟨(Nat.le_of_ble_eq_true rfl), (Nat.le_of_ble_eq_true rfl)⟩) (rcv hK.1 hP (ci := 12) (q0 := 0) rfl rfl) hP hD hK hS hA rfl rfl hl.1 (Nat.le_of_ble_eq_true rfl) dL_law_258 ⟨by show cells + 0 ≤ 600000; omega, by show slots + 0 ≤ 7302250; omega⟩ (fun H locs hP hD hS => ?_)
  refine lv_icmp_eq (tgt := 853) hx hb dL_law_261 (by decide) (fun _ => ?_) (fun hq => absurd rfl hq)
  refine W.widen (k := cells + 1) (n := slots + 240) (by omega) (by omega) ?_
  exact kk H locs hP hD hS

set_option maxHeartbeats 4000000 in
set_option maxRecDepth 100000 in
theorem lwo_4 (C0 : lw_At p s m meth c b L xs) (hK : Kx D ky s) (h1 : vp_in (x3 + 1) L) (h2 : vp_in (x3 + 2) L) (h3 : vp_in (x3 + 3) L) (h4 : vp_in (x3 + 4) L) {x x' : SX} {y y' : SM} {r : Int32} (e1 : stX_joint (xs (x3 + 1).toNatClampNeg) (xs (x3 + 2).toNatClampNeg) x = some (r, x')) (e2 : stM_joint (xs (x3 + 1).toNatClampNeg) (xs (x3 + 2).toNatClampNeg) y = some (r, y')) {H : Heap} {locs : List Loc} {cells slots : Nat} {ls : Array Slot} (hP : va_P D vwCl (wX ky ax x ++ wM ky am y) H) (hD : va_D (fun q : Nat => s.heap.size ≤ q) (wX ky ax x ++ wM ky am y)) (hS : va_S (fun q : Nat => s.heap.size ≤ q) s.heap H locs) (hl : lv_has ls 4 [(0, .ref b), (1, .ref (ax 0)), (2, .ref (am 0)), (3, .int x3)]) (hc : cells + 1 ≤ 600000) (hs : slots + 240 ≤ 7302250)
    (kk : ∀ (H : Heap) (locs : List Loc), va_P D vwCl (wX ky ax x' ++ wM ky am y') H → va_D (fun q : Nat => s.heap.size ≤ q) (wX ky ax x' ++ wM ky am y') → va_S (fun q : Nat => s.heap.size ≤ q) s.heap H locs → W p l e room_1 s m #[Value.ref b] below meth c H locs (cells + 1) (slots + 240) Q (F0 m 853 ls [])) : W p l e room_1 s m #[Value.ref b] below meth c H locs cells slots Q (F0 m 266 ls []) := by
  obtain ⟨hx, hb, hr, hml, hown, hts, hX, hbl, hlocks, hgv⟩ := id C0
  replace hown : s.vm.findClass RL = some m.cls := hown
  have hA : ∀ q : Nat, s.heap.size ≤ q → (fun q : Nat => s.heap.size ≤ q) q := fun _ h => h
  have hbA : ¬ (fun q : Nat => s.heap.size ≤ q) b := Nat.not_le.mpr hbl
  have htL : ∀ w ∈ wsL_law, w.before #[Value.ref b] s = true := fun w h => hts w (wsL_law_in w h)
  refine lv_aload_n hx hb dL_law_266 rfl (lv_at hl 1 rfl) ?_
  refine lv_aload_n hx hb dL_law_267 rfl (lv_at hl 0 rfl) ?_
  refine lv_iload_n hx hb dL_law_268 rfl (lv_at hl 3 rfl) ?_
  refine lv_iconst (v := 1) hx hb dL_law_269 (by decide) ?_
  refine lv_iadd hx hb dL_law_270 ?_
  refine va_sld hx hb hX hbl hbA hS h1 dL_law_271 ?_
  refine lv_aload_n hx hb dL_law_272 rfl (lv_at hl 0 rfl) ?_
  refine lv_iload_n hx hb dL_law_273 rfl (lv_at hl 3 rfl) ?_
  refine lv_iconst (v := 2) hx hb dL_law_274 (by decide) ?_
  refine lv_iadd hx hb dL_law_275 ?_
  refine va_sld hx hb hX hbl hbA hS h2 dL_law_276 ?_
  refine cL_i (As := [.int (xs (x3 + 1).toNatClampNeg), .int (xs (x3 + 2).toNatClampNeg)]) (rest := []) (wr := wM ky am y) ⟨hx, hb, hml, hown, htL⟩ (cX_joint l D ky ax _ _ x e1) (cwV 2 htL gL_law_X9_joint rfl rfl rfl (by decide +kernel) ⟨(Nat.le_of_ble_eq_true rfl), (Nat.le_of_ble_eq_true rfl)⟩) (rcv hK.1 hP (ci := 9) (q0 := 0) rfl rfl) hP hD hK hS hA rfl rfl hl.1 (Nat.le_of_ble_eq_true rfl) dL_law_277 ⟨by show cells + 0 ≤ 600000; omega, by show slots + 0 ≤ 7302250; omega⟩ (fun H locs hP hD hS => ?_)
  refine lv_aload_n hx hb dL_law_280 rfl (lv_at hl 2 rfl) ?_
  refine lv_aload_n hx hb dL_law_281 rfl (lv_at hl 0 rfl) ?_
  refine lv_iload_n hx hb dL_law_282 rfl (lv_at hl 3 rfl) ?_
  refine lv_iconst (v := 1) hx hb dL_law_283 (by decide) ?_
  refine lv_iadd hx hb dL_law_284 ?_
  refine va_sld hx hb hX hbl hbA hS h1 dL_law_285 ?_
  refine lv_aload_n hx hb dL_law_286 rfl (lv_at hl 0 rfl) ?_
  refine lv_iload_n hx hb dL_law_287 rfl (lv_at hl 3 rfl) ?_
  refine lv_iconst (v := 2) hx hb dL_law_288 (by decide) ?_
  refine lv_iadd hx hb dL_law_289 ?_
  refine va_sld hx hb hX hbl hbA hS h2 dL_law_290 ?_
  refine cL_i (As := [.int (xs (x3 + 1).toNatClampNeg), .int (xs (x3 + 2).toNatClampNeg)]) (rest := [.int r]) (wr := wX ky ax x') ⟨hx, hb, hml, hown, htL⟩ (cM_joint l D ky am _ _ y e2) (cwV 2 htL gL_law_X12_joint rfl rfl rfl (by decide +kernel) ⟨(Nat.le_of_ble_eq_true rfl), (Nat.le_of_ble_eq_true rfl)⟩) (rcv hK.1 hP (ci := 12) (q0 := 0) rfl rfl) hP hD hK hS hA rfl rfl hl.1 (Nat.le_of_ble_eq_true rfl) dL_law_291 ⟨by show cells + 0 ≤ 600000; omega, by show slots + 0 ≤ 7302250; omega⟩ (fun H locs hP hD hS => ?_)
  refine lv_icmp_eq (tgt := 853) hx hb dL_law_294 (by decide) (fun _ => ?_) (fun hq => absurd rfl hq)
  refine W.widen (k := cells + 1) (n := slots + 240) (by omega) (by omega) ?_
  exact kk H locs hP hD hS

set_option maxHeartbeats 4000000 in
set_option maxRecDepth 100000 in
theorem lwo_5 (C0 : lw_At p s m meth c b L xs) (hK : Kx D ky s) (h1 : vp_in (x3 + 1) L) (h2 : vp_in (x3 + 2) L) (h3 : vp_in (x3 + 3) L) (h4 : vp_in (x3 + 4) L) {x x' : SX} {y y' : SM} {r : Int32} (e1 : stX_piece (xs (x3 + 1).toNatClampNeg) (xs (x3 + 2).toNatClampNeg) x = some (r, x')) (e2 : stM_piece (xs (x3 + 1).toNatClampNeg) (xs (x3 + 2).toNatClampNeg) y = some (r, y')) {H : Heap} {locs : List Loc} {cells slots : Nat} {ls : Array Slot} (hP : va_P D vwCl (wX ky ax x ++ wM ky am y) H) (hD : va_D (fun q : Nat => s.heap.size ≤ q) (wX ky ax x ++ wM ky am y)) (hS : va_S (fun q : Nat => s.heap.size ≤ q) s.heap H locs) (hl : lv_has ls 4 [(0, .ref b), (1, .ref (ax 0)), (2, .ref (am 0)), (3, .int x3)]) (hc : cells + 1 ≤ 600000) (hs : slots + 240 ≤ 7302250)
    (kk : ∀ (H : Heap) (locs : List Loc), va_P D vwCl (wX ky ax x' ++ wM ky am y') H → va_D (fun q : Nat => s.heap.size ≤ q) (wX ky ax x' ++ wM ky am y') → va_S (fun q : Nat => s.heap.size ≤ q) s.heap H locs → W p l e room_1 s m #[Value.ref b] below meth c H locs (cells + 1) (slots + 240) Q (F0 m 853 ls [])) : W p l e room_1 s m #[Value.ref b] below meth c H locs cells slots Q (F0 m 299 ls []) := by
  obtain ⟨hx, hb, hr, hml, hown, hts, hX, hbl, hlocks, hgv⟩ := id C0
  replace hown : s.vm.findClass RL = some m.cls := hown
  have hA : ∀ q : Nat, s.heap.size ≤ q → (fun q : Nat => s.heap.size ≤ q) q := fun _ h => h
  have hbA : ¬ (fun q : Nat => s.heap.size ≤ q) b := Nat.not_le.mpr hbl
  have htL : ∀ w ∈ wsL_law, w.before #[Value.ref b] s = true := fun w h => hts w (wsL_law_in w h)
  refine lv_aload_n hx hb dL_law_299 rfl (lv_at hl 1 rfl) ?_
  refine lv_aload_n hx hb dL_law_300 rfl (lv_at hl 0 rfl) ?_
  refine lv_iload_n hx hb dL_law_301 rfl (lv_at hl 3 rfl) ?_
  refine lv_iconst (v := 1) hx hb dL_law_302 (by decide) ?_
  refine lv_iadd hx hb dL_law_303 ?_
  refine va_sld hx hb hX hbl hbA hS h1 dL_law_304 ?_
  refine lv_aload_n hx hb dL_law_305 rfl (lv_at hl 0 rfl) ?_
  refine lv_iload_n hx hb dL_law_306 rfl (lv_at hl 3 rfl) ?_
  refine lv_iconst (v := 2) hx hb dL_law_307 (by decide) ?_
  refine lv_iadd hx hb dL_law_308 ?_
  refine va_sld hx hb hX hbl hbA hS h2 dL_law_309 ?_
  refine cL_i (As := [.int (xs (x3 + 1).toNatClampNeg), .int (xs (x3 + 2).toNatClampNeg)]) (rest := []) (wr := wM ky am y) ⟨hx, hb, hml, hown, htL⟩ (cX_piece l D ky ax _ _ x e1) (cwV 2 htL gL_law_X9_piece rfl rfl rfl (by decide +kernel) ⟨(Nat.le_of_ble_eq_true rfl), (Nat.le_of_ble_eq_true rfl)⟩) (rcv hK.1 hP (ci := 9) (q0 := 0) rfl rfl) hP hD hK hS hA rfl rfl hl.1 (Nat.le_of_ble_eq_true rfl) dL_law_310 ⟨by show cells + 0 ≤ 600000; omega, by show slots + 0 ≤ 7302250; omega⟩ (fun H locs hP hD hS => ?_)
  refine lv_aload_n hx hb dL_law_313 rfl (lv_at hl 2 rfl) ?_
  refine lv_aload_n hx hb dL_law_314 rfl (lv_at hl 0 rfl) ?_
  refine lv_iload_n hx hb dL_law_315 rfl (lv_at hl 3 rfl) ?_
  refine lv_iconst (v := 1) hx hb dL_law_316 (by decide) ?_
  refine lv_iadd hx hb dL_law_317 ?_
  refine va_sld hx hb hX hbl hbA hS h1 dL_law_318 ?_
  refine lv_aload_n hx hb dL_law_319 rfl (lv_at hl 0 rfl) ?_
  refine lv_iload_n hx hb dL_law_320 rfl (lv_at hl 3 rfl) ?_
  refine lv_iconst (v := 2) hx hb dL_law_321 (by decide) ?_
  refine lv_iadd hx hb dL_law_322 ?_
  refine va_sld hx hb hX hbl hbA hS h2 dL_law_323 ?_
  refine cL_i (As := [.int (xs (x3 + 1).toNatClampNeg), .int (xs (x3 + 2).toNatClampNeg)]) (rest := [.int r]) (wr := wX ky ax x') ⟨hx, hb, hml, hown, htL⟩ (cM_piece l D ky am _ _ y e2) (cwV 2 htL gL_law_X12_piece rfl rfl rfl (by decide +kernel) ⟨(Nat.le_of_ble_eq_true rfl), (Nat.le_of_ble_eq_true rfl)⟩) (rcv hK.1 hP (ci := 12) (q0 := 0) rfl rfl) hP hD hK hS hA rfl rfl hl.1 (Nat.le_of_ble_eq_true rfl) dL_law_324 ⟨by show cells + 0 ≤ 600000; omega, by show slots + 0 ≤ 7302250; omega⟩ (fun H locs hP hD hS => ?_)
  refine lv_icmp_eq (tgt := 853) hx hb dL_law_327 (by decide) (fun _ => ?_) (fun hq => absurd rfl hq)
  refine W.widen (k := cells + 1) (n := slots + 240) (by omega) (by omega) ?_
  exact kk H locs hP hD hS

set_option maxHeartbeats 4000000 in
set_option maxRecDepth 100000 in
theorem lwo_6 (C0 : lw_At p s m meth c b L xs) (hK : Kx D ky s) (h1 : vp_in (x3 + 1) L) (h2 : vp_in (x3 + 2) L) (h3 : vp_in (x3 + 3) L) (h4 : vp_in (x3 + 4) L) {x x' : SX} {y y' : SM} {r : Int32} (e1 : stX_corner (xs (x3 + 1).toNatClampNeg) (xs (x3 + 2).toNatClampNeg) x = some (r, x')) (e2 : stM_corner (xs (x3 + 1).toNatClampNeg) (xs (x3 + 2).toNatClampNeg) y = some (r, y')) {H : Heap} {locs : List Loc} {cells slots : Nat} {ls : Array Slot} (hP : va_P D vwCl (wX ky ax x ++ wM ky am y) H) (hD : va_D (fun q : Nat => s.heap.size ≤ q) (wX ky ax x ++ wM ky am y)) (hS : va_S (fun q : Nat => s.heap.size ≤ q) s.heap H locs) (hl : lv_has ls 4 [(0, .ref b), (1, .ref (ax 0)), (2, .ref (am 0)), (3, .int x3)]) (hc : cells + 1 ≤ 600000) (hs : slots + 240 ≤ 7302250)
    (kk : ∀ (H : Heap) (locs : List Loc), va_P D vwCl (wX ky ax x' ++ wM ky am y') H → va_D (fun q : Nat => s.heap.size ≤ q) (wX ky ax x' ++ wM ky am y') → va_S (fun q : Nat => s.heap.size ≤ q) s.heap H locs → W p l e room_1 s m #[Value.ref b] below meth c H locs (cells + 1) (slots + 240) Q (F0 m 853 ls [])) : W p l e room_1 s m #[Value.ref b] below meth c H locs cells slots Q (F0 m 332 ls []) := by
  obtain ⟨hx, hb, hr, hml, hown, hts, hX, hbl, hlocks, hgv⟩ := id C0
  replace hown : s.vm.findClass RL = some m.cls := hown
  have hA : ∀ q : Nat, s.heap.size ≤ q → (fun q : Nat => s.heap.size ≤ q) q := fun _ h => h
  have hbA : ¬ (fun q : Nat => s.heap.size ≤ q) b := Nat.not_le.mpr hbl
  have htL : ∀ w ∈ wsL_law, w.before #[Value.ref b] s = true := fun w h => hts w (wsL_law_in w h)
  refine lv_aload_n hx hb dL_law_332 rfl (lv_at hl 1 rfl) ?_
  refine lv_aload_n hx hb dL_law_333 rfl (lv_at hl 0 rfl) ?_
  refine lv_iload_n hx hb dL_law_334 rfl (lv_at hl 3 rfl) ?_
  refine lv_iconst (v := 1) hx hb dL_law_335 (by decide) ?_
  refine lv_iadd hx hb dL_law_336 ?_
  refine va_sld hx hb hX hbl hbA hS h1 dL_law_337 ?_
  refine lv_aload_n hx hb dL_law_338 rfl (lv_at hl 0 rfl) ?_
  refine lv_iload_n hx hb dL_law_339 rfl (lv_at hl 3 rfl) ?_
  refine lv_iconst (v := 2) hx hb dL_law_340 (by decide) ?_
  refine lv_iadd hx hb dL_law_341 ?_
  refine va_sld hx hb hX hbl hbA hS h2 dL_law_342 ?_
  refine cL_i (As := [.int (xs (x3 + 1).toNatClampNeg), .int (xs (x3 + 2).toNatClampNeg)]) (rest := []) (wr := wM ky am y) ⟨hx, hb, hml, hown, htL⟩ (cX_corner l D ky ax _ _ x e1) (cwV 2 htL gL_law_X9_corner rfl rfl rfl (by decide +kernel) ⟨(Nat.le_of_ble_eq_true rfl), (Nat.le_of_ble_eq_true rfl)⟩) (rcv hK.1 hP (ci := 9) (q0 := 0) rfl rfl) hP hD hK hS hA rfl rfl hl.1 (Nat.le_of_ble_eq_true rfl) dL_law_343 ⟨by show cells + 0 ≤ 600000; omega, by show slots + 0 ≤ 7302250; omega⟩ (fun H locs hP hD hS => ?_)
  refine lv_aload_n hx hb dL_law_346 rfl (lv_at hl 2 rfl) ?_
  refine lv_aload_n hx hb dL_law_347 rfl (lv_at hl 0 rfl) ?_
  refine lv_iload_n hx hb dL_law_348 rfl (lv_at hl 3 rfl) ?_
  refine lv_iconst (v := 1) hx hb dL_law_349 (by decide) ?_
  refine lv_iadd hx hb dL_law_350 ?_
  refine va_sld hx hb hX hbl hbA hS h1 dL_law_351 ?_
  refine lv_aload_n hx hb dL_law_352 rfl (lv_at hl 0 rfl) ?_
  refine lv_iload_n hx hb dL_law_353 rfl (lv_at hl 3 rfl) ?_
  refine lv_iconst (v := 2) hx hb dL_law_354 (by decide) ?_
  refine lv_iadd hx hb dL_law_355 ?_
  refine va_sld hx hb hX hbl hbA hS h2 dL_law_356 ?_
  refine cL_i (As := [.int (xs (x3 + 1).toNatClampNeg), .int (xs (x3 + 2).toNatClampNeg)]) (rest := [.int r]) (wr := wX ky ax x') ⟨hx, hb, hml, hown, htL⟩ (cM_corner l D ky am _ _ y e2) (cwV 2 htL gL_law_X12_corner rfl rfl rfl (by decide +kernel) ⟨(Nat.le_of_ble_eq_true rfl), (Nat.le_of_ble_eq_true rfl)⟩) (rcv hK.1 hP (ci := 12) (q0 := 0) rfl rfl) hP hD hK hS hA rfl rfl hl.1 (Nat.le_of_ble_eq_true rfl) dL_law_357 ⟨by show cells + 0 ≤ 600000; omega, by show slots + 0 ≤ 7302250; omega⟩ (fun H locs hP hD hS => ?_)
  refine lv_icmp_eq (tgt := 853) hx hb dL_law_360 (by decide) (fun _ => ?_) (fun hq => absurd rfl hq)
  refine W.widen (k := cells + 1) (n := slots + 240) (by omega) (by omega) ?_
  exact kk H locs hP hD hS

set_option maxHeartbeats 4000000 in
set_option maxRecDepth 100000 in
theorem lwo_7 (C0 : lw_At p s m meth c b L xs) (hK : Kx D ky s) (h1 : vp_in (x3 + 1) L) (h2 : vp_in (x3 + 2) L) (h3 : vp_in (x3 + 3) L) (h4 : vp_in (x3 + 4) L) {x x' : SX} {y y' : SM} {r : Int32} (e1 : stX_pane (xs (x3 + 1).toNatClampNeg) (xs (x3 + 2).toNatClampNeg) x = some (r, x')) (e2 : stM_pane (xs (x3 + 1).toNatClampNeg) (xs (x3 + 2).toNatClampNeg) y = some (r, y')) {H : Heap} {locs : List Loc} {cells slots : Nat} {ls : Array Slot} (hP : va_P D vwCl (wX ky ax x ++ wM ky am y) H) (hD : va_D (fun q : Nat => s.heap.size ≤ q) (wX ky ax x ++ wM ky am y)) (hS : va_S (fun q : Nat => s.heap.size ≤ q) s.heap H locs) (hl : lv_has ls 4 [(0, .ref b), (1, .ref (ax 0)), (2, .ref (am 0)), (3, .int x3)]) (hc : cells + 1 ≤ 600000) (hs : slots + 240 ≤ 7302250)
    (kk : ∀ (H : Heap) (locs : List Loc), va_P D vwCl (wX ky ax x' ++ wM ky am y') H → va_D (fun q : Nat => s.heap.size ≤ q) (wX ky ax x' ++ wM ky am y') → va_S (fun q : Nat => s.heap.size ≤ q) s.heap H locs → W p l e room_1 s m #[Value.ref b] below meth c H locs (cells + 1) (slots + 240) Q (F0 m 853 ls [])) : W p l e room_1 s m #[Value.ref b] below meth c H locs cells slots Q (F0 m 365 ls []) := by
  obtain ⟨hx, hb, hr, hml, hown, hts, hX, hbl, hlocks, hgv⟩ := id C0
  replace hown : s.vm.findClass RL = some m.cls := hown
  have hA : ∀ q : Nat, s.heap.size ≤ q → (fun q : Nat => s.heap.size ≤ q) q := fun _ h => h
  have hbA : ¬ (fun q : Nat => s.heap.size ≤ q) b := Nat.not_le.mpr hbl
  have htL : ∀ w ∈ wsL_law, w.before #[Value.ref b] s = true := fun w h => hts w (wsL_law_in w h)
  refine lv_aload_n hx hb dL_law_365 rfl (lv_at hl 1 rfl) ?_
  refine lv_aload_n hx hb dL_law_366 rfl (lv_at hl 0 rfl) ?_
  refine lv_iload_n hx hb dL_law_367 rfl (lv_at hl 3 rfl) ?_
  refine lv_iconst (v := 1) hx hb dL_law_368 (by decide) ?_
  refine lv_iadd hx hb dL_law_369 ?_
  refine va_sld hx hb hX hbl hbA hS h1 dL_law_370 ?_
  refine lv_aload_n hx hb dL_law_371 rfl (lv_at hl 0 rfl) ?_
  refine lv_iload_n hx hb dL_law_372 rfl (lv_at hl 3 rfl) ?_
  refine lv_iconst (v := 2) hx hb dL_law_373 (by decide) ?_
  refine lv_iadd hx hb dL_law_374 ?_
  refine va_sld hx hb hX hbl hbA hS h2 dL_law_375 ?_
  refine cL_i (As := [.int (xs (x3 + 1).toNatClampNeg), .int (xs (x3 + 2).toNatClampNeg)]) (rest := []) (wr := wM ky am y) ⟨hx, hb, hml, hown, htL⟩ (cX_pane l D ky ax _ _ x e1) (cwV 2 htL gL_law_X9_pane rfl rfl rfl (by decide +kernel) ⟨(Nat.le_of_ble_eq_true rfl), (Nat.le_of_ble_eq_true rfl)⟩) (rcv hK.1 hP (ci := 9) (q0 := 0) rfl rfl) hP hD hK hS hA rfl rfl hl.1 (Nat.le_of_ble_eq_true rfl) dL_law_376 ⟨by show cells + 0 ≤ 600000; omega, by show slots + 0 ≤ 7302250; omega⟩ (fun H locs hP hD hS => ?_)
  refine lv_aload_n hx hb dL_law_379 rfl (lv_at hl 2 rfl) ?_
  refine lv_aload_n hx hb dL_law_380 rfl (lv_at hl 0 rfl) ?_
  refine lv_iload_n hx hb dL_law_381 rfl (lv_at hl 3 rfl) ?_
  refine lv_iconst (v := 1) hx hb dL_law_382 (by decide) ?_
  refine lv_iadd hx hb dL_law_383 ?_
  refine va_sld hx hb hX hbl hbA hS h1 dL_law_384 ?_
  refine lv_aload_n hx hb dL_law_385 rfl (lv_at hl 0 rfl) ?_
  refine lv_iload_n hx hb dL_law_386 rfl (lv_at hl 3 rfl) ?_
  refine lv_iconst (v := 2) hx hb dL_law_387 (by decide) ?_
  refine lv_iadd hx hb dL_law_388 ?_
  refine va_sld hx hb hX hbl hbA hS h2 dL_law_389 ?_
  refine cL_i (As := [.int (xs (x3 + 1).toNatClampNeg), .int (xs (x3 + 2).toNatClampNeg)]) (rest := [.int r]) (wr := wX ky ax x') ⟨hx, hb, hml, hown, htL⟩ (cM_pane l D ky am _ _ y e2) (cwV 2 htL gL_law_X12_pane rfl rfl rfl (by decide +kernel) ⟨(Nat.le_of_ble_eq_true rfl), (Nat.le_of_ble_eq_true rfl)⟩) (rcv hK.1 hP (ci := 12) (q0 := 0) rfl rfl) hP hD hK hS hA rfl rfl hl.1 (Nat.le_of_ble_eq_true rfl) dL_law_390 ⟨by show cells + 0 ≤ 600000; omega, by show slots + 0 ≤ 7302250; omega⟩ (fun H locs hP hD hS => ?_)
  refine lv_icmp_eq (tgt := 853) hx hb dL_law_393 (by decide) (fun _ => ?_) (fun hq => absurd rfl hq)
  refine W.widen (k := cells + 1) (n := slots + 240) (by omega) (by omega) ?_
  exact kk H locs hP hD hS

set_option maxHeartbeats 4000000 in
set_option maxRecDepth 100000 in
theorem lwo_8 (C0 : lw_At p s m meth c b L xs) (hK : Kx D ky s) (h1 : vp_in (x3 + 1) L) (h2 : vp_in (x3 + 2) L) (h3 : vp_in (x3 + 3) L) (h4 : vp_in (x3 + 4) L) {x x' : SX} {y y' : SM} {r : Int64} (e1 : stX_area (xs (x3 + 1).toNatClampNeg) x = some (r, x')) (e2 : stM_area (xs (x3 + 1).toNatClampNeg) y = some (r, y')) {H : Heap} {locs : List Loc} {cells slots : Nat} {ls : Array Slot} (hP : va_P D vwCl (wX ky ax x ++ wM ky am y) H) (hD : va_D (fun q : Nat => s.heap.size ≤ q) (wX ky ax x ++ wM ky am y)) (hS : va_S (fun q : Nat => s.heap.size ≤ q) s.heap H locs) (hl : lv_has ls 4 [(0, .ref b), (1, .ref (ax 0)), (2, .ref (am 0)), (3, .int x3)]) (hc : cells + 1 ≤ 600000) (hs : slots + 240 ≤ 7302250)
    (kk : ∀ (H : Heap) (locs : List Loc), va_P D vwCl (wX ky ax x' ++ wM ky am y') H → va_D (fun q : Nat => s.heap.size ≤ q) (wX ky ax x' ++ wM ky am y') → va_S (fun q : Nat => s.heap.size ≤ q) s.heap H locs → W p l e room_1 s m #[Value.ref b] below meth c H locs (cells + 1) (slots + 240) Q (F0 m 853 ls [])) : W p l e room_1 s m #[Value.ref b] below meth c H locs cells slots Q (F0 m 398 ls []) := by
  obtain ⟨hx, hb, hr, hml, hown, hts, hX, hbl, hlocks, hgv⟩ := id C0
  replace hown : s.vm.findClass RL = some m.cls := hown
  have hA : ∀ q : Nat, s.heap.size ≤ q → (fun q : Nat => s.heap.size ≤ q) q := fun _ h => h
  have hbA : ¬ (fun q : Nat => s.heap.size ≤ q) b := Nat.not_le.mpr hbl
  have htL : ∀ w ∈ wsL_law, w.before #[Value.ref b] s = true := fun w h => hts w (wsL_law_in w h)
  refine lv_aload_n hx hb dL_law_398 rfl (lv_at hl 1 rfl) ?_
  refine lv_aload_n hx hb dL_law_399 rfl (lv_at hl 0 rfl) ?_
  refine lv_iload_n hx hb dL_law_400 rfl (lv_at hl 3 rfl) ?_
  refine lv_iconst (v := 1) hx hb dL_law_401 (by decide) ?_
  refine lv_iadd hx hb dL_law_402 ?_
  refine va_sld hx hb hX hbl hbA hS h1 dL_law_403 ?_
  refine cL_l (As := [.int (xs (x3 + 1).toNatClampNeg)]) (rest := []) (wr := wM ky am y) ⟨hx, hb, hml, hown, htL⟩ (cX_area l D ky ax _ x e1) (cwV 1 htL gL_law_X9_area rfl rfl rfl (by decide +kernel) ⟨(Nat.le_of_ble_eq_true rfl), (Nat.le_of_ble_eq_true rfl)⟩) (rcv hK.1 hP (ci := 9) (q0 := 0) rfl rfl) hP hD hK hS hA rfl rfl hl.1 (Nat.le_of_ble_eq_true rfl) dL_law_404 ⟨by show cells + 0 ≤ 600000; omega, by show slots + 0 ≤ 7302250; omega⟩ (fun H locs hP hD hS => ?_)
  refine lv_aload_n hx hb dL_law_407 rfl (lv_at hl 2 rfl) ?_
  refine lv_aload_n hx hb dL_law_408 rfl (lv_at hl 0 rfl) ?_
  refine lv_iload_n hx hb dL_law_409 rfl (lv_at hl 3 rfl) ?_
  refine lv_iconst (v := 1) hx hb dL_law_410 (by decide) ?_
  refine lv_iadd hx hb dL_law_411 ?_
  refine va_sld hx hb hX hbl hbA hS h1 dL_law_412 ?_
  refine cL_l (As := [.int (xs (x3 + 1).toNatClampNeg)]) (rest := [.long r]) (wr := wX ky ax x') ⟨hx, hb, hml, hown, htL⟩ (cM_area l D ky am _ y e2) (cwV 1 htL gL_law_X12_area rfl rfl rfl (by decide +kernel) ⟨(Nat.le_of_ble_eq_true rfl), (Nat.le_of_ble_eq_true rfl)⟩) (rcv hK.1 hP (ci := 12) (q0 := 0) rfl rfl) hP hD hK hS hA rfl rfl hl.1 (Nat.le_of_ble_eq_true rfl) dL_law_413 ⟨by show cells + 0 ≤ 600000; omega, by show slots + 0 ≤ 7302250; omega⟩ (fun H locs hP hD hS => ?_)
  refine W.lcmp hx hb dL_law_416 ?_
  refine lv_if_eq (tgt := 853) hx hb dL_law_417 (by decide) (fun _ => ?_) (fun hq => absurd (lg_cmp_self r) hq)
  refine W.widen (k := cells + 1) (n := slots + 240) (by omega) (by omega) ?_
  exact kk H locs hP hD hS

set_option maxHeartbeats 4000000 in
set_option maxRecDepth 100000 in
theorem lwo_9 (C0 : lw_At p s m meth c b L xs) (hK : Kx D ky s) (h1 : vp_in (x3 + 1) L) (h2 : vp_in (x3 + 2) L) (h3 : vp_in (x3 + 3) L) (h4 : vp_in (x3 + 4) L) {x x' : SX} {y y' : SM} {r : Int32} (e1 : stX_touch (xs (x3 + 1).toNatClampNeg) (xs (x3 + 2).toNatClampNeg) x = some (r, x')) (e2 : stM_touch (xs (x3 + 1).toNatClampNeg) (xs (x3 + 2).toNatClampNeg) y = some (r, y')) {H : Heap} {locs : List Loc} {cells slots : Nat} {ls : Array Slot} (hP : va_P D vwCl (wX ky ax x ++ wM ky am y) H) (hD : va_D (fun q : Nat => s.heap.size ≤ q) (wX ky ax x ++ wM ky am y)) (hS : va_S (fun q : Nat => s.heap.size ≤ q) s.heap H locs) (hl : lv_has ls 4 [(0, .ref b), (1, .ref (ax 0)), (2, .ref (am 0)), (3, .int x3)]) (hc : cells + 1 ≤ 600000) (hs : slots + 240 ≤ 7302250)
    (kk : ∀ (H : Heap) (locs : List Loc), va_P D vwCl (wX ky ax x' ++ wM ky am y') H → va_D (fun q : Nat => s.heap.size ≤ q) (wX ky ax x' ++ wM ky am y') → va_S (fun q : Nat => s.heap.size ≤ q) s.heap H locs → W p l e room_1 s m #[Value.ref b] below meth c H locs (cells + 1) (slots + 240) Q (F0 m 853 ls [])) : W p l e room_1 s m #[Value.ref b] below meth c H locs cells slots Q (F0 m 422 ls []) := by
  obtain ⟨hx, hb, hr, hml, hown, hts, hX, hbl, hlocks, hgv⟩ := id C0
  replace hown : s.vm.findClass RL = some m.cls := hown
  have hA : ∀ q : Nat, s.heap.size ≤ q → (fun q : Nat => s.heap.size ≤ q) q := fun _ h => h
  have hbA : ¬ (fun q : Nat => s.heap.size ≤ q) b := Nat.not_le.mpr hbl
  have htL : ∀ w ∈ wsL_law, w.before #[Value.ref b] s = true := fun w h => hts w (wsL_law_in w h)
  refine lv_aload_n hx hb dL_law_422 rfl (lv_at hl 1 rfl) ?_
  refine lv_aload_n hx hb dL_law_423 rfl (lv_at hl 0 rfl) ?_
  refine lv_iload_n hx hb dL_law_424 rfl (lv_at hl 3 rfl) ?_
  refine lv_iconst (v := 1) hx hb dL_law_425 (by decide) ?_
  refine lv_iadd hx hb dL_law_426 ?_
  refine va_sld hx hb hX hbl hbA hS h1 dL_law_427 ?_
  refine lv_aload_n hx hb dL_law_428 rfl (lv_at hl 0 rfl) ?_
  refine lv_iload_n hx hb dL_law_429 rfl (lv_at hl 3 rfl) ?_
  refine lv_iconst (v := 2) hx hb dL_law_430 (by decide) ?_
  refine lv_iadd hx hb dL_law_431 ?_
  refine va_sld hx hb hX hbl hbA hS h2 dL_law_432 ?_
  refine cL_i (As := [.int (xs (x3 + 1).toNatClampNeg), .int (xs (x3 + 2).toNatClampNeg)]) (rest := []) (wr := wM ky am y) ⟨hx, hb, hml, hown, htL⟩ (cX_touch l D ky ax _ _ x e1) (cwV 2 htL gL_law_X9_touch rfl rfl rfl (by decide +kernel) ⟨(Nat.le_of_ble_eq_true rfl), (Nat.le_of_ble_eq_true rfl)⟩) (rcv hK.1 hP (ci := 9) (q0 := 0) rfl rfl) hP hD hK hS hA rfl rfl hl.1 (Nat.le_of_ble_eq_true rfl) dL_law_433 ⟨by show cells + 0 ≤ 600000; omega, by show slots + 0 ≤ 7302250; omega⟩ (fun H locs hP hD hS => ?_)
  refine lv_aload_n hx hb dL_law_436 rfl (lv_at hl 2 rfl) ?_
  refine lv_aload_n hx hb dL_law_437 rfl (lv_at hl 0 rfl) ?_
  refine lv_iload_n hx hb dL_law_438 rfl (lv_at hl 3 rfl) ?_
  refine lv_iconst (v := 1) hx hb dL_law_439 (by decide) ?_
  refine lv_iadd hx hb dL_law_440 ?_
  refine va_sld hx hb hX hbl hbA hS h1 dL_law_441 ?_
  refine lv_aload_n hx hb dL_law_442 rfl (lv_at hl 0 rfl) ?_
  refine lv_iload_n hx hb dL_law_443 rfl (lv_at hl 3 rfl) ?_
  refine lv_iconst (v := 2) hx hb dL_law_444 (by decide) ?_
  refine lv_iadd hx hb dL_law_445 ?_
  refine va_sld hx hb hX hbl hbA hS h2 dL_law_446 ?_
  refine cL_i (As := [.int (xs (x3 + 1).toNatClampNeg), .int (xs (x3 + 2).toNatClampNeg)]) (rest := [.int r]) (wr := wX ky ax x') ⟨hx, hb, hml, hown, htL⟩ (cM_touch l D ky am _ _ y e2) (cwV 2 htL gL_law_X12_touch rfl rfl rfl (by decide +kernel) ⟨(Nat.le_of_ble_eq_true rfl), (Nat.le_of_ble_eq_true rfl)⟩) (rcv hK.1 hP (ci := 12) (q0 := 0) rfl rfl) hP hD hK hS hA rfl rfl hl.1 (Nat.le_of_ble_eq_true rfl) dL_law_447 ⟨by show cells + 0 ≤ 600000; omega, by show slots + 0 ≤ 7302250; omega⟩ (fun H locs hP hD hS => ?_)
  refine lv_icmp_eq (tgt := 853) hx hb dL_law_450 (by decide) (fun _ => ?_) (fun hq => absurd rfl hq)
  refine W.widen (k := cells + 1) (n := slots + 240) (by omega) (by omega) ?_
  exact kk H locs hP hD hS

set_option maxHeartbeats 4000000 in
set_option maxRecDepth 100000 in
theorem lwo_10 (C0 : lw_At p s m meth c b L xs) (hK : Kx D ky s) (h1 : vp_in (x3 + 1) L) (h2 : vp_in (x3 + 2) L) (h3 : vp_in (x3 + 3) L) (h4 : vp_in (x3 + 4) L) {x x' : SX} {y y' : SM} {r : Int32} (e1 : stX_at (xs (x3 + 1).toNatClampNeg) (xs (x3 + 2).toNatClampNeg) x = some (r, x')) (e2 : stM_at (xs (x3 + 1).toNatClampNeg) (xs (x3 + 2).toNatClampNeg) y = some (r, y')) {H : Heap} {locs : List Loc} {cells slots : Nat} {ls : Array Slot} (hP : va_P D vwCl (wX ky ax x ++ wM ky am y) H) (hD : va_D (fun q : Nat => s.heap.size ≤ q) (wX ky ax x ++ wM ky am y)) (hS : va_S (fun q : Nat => s.heap.size ≤ q) s.heap H locs) (hl : lv_has ls 4 [(0, .ref b), (1, .ref (ax 0)), (2, .ref (am 0)), (3, .int x3)]) (hc : cells + 1 ≤ 600000) (hs : slots + 240 ≤ 7302250)
    (kk : ∀ (H : Heap) (locs : List Loc), va_P D vwCl (wX ky ax x' ++ wM ky am y') H → va_D (fun q : Nat => s.heap.size ≤ q) (wX ky ax x' ++ wM ky am y') → va_S (fun q : Nat => s.heap.size ≤ q) s.heap H locs → W p l e room_1 s m #[Value.ref b] below meth c H locs (cells + 1) (slots + 240) Q (F0 m 853 ls [])) : W p l e room_1 s m #[Value.ref b] below meth c H locs cells slots Q (F0 m 455 ls []) := by
  obtain ⟨hx, hb, hr, hml, hown, hts, hX, hbl, hlocks, hgv⟩ := id C0
  replace hown : s.vm.findClass RL = some m.cls := hown
  have hA : ∀ q : Nat, s.heap.size ≤ q → (fun q : Nat => s.heap.size ≤ q) q := fun _ h => h
  have hbA : ¬ (fun q : Nat => s.heap.size ≤ q) b := Nat.not_le.mpr hbl
  have htL : ∀ w ∈ wsL_law, w.before #[Value.ref b] s = true := fun w h => hts w (wsL_law_in w h)
  refine lv_aload_n hx hb dL_law_455 rfl (lv_at hl 1 rfl) ?_
  refine lv_aload_n hx hb dL_law_456 rfl (lv_at hl 0 rfl) ?_
  refine lv_iload_n hx hb dL_law_457 rfl (lv_at hl 3 rfl) ?_
  refine lv_iconst (v := 1) hx hb dL_law_458 (by decide) ?_
  refine lv_iadd hx hb dL_law_459 ?_
  refine va_sld hx hb hX hbl hbA hS h1 dL_law_460 ?_
  refine lv_aload_n hx hb dL_law_461 rfl (lv_at hl 0 rfl) ?_
  refine lv_iload_n hx hb dL_law_462 rfl (lv_at hl 3 rfl) ?_
  refine lv_iconst (v := 2) hx hb dL_law_463 (by decide) ?_
  refine lv_iadd hx hb dL_law_464 ?_
  refine va_sld hx hb hX hbl hbA hS h2 dL_law_465 ?_
  refine cL_i (As := [.int (xs (x3 + 1).toNatClampNeg), .int (xs (x3 + 2).toNatClampNeg)]) (rest := []) (wr := wM ky am y) ⟨hx, hb, hml, hown, htL⟩ (cX_at l D ky ax _ _ x e1) (cwV 2 htL gL_law_X9_at rfl rfl rfl (by decide +kernel) ⟨(Nat.le_of_ble_eq_true rfl), (Nat.le_of_ble_eq_true rfl)⟩) (rcv hK.1 hP (ci := 9) (q0 := 0) rfl rfl) hP hD hK hS hA rfl rfl hl.1 (Nat.le_of_ble_eq_true rfl) dL_law_466 ⟨by show cells + 0 ≤ 600000; omega, by show slots + 0 ≤ 7302250; omega⟩ (fun H locs hP hD hS => ?_)
  refine lv_aload_n hx hb dL_law_469 rfl (lv_at hl 2 rfl) ?_
  refine lv_aload_n hx hb dL_law_470 rfl (lv_at hl 0 rfl) ?_
  refine lv_iload_n hx hb dL_law_471 rfl (lv_at hl 3 rfl) ?_
  refine lv_iconst (v := 1) hx hb dL_law_472 (by decide) ?_
  refine lv_iadd hx hb dL_law_473 ?_
  refine va_sld hx hb hX hbl hbA hS h1 dL_law_474 ?_
  refine lv_aload_n hx hb dL_law_475 rfl (lv_at hl 0 rfl) ?_
  refine lv_iload_n hx hb dL_law_476 rfl (lv_at hl 3 rfl) ?_
  refine lv_iconst (v := 2) hx hb dL_law_477 (by decide) ?_
  refine lv_iadd hx hb dL_law_478 ?_
  refine va_sld hx hb hX hbl hbA hS h2 dL_law_479 ?_
  refine cL_i (As := [.int (xs (x3 + 1).toNatClampNeg), .int (xs (x3 + 2).toNatClampNeg)]) (rest := [.int r]) (wr := wX ky ax x') ⟨hx, hb, hml, hown, htL⟩ (cM_at l D ky am _ _ y e2) (cwV 2 htL gL_law_X12_at rfl rfl rfl (by decide +kernel) ⟨(Nat.le_of_ble_eq_true rfl), (Nat.le_of_ble_eq_true rfl)⟩) (rcv hK.1 hP (ci := 12) (q0 := 0) rfl rfl) hP hD hK hS hA rfl rfl hl.1 (Nat.le_of_ble_eq_true rfl) dL_law_480 ⟨by show cells + 0 ≤ 600000; omega, by show slots + 0 ≤ 7302250; omega⟩ (fun H locs hP hD hS => ?_)
  refine lv_icmp_eq (tgt := 853) hx hb dL_law_483 (by decide) (fun _ => ?_) (fun hq => absurd rfl hq)
  refine W.widen (k := cells + 1) (n := slots + 240) (by omega) (by omega) ?_
  exact kk H locs hP hD hS

set_option maxHeartbeats 4000000 in
set_option maxRecDepth 100000 in
theorem lwo_11 (C0 : lw_At p s m meth c b L xs) (hK : Kx D ky s) (h1 : vp_in (x3 + 1) L) (h2 : vp_in (x3 + 2) L) (h3 : vp_in (x3 + 3) L) (h4 : vp_in (x3 + 4) L) {x x' : SX} {y y' : SM} {r : Int32} (e1 : stX_glass (xs (x3 + 1).toNatClampNeg) (xs (x3 + 2).toNatClampNeg) (xs (x3 + 3).toNatClampNeg) x = some (r, x')) (e2 : stM_glass (xs (x3 + 1).toNatClampNeg) (xs (x3 + 2).toNatClampNeg) (xs (x3 + 3).toNatClampNeg) y = some (r, y')) {H : Heap} {locs : List Loc} {cells slots : Nat} {ls : Array Slot} (hP : va_P D vwCl (wX ky ax x ++ wM ky am y) H) (hD : va_D (fun q : Nat => s.heap.size ≤ q) (wX ky ax x ++ wM ky am y)) (hS : va_S (fun q : Nat => s.heap.size ≤ q) s.heap H locs) (hl : lv_has ls 4 [(0, .ref b), (1, .ref (ax 0)), (2, .ref (am 0)), (3, .int x3)]) (hc : cells + 1 ≤ 600000) (hs : slots + 240 ≤ 7302250)
    (kk : ∀ (H : Heap) (locs : List Loc), va_P D vwCl (wX ky ax x' ++ wM ky am y') H → va_D (fun q : Nat => s.heap.size ≤ q) (wX ky ax x' ++ wM ky am y') → va_S (fun q : Nat => s.heap.size ≤ q) s.heap H locs → W p l e room_1 s m #[Value.ref b] below meth c H locs (cells + 1) (slots + 240) Q (F0 m 853 ls [])) : W p l e room_1 s m #[Value.ref b] below meth c H locs cells slots Q (F0 m 488 ls []) := by
  obtain ⟨hx, hb, hr, hml, hown, hts, hX, hbl, hlocks, hgv⟩ := id C0
  replace hown : s.vm.findClass RL = some m.cls := hown
  have hA : ∀ q : Nat, s.heap.size ≤ q → (fun q : Nat => s.heap.size ≤ q) q := fun _ h => h
  have hbA : ¬ (fun q : Nat => s.heap.size ≤ q) b := Nat.not_le.mpr hbl
  have htL : ∀ w ∈ wsL_law, w.before #[Value.ref b] s = true := fun w h => hts w (wsL_law_in w h)
  refine lv_aload_n hx hb dL_law_488 rfl (lv_at hl 1 rfl) ?_
  refine lv_aload_n hx hb dL_law_489 rfl (lv_at hl 0 rfl) ?_
  refine lv_iload_n hx hb dL_law_490 rfl (lv_at hl 3 rfl) ?_
  refine lv_iconst (v := 1) hx hb dL_law_491 (by decide) ?_
  refine lv_iadd hx hb dL_law_492 ?_
  refine va_sld hx hb hX hbl hbA hS h1 dL_law_493 ?_
  refine lv_aload_n hx hb dL_law_494 rfl (lv_at hl 0 rfl) ?_
  refine lv_iload_n hx hb dL_law_495 rfl (lv_at hl 3 rfl) ?_
  refine lv_iconst (v := 2) hx hb dL_law_496 (by decide) ?_
  refine lv_iadd hx hb dL_law_497 ?_
  refine va_sld hx hb hX hbl hbA hS h2 dL_law_498 ?_
  refine lv_aload_n hx hb dL_law_499 rfl (lv_at hl 0 rfl) ?_
  refine lv_iload_n hx hb dL_law_500 rfl (lv_at hl 3 rfl) ?_
  refine lv_iconst (v := 3) hx hb dL_law_501 (by decide) ?_
  refine lv_iadd hx hb dL_law_502 ?_
  refine va_sld hx hb hX hbl hbA hS h3 dL_law_503 ?_
  refine cL_i (As := [.int (xs (x3 + 1).toNatClampNeg), .int (xs (x3 + 2).toNatClampNeg), .int (xs (x3 + 3).toNatClampNeg)]) (rest := []) (wr := wM ky am y) ⟨hx, hb, hml, hown, htL⟩ (cX_glass l D ky ax _ _ _ x e1) (cwV 3 htL gL_law_X9_glass rfl rfl rfl (by decide +kernel) ⟨(Nat.le_of_ble_eq_true rfl), (Nat.le_of_ble_eq_true rfl)⟩) (rcv hK.1 hP (ci := 9) (q0 := 0) rfl rfl) hP hD hK hS hA rfl rfl hl.1 (Nat.le_of_ble_eq_true rfl) dL_law_504 ⟨by show cells + 0 ≤ 600000; omega, by show slots + 0 ≤ 7302250; omega⟩ (fun H locs hP hD hS => ?_)
  refine lv_aload_n hx hb dL_law_507 rfl (lv_at hl 2 rfl) ?_
  refine lv_aload_n hx hb dL_law_508 rfl (lv_at hl 0 rfl) ?_
  refine lv_iload_n hx hb dL_law_509 rfl (lv_at hl 3 rfl) ?_
  refine lv_iconst (v := 1) hx hb dL_law_510 (by decide) ?_
  refine lv_iadd hx hb dL_law_511 ?_
  refine va_sld hx hb hX hbl hbA hS h1 dL_law_512 ?_
  refine lv_aload_n hx hb dL_law_513 rfl (lv_at hl 0 rfl) ?_
  refine lv_iload_n hx hb dL_law_514 rfl (lv_at hl 3 rfl) ?_
  refine lv_iconst (v := 2) hx hb dL_law_515 (by decide) ?_
  refine lv_iadd hx hb dL_law_516 ?_
  refine va_sld hx hb hX hbl hbA hS h2 dL_law_517 ?_
  refine lv_aload_n hx hb dL_law_518 rfl (lv_at hl 0 rfl) ?_
  refine lv_iload_n hx hb dL_law_519 rfl (lv_at hl 3 rfl) ?_
  refine lv_iconst (v := 3) hx hb dL_law_520 (by decide) ?_
  refine lv_iadd hx hb dL_law_521 ?_
  refine va_sld hx hb hX hbl hbA hS h3 dL_law_522 ?_
  refine cL_i (As := [.int (xs (x3 + 1).toNatClampNeg), .int (xs (x3 + 2).toNatClampNeg), .int (xs (x3 + 3).toNatClampNeg)]) (rest := [.int r]) (wr := wX ky ax x') ⟨hx, hb, hml, hown, htL⟩ (cM_glass l D ky am _ _ _ y e2) (cwV 3 htL gL_law_X12_glass rfl rfl rfl (by decide +kernel) ⟨(Nat.le_of_ble_eq_true rfl), (Nat.le_of_ble_eq_true rfl)⟩) (rcv hK.1 hP (ci := 12) (q0 := 0) rfl rfl) hP hD hK hS hA rfl rfl hl.1 (Nat.le_of_ble_eq_true rfl) dL_law_523 ⟨by show cells + 0 ≤ 600000; omega, by show slots + 0 ≤ 7302250; omega⟩ (fun H locs hP hD hS => ?_)
  refine lv_icmp_eq (tgt := 853) hx hb dL_law_526 (by decide) (fun _ => ?_) (fun hq => absurd rfl hq)
  refine W.widen (k := cells + 1) (n := slots + 240) (by omega) (by omega) ?_
  exact kk H locs hP hD hS

set_option maxHeartbeats 4000000 in
set_option maxRecDepth 100000 in
theorem lwo_12 (C0 : lw_At p s m meth c b L xs) (hK : Kx D ky s) (h1 : vp_in (x3 + 1) L) (h2 : vp_in (x3 + 2) L) (h3 : vp_in (x3 + 3) L) (h4 : vp_in (x3 + 4) L) {x x' : SX} {y y' : SM} {r : Int32} (e1 : stX_colours (xs (x3 + 1).toNatClampNeg) x = some (r, x')) (e2 : stM_colours (xs (x3 + 1).toNatClampNeg) y = some (r, y')) {H : Heap} {locs : List Loc} {cells slots : Nat} {ls : Array Slot} (hP : va_P D vwCl (wX ky ax x ++ wM ky am y) H) (hD : va_D (fun q : Nat => s.heap.size ≤ q) (wX ky ax x ++ wM ky am y)) (hS : va_S (fun q : Nat => s.heap.size ≤ q) s.heap H locs) (hl : lv_has ls 4 [(0, .ref b), (1, .ref (ax 0)), (2, .ref (am 0)), (3, .int x3)]) (hc : cells + 1 ≤ 600000) (hs : slots + 240 ≤ 7302250)
    (kk : ∀ (H : Heap) (locs : List Loc), va_P D vwCl (wX ky ax x' ++ wM ky am y') H → va_D (fun q : Nat => s.heap.size ≤ q) (wX ky ax x' ++ wM ky am y') → va_S (fun q : Nat => s.heap.size ≤ q) s.heap H locs → W p l e room_1 s m #[Value.ref b] below meth c H locs (cells + 1) (slots + 240) Q (F0 m 853 ls [])) : W p l e room_1 s m #[Value.ref b] below meth c H locs cells slots Q (F0 m 531 ls []) := by
  obtain ⟨hx, hb, hr, hml, hown, hts, hX, hbl, hlocks, hgv⟩ := id C0
  replace hown : s.vm.findClass RL = some m.cls := hown
  have hA : ∀ q : Nat, s.heap.size ≤ q → (fun q : Nat => s.heap.size ≤ q) q := fun _ h => h
  have hbA : ¬ (fun q : Nat => s.heap.size ≤ q) b := Nat.not_le.mpr hbl
  have htL : ∀ w ∈ wsL_law, w.before #[Value.ref b] s = true := fun w h => hts w (wsL_law_in w h)
  refine lv_aload_n hx hb dL_law_531 rfl (lv_at hl 1 rfl) ?_
  refine lv_aload_n hx hb dL_law_532 rfl (lv_at hl 0 rfl) ?_
  refine lv_iload_n hx hb dL_law_533 rfl (lv_at hl 3 rfl) ?_
  refine lv_iconst (v := 1) hx hb dL_law_534 (by decide) ?_
  refine lv_iadd hx hb dL_law_535 ?_
  refine va_sld hx hb hX hbl hbA hS h1 dL_law_536 ?_
  refine cL_i (As := [.int (xs (x3 + 1).toNatClampNeg)]) (rest := []) (wr := wM ky am y) ⟨hx, hb, hml, hown, htL⟩ (cX_colours l D ky ax _ x e1) (cwV 1 htL gL_law_X9_colours rfl rfl rfl (by decide +kernel) ⟨(Nat.le_of_ble_eq_true rfl), (Nat.le_of_ble_eq_true rfl)⟩) (rcv hK.1 hP (ci := 9) (q0 := 0) rfl rfl) hP hD hK hS hA rfl rfl hl.1 (Nat.le_of_ble_eq_true rfl) dL_law_537 ⟨by show cells + 0 ≤ 600000; omega, by show slots + 0 ≤ 7302250; omega⟩ (fun H locs hP hD hS => ?_)
  refine lv_aload_n hx hb dL_law_540 rfl (lv_at hl 2 rfl) ?_
  refine lv_aload_n hx hb dL_law_541 rfl (lv_at hl 0 rfl) ?_
  refine lv_iload_n hx hb dL_law_542 rfl (lv_at hl 3 rfl) ?_
  refine lv_iconst (v := 1) hx hb dL_law_543 (by decide) ?_
  refine lv_iadd hx hb dL_law_544 ?_
  refine va_sld hx hb hX hbl hbA hS h1 dL_law_545 ?_
  refine cL_i (As := [.int (xs (x3 + 1).toNatClampNeg)]) (rest := [.int r]) (wr := wX ky ax x') ⟨hx, hb, hml, hown, htL⟩ (cM_colours l D ky am _ y e2) (cwV 1 htL gL_law_X12_colours rfl rfl rfl (by decide +kernel) ⟨(Nat.le_of_ble_eq_true rfl), (Nat.le_of_ble_eq_true rfl)⟩) (rcv hK.1 hP (ci := 12) (q0 := 0) rfl rfl) hP hD hK hS hA rfl rfl hl.1 (Nat.le_of_ble_eq_true rfl) dL_law_546 ⟨by show cells + 0 ≤ 600000; omega, by show slots + 0 ≤ 7302250; omega⟩ (fun H locs hP hD hS => ?_)
  refine lv_icmp_eq (tgt := 853) hx hb dL_law_549 (by decide) (fun _ => ?_) (fun hq => absurd rfl hq)
  refine W.widen (k := cells + 1) (n := slots + 240) (by omega) (by omega) ?_
  exact kk H locs hP hD hS

set_option maxHeartbeats 4000000 in
set_option maxRecDepth 100000 in
theorem lwo_13 (C0 : lw_At p s m meth c b L xs) (hK : Kx D ky s) (h1 : vp_in (x3 + 1) L) (h2 : vp_in (x3 + 2) L) (h3 : vp_in (x3 + 3) L) (h4 : vp_in (x3 + 4) L) {x x' : SX} {y y' : SM} {r : Int32} (e1 : stX_lack (xs (x3 + 1).toNatClampNeg) x = some (r, x')) (e2 : stM_lack (xs (x3 + 1).toNatClampNeg) y = some (r, y')) {H : Heap} {locs : List Loc} {cells slots : Nat} {ls : Array Slot} (hP : va_P D vwCl (wX ky ax x ++ wM ky am y) H) (hD : va_D (fun q : Nat => s.heap.size ≤ q) (wX ky ax x ++ wM ky am y)) (hS : va_S (fun q : Nat => s.heap.size ≤ q) s.heap H locs) (hl : lv_has ls 4 [(0, .ref b), (1, .ref (ax 0)), (2, .ref (am 0)), (3, .int x3)]) (hc : cells + 1 ≤ 600000) (hs : slots + 240 ≤ 7302250)
    (kk : ∀ (H : Heap) (locs : List Loc), va_P D vwCl (wX ky ax x' ++ wM ky am y') H → va_D (fun q : Nat => s.heap.size ≤ q) (wX ky ax x' ++ wM ky am y') → va_S (fun q : Nat => s.heap.size ≤ q) s.heap H locs → W p l e room_1 s m #[Value.ref b] below meth c H locs (cells + 1) (slots + 240) Q (F0 m 853 ls [])) : W p l e room_1 s m #[Value.ref b] below meth c H locs cells slots Q (F0 m 554 ls []) := by
  obtain ⟨hx, hb, hr, hml, hown, hts, hX, hbl, hlocks, hgv⟩ := id C0
  replace hown : s.vm.findClass RL = some m.cls := hown
  have hA : ∀ q : Nat, s.heap.size ≤ q → (fun q : Nat => s.heap.size ≤ q) q := fun _ h => h
  have hbA : ¬ (fun q : Nat => s.heap.size ≤ q) b := Nat.not_le.mpr hbl
  have htL : ∀ w ∈ wsL_law, w.before #[Value.ref b] s = true := fun w h => hts w (wsL_law_in w h)
  refine lv_aload_n hx hb dL_law_554 rfl (lv_at hl 1 rfl) ?_
  refine lv_aload_n hx hb dL_law_555 rfl (lv_at hl 0 rfl) ?_
  refine lv_iload_n hx hb dL_law_556 rfl (lv_at hl 3 rfl) ?_
  refine lv_iconst (v := 1) hx hb dL_law_557 (by decide) ?_
  refine lv_iadd hx hb dL_law_558 ?_
  refine va_sld hx hb hX hbl hbA hS h1 dL_law_559 ?_
  refine cL_i (As := [.int (xs (x3 + 1).toNatClampNeg)]) (rest := []) (wr := wM ky am y) ⟨hx, hb, hml, hown, htL⟩ (cX_lack l D ky ax _ x e1) (cwV 1 htL gL_law_X9_lack rfl rfl rfl (by decide +kernel) ⟨(Nat.le_of_ble_eq_true rfl), (Nat.le_of_ble_eq_true rfl)⟩) (rcv hK.1 hP (ci := 9) (q0 := 0) rfl rfl) hP hD hK hS hA rfl rfl hl.1 (Nat.le_of_ble_eq_true rfl) dL_law_560 ⟨by show cells + 0 ≤ 600000; omega, by show slots + 0 ≤ 7302250; omega⟩ (fun H locs hP hD hS => ?_)
  refine lv_aload_n hx hb dL_law_563 rfl (lv_at hl 2 rfl) ?_
  refine lv_aload_n hx hb dL_law_564 rfl (lv_at hl 0 rfl) ?_
  refine lv_iload_n hx hb dL_law_565 rfl (lv_at hl 3 rfl) ?_
  refine lv_iconst (v := 1) hx hb dL_law_566 (by decide) ?_
  refine lv_iadd hx hb dL_law_567 ?_
  refine va_sld hx hb hX hbl hbA hS h1 dL_law_568 ?_
  refine cL_i (As := [.int (xs (x3 + 1).toNatClampNeg)]) (rest := [.int r]) (wr := wX ky ax x') ⟨hx, hb, hml, hown, htL⟩ (cM_lack l D ky am _ y e2) (cwV 1 htL gL_law_X12_lack rfl rfl rfl (by decide +kernel) ⟨(Nat.le_of_ble_eq_true rfl), (Nat.le_of_ble_eq_true rfl)⟩) (rcv hK.1 hP (ci := 12) (q0 := 0) rfl rfl) hP hD hK hS hA rfl rfl hl.1 (Nat.le_of_ble_eq_true rfl) dL_law_569 ⟨by show cells + 0 ≤ 600000; omega, by show slots + 0 ≤ 7302250; omega⟩ (fun H locs hP hD hS => ?_)
  refine lv_icmp_eq (tgt := 853) hx hb dL_law_572 (by decide) (fun _ => ?_) (fun hq => absurd rfl hq)
  refine W.widen (k := cells + 1) (n := slots + 240) (by omega) (by omega) ?_
  exact kk H locs hP hD hS

set_option maxHeartbeats 4000000 in
set_option maxRecDepth 100000 in
theorem lwo_14 (C0 : lw_At p s m meth c b L xs) (hK : Kx D ky s) (h1 : vp_in (x3 + 1) L) (h2 : vp_in (x3 + 2) L) (h3 : vp_in (x3 + 3) L) (h4 : vp_in (x3 + 4) L) {x x' : SX} {y y' : SM} {r : Int32} (e1 : stX_bits (xs (x3 + 1).toNatClampNeg) x = some (r, x')) (e2 : stM_bits (xs (x3 + 1).toNatClampNeg) y = some (r, y')) {H : Heap} {locs : List Loc} {cells slots : Nat} {ls : Array Slot} (hP : va_P D vwCl (wX ky ax x ++ wM ky am y) H) (hD : va_D (fun q : Nat => s.heap.size ≤ q) (wX ky ax x ++ wM ky am y)) (hS : va_S (fun q : Nat => s.heap.size ≤ q) s.heap H locs) (hl : lv_has ls 4 [(0, .ref b), (1, .ref (ax 0)), (2, .ref (am 0)), (3, .int x3)]) (hc : cells + 1 ≤ 600000) (hs : slots + 240 ≤ 7302250)
    (kk : ∀ (H : Heap) (locs : List Loc), va_P D vwCl (wX ky ax x' ++ wM ky am y') H → va_D (fun q : Nat => s.heap.size ≤ q) (wX ky ax x' ++ wM ky am y') → va_S (fun q : Nat => s.heap.size ≤ q) s.heap H locs → W p l e room_1 s m #[Value.ref b] below meth c H locs (cells + 1) (slots + 240) Q (F0 m 853 ls [])) : W p l e room_1 s m #[Value.ref b] below meth c H locs cells slots Q (F0 m 577 ls []) := by
  obtain ⟨hx, hb, hr, hml, hown, hts, hX, hbl, hlocks, hgv⟩ := id C0
  replace hown : s.vm.findClass RL = some m.cls := hown
  have hA : ∀ q : Nat, s.heap.size ≤ q → (fun q : Nat => s.heap.size ≤ q) q := fun _ h => h
  have hbA : ¬ (fun q : Nat => s.heap.size ≤ q) b := Nat.not_le.mpr hbl
  have htL : ∀ w ∈ wsL_law, w.before #[Value.ref b] s = true := fun w h => hts w (wsL_law_in w h)
  refine lv_aload_n hx hb dL_law_577 rfl (lv_at hl 1 rfl) ?_
  refine lv_aload_n hx hb dL_law_578 rfl (lv_at hl 0 rfl) ?_
  refine lv_iload_n hx hb dL_law_579 rfl (lv_at hl 3 rfl) ?_
  refine lv_iconst (v := 1) hx hb dL_law_580 (by decide) ?_
  refine lv_iadd hx hb dL_law_581 ?_
  refine va_sld hx hb hX hbl hbA hS h1 dL_law_582 ?_
  refine cL_i (As := [.int (xs (x3 + 1).toNatClampNeg)]) (rest := []) (wr := wM ky am y) ⟨hx, hb, hml, hown, htL⟩ (cX_bits l D ky ax _ x e1) (cwV 1 htL gL_law_X9_bits rfl rfl rfl (by decide +kernel) ⟨(Nat.le_of_ble_eq_true rfl), (Nat.le_of_ble_eq_true rfl)⟩) (rcv hK.1 hP (ci := 9) (q0 := 0) rfl rfl) hP hD hK hS hA rfl rfl hl.1 (Nat.le_of_ble_eq_true rfl) dL_law_583 ⟨by show cells + 0 ≤ 600000; omega, by show slots + 0 ≤ 7302250; omega⟩ (fun H locs hP hD hS => ?_)
  refine lv_aload_n hx hb dL_law_586 rfl (lv_at hl 2 rfl) ?_
  refine lv_aload_n hx hb dL_law_587 rfl (lv_at hl 0 rfl) ?_
  refine lv_iload_n hx hb dL_law_588 rfl (lv_at hl 3 rfl) ?_
  refine lv_iconst (v := 1) hx hb dL_law_589 (by decide) ?_
  refine lv_iadd hx hb dL_law_590 ?_
  refine va_sld hx hb hX hbl hbA hS h1 dL_law_591 ?_
  refine cL_i (As := [.int (xs (x3 + 1).toNatClampNeg)]) (rest := [.int r]) (wr := wX ky ax x') ⟨hx, hb, hml, hown, htL⟩ (cM_bits l D ky am _ y e2) (cwV 1 htL gL_law_X12_bits rfl rfl rfl (by decide +kernel) ⟨(Nat.le_of_ble_eq_true rfl), (Nat.le_of_ble_eq_true rfl)⟩) (rcv hK.1 hP (ci := 12) (q0 := 0) rfl rfl) hP hD hK hS hA rfl rfl hl.1 (Nat.le_of_ble_eq_true rfl) dL_law_592 ⟨by show cells + 0 ≤ 600000; omega, by show slots + 0 ≤ 7302250; omega⟩ (fun H locs hP hD hS => ?_)
  refine lv_icmp_eq (tgt := 853) hx hb dL_law_595 (by decide) (fun _ => ?_) (fun hq => absurd rfl hq)
  refine W.widen (k := cells + 1) (n := slots + 240) (by omega) (by omega) ?_
  exact kk H locs hP hD hS

set_option maxHeartbeats 4000000 in
set_option maxRecDepth 100000 in
theorem lwo_15 (C0 : lw_At p s m meth c b L xs) (hK : Kx D ky s) (h1 : vp_in (x3 + 1) L) (h2 : vp_in (x3 + 2) L) (h3 : vp_in (x3 + 3) L) (h4 : vp_in (x3 + 4) L) {x x' : SX} {y y' : SM} {r : Int32} (e1 : stX_pick (xs (x3 + 1).toNatClampNeg) x = some (r, x')) (e2 : stM_pick (xs (x3 + 1).toNatClampNeg) y = some (r, y')) {H : Heap} {locs : List Loc} {cells slots : Nat} {ls : Array Slot} (hP : va_P D vwCl (wX ky ax x ++ wM ky am y) H) (hD : va_D (fun q : Nat => s.heap.size ≤ q) (wX ky ax x ++ wM ky am y)) (hS : va_S (fun q : Nat => s.heap.size ≤ q) s.heap H locs) (hl : lv_has ls 4 [(0, .ref b), (1, .ref (ax 0)), (2, .ref (am 0)), (3, .int x3)]) (hc : cells + 1 ≤ 600000) (hs : slots + 240 ≤ 7302250)
    (kk : ∀ (H : Heap) (locs : List Loc), va_P D vwCl (wX ky ax x' ++ wM ky am y') H → va_D (fun q : Nat => s.heap.size ≤ q) (wX ky ax x' ++ wM ky am y') → va_S (fun q : Nat => s.heap.size ≤ q) s.heap H locs → W p l e room_1 s m #[Value.ref b] below meth c H locs (cells + 1) (slots + 240) Q (F0 m 853 ls [])) : W p l e room_1 s m #[Value.ref b] below meth c H locs cells slots Q (F0 m 600 ls []) := by
  obtain ⟨hx, hb, hr, hml, hown, hts, hX, hbl, hlocks, hgv⟩ := id C0
  replace hown : s.vm.findClass RL = some m.cls := hown
  have hA : ∀ q : Nat, s.heap.size ≤ q → (fun q : Nat => s.heap.size ≤ q) q := fun _ h => h
  have hbA : ¬ (fun q : Nat => s.heap.size ≤ q) b := Nat.not_le.mpr hbl
  have htL : ∀ w ∈ wsL_law, w.before #[Value.ref b] s = true := fun w h => hts w (wsL_law_in w h)
  refine lv_aload_n hx hb dL_law_600 rfl (lv_at hl 1 rfl) ?_
  refine lv_aload_n hx hb dL_law_601 rfl (lv_at hl 0 rfl) ?_
  refine lv_iload_n hx hb dL_law_602 rfl (lv_at hl 3 rfl) ?_
  refine lv_iconst (v := 1) hx hb dL_law_603 (by decide) ?_
  refine lv_iadd hx hb dL_law_604 ?_
  refine va_sld hx hb hX hbl hbA hS h1 dL_law_605 ?_
  refine cL_i (As := [.int (xs (x3 + 1).toNatClampNeg)]) (rest := []) (wr := wM ky am y) ⟨hx, hb, hml, hown, htL⟩ (cX_pick l D ky ax _ x e1) (cwV 1 htL gL_law_X9_pick rfl rfl rfl (by decide +kernel) ⟨(Nat.le_of_ble_eq_true rfl), (Nat.le_of_ble_eq_true rfl)⟩) (rcv hK.1 hP (ci := 9) (q0 := 0) rfl rfl) hP hD hK hS hA rfl rfl hl.1 (Nat.le_of_ble_eq_true rfl) dL_law_606 ⟨by show cells + 0 ≤ 600000; omega, by show slots + 0 ≤ 7302250; omega⟩ (fun H locs hP hD hS => ?_)
  refine lv_aload_n hx hb dL_law_609 rfl (lv_at hl 2 rfl) ?_
  refine lv_aload_n hx hb dL_law_610 rfl (lv_at hl 0 rfl) ?_
  refine lv_iload_n hx hb dL_law_611 rfl (lv_at hl 3 rfl) ?_
  refine lv_iconst (v := 1) hx hb dL_law_612 (by decide) ?_
  refine lv_iadd hx hb dL_law_613 ?_
  refine va_sld hx hb hX hbl hbA hS h1 dL_law_614 ?_
  refine cL_i (As := [.int (xs (x3 + 1).toNatClampNeg)]) (rest := [.int r]) (wr := wX ky ax x') ⟨hx, hb, hml, hown, htL⟩ (cM_pick l D ky am _ y e2) (cwV 1 htL gL_law_X12_pick rfl rfl rfl (by decide +kernel) ⟨(Nat.le_of_ble_eq_true rfl), (Nat.le_of_ble_eq_true rfl)⟩) (rcv hK.1 hP (ci := 12) (q0 := 0) rfl rfl) hP hD hK hS hA rfl rfl hl.1 (Nat.le_of_ble_eq_true rfl) dL_law_615 ⟨by show cells + 0 ≤ 600000; omega, by show slots + 0 ≤ 7302250; omega⟩ (fun H locs hP hD hS => ?_)
  refine lv_icmp_eq (tgt := 853) hx hb dL_law_618 (by decide) (fun _ => ?_) (fun hq => absurd rfl hq)
  refine W.widen (k := cells + 1) (n := slots + 240) (by omega) (by omega) ?_
  exact kk H locs hP hD hS

set_option maxHeartbeats 4000000 in
set_option maxRecDepth 100000 in
theorem lwo_16 (C0 : lw_At p s m meth c b L xs) (hK : Kx D ky s) (h1 : vp_in (x3 + 1) L) (h2 : vp_in (x3 + 2) L) (h3 : vp_in (x3 + 3) L) (h4 : vp_in (x3 + 4) L) {x x' : SX} {y y' : SM} {r : Int32} (e1 : stX_unpick  x = some (r, x')) (e2 : stM_unpick  y = some (r, y')) {H : Heap} {locs : List Loc} {cells slots : Nat} {ls : Array Slot} (hP : va_P D vwCl (wX ky ax x ++ wM ky am y) H) (hD : va_D (fun q : Nat => s.heap.size ≤ q) (wX ky ax x ++ wM ky am y)) (hS : va_S (fun q : Nat => s.heap.size ≤ q) s.heap H locs) (hl : lv_has ls 4 [(0, .ref b), (1, .ref (ax 0)), (2, .ref (am 0)), (3, .int x3)]) (hc : cells + 1 ≤ 600000) (hs : slots + 240 ≤ 7302250)
    (kk : ∀ (H : Heap) (locs : List Loc), va_P D vwCl (wX ky ax x' ++ wM ky am y') H → va_D (fun q : Nat => s.heap.size ≤ q) (wX ky ax x' ++ wM ky am y') → va_S (fun q : Nat => s.heap.size ≤ q) s.heap H locs → W p l e room_1 s m #[Value.ref b] below meth c H locs (cells + 1) (slots + 240) Q (F0 m 853 ls [])) : W p l e room_1 s m #[Value.ref b] below meth c H locs cells slots Q (F0 m 623 ls []) := by
  obtain ⟨hx, hb, hr, hml, hown, hts, hX, hbl, hlocks, hgv⟩ := id C0
  replace hown : s.vm.findClass RL = some m.cls := hown
  have hA : ∀ q : Nat, s.heap.size ≤ q → (fun q : Nat => s.heap.size ≤ q) q := fun _ h => h
  have hbA : ¬ (fun q : Nat => s.heap.size ≤ q) b := Nat.not_le.mpr hbl
  have htL : ∀ w ∈ wsL_law, w.before #[Value.ref b] s = true := fun w h => hts w (wsL_law_in w h)
  refine lv_aload_n hx hb dL_law_623 rfl (lv_at hl 1 rfl) ?_
  refine cL_i (As := []) (rest := []) (wr := wM ky am y) ⟨hx, hb, hml, hown, htL⟩ (cX_unpick l D ky ax  x e1) (cwV 0 htL gL_law_X9_unpick rfl rfl rfl (by decide +kernel) ⟨(Nat.le_of_ble_eq_true rfl), (Nat.le_of_ble_eq_true rfl)⟩) (rcv hK.1 hP (ci := 9) (q0 := 0) rfl rfl) hP hD hK hS hA rfl rfl hl.1 (Nat.le_of_ble_eq_true rfl) dL_law_624 ⟨by show cells + 0 ≤ 600000; omega, by show slots + 0 ≤ 7302250; omega⟩ (fun H locs hP hD hS => ?_)
  refine lv_aload_n hx hb dL_law_627 rfl (lv_at hl 2 rfl) ?_
  refine cL_i (As := []) (rest := [.int r]) (wr := wX ky ax x') ⟨hx, hb, hml, hown, htL⟩ (cM_unpick l D ky am  y e2) (cwV 0 htL gL_law_X12_unpick rfl rfl rfl (by decide +kernel) ⟨(Nat.le_of_ble_eq_true rfl), (Nat.le_of_ble_eq_true rfl)⟩) (rcv hK.1 hP (ci := 12) (q0 := 0) rfl rfl) hP hD hK hS hA rfl rfl hl.1 (Nat.le_of_ble_eq_true rfl) dL_law_628 ⟨by show cells + 0 ≤ 600000; omega, by show slots + 0 ≤ 7302250; omega⟩ (fun H locs hP hD hS => ?_)
  refine lv_icmp_eq (tgt := 853) hx hb dL_law_631 (by decide) (fun _ => ?_) (fun hq => absurd rfl hq)
  refine W.widen (k := cells + 1) (n := slots + 240) (by omega) (by omega) ?_
  exact kk H locs hP hD hS

set_option maxHeartbeats 4000000 in
set_option maxRecDepth 100000 in
theorem lwo_17z (C0 : lw_At p s m meth c b L xs) (hK : Kx D ky s) (h1 : vp_in (x3 + 1) L) (h2 : vp_in (x3 + 2) L) (h3 : vp_in (x3 + 3) L) (h4 : vp_in (x3 + 4) L) (hz : xs (x3 + 3).toNatClampNeg = 0) {x x' : SX} {y y' : SM} {r : Int32} (e1 : stX_sheets (xs (x3 + 1).toNatClampNeg) (xs (x3 + 2).toNatClampNeg) 0 x = some (r, x')) (e2 : stM_sheets (xs (x3 + 1).toNatClampNeg) (xs (x3 + 2).toNatClampNeg) 0 y = some (r, y')) {H : Heap} {locs : List Loc} {cells slots : Nat} {ls : Array Slot} (hP : va_P D vwCl (wX ky ax x ++ wM ky am y) H) (hD : va_D (fun q : Nat => s.heap.size ≤ q) (wX ky ax x ++ wM ky am y)) (hS : va_S (fun q : Nat => s.heap.size ≤ q) s.heap H locs) (hl : lv_has ls 4 [(0, .ref b), (1, .ref (ax 0)), (2, .ref (am 0)), (3, .int x3)]) (hc : cells + 1 ≤ 600000) (hs : slots + 240 ≤ 7302250)
    (kk : ∀ (H : Heap) (locs : List Loc), va_P D vwCl (wX ky ax x' ++ wM ky am y') H → va_D (fun q : Nat => s.heap.size ≤ q) (wX ky ax x' ++ wM ky am y') → va_S (fun q : Nat => s.heap.size ≤ q) s.heap H locs → W p l e room_1 s m #[Value.ref b] below meth c H locs (cells + 1) (slots + 240) Q (F0 m 853 ls [])) : W p l e room_1 s m #[Value.ref b] below meth c H locs cells slots Q (F0 m 636 ls []) := by
  obtain ⟨hx, hb, hr, hml, hown, hts, hX, hbl, hlocks, hgv⟩ := id C0
  replace hown : s.vm.findClass RL = some m.cls := hown
  have hA : ∀ q : Nat, s.heap.size ≤ q → (fun q : Nat => s.heap.size ≤ q) q := fun _ h => h
  have hbA : ¬ (fun q : Nat => s.heap.size ≤ q) b := Nat.not_le.mpr hbl
  have htL : ∀ w ∈ wsL_law, w.before #[Value.ref b] s = true := fun w h => hts w (wsL_law_in w h)
  refine lv_aload_n hx hb dL_law_636 rfl (lv_at hl 1 rfl) ?_
  refine lv_aload_n hx hb dL_law_637 rfl (lv_at hl 0 rfl) ?_
  refine lv_iload_n hx hb dL_law_638 rfl (lv_at hl 3 rfl) ?_
  refine lv_iconst (v := 1) hx hb dL_law_639 (by decide) ?_
  refine lv_iadd hx hb dL_law_640 ?_
  refine va_sld hx hb hX hbl hbA hS h1 dL_law_641 ?_
  refine lv_aload_n hx hb dL_law_642 rfl (lv_at hl 0 rfl) ?_
  refine lv_iload_n hx hb dL_law_643 rfl (lv_at hl 3 rfl) ?_
  refine lv_iconst (v := 2) hx hb dL_law_644 (by decide) ?_
  refine lv_iadd hx hb dL_law_645 ?_
  refine va_sld hx hb hX hbl hbA hS h2 dL_law_646 ?_
  refine lv_aload_n hx hb dL_law_647 rfl (lv_at hl 0 rfl) ?_
  refine lv_iload_n hx hb dL_law_648 rfl (lv_at hl 3 rfl) ?_
  refine lv_iconst (v := 3) hx hb dL_law_649 (by decide) ?_
  refine lv_iadd hx hb dL_law_650 ?_
  refine va_sld hx hb hX hbl hbA hS h3 dL_law_651 ?_
  refine lv_if_eq (tgt := 659) hx hb dL_law_652 (by decide) (fun _ => ?_) (fun hq => absurd hz hq)
  refine lv_iconst (v := 0) hx hb dL_law_659 (by decide) ?_
  refine cL_i (As := [.int (xs (x3 + 1).toNatClampNeg), .int (xs (x3 + 2).toNatClampNeg), .int 0]) (rest := []) (wr := wM ky am y) ⟨hx, hb, hml, hown, htL⟩ (cX_sheets l D ky ax _ _ _ x e1) (cwV 3 htL gL_law_X9_sheets rfl rfl rfl (by decide +kernel) ⟨(Nat.le_of_ble_eq_true rfl), (Nat.le_of_ble_eq_true rfl)⟩) (rcv hK.1 hP (ci := 9) (q0 := 0) rfl rfl) hP hD hK hS hA rfl rfl hl.1 (Nat.le_of_ble_eq_true rfl) dL_law_660 ⟨by show cells + 0 ≤ 600000; omega, by show slots + 0 ≤ 7302250; omega⟩ (fun H locs hP hD hS => ?_)
  refine lv_aload_n hx hb dL_law_663 rfl (lv_at hl 2 rfl) ?_
  refine lv_aload_n hx hb dL_law_664 rfl (lv_at hl 0 rfl) ?_
  refine lv_iload_n hx hb dL_law_665 rfl (lv_at hl 3 rfl) ?_
  refine lv_iconst (v := 1) hx hb dL_law_666 (by decide) ?_
  refine lv_iadd hx hb dL_law_667 ?_
  refine va_sld hx hb hX hbl hbA hS h1 dL_law_668 ?_
  refine lv_aload_n hx hb dL_law_669 rfl (lv_at hl 0 rfl) ?_
  refine lv_iload_n hx hb dL_law_670 rfl (lv_at hl 3 rfl) ?_
  refine lv_iconst (v := 2) hx hb dL_law_671 (by decide) ?_
  refine lv_iadd hx hb dL_law_672 ?_
  refine va_sld hx hb hX hbl hbA hS h2 dL_law_673 ?_
  refine lv_aload_n hx hb dL_law_674 rfl (lv_at hl 0 rfl) ?_
  refine lv_iload_n hx hb dL_law_675 rfl (lv_at hl 3 rfl) ?_
  refine lv_iconst (v := 3) hx hb dL_law_676 (by decide) ?_
  refine lv_iadd hx hb dL_law_677 ?_
  refine va_sld hx hb hX hbl hbA hS h3 dL_law_678 ?_
  refine lv_if_eq (tgt := 686) hx hb dL_law_679 (by decide) (fun _ => ?_) (fun hq => absurd hz hq)
  refine lv_iconst (v := 0) hx hb dL_law_686 (by decide) ?_
  refine cL_i (As := [.int (xs (x3 + 1).toNatClampNeg), .int (xs (x3 + 2).toNatClampNeg), .int 0]) (rest := [.int r]) (wr := wX ky ax x') ⟨hx, hb, hml, hown, htL⟩ (cM_sheets l D ky am _ _ _ y e2) (cwV 3 htL gL_law_X12_sheets rfl rfl rfl (by decide +kernel) ⟨(Nat.le_of_ble_eq_true rfl), (Nat.le_of_ble_eq_true rfl)⟩) (rcv hK.1 hP (ci := 12) (q0 := 0) rfl rfl) hP hD hK hS hA rfl rfl hl.1 (Nat.le_of_ble_eq_true rfl) dL_law_687 ⟨by show cells + 1 ≤ 600000; omega, by show slots + 64 ≤ 7302250; omega⟩ (fun H locs hP hD hS => ?_)
  refine lv_icmp_eq (tgt := 853) hx hb dL_law_690 (by decide) (fun _ => ?_) (fun hq => absurd rfl hq)
  refine W.widen (k := cells + 1) (n := slots + 240) (by omega) (by omega) ?_
  exact kk H locs hP hD hS

set_option maxHeartbeats 4000000 in
set_option maxRecDepth 100000 in
theorem lwo_17n (C0 : lw_At p s m meth c b L xs) (hK : Kx D ky s) (h1 : vp_in (x3 + 1) L) (h2 : vp_in (x3 + 2) L) (h3 : vp_in (x3 + 3) L) (h4 : vp_in (x3 + 4) L) (hz : ¬ xs (x3 + 3).toNatClampNeg = 0) {x x' : SX} {y y' : SM} {r : Int32} (e1 : stX_sheets (xs (x3 + 1).toNatClampNeg) (xs (x3 + 2).toNatClampNeg) 1 x = some (r, x')) (e2 : stM_sheets (xs (x3 + 1).toNatClampNeg) (xs (x3 + 2).toNatClampNeg) 1 y = some (r, y')) {H : Heap} {locs : List Loc} {cells slots : Nat} {ls : Array Slot} (hP : va_P D vwCl (wX ky ax x ++ wM ky am y) H) (hD : va_D (fun q : Nat => s.heap.size ≤ q) (wX ky ax x ++ wM ky am y)) (hS : va_S (fun q : Nat => s.heap.size ≤ q) s.heap H locs) (hl : lv_has ls 4 [(0, .ref b), (1, .ref (ax 0)), (2, .ref (am 0)), (3, .int x3)]) (hc : cells + 1 ≤ 600000) (hs : slots + 240 ≤ 7302250)
    (kk : ∀ (H : Heap) (locs : List Loc), va_P D vwCl (wX ky ax x' ++ wM ky am y') H → va_D (fun q : Nat => s.heap.size ≤ q) (wX ky ax x' ++ wM ky am y') → va_S (fun q : Nat => s.heap.size ≤ q) s.heap H locs → W p l e room_1 s m #[Value.ref b] below meth c H locs (cells + 1) (slots + 240) Q (F0 m 853 ls [])) : W p l e room_1 s m #[Value.ref b] below meth c H locs cells slots Q (F0 m 636 ls []) := by
  obtain ⟨hx, hb, hr, hml, hown, hts, hX, hbl, hlocks, hgv⟩ := id C0
  replace hown : s.vm.findClass RL = some m.cls := hown
  have hA : ∀ q : Nat, s.heap.size ≤ q → (fun q : Nat => s.heap.size ≤ q) q := fun _ h => h
  have hbA : ¬ (fun q : Nat => s.heap.size ≤ q) b := Nat.not_le.mpr hbl
  have htL : ∀ w ∈ wsL_law, w.before #[Value.ref b] s = true := fun w h => hts w (wsL_law_in w h)
  refine lv_aload_n hx hb dL_law_636 rfl (lv_at hl 1 rfl) ?_
  refine lv_aload_n hx hb dL_law_637 rfl (lv_at hl 0 rfl) ?_
  refine lv_iload_n hx hb dL_law_638 rfl (lv_at hl 3 rfl) ?_
  refine lv_iconst (v := 1) hx hb dL_law_639 (by decide) ?_
  refine lv_iadd hx hb dL_law_640 ?_
  refine va_sld hx hb hX hbl hbA hS h1 dL_law_641 ?_
  refine lv_aload_n hx hb dL_law_642 rfl (lv_at hl 0 rfl) ?_
  refine lv_iload_n hx hb dL_law_643 rfl (lv_at hl 3 rfl) ?_
  refine lv_iconst (v := 2) hx hb dL_law_644 (by decide) ?_
  refine lv_iadd hx hb dL_law_645 ?_
  refine va_sld hx hb hX hbl hbA hS h2 dL_law_646 ?_
  refine lv_aload_n hx hb dL_law_647 rfl (lv_at hl 0 rfl) ?_
  refine lv_iload_n hx hb dL_law_648 rfl (lv_at hl 3 rfl) ?_
  refine lv_iconst (v := 3) hx hb dL_law_649 (by decide) ?_
  refine lv_iadd hx hb dL_law_650 ?_
  refine va_sld hx hb hX hbl hbA hS h3 dL_law_651 ?_
  refine lv_if_eq (tgt := 659) hx hb dL_law_652 (by decide) (fun hq => absurd hq hz) (fun _ => ?_)
  refine lv_iconst (v := 1) hx hb dL_law_655 (by decide) ?_
  refine lv_goto (tgt := 660) hx hb dL_law_656 (by decide) ?_
  refine cL_i (As := [.int (xs (x3 + 1).toNatClampNeg), .int (xs (x3 + 2).toNatClampNeg), .int 1]) (rest := []) (wr := wM ky am y) ⟨hx, hb, hml, hown, htL⟩ (cX_sheets l D ky ax _ _ _ x e1) (cwV 3 htL gL_law_X9_sheets rfl rfl rfl (by decide +kernel) ⟨(Nat.le_of_ble_eq_true rfl), (Nat.le_of_ble_eq_true rfl)⟩) (rcv hK.1 hP (ci := 9) (q0 := 0) rfl rfl) hP hD hK hS hA rfl rfl hl.1 (Nat.le_of_ble_eq_true rfl) dL_law_660 ⟨by show cells + 0 ≤ 600000; omega, by show slots + 0 ≤ 7302250; omega⟩ (fun H locs hP hD hS => ?_)
  refine lv_aload_n hx hb dL_law_663 rfl (lv_at hl 2 rfl) ?_
  refine lv_aload_n hx hb dL_law_664 rfl (lv_at hl 0 rfl) ?_
  refine lv_iload_n hx hb dL_law_665 rfl (lv_at hl 3 rfl) ?_
  refine lv_iconst (v := 1) hx hb dL_law_666 (by decide) ?_
  refine lv_iadd hx hb dL_law_667 ?_
  refine va_sld hx hb hX hbl hbA hS h1 dL_law_668 ?_
  refine lv_aload_n hx hb dL_law_669 rfl (lv_at hl 0 rfl) ?_
  refine lv_iload_n hx hb dL_law_670 rfl (lv_at hl 3 rfl) ?_
  refine lv_iconst (v := 2) hx hb dL_law_671 (by decide) ?_
  refine lv_iadd hx hb dL_law_672 ?_
  refine va_sld hx hb hX hbl hbA hS h2 dL_law_673 ?_
  refine lv_aload_n hx hb dL_law_674 rfl (lv_at hl 0 rfl) ?_
  refine lv_iload_n hx hb dL_law_675 rfl (lv_at hl 3 rfl) ?_
  refine lv_iconst (v := 3) hx hb dL_law_676 (by decide) ?_
  refine lv_iadd hx hb dL_law_677 ?_
  refine va_sld hx hb hX hbl hbA hS h3 dL_law_678 ?_
  refine lv_if_eq (tgt := 686) hx hb dL_law_679 (by decide) (fun hq => absurd hq hz) (fun _ => ?_)
  refine lv_iconst (v := 1) hx hb dL_law_682 (by decide) ?_
  refine lv_goto (tgt := 687) hx hb dL_law_683 (by decide) ?_
  refine cL_i (As := [.int (xs (x3 + 1).toNatClampNeg), .int (xs (x3 + 2).toNatClampNeg), .int 1]) (rest := [.int r]) (wr := wX ky ax x') ⟨hx, hb, hml, hown, htL⟩ (cM_sheets l D ky am _ _ _ y e2) (cwV 3 htL gL_law_X12_sheets rfl rfl rfl (by decide +kernel) ⟨(Nat.le_of_ble_eq_true rfl), (Nat.le_of_ble_eq_true rfl)⟩) (rcv hK.1 hP (ci := 12) (q0 := 0) rfl rfl) hP hD hK hS hA rfl rfl hl.1 (Nat.le_of_ble_eq_true rfl) dL_law_687 ⟨by show cells + 1 ≤ 600000; omega, by show slots + 64 ≤ 7302250; omega⟩ (fun H locs hP hD hS => ?_)
  refine lv_icmp_eq (tgt := 853) hx hb dL_law_690 (by decide) (fun _ => ?_) (fun hq => absurd rfl hq)
  refine W.widen (k := cells + 1) (n := slots + 240) (by omega) (by omega) ?_
  exact kk H locs hP hD hS

set_option maxHeartbeats 4000000 in
set_option maxRecDepth 100000 in
theorem lwo_18 (C0 : lw_At p s m meth c b L xs) (hK : Kx D ky s) (h1 : vp_in (x3 + 1) L) (h2 : vp_in (x3 + 2) L) (h3 : vp_in (x3 + 3) L) (h4 : vp_in (x3 + 4) L) {x x' : SX} {y y' : SM} {r : Int32} (e1 : stX_keep (xs (x3 + 1).toNatClampNeg) x = some (r, x')) (e2 : stM_keep (xs (x3 + 1).toNatClampNeg) y = some (r, y')) {H : Heap} {locs : List Loc} {cells slots : Nat} {ls : Array Slot} (hP : va_P D vwCl (wX ky ax x ++ wM ky am y) H) (hD : va_D (fun q : Nat => s.heap.size ≤ q) (wX ky ax x ++ wM ky am y)) (hS : va_S (fun q : Nat => s.heap.size ≤ q) s.heap H locs) (hl : lv_has ls 4 [(0, .ref b), (1, .ref (ax 0)), (2, .ref (am 0)), (3, .int x3)]) (hc : cells + 1 ≤ 600000) (hs : slots + 240 ≤ 7302250)
    (kk : ∀ (H : Heap) (locs : List Loc), va_P D vwCl (wX ky ax x' ++ wM ky am y') H → va_D (fun q : Nat => s.heap.size ≤ q) (wX ky ax x' ++ wM ky am y') → va_S (fun q : Nat => s.heap.size ≤ q) s.heap H locs → W p l e room_1 s m #[Value.ref b] below meth c H locs (cells + 1) (slots + 240) Q (F0 m 853 ls [])) : W p l e room_1 s m #[Value.ref b] below meth c H locs cells slots Q (F0 m 695 ls []) := by
  obtain ⟨hx, hb, hr, hml, hown, hts, hX, hbl, hlocks, hgv⟩ := id C0
  replace hown : s.vm.findClass RL = some m.cls := hown
  have hA : ∀ q : Nat, s.heap.size ≤ q → (fun q : Nat => s.heap.size ≤ q) q := fun _ h => h
  have hbA : ¬ (fun q : Nat => s.heap.size ≤ q) b := Nat.not_le.mpr hbl
  have htL : ∀ w ∈ wsL_law, w.before #[Value.ref b] s = true := fun w h => hts w (wsL_law_in w h)
  refine lv_aload_n hx hb dL_law_695 rfl (lv_at hl 1 rfl) ?_
  refine lv_aload_n hx hb dL_law_696 rfl (lv_at hl 0 rfl) ?_
  refine lv_iload_n hx hb dL_law_697 rfl (lv_at hl 3 rfl) ?_
  refine lv_iconst (v := 1) hx hb dL_law_698 (by decide) ?_
  refine lv_iadd hx hb dL_law_699 ?_
  refine va_sld hx hb hX hbl hbA hS h1 dL_law_700 ?_
  refine cL_i (As := [.int (xs (x3 + 1).toNatClampNeg)]) (rest := []) (wr := wM ky am y) ⟨hx, hb, hml, hown, htL⟩ (cX_keep l D ky ax _ x e1) (cwV 1 htL gL_law_X9_keep rfl rfl rfl (by decide +kernel) ⟨(Nat.le_of_ble_eq_true rfl), (Nat.le_of_ble_eq_true rfl)⟩) (rcv hK.1 hP (ci := 9) (q0 := 0) rfl rfl) hP hD hK hS hA rfl rfl hl.1 (Nat.le_of_ble_eq_true rfl) dL_law_701 ⟨by show cells + 0 ≤ 600000; omega, by show slots + 0 ≤ 7302250; omega⟩ (fun H locs hP hD hS => ?_)
  refine lv_aload_n hx hb dL_law_704 rfl (lv_at hl 2 rfl) ?_
  refine lv_aload_n hx hb dL_law_705 rfl (lv_at hl 0 rfl) ?_
  refine lv_iload_n hx hb dL_law_706 rfl (lv_at hl 3 rfl) ?_
  refine lv_iconst (v := 1) hx hb dL_law_707 (by decide) ?_
  refine lv_iadd hx hb dL_law_708 ?_
  refine va_sld hx hb hX hbl hbA hS h1 dL_law_709 ?_
  refine cL_i (As := [.int (xs (x3 + 1).toNatClampNeg)]) (rest := [.int r]) (wr := wX ky ax x') ⟨hx, hb, hml, hown, htL⟩ (cM_keep l D ky am _ y e2) (cwV 1 htL gL_law_X12_keep rfl rfl rfl (by decide +kernel) ⟨(Nat.le_of_ble_eq_true rfl), (Nat.le_of_ble_eq_true rfl)⟩) (rcv hK.1 hP (ci := 12) (q0 := 0) rfl rfl) hP hD hK hS hA rfl rfl hl.1 (Nat.le_of_ble_eq_true rfl) dL_law_710 ⟨by show cells + 0 ≤ 600000; omega, by show slots + 0 ≤ 7302250; omega⟩ (fun H locs hP hD hS => ?_)
  refine lv_icmp_eq (tgt := 853) hx hb dL_law_713 (by decide) (fun _ => ?_) (fun hq => absurd rfl hq)
  refine W.widen (k := cells + 1) (n := slots + 240) (by omega) (by omega) ?_
  exact kk H locs hP hD hS

set_option maxHeartbeats 4000000 in
set_option maxRecDepth 100000 in
theorem lwo_19 (C0 : lw_At p s m meth c b L xs) (hK : Kx D ky s) (h1 : vp_in (x3 + 1) L) (h2 : vp_in (x3 + 2) L) (h3 : vp_in (x3 + 3) L) (h4 : vp_in (x3 + 4) L) {x x' : SX} {y y' : SM} {r : Int32} (e1 : stX_back (xs (x3 + 1).toNatClampNeg) x = some (r, x')) (e2 : stM_back (xs (x3 + 1).toNatClampNeg) y = some (r, y')) {H : Heap} {locs : List Loc} {cells slots : Nat} {ls : Array Slot} (hP : va_P D vwCl (wX ky ax x ++ wM ky am y) H) (hD : va_D (fun q : Nat => s.heap.size ≤ q) (wX ky ax x ++ wM ky am y)) (hS : va_S (fun q : Nat => s.heap.size ≤ q) s.heap H locs) (hl : lv_has ls 4 [(0, .ref b), (1, .ref (ax 0)), (2, .ref (am 0)), (3, .int x3)]) (hc : cells + 1 ≤ 600000) (hs : slots + 240 ≤ 7302250)
    (kk : ∀ (H : Heap) (locs : List Loc), va_P D vwCl (wX ky ax x' ++ wM ky am y') H → va_D (fun q : Nat => s.heap.size ≤ q) (wX ky ax x' ++ wM ky am y') → va_S (fun q : Nat => s.heap.size ≤ q) s.heap H locs → W p l e room_1 s m #[Value.ref b] below meth c H locs (cells + 1) (slots + 240) Q (F0 m 853 ls [])) : W p l e room_1 s m #[Value.ref b] below meth c H locs cells slots Q (F0 m 718 ls []) := by
  obtain ⟨hx, hb, hr, hml, hown, hts, hX, hbl, hlocks, hgv⟩ := id C0
  replace hown : s.vm.findClass RL = some m.cls := hown
  have hA : ∀ q : Nat, s.heap.size ≤ q → (fun q : Nat => s.heap.size ≤ q) q := fun _ h => h
  have hbA : ¬ (fun q : Nat => s.heap.size ≤ q) b := Nat.not_le.mpr hbl
  have htL : ∀ w ∈ wsL_law, w.before #[Value.ref b] s = true := fun w h => hts w (wsL_law_in w h)
  refine lv_aload_n hx hb dL_law_718 rfl (lv_at hl 1 rfl) ?_
  refine lv_aload_n hx hb dL_law_719 rfl (lv_at hl 0 rfl) ?_
  refine lv_iload_n hx hb dL_law_720 rfl (lv_at hl 3 rfl) ?_
  refine lv_iconst (v := 1) hx hb dL_law_721 (by decide) ?_
  refine lv_iadd hx hb dL_law_722 ?_
  refine va_sld hx hb hX hbl hbA hS h1 dL_law_723 ?_
  refine cL_i (As := [.int (xs (x3 + 1).toNatClampNeg)]) (rest := []) (wr := wM ky am y) ⟨hx, hb, hml, hown, htL⟩ (cX_back l D ky ax _ x e1) (cwV 1 htL gL_law_X9_back rfl rfl rfl (by decide +kernel) ⟨(Nat.le_of_ble_eq_true rfl), (Nat.le_of_ble_eq_true rfl)⟩) (rcv hK.1 hP (ci := 9) (q0 := 0) rfl rfl) hP hD hK hS hA rfl rfl hl.1 (Nat.le_of_ble_eq_true rfl) dL_law_724 ⟨by show cells + 0 ≤ 600000; omega, by show slots + 0 ≤ 7302250; omega⟩ (fun H locs hP hD hS => ?_)
  refine lv_aload_n hx hb dL_law_727 rfl (lv_at hl 2 rfl) ?_
  refine lv_aload_n hx hb dL_law_728 rfl (lv_at hl 0 rfl) ?_
  refine lv_iload_n hx hb dL_law_729 rfl (lv_at hl 3 rfl) ?_
  refine lv_iconst (v := 1) hx hb dL_law_730 (by decide) ?_
  refine lv_iadd hx hb dL_law_731 ?_
  refine va_sld hx hb hX hbl hbA hS h1 dL_law_732 ?_
  refine cL_i (As := [.int (xs (x3 + 1).toNatClampNeg)]) (rest := [.int r]) (wr := wX ky ax x') ⟨hx, hb, hml, hown, htL⟩ (cM_back l D ky am _ y e2) (cwV 1 htL gL_law_X12_back rfl rfl rfl (by decide +kernel) ⟨(Nat.le_of_ble_eq_true rfl), (Nat.le_of_ble_eq_true rfl)⟩) (rcv hK.1 hP (ci := 12) (q0 := 0) rfl rfl) hP hD hK hS hA rfl rfl hl.1 (Nat.le_of_ble_eq_true rfl) dL_law_733 ⟨by show cells + 1 ≤ 600000; omega, by show slots + 240 ≤ 7302250; omega⟩ (fun H locs hP hD hS => ?_)
  refine lv_icmp_eq (tgt := 853) hx hb dL_law_736 (by decide) (fun _ => ?_) (fun hq => absurd rfl hq)
  refine W.widen (k := cells + 1) (n := slots + 240) (by omega) (by omega) ?_
  exact kk H locs hP hD hS

set_option maxHeartbeats 4000000 in
set_option maxRecDepth 100000 in
theorem lwo_20 (C0 : lw_At p s m meth c b L xs) (hK : Kx D ky s) (h1 : vp_in (x3 + 1) L) (h2 : vp_in (x3 + 2) L) (h3 : vp_in (x3 + 3) L) (h4 : vp_in (x3 + 4) L) {x x' : SX} {y y' : SM} {r : Int32} (e1 : stX_alike (xs (x3 + 1).toNatClampNeg) x = some (r, x')) (e2 : stM_alike (xs (x3 + 1).toNatClampNeg) y = some (r, y')) {H : Heap} {locs : List Loc} {cells slots : Nat} {ls : Array Slot} (hP : va_P D vwCl (wX ky ax x ++ wM ky am y) H) (hD : va_D (fun q : Nat => s.heap.size ≤ q) (wX ky ax x ++ wM ky am y)) (hS : va_S (fun q : Nat => s.heap.size ≤ q) s.heap H locs) (hl : lv_has ls 4 [(0, .ref b), (1, .ref (ax 0)), (2, .ref (am 0)), (3, .int x3)]) (hc : cells + 1 ≤ 600000) (hs : slots + 240 ≤ 7302250)
    (kk : ∀ (H : Heap) (locs : List Loc), va_P D vwCl (wX ky ax x' ++ wM ky am y') H → va_D (fun q : Nat => s.heap.size ≤ q) (wX ky ax x' ++ wM ky am y') → va_S (fun q : Nat => s.heap.size ≤ q) s.heap H locs → W p l e room_1 s m #[Value.ref b] below meth c H locs (cells + 1) (slots + 240) Q (F0 m 853 ls [])) : W p l e room_1 s m #[Value.ref b] below meth c H locs cells slots Q (F0 m 741 ls []) := by
  obtain ⟨hx, hb, hr, hml, hown, hts, hX, hbl, hlocks, hgv⟩ := id C0
  replace hown : s.vm.findClass RL = some m.cls := hown
  have hA : ∀ q : Nat, s.heap.size ≤ q → (fun q : Nat => s.heap.size ≤ q) q := fun _ h => h
  have hbA : ¬ (fun q : Nat => s.heap.size ≤ q) b := Nat.not_le.mpr hbl
  have htL : ∀ w ∈ wsL_law, w.before #[Value.ref b] s = true := fun w h => hts w (wsL_law_in w h)
  refine lv_aload_n hx hb dL_law_741 rfl (lv_at hl 1 rfl) ?_
  refine lv_aload_n hx hb dL_law_742 rfl (lv_at hl 0 rfl) ?_
  refine lv_iload_n hx hb dL_law_743 rfl (lv_at hl 3 rfl) ?_
  refine lv_iconst (v := 1) hx hb dL_law_744 (by decide) ?_
  refine lv_iadd hx hb dL_law_745 ?_
  refine va_sld hx hb hX hbl hbA hS h1 dL_law_746 ?_
  refine cL_i (As := [.int (xs (x3 + 1).toNatClampNeg)]) (rest := []) (wr := wM ky am y) ⟨hx, hb, hml, hown, htL⟩ (cX_alike l D ky ax _ x e1) (cwV 1 htL gL_law_X9_alike rfl rfl rfl (by decide +kernel) ⟨(Nat.le_of_ble_eq_true rfl), (Nat.le_of_ble_eq_true rfl)⟩) (rcv hK.1 hP (ci := 9) (q0 := 0) rfl rfl) hP hD hK hS hA rfl rfl hl.1 (Nat.le_of_ble_eq_true rfl) dL_law_747 ⟨by show cells + 0 ≤ 600000; omega, by show slots + 0 ≤ 7302250; omega⟩ (fun H locs hP hD hS => ?_)
  refine lv_aload_n hx hb dL_law_750 rfl (lv_at hl 2 rfl) ?_
  refine lv_aload_n hx hb dL_law_751 rfl (lv_at hl 0 rfl) ?_
  refine lv_iload_n hx hb dL_law_752 rfl (lv_at hl 3 rfl) ?_
  refine lv_iconst (v := 1) hx hb dL_law_753 (by decide) ?_
  refine lv_iadd hx hb dL_law_754 ?_
  refine va_sld hx hb hX hbl hbA hS h1 dL_law_755 ?_
  refine cL_i (As := [.int (xs (x3 + 1).toNatClampNeg)]) (rest := [.int r]) (wr := wX ky ax x') ⟨hx, hb, hml, hown, htL⟩ (cM_alike l D ky am _ y e2) (cwV 1 htL gL_law_X12_alike rfl rfl rfl (by decide +kernel) ⟨(Nat.le_of_ble_eq_true rfl), (Nat.le_of_ble_eq_true rfl)⟩) (rcv hK.1 hP (ci := 12) (q0 := 0) rfl rfl) hP hD hK hS hA rfl rfl hl.1 (Nat.le_of_ble_eq_true rfl) dL_law_756 ⟨by show cells + 1 ≤ 600000; omega, by show slots + 240 ≤ 7302250; omega⟩ (fun H locs hP hD hS => ?_)
  refine lv_icmp_eq (tgt := 853) hx hb dL_law_759 (by decide) (fun _ => ?_) (fun hq => absurd rfl hq)
  refine W.widen (k := cells + 1) (n := slots + 240) (by omega) (by omega) ?_
  exact kk H locs hP hD hS

set_option maxHeartbeats 4000000 in
set_option maxRecDepth 100000 in
theorem lwo_21 (C0 : lw_At p s m meth c b L xs) (hK : Kx D ky s) (h1 : vp_in (x3 + 1) L) (h2 : vp_in (x3 + 2) L) (h3 : vp_in (x3 + 3) L) (h4 : vp_in (x3 + 4) L) {x x' : SX} {y y' : SM} {r : Int32} (e1 : stX_rack (xs (x3 + 1).toNatClampNeg) (xs (x3 + 2).toNatClampNeg) x = some (r, x')) (e2 : stM_rack (xs (x3 + 1).toNatClampNeg) (xs (x3 + 2).toNatClampNeg) y = some (r, y')) {H : Heap} {locs : List Loc} {cells slots : Nat} {ls : Array Slot} (hP : va_P D vwCl (wX ky ax x ++ wM ky am y) H) (hD : va_D (fun q : Nat => s.heap.size ≤ q) (wX ky ax x ++ wM ky am y)) (hS : va_S (fun q : Nat => s.heap.size ≤ q) s.heap H locs) (hl : lv_has ls 4 [(0, .ref b), (1, .ref (ax 0)), (2, .ref (am 0)), (3, .int x3)]) (hc : cells + 1 ≤ 600000) (hs : slots + 240 ≤ 7302250)
    (kk : ∀ (H : Heap) (locs : List Loc), va_P D vwCl (wX ky ax x' ++ wM ky am y') H → va_D (fun q : Nat => s.heap.size ≤ q) (wX ky ax x' ++ wM ky am y') → va_S (fun q : Nat => s.heap.size ≤ q) s.heap H locs → W p l e room_1 s m #[Value.ref b] below meth c H locs (cells + 1) (slots + 240) Q (F0 m 853 ls [])) : W p l e room_1 s m #[Value.ref b] below meth c H locs cells slots Q (F0 m 764 ls []) := by
  obtain ⟨hx, hb, hr, hml, hown, hts, hX, hbl, hlocks, hgv⟩ := id C0
  replace hown : s.vm.findClass RL = some m.cls := hown
  have hA : ∀ q : Nat, s.heap.size ≤ q → (fun q : Nat => s.heap.size ≤ q) q := fun _ h => h
  have hbA : ¬ (fun q : Nat => s.heap.size ≤ q) b := Nat.not_le.mpr hbl
  have htL : ∀ w ∈ wsL_law, w.before #[Value.ref b] s = true := fun w h => hts w (wsL_law_in w h)
  refine lv_aload_n hx hb dL_law_764 rfl (lv_at hl 1 rfl) ?_
  refine lv_aload_n hx hb dL_law_765 rfl (lv_at hl 0 rfl) ?_
  refine lv_iload_n hx hb dL_law_766 rfl (lv_at hl 3 rfl) ?_
  refine lv_iconst (v := 1) hx hb dL_law_767 (by decide) ?_
  refine lv_iadd hx hb dL_law_768 ?_
  refine va_sld hx hb hX hbl hbA hS h1 dL_law_769 ?_
  refine lv_aload_n hx hb dL_law_770 rfl (lv_at hl 0 rfl) ?_
  refine lv_iload_n hx hb dL_law_771 rfl (lv_at hl 3 rfl) ?_
  refine lv_iconst (v := 2) hx hb dL_law_772 (by decide) ?_
  refine lv_iadd hx hb dL_law_773 ?_
  refine va_sld hx hb hX hbl hbA hS h2 dL_law_774 ?_
  refine cL_i (As := [.int (xs (x3 + 1).toNatClampNeg), .int (xs (x3 + 2).toNatClampNeg)]) (rest := []) (wr := wM ky am y) ⟨hx, hb, hml, hown, htL⟩ (cX_rack l D ky ax _ _ x e1) (cwV 2 htL gL_law_X9_rack rfl rfl rfl (by decide +kernel) ⟨(Nat.le_of_ble_eq_true rfl), (Nat.le_of_ble_eq_true rfl)⟩) (rcv hK.1 hP (ci := 9) (q0 := 0) rfl rfl) hP hD hK hS hA rfl rfl hl.1 (Nat.le_of_ble_eq_true rfl) dL_law_775 ⟨by show cells + 0 ≤ 600000; omega, by show slots + 0 ≤ 7302250; omega⟩ (fun H locs hP hD hS => ?_)
  refine lv_aload_n hx hb dL_law_778 rfl (lv_at hl 2 rfl) ?_
  refine lv_aload_n hx hb dL_law_779 rfl (lv_at hl 0 rfl) ?_
  refine lv_iload_n hx hb dL_law_780 rfl (lv_at hl 3 rfl) ?_
  refine lv_iconst (v := 1) hx hb dL_law_781 (by decide) ?_
  refine lv_iadd hx hb dL_law_782 ?_
  refine va_sld hx hb hX hbl hbA hS h1 dL_law_783 ?_
  refine lv_aload_n hx hb dL_law_784 rfl (lv_at hl 0 rfl) ?_
  refine lv_iload_n hx hb dL_law_785 rfl (lv_at hl 3 rfl) ?_
  refine lv_iconst (v := 2) hx hb dL_law_786 (by decide) ?_
  refine lv_iadd hx hb dL_law_787 ?_
  refine va_sld hx hb hX hbl hbA hS h2 dL_law_788 ?_
  refine cL_i (As := [.int (xs (x3 + 1).toNatClampNeg), .int (xs (x3 + 2).toNatClampNeg)]) (rest := [.int r]) (wr := wX ky ax x') ⟨hx, hb, hml, hown, htL⟩ (cM_rack l D ky am _ _ y e2) (cwV 2 htL gL_law_X12_rack rfl rfl rfl (by decide +kernel) ⟨(Nat.le_of_ble_eq_true rfl), (Nat.le_of_ble_eq_true rfl)⟩) (rcv hK.1 hP (ci := 12) (q0 := 0) rfl rfl) hP hD hK hS hA rfl rfl hl.1 (Nat.le_of_ble_eq_true rfl) dL_law_789 ⟨by show cells + 0 ≤ 600000; omega, by show slots + 0 ≤ 7302250; omega⟩ (fun H locs hP hD hS => ?_)
  refine lv_icmp_eq (tgt := 853) hx hb dL_law_792 (by decide) (fun _ => ?_) (fun hq => absurd rfl hq)
  refine W.widen (k := cells + 1) (n := slots + 240) (by omega) (by omega) ?_
  exact kk H locs hP hD hS

set_option maxHeartbeats 4000000 in
set_option maxRecDepth 100000 in
theorem lwo_22 (C0 : lw_At p s m meth c b L xs) (hK : Kx D ky s) (h1 : vp_in (x3 + 1) L) (h2 : vp_in (x3 + 2) L) (h3 : vp_in (x3 + 3) L) (h4 : vp_in (x3 + 4) L) {x x' : SX} {y y' : SM} {r : Int32} (e1 : stX_as (xs (x3 + 1).toNatClampNeg) (xs (x3 + 2).toNatClampNeg) x = some (r, x')) (e2 : stM_as (xs (x3 + 1).toNatClampNeg) (xs (x3 + 2).toNatClampNeg) y = some (r, y')) {H : Heap} {locs : List Loc} {cells slots : Nat} {ls : Array Slot} (hP : va_P D vwCl (wX ky ax x ++ wM ky am y) H) (hD : va_D (fun q : Nat => s.heap.size ≤ q) (wX ky ax x ++ wM ky am y)) (hS : va_S (fun q : Nat => s.heap.size ≤ q) s.heap H locs) (hl : lv_has ls 4 [(0, .ref b), (1, .ref (ax 0)), (2, .ref (am 0)), (3, .int x3)]) (hc : cells + 1 ≤ 600000) (hs : slots + 240 ≤ 7302250)
    (kk : ∀ (H : Heap) (locs : List Loc), va_P D vwCl (wX ky ax x' ++ wM ky am y') H → va_D (fun q : Nat => s.heap.size ≤ q) (wX ky ax x' ++ wM ky am y') → va_S (fun q : Nat => s.heap.size ≤ q) s.heap H locs → W p l e room_1 s m #[Value.ref b] below meth c H locs (cells + 1) (slots + 240) Q (F0 m 853 ls [])) : W p l e room_1 s m #[Value.ref b] below meth c H locs cells slots Q (F0 m 797 ls []) := by
  obtain ⟨hx, hb, hr, hml, hown, hts, hX, hbl, hlocks, hgv⟩ := id C0
  replace hown : s.vm.findClass RL = some m.cls := hown
  have hA : ∀ q : Nat, s.heap.size ≤ q → (fun q : Nat => s.heap.size ≤ q) q := fun _ h => h
  have hbA : ¬ (fun q : Nat => s.heap.size ≤ q) b := Nat.not_le.mpr hbl
  have htL : ∀ w ∈ wsL_law, w.before #[Value.ref b] s = true := fun w h => hts w (wsL_law_in w h)
  refine lv_aload_n hx hb dL_law_797 rfl (lv_at hl 1 rfl) ?_
  refine lv_aload_n hx hb dL_law_798 rfl (lv_at hl 0 rfl) ?_
  refine lv_iload_n hx hb dL_law_799 rfl (lv_at hl 3 rfl) ?_
  refine lv_iconst (v := 1) hx hb dL_law_800 (by decide) ?_
  refine lv_iadd hx hb dL_law_801 ?_
  refine va_sld hx hb hX hbl hbA hS h1 dL_law_802 ?_
  refine lv_aload_n hx hb dL_law_803 rfl (lv_at hl 0 rfl) ?_
  refine lv_iload_n hx hb dL_law_804 rfl (lv_at hl 3 rfl) ?_
  refine lv_iconst (v := 2) hx hb dL_law_805 (by decide) ?_
  refine lv_iadd hx hb dL_law_806 ?_
  refine va_sld hx hb hX hbl hbA hS h2 dL_law_807 ?_
  refine cL_i (As := [.int (xs (x3 + 1).toNatClampNeg), .int (xs (x3 + 2).toNatClampNeg)]) (rest := []) (wr := wM ky am y) ⟨hx, hb, hml, hown, htL⟩ (cX_as l D ky ax _ _ x e1) (cwV 2 htL gL_law_X9_as rfl rfl rfl (by decide +kernel) ⟨(Nat.le_of_ble_eq_true rfl), (Nat.le_of_ble_eq_true rfl)⟩) (rcv hK.1 hP (ci := 9) (q0 := 0) rfl rfl) hP hD hK hS hA rfl rfl hl.1 (Nat.le_of_ble_eq_true rfl) dL_law_808 ⟨by show cells + 0 ≤ 600000; omega, by show slots + 0 ≤ 7302250; omega⟩ (fun H locs hP hD hS => ?_)
  refine lv_aload_n hx hb dL_law_811 rfl (lv_at hl 2 rfl) ?_
  refine lv_aload_n hx hb dL_law_812 rfl (lv_at hl 0 rfl) ?_
  refine lv_iload_n hx hb dL_law_813 rfl (lv_at hl 3 rfl) ?_
  refine lv_iconst (v := 1) hx hb dL_law_814 (by decide) ?_
  refine lv_iadd hx hb dL_law_815 ?_
  refine va_sld hx hb hX hbl hbA hS h1 dL_law_816 ?_
  refine lv_aload_n hx hb dL_law_817 rfl (lv_at hl 0 rfl) ?_
  refine lv_iload_n hx hb dL_law_818 rfl (lv_at hl 3 rfl) ?_
  refine lv_iconst (v := 2) hx hb dL_law_819 (by decide) ?_
  refine lv_iadd hx hb dL_law_820 ?_
  refine va_sld hx hb hX hbl hbA hS h2 dL_law_821 ?_
  refine cL_i (As := [.int (xs (x3 + 1).toNatClampNeg), .int (xs (x3 + 2).toNatClampNeg)]) (rest := [.int r]) (wr := wX ky ax x') ⟨hx, hb, hml, hown, htL⟩ (cM_as l D ky am _ _ y e2) (cwV 2 htL gL_law_X12_as rfl rfl rfl (by decide +kernel) ⟨(Nat.le_of_ble_eq_true rfl), (Nat.le_of_ble_eq_true rfl)⟩) (rcv hK.1 hP (ci := 12) (q0 := 0) rfl rfl) hP hD hK hS hA rfl rfl hl.1 (Nat.le_of_ble_eq_true rfl) dL_law_822 ⟨by show cells + 0 ≤ 600000; omega, by show slots + 0 ≤ 7302250; omega⟩ (fun H locs hP hD hS => ?_)
  refine lv_icmp_eq (tgt := 853) hx hb dL_law_825 (by decide) (fun _ => ?_) (fun hq => absurd rfl hq)
  refine W.widen (k := cells + 1) (n := slots + 240) (by omega) (by omega) ?_
  exact kk H locs hP hD hS

set_option maxHeartbeats 4000000 in
set_option maxRecDepth 100000 in
theorem lwo_23 (C0 : lw_At p s m meth c b L xs) (hK : Kx D ky s) (h1 : vp_in (x3 + 1) L) (h2 : vp_in (x3 + 2) L) (h3 : vp_in (x3 + 3) L) (h4 : vp_in (x3 + 4) L) {x x' : SX} {y y' : SM} {r : Int32} (e1 : stX_found (xs (x3 + 1).toNatClampNeg) x = some (r, x')) (e2 : stM_found (xs (x3 + 1).toNatClampNeg) y = some (r, y')) {H : Heap} {locs : List Loc} {cells slots : Nat} {ls : Array Slot} (hP : va_P D vwCl (wX ky ax x ++ wM ky am y) H) (hD : va_D (fun q : Nat => s.heap.size ≤ q) (wX ky ax x ++ wM ky am y)) (hS : va_S (fun q : Nat => s.heap.size ≤ q) s.heap H locs) (hl : lv_has ls 4 [(0, .ref b), (1, .ref (ax 0)), (2, .ref (am 0)), (3, .int x3)]) (hc : cells + 1 ≤ 600000) (hs : slots + 240 ≤ 7302250)
    (kk : ∀ (H : Heap) (locs : List Loc), va_P D vwCl (wX ky ax x' ++ wM ky am y') H → va_D (fun q : Nat => s.heap.size ≤ q) (wX ky ax x' ++ wM ky am y') → va_S (fun q : Nat => s.heap.size ≤ q) s.heap H locs → W p l e room_1 s m #[Value.ref b] below meth c H locs (cells + 1) (slots + 240) Q (F0 m 853 ls [])) : W p l e room_1 s m #[Value.ref b] below meth c H locs cells slots Q (F0 m 830 ls []) := by
  obtain ⟨hx, hb, hr, hml, hown, hts, hX, hbl, hlocks, hgv⟩ := id C0
  replace hown : s.vm.findClass RL = some m.cls := hown
  have hA : ∀ q : Nat, s.heap.size ≤ q → (fun q : Nat => s.heap.size ≤ q) q := fun _ h => h
  have hbA : ¬ (fun q : Nat => s.heap.size ≤ q) b := Nat.not_le.mpr hbl
  have htL : ∀ w ∈ wsL_law, w.before #[Value.ref b] s = true := fun w h => hts w (wsL_law_in w h)
  refine lv_aload_n hx hb dL_law_830 rfl (lv_at hl 1 rfl) ?_
  refine lv_aload_n hx hb dL_law_831 rfl (lv_at hl 0 rfl) ?_
  refine lv_iload_n hx hb dL_law_832 rfl (lv_at hl 3 rfl) ?_
  refine lv_iconst (v := 1) hx hb dL_law_833 (by decide) ?_
  refine lv_iadd hx hb dL_law_834 ?_
  refine va_sld hx hb hX hbl hbA hS h1 dL_law_835 ?_
  refine cL_i (As := [.int (xs (x3 + 1).toNatClampNeg)]) (rest := []) (wr := wM ky am y) ⟨hx, hb, hml, hown, htL⟩ (cX_found l D ky ax _ x e1) (cwV 1 htL gL_law_X9_found rfl rfl rfl (by decide +kernel) ⟨(Nat.le_of_ble_eq_true rfl), (Nat.le_of_ble_eq_true rfl)⟩) (rcv hK.1 hP (ci := 9) (q0 := 0) rfl rfl) hP hD hK hS hA rfl rfl hl.1 (Nat.le_of_ble_eq_true rfl) dL_law_836 ⟨by show cells + 0 ≤ 600000; omega, by show slots + 0 ≤ 7302250; omega⟩ (fun H locs hP hD hS => ?_)
  refine lv_aload_n hx hb dL_law_839 rfl (lv_at hl 2 rfl) ?_
  refine lv_aload_n hx hb dL_law_840 rfl (lv_at hl 0 rfl) ?_
  refine lv_iload_n hx hb dL_law_841 rfl (lv_at hl 3 rfl) ?_
  refine lv_iconst (v := 1) hx hb dL_law_842 (by decide) ?_
  refine lv_iadd hx hb dL_law_843 ?_
  refine va_sld hx hb hX hbl hbA hS h1 dL_law_844 ?_
  refine cL_i (As := [.int (xs (x3 + 1).toNatClampNeg)]) (rest := [.int r]) (wr := wX ky ax x') ⟨hx, hb, hml, hown, htL⟩ (cM_found l D ky am _ y e2) (cwV 1 htL gL_law_X12_found rfl rfl rfl (by decide +kernel) ⟨(Nat.le_of_ble_eq_true rfl), (Nat.le_of_ble_eq_true rfl)⟩) (rcv hK.1 hP (ci := 12) (q0 := 0) rfl rfl) hP hD hK hS hA rfl rfl hl.1 (Nat.le_of_ble_eq_true rfl) dL_law_845 ⟨by show cells + 0 ≤ 600000; omega, by show slots + 0 ≤ 7302250; omega⟩ (fun H locs hP hD hS => ?_)
  refine lv_icmp_eq (tgt := 853) hx hb dL_law_848 (by decide) (fun _ => ?_) (fun hq => absurd rfl hq)
  refine W.widen (k := cells + 1) (n := slots + 240) (by omega) (by omega) ?_
  exact kk H locs hP hD hS
end LAWOPS
