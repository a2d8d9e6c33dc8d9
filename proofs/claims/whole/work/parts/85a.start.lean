set_option maxHeartbeats 8000000 in
set_option maxRecDepth 100000 in
/-- the law from its entry, over any such relation that the two fresh systems are in -/
theorem whole_open {Rel : Nat → SX → SM → Prop} (hOK : StepOK Rel) (hstart : ∀ n : Nat, n ≤ 512 → Rel n zX zM) {p : Program} {e : Env} {s : State} {m : MethodId} {below : List Frame} {meth : Method} {c : Code} (l : Launch) {b L : Nat} {xs : Nat → Int32} (hL : L ≤ 2560) (C0 : lw_At p s m meth c b L xs) : W p l e room_1 s m #[Value.ref b] below meth c s.heap [] 0 0 (lw_Z below #[Value.ref b] s) (entryFrame m ([Value.ref b] : List Value).toArray 4) := by
  obtain ⟨hx, hb, hr, hml, hown, hts, hX, hbl, hlocks, hgv⟩ := id C0
  replace hown : s.vm.findClass RL = some m.cls := hown
  have hA : ∀ q : Nat, s.heap.size ≤ q → (fun q : Nat => s.heap.size ≤ q) q := fun _ h => h
  have hbA : ¬ (fun q : Nat => s.heap.size ≤ q) b := Nat.not_le.mpr hbl
  have htL : ∀ w ∈ wsL_law, w.before #[Value.ref b] s = true := fun w h => hts w (wsL_law_in w h)
  obtain ⟨c0, iS0, hKn0⟩ := u_known (C := RX0) (T := TX0) (N := 6) (n := 6) hts inX0 (hts _ st_w0)
  obtain ⟨c1, iS1, hKn1⟩ := u_known (C := RX1) (T := TX1) (N := 7) (n := 7) hts inX1 (hts _ st_w1)
  obtain ⟨c2, iS2, hKn2⟩ := u_known (C := RX2) (T := TX2) (N := 3) (n := 3) hts inX2 (hts _ st_w2)
  obtain ⟨c3, iS3, hKn3⟩ := u_known (C := RX3) (T := TX3) (N := 13) (n := 13) hts inX3 (hts _ st_w3)
  obtain ⟨c4, iS4, hKn4⟩ := u_known (C := RX4) (T := TX4) (N := 4) (n := 4) hts inX4 (hts _ st_w4)
  obtain ⟨c5, iS5, hKn5⟩ := u_known (C := RX5) (T := TX5) (N := 3) (n := 3) hts inX5 (hts _ st_w5)
  obtain ⟨c6, iS6, hKn6⟩ := u_known (C := RX6) (T := TX6) (N := 2) (n := 2) hts inX6 (hts _ st_w6)
  obtain ⟨c7, iS7, hKn7⟩ := u_known (C := RX7) (T := TX7) (N := 7) (n := 7) hts inX7 (hts _ st_w7)
  obtain ⟨c8, iS8, hKn8⟩ := u_known (C := RX8) (T := TX8) (N := 11) (n := 11) hts inX8 (hts _ st_w8)
  obtain ⟨c9, iS9, hKn9⟩ := u_known (C := RX9) (T := TX9) (N := 12) (n := 12) hts inX9 (hts _ st_w9)
  obtain ⟨c10, iS10, hKn10⟩ := u_known (C := RX10) (T := TX10) (N := 16) (n := 16) hts inX10 (hts _ st_w10)
  obtain ⟨c11, iS11, hKn11⟩ := u_known (C := RX11) (T := TX11) (N := 2) (n := 2) hts inX11 (hts _ st_w11)
  obtain ⟨c12, iS12, hKn12⟩ := u_known (C := RX12) (T := TX12) (N := 32) (n := 32) hts inX12 (hts _ st_w12)
  obtain ⟨D, ky, hK⟩ : ∃ (D : va_G) (ky : Nat → ClassId), Kx D ky s := by
    refine Kx_start hts ⟨fun k => if k = 0 then c0 else if k = 1 then c1 else if k = 2 then c2 else if k = 3 then c3 else if k = 4 then c4 else if k = 5 then c5 else if k = 6 then c6 else if k = 7 then c7 else if k = 8 then c8 else if k = 9 then c9 else if k = 10 then c10 else if k = 11 then c11 else c12, fun k => if k = 0 then iS0 else if k = 1 then iS1 else if k = 2 then iS2 else if k = 3 then iS3 else if k = 4 then iS4 else if k = 5 then iS5 else if k = 6 then iS6 else if k = 7 then iS7 else if k = 8 then iS8 else if k = 9 then iS9 else if k = 10 then iS10 else if k = 11 then iS11 else iS12, ?_⟩
    intro k q hq
    match k, hq with
    | 0, hq => cases hq; exact hKn0
    | 1, hq => cases hq; exact hKn1
    | 2, hq => cases hq; exact hKn2
    | 3, hq => cases hq; exact hKn3
    | 4, hq => cases hq; exact hKn4
    | 5, hq => cases hq; exact hKn5
    | 6, hq => cases hq; exact hKn6
    | 7, hq => cases hq; exact hKn7
    | 8, hq => cases hq; exact hKn8
    | 9, hq => cases hq; exact hKn9
    | 10, hq => cases hq; exact hKn10
    | 11, hq => cases hq; exact hKn11
    | 12, hq => cases hq; exact hKn12
    | k + 13, hq => simp [vwCl] at hq
  have hAO : AOx s := ⟨va_AO.of (hts _ st_w13), va_AO.of (hts _ st_w14)⟩
  obtain ⟨H, hH⟩ : ∃ H, H = s.heap := ⟨_, rfl⟩
  obtain ⟨locs, hlocs⟩ : ∃ locs : List Loc, locs = [] := ⟨_, rfl⟩
  have hS : va_S (fun q : Nat => s.heap.size ≤ q) s.heap H locs := by rw [hH, hlocs]; exact va_S.rf
  have hP : va_P D vwCl [] H := fun k q h => by simp at h
  have hD : va_D (fun q : Nat => s.heap.size ≤ q) [] := ⟨fun i j p q h => by simp at h, fun k q h => by simp at h⟩
  have hl := lv_entry ([.ref b]) (n := 4) (Nat.le_of_ble_eq_true rfl)
  rw [lg_entry_eq]
  generalize (lg_sl ([.ref b]) ++ List.replicate (4 - (lg_sl ([.ref b])).length) Slot.unset).toArray = ls at hl ⊢
  replace hl : lv_has ls 4 [(0, .ref b)] := hl
  suffices hgo : W p l e room_1 s m #[Value.ref b] below meth c H locs 0 0 (lw_Z below #[Value.ref b] s) (F0 m 0 ls []) by rw [hH, hlocs] at hgo; exact hgo
  clear hH hlocs
  refine va_new (ci := 9) (fs := [.null, .null, .null, .null, .null, .null, .null, .null, .int 0, .null, .null, .null]) (C := RX9) (T := TX9) (N := 12) hx hb hts inX9 tyX9 tyX9_ok hown (hts _ st_w15) (hts _ st_w9) (hts _ st_w16) hK.1 hP hD hS hA rfl (fun j hj => by rcases (show j = 0 ∨ j = 1 ∨ j = 2 ∨ j = 3 ∨ j = 4 ∨ j = 5 ∨ j = 6 ∨ j = 7 ∨ j = 8 ∨ j = 9 ∨ j = 10 ∨ j = 11 by omega) with rfl | rfl | rfl | rfl | rfl | rfl | rfl | rfl | rfl | rfl | rfl | rfl <;> rfl) (Nat.le_of_ble_eq_true rfl) (Nat.le_of_ble_eq_true rfl) dL_law_0 (fun q_ H hP hD hS => ?_)
  refine W.widen (k := 1) (n := 12) (Nat.le_of_ble_eq_true rfl) (Nat.le_of_ble_eq_true rfl) ?_
  replace hP : va_P D vwCl ([] ++ [(q_, .inr (9, [.null, .null, .null, .null, .null, .null, .null, .null, .int 0, .null, .null, .null]))]) H := hP
  replace hD : va_D (fun q : Nat => s.heap.size ≤ q) ([] ++ [(q_, .inr (9, [.null, .null, .null, .null, .null, .null, .null, .null, .int 0, .null, .null, .null]))]) := hD
  refine lv_dup hx hb dL_law_3 rfl ?_
  refine ciR_n (As := []) (rest := [.ref q_]) (wr := []) ⟨hx, hb, hml, hown, htL⟩ (n_X9_init l D ky q_) (cwI 0 htL gL_law_X9_init rfl rfl rfl (hts _ st_w16) (hts _ st_w17) (hts _ st_w18) rfl (by decide +kernel) ⟨(Nat.le_of_ble_eq_true rfl), (Nat.le_of_ble_eq_true rfl)⟩) hP hD hK hAO hS hA rfl rfl hl.1 (Nat.le_of_ble_eq_true rfl) dL_law_4 ⟨(Nat.le_of_ble_eq_true rfl), (Nat.le_of_ble_eq_true rfl)⟩ (fun H1 locs hB hJ hS => ?_)
  refine Exists.elim hB (fun q_drawing_X hB => ?_)
  refine Exists.elim hB (fun q_drawing_x_X hB => ?_)
  refine Exists.elim hB (fun q_drawing_y_X hB => ?_)
  refine Exists.elim hB (fun q_drawing_u_X hB => ?_)
  refine Exists.elim hB (fun q_drawing_v_X hB => ?_)
  refine Exists.elim hB (fun q_kept_X hB => ?_)
  refine Exists.elim hB (fun q_rackKind_X hB => ?_)
  refine Exists.elim hB (fun q_rackAllowed_X hB => ?_)
  refine Exists.elim hB (fun q_kept_0_X hB => ?_)
  refine Exists.elim hB (fun q_kept_0_x_X hB => ?_)
  refine Exists.elim hB (fun q_kept_0_y_X hB => ?_)
  refine Exists.elim hB (fun q_kept_0_u_X hB => ?_)
  refine Exists.elim hB (fun q_kept_0_v_X hB => ?_)
  refine Exists.elim hB (fun q_kept_1_X hB => ?_)
  refine Exists.elim hB (fun q_kept_1_x_X hB => ?_)
  refine Exists.elim hB (fun q_kept_1_y_X hB => ?_)
  refine Exists.elim hB (fun q_kept_1_u_X hB => ?_)
  refine Exists.elim hB (fun q_kept_1_v_X hB => ?_)
  refine Exists.elim hB (fun q_kept_2_X hB => ?_)
  refine Exists.elim hB (fun q_kept_2_x_X hB => ?_)
  refine Exists.elim hB (fun q_kept_2_y_X hB => ?_)
  refine Exists.elim hB (fun q_kept_2_u_X hB => ?_)
  refine Exists.elim hB (fun q_kept_2_v_X hB => ?_)
  refine Exists.elim hB (fun q_kept_3_X hB => ?_)
  refine Exists.elim hB (fun q_kept_3_x_X hB => ?_)
  refine Exists.elim hB (fun q_kept_3_y_X hB => ?_)
  refine Exists.elim hB (fun q_kept_3_u_X hB => ?_)
  refine Exists.elim hB (fun q_kept_3_v_X hB => ?_)
  refine Exists.elim hB (fun q_mesh_X hB => ?_)
  refine Exists.elim hB (fun q_mesh_joints_X hB => ?_)
  refine Exists.elim hB (fun q_mesh_joints_x_X hB => ?_)
  refine Exists.elim hB (fun q_mesh_joints_y_X hB => ?_)
  refine Exists.elim hB (fun q_mesh_joints_under_X hB => ?_)
  refine Exists.elim hB (fun q_mesh_pieces_X hB => ?_)
  refine Exists.elim hB (fun q_mesh_pieces_from_X hB => ?_)
  refine Exists.elim hB (fun q_mesh_pieces_to_X hB => ?_)
  refine Exists.elim hB (fun q_mesh_pieces_twin_X hB => ?_)
  refine Exists.elim hB (fun q_mesh_pieces_firm_X hB => ?_)
  refine Exists.elim hB (fun q_mesh_pieces_first_X hB => ?_)
  refine Exists.elim hB (fun q_mesh_pieces_firmEnds_X hB => ?_)
  refine Exists.elim hB (fun q_mesh_pieces_reached_X hB => ?_)
  refine Exists.elim hB (fun q_mesh_pieces_nextLow_X hB => ?_)
  refine Exists.elim hB (fun q_mesh_pieces_nextHigh_X hB => ?_)
  refine Exists.elim hB (fun q_panes_X hB => ?_)
  refine Exists.elim hB (fun q_panes_paneOf_X hB => ?_)
  refine Exists.elim hB (fun q_panes_walk_X hB => ?_)
  refine Exists.elim hB (fun q_panes_start_X hB => ?_)
  refine Exists.elim hB (fun q_panes_sum_X hB => ?_)
  refine Exists.elim hB (fun q_panes_sum_groups_X hB => ?_)
  refine Exists.elim hB (fun q_glazing_X hB => ?_)
  refine Exists.elim hB (fun q_glazing_kind_X hB => ?_)
  refine Exists.elim hB (fun q_glazing_allowed_X hB => ?_)
  refine Exists.elim hB (fun q_glazing_colour_X hB => ?_)
  refine Exists.elim hB (fun q_glazing_nearLow_X hB => ?_)
  refine Exists.elim hB (fun q_glazing_nearHigh_X hB => ?_)
  refine Exists.elim hB (fun q_glazing_paintedLow_X hB => ?_)
  refine Exists.elim hB (fun q_glazing_paintedHigh_X hB => ?_)
  refine Exists.elim hB (fun q_glazing_searched_X hB => ?_)
  refine Exists.elim hB (fun q_glazing_painted_X hB => ?_)
  refine Exists.elim hB (fun q_glazing_upcoming_X hB => ?_)
  refine Exists.elim hB (fun q_glazing_left_X hB => ?_)
  refine Exists.elim hB (fun q_glazing_leftByLatest_X hB => ?_)
  refine Exists.elim hB (fun q_likeness_X hB => ?_)
  refine Exists.elim hB (fun q_likeness_other_X hB => ?_)
  refine Exists.elim hB (fun q_likeness_other_joints_X hB => ?_)
  refine Exists.elim hB (fun q_likeness_other_joints_x_X hB => ?_)
  refine Exists.elim hB (fun q_likeness_other_joints_y_X hB => ?_)
  refine Exists.elim hB (fun q_likeness_other_joints_under_X hB => ?_)
  refine Exists.elim hB (fun q_likeness_other_pieces_X hB => ?_)
  refine Exists.elim hB (fun q_likeness_other_pieces_from_X hB => ?_)
  refine Exists.elim hB (fun q_likeness_other_pieces_to_X hB => ?_)
  refine Exists.elim hB (fun q_likeness_other_pieces_twin_X hB => ?_)
  refine Exists.elim hB (fun q_likeness_other_pieces_firm_X hB => ?_)
  refine Exists.elim hB (fun q_likeness_other_pieces_first_X hB => ?_)
  refine Exists.elim hB (fun q_likeness_other_pieces_firmEnds_X hB => ?_)
  refine Exists.elim hB (fun q_likeness_other_pieces_reached_X hB => ?_)
  refine Exists.elim hB (fun q_likeness_other_pieces_nextLow_X hB => ?_)
  refine Exists.elim hB (fun q_likeness_other_pieces_nextHigh_X hB => ?_)
  refine Exists.elim hB (fun q_likeness_image_X hB => ?_)
  refine Exists.elim hB (fun q_cutter_X hB => ?_)
  refine Exists.elim hB (fun q_cutter_wide_X hB => ?_)
  refine Exists.elim hB (fun q_cutter_high_X hB => ?_)
  refine Exists.elim hB (fun q_cutter_turnable_X hB => ?_)
  refine Exists.elim hB (fun q_cutter_leastHeight_X hB => ?_)
  refine Exists.elim hB (fun q_cutter_fewest_X hB => ?_)
  refine Exists.elim hB (fun q_chosen_X hB => ?_)
  refine Exists.elim hB (fun q_answered_X hB => ?_)
  have hP1 := hB.1
  have hD1 := hB.2
  clear hB
  obtain ⟨hP, hD⟩ := hJ _ hP1 hD1
  clear hP1 hD1 hJ
  generalize H1 = H at hP hS ⊢
  refine W.widen (k := 88) (n := 12734) (Nat.le_of_ble_eq_true rfl) (Nat.le_of_ble_eq_true rfl) ?_
  obtain ⟨ax, hax⟩ : ∃ f : Nat → Nat, f = fun k => [q_, q_drawing_X, q_drawing_x_X, q_drawing_y_X, q_drawing_u_X, q_drawing_v_X, q_kept_X, q_rackKind_X, q_rackAllowed_X, q_kept_0_X, q_kept_0_x_X, q_kept_0_y_X, q_kept_0_u_X, q_kept_0_v_X, q_kept_1_X, q_kept_1_x_X, q_kept_1_y_X, q_kept_1_u_X, q_kept_1_v_X, q_kept_2_X, q_kept_2_x_X, q_kept_2_y_X, q_kept_2_u_X, q_kept_2_v_X, q_kept_3_X, q_kept_3_x_X, q_kept_3_y_X, q_kept_3_u_X, q_kept_3_v_X, q_mesh_joints_X, q_mesh_joints_x_X, q_mesh_joints_y_X, q_mesh_joints_under_X, q_mesh_pieces_X, q_mesh_pieces_from_X, q_mesh_pieces_to_X, q_mesh_pieces_twin_X, q_mesh_pieces_firm_X, q_mesh_pieces_first_X, q_mesh_pieces_firmEnds_X, q_mesh_pieces_reached_X, q_mesh_pieces_nextLow_X, q_mesh_pieces_nextHigh_X, q_panes_X, q_mesh_X, q_panes_paneOf_X, q_panes_walk_X, q_panes_start_X, q_panes_sum_X, q_panes_sum_groups_X, q_glazing_X, q_glazing_kind_X, q_glazing_allowed_X, q_glazing_colour_X, q_glazing_nearLow_X, q_glazing_nearHigh_X, q_glazing_paintedLow_X, q_glazing_paintedHigh_X, q_glazing_searched_X, q_glazing_painted_X, q_glazing_upcoming_X, q_glazing_left_X, q_glazing_leftByLatest_X, q_likeness_X, q_likeness_other_X, q_likeness_other_joints_X, q_likeness_other_joints_x_X, q_likeness_other_joints_y_X, q_likeness_other_joints_under_X, q_likeness_other_pieces_X, q_likeness_other_pieces_from_X, q_likeness_other_pieces_to_X, q_likeness_other_pieces_twin_X, q_likeness_other_pieces_firm_X, q_likeness_other_pieces_first_X, q_likeness_other_pieces_firmEnds_X, q_likeness_other_pieces_reached_X, q_likeness_other_pieces_nextLow_X, q_likeness_other_pieces_nextHigh_X, q_likeness_image_X, q_cutter_X, q_cutter_wide_X, q_cutter_high_X, q_cutter_turnable_X, q_cutter_leastHeight_X, q_cutter_fewest_X, q_chosen_X, q_answered_X].getD k 0 := ⟨_, rfl⟩
  replace hP : va_P D vwCl (wX ky ax zX) H := by rw [hax]; exact hP
  replace hD : va_D (fun q : Nat => s.heap.size ≤ q) (wX ky ax zX) := by rw [hax]; exact hD
  have hq_X : q_ = ax 0 := by rw [hax]; rfl
  rw [hq_X]
  refine lv_astore_n (lv' := [(1, .ref (ax 0)), (0, .ref b)]) hx hb dL_law_7 rfl hl (by decide) rfl (fun ls hl => ?_)
  refine va_new (ci := 12) (fs := [.null, .int 0, .null, .null, .null, .int 0, .null, .null, .null, .null, .null, .int 0, .null, .int 0, .null, .null, .null, .null, .null, .null, .null, .null, .null, .int 0, .null, .null, .null, .null, .null, .null, .null, .null]) (C := RX12) (T := TX12) (N := 32) hx hb hts inX12 tyX12 tyX12_ok hown (hts _ st_w19) (hts _ st_w12) (hts _ st_w20) hK.1 hP hD hS hA rfl (fun j hj => by rcases (show j = 0 ∨ j = 1 ∨ j = 2 ∨ j = 3 ∨ j = 4 ∨ j = 5 ∨ j = 6 ∨ j = 7 ∨ j = 8 ∨ j = 9 ∨ j = 10 ∨ j = 11 ∨ j = 12 ∨ j = 13 ∨ j = 14 ∨ j = 15 ∨ j = 16 ∨ j = 17 ∨ j = 18 ∨ j = 19 ∨ j = 20 ∨ j = 21 ∨ j = 22 ∨ j = 23 ∨ j = 24 ∨ j = 25 ∨ j = 26 ∨ j = 27 ∨ j = 28 ∨ j = 29 ∨ j = 30 ∨ j = 31 by omega) with rfl | rfl | rfl | rfl | rfl | rfl | rfl | rfl | rfl | rfl | rfl | rfl | rfl | rfl | rfl | rfl | rfl | rfl | rfl | rfl | rfl | rfl | rfl | rfl | rfl | rfl | rfl | rfl | rfl | rfl | rfl | rfl <;> rfl) (Nat.le_of_ble_eq_true rfl) (Nat.le_of_ble_eq_true rfl) dL_law_8 (fun q_ H hP hD hS => ?_)
  refine W.widen (k := 89) (n := 12766) (Nat.le_of_ble_eq_true rfl) (Nat.le_of_ble_eq_true rfl) ?_
  replace hP : va_P D vwCl (wX ky ax zX ++ [(q_, .inr (12, [.null, .int 0, .null, .null, .null, .int 0, .null, .null, .null, .null, .null, .int 0, .null, .int 0, .null, .null, .null, .null, .null, .null, .null, .null, .null, .int 0, .null, .null, .null, .null, .null, .null, .null, .null]))]) H := hP
  replace hD : va_D (fun q : Nat => s.heap.size ≤ q) (wX ky ax zX ++ [(q_, .inr (12, [.null, .int 0, .null, .null, .null, .int 0, .null, .null, .null, .null, .null, .int 0, .null, .int 0, .null, .null, .null, .null, .null, .null, .null, .null, .null, .int 0, .null, .null, .null, .null, .null, .null, .null, .null]))]) := hD
  refine lv_dup hx hb dL_law_11 rfl ?_
  refine ciR_n (As := []) (rest := [.ref q_]) (wr := wX ky ax zX) ⟨hx, hb, hml, hown, htL⟩ (n_X12_init l D ky q_) (cwI 0 htL gL_law_X12_init rfl rfl rfl (hts _ st_w20) (hts _ st_w21) (hts _ st_w22) rfl (by decide +kernel) ⟨(Nat.le_of_ble_eq_true rfl), (Nat.le_of_ble_eq_true rfl)⟩) hP hD hK hAO hS hA rfl rfl hl.1 (Nat.le_of_ble_eq_true rfl) dL_law_12 ⟨(Nat.le_of_ble_eq_true rfl), (Nat.le_of_ble_eq_true rfl)⟩ (fun H1 locs hB hJ hS => ?_)
  refine Exists.elim hB (fun q_now_M hB => ?_)
  refine Exists.elim hB (fun q_now_ax_M hB => ?_)
  refine Exists.elim hB (fun q_now_ay_M hB => ?_)
  refine Exists.elim hB (fun q_now_bx_M hB => ?_)
  refine Exists.elim hB (fun q_now_by_M hB => ?_)
  refine Exists.elim hB (fun q_now_x_M hB => ?_)
  refine Exists.elim hB (fun q_now_y_M hB => ?_)
  refine Exists.elim hB (fun q_now_d_M hB => ?_)
  refine Exists.elim hB (fun q_now_from_M hB => ?_)
  refine Exists.elim hB (fun q_now_to_M hB => ?_)
  refine Exists.elim hB (fun q_now_firm_M hB => ?_)
  refine Exists.elim hB (fun q_kept_M hB => ?_)
  refine Exists.elim hB (fun q_isKept_M hB => ?_)
  refine Exists.elim hB (fun q_paneOf_M hB => ?_)
  refine Exists.elim hB (fun q_firstStep_M hB => ?_)
  refine Exists.elim hB (fun q_kinds_M hB => ?_)
  refine Exists.elim hB (fun q_allowed_M hB => ?_)
  refine Exists.elim hB (fun q_colour_M hB => ?_)
  refine Exists.elim hB (fun q_picked_M hB => ?_)
  refine Exists.elim hB (fun q_lacking_M hB => ?_)
  refine Exists.elim hB (fun q_rackKind_M hB => ?_)
  refine Exists.elim hB (fun q_rackAllowed_M hB => ?_)
  refine Exists.elim hB (fun q_founds_M hB => ?_)
  refine Exists.elim hB (fun q_plus_M hB => ?_)
  refine Exists.elim hB (fun q_plus_d_M hB => ?_)
  refine Exists.elim hB (fun q_minus_M hB => ?_)
  refine Exists.elim hB (fun q_minus_d_M hB => ?_)
  refine Exists.elim hB (fun q_under_M hB => ?_)
  refine Exists.elim hB (fun q_under_d_M hB => ?_)
  refine Exists.elim hB (fun q_work_M hB => ?_)
  refine Exists.elim hB (fun q_work_d_M hB => ?_)
  refine Exists.elim hB (fun q_other_M hB => ?_)
  refine Exists.elim hB (fun q_other_d_M hB => ?_)
  refine Exists.elim hB (fun q_order_M hB => ?_)
  refine Exists.elim hB (fun q_tried_M hB => ?_)
  refine Exists.elim hB (fun q_touches_M hB => ?_)
  refine Exists.elim hB (fun q_out_M hB => ?_)
  refine Exists.elim hB (fun q_cuts_M hB => ?_)
  refine Exists.elim hB (fun q_boxWide_M hB => ?_)
  refine Exists.elim hB (fun q_boxTall_M hB => ?_)
  refine Exists.elim hB (fun q_boxTurns_M hB => ?_)
  refine Exists.elim hB (fun q_goal_M hB => ?_)
  refine Exists.elim hB (fun q_kept_0_M hB => ?_)
  refine Exists.elim hB (fun q_kept_0_ax_M hB => ?_)
  refine Exists.elim hB (fun q_kept_0_ay_M hB => ?_)
  refine Exists.elim hB (fun q_kept_0_bx_M hB => ?_)
  refine Exists.elim hB (fun q_kept_0_by_M hB => ?_)
  refine Exists.elim hB (fun q_kept_0_x_M hB => ?_)
  refine Exists.elim hB (fun q_kept_0_y_M hB => ?_)
  refine Exists.elim hB (fun q_kept_0_d_M hB => ?_)
  refine Exists.elim hB (fun q_kept_0_from_M hB => ?_)
  refine Exists.elim hB (fun q_kept_0_to_M hB => ?_)
  refine Exists.elim hB (fun q_kept_0_firm_M hB => ?_)
  refine Exists.elim hB (fun q_kept_1_M hB => ?_)
  refine Exists.elim hB (fun q_kept_1_ax_M hB => ?_)
  refine Exists.elim hB (fun q_kept_1_ay_M hB => ?_)
  refine Exists.elim hB (fun q_kept_1_bx_M hB => ?_)
  refine Exists.elim hB (fun q_kept_1_by_M hB => ?_)
  refine Exists.elim hB (fun q_kept_1_x_M hB => ?_)
  refine Exists.elim hB (fun q_kept_1_y_M hB => ?_)
  refine Exists.elim hB (fun q_kept_1_d_M hB => ?_)
  refine Exists.elim hB (fun q_kept_1_from_M hB => ?_)
  refine Exists.elim hB (fun q_kept_1_to_M hB => ?_)
  refine Exists.elim hB (fun q_kept_1_firm_M hB => ?_)
  refine Exists.elim hB (fun q_kept_2_M hB => ?_)
  refine Exists.elim hB (fun q_kept_2_ax_M hB => ?_)
  refine Exists.elim hB (fun q_kept_2_ay_M hB => ?_)
  refine Exists.elim hB (fun q_kept_2_bx_M hB => ?_)
  refine Exists.elim hB (fun q_kept_2_by_M hB => ?_)
  refine Exists.elim hB (fun q_kept_2_x_M hB => ?_)
  refine Exists.elim hB (fun q_kept_2_y_M hB => ?_)
  refine Exists.elim hB (fun q_kept_2_d_M hB => ?_)
  refine Exists.elim hB (fun q_kept_2_from_M hB => ?_)
  refine Exists.elim hB (fun q_kept_2_to_M hB => ?_)
  refine Exists.elim hB (fun q_kept_2_firm_M hB => ?_)
  refine Exists.elim hB (fun q_kept_3_M hB => ?_)
  refine Exists.elim hB (fun q_kept_3_ax_M hB => ?_)
  refine Exists.elim hB (fun q_kept_3_ay_M hB => ?_)
  refine Exists.elim hB (fun q_kept_3_bx_M hB => ?_)
  refine Exists.elim hB (fun q_kept_3_by_M hB => ?_)
  refine Exists.elim hB (fun q_kept_3_x_M hB => ?_)
  refine Exists.elim hB (fun q_kept_3_y_M hB => ?_)
  refine Exists.elim hB (fun q_kept_3_d_M hB => ?_)
  refine Exists.elim hB (fun q_kept_3_from_M hB => ?_)
  refine Exists.elim hB (fun q_kept_3_to_M hB => ?_)
  refine Exists.elim hB (fun q_kept_3_firm_M hB => ?_)
  have hP1 := hB.1
  have hD1 := hB.2
  clear hB
  obtain ⟨hP, hD⟩ := hJ _ hP1 hD1
  clear hP1 hD1 hJ
  generalize H1 = H at hP hS ⊢
  refine W.widen (k := 175) (n := 71400) (Nat.le_of_ble_eq_true rfl) (Nat.le_of_ble_eq_true rfl) ?_
  obtain ⟨am, ham⟩ : ∃ f : Nat → Nat, f = fun k => [q_, q_now_M, q_now_ax_M, q_now_ay_M, q_now_bx_M, q_now_by_M, q_now_x_M, q_now_y_M, q_now_d_M, q_now_from_M, q_now_to_M, q_now_firm_M, q_kept_M, q_isKept_M, q_paneOf_M, q_firstStep_M, q_kinds_M, q_allowed_M, q_colour_M, q_picked_M, q_lacking_M, q_rackKind_M, q_rackAllowed_M, q_founds_M, q_plus_M, q_plus_d_M, q_minus_M, q_minus_d_M, q_under_M, q_under_d_M, q_work_M, q_work_d_M, q_other_M, q_other_d_M, q_order_M, q_tried_M, q_touches_M, q_out_M, q_cuts_M, q_boxWide_M, q_boxTall_M, q_boxTurns_M, q_goal_M, q_kept_0_M, q_kept_0_ax_M, q_kept_0_ay_M, q_kept_0_bx_M, q_kept_0_by_M, q_kept_0_x_M, q_kept_0_y_M, q_kept_0_d_M, q_kept_0_from_M, q_kept_0_to_M, q_kept_0_firm_M, q_kept_1_M, q_kept_1_ax_M, q_kept_1_ay_M, q_kept_1_bx_M, q_kept_1_by_M, q_kept_1_x_M, q_kept_1_y_M, q_kept_1_d_M, q_kept_1_from_M, q_kept_1_to_M, q_kept_1_firm_M, q_kept_2_M, q_kept_2_ax_M, q_kept_2_ay_M, q_kept_2_bx_M, q_kept_2_by_M, q_kept_2_x_M, q_kept_2_y_M, q_kept_2_d_M, q_kept_2_from_M, q_kept_2_to_M, q_kept_2_firm_M, q_kept_3_M, q_kept_3_ax_M, q_kept_3_ay_M, q_kept_3_bx_M, q_kept_3_by_M, q_kept_3_x_M, q_kept_3_y_M, q_kept_3_d_M, q_kept_3_from_M, q_kept_3_to_M, q_kept_3_firm_M].getD k 0 := ⟨_, rfl⟩
  replace hP : va_P D vwCl (wX ky ax zX ++ wM ky am zM) H := by rw [ham]; exact hP
  replace hD : va_D (fun q : Nat => s.heap.size ≤ q) (wX ky ax zX ++ wM ky am zM) := by rw [ham]; exact hD
  have hq_M : q_ = am 0 := by rw [ham]; rfl
  rw [hq_M]
  refine lv_astore_n (lv' := [(2, .ref (am 0)), (1, .ref (ax 0)), (0, .ref b)]) hx hb dL_law_15 rfl hl (by decide) rfl (fun ls hl => ?_)
  refine lv_iconst (v := 0) hx hb dL_law_16 (by decide) ?_
  refine lv_istore_n (lv' := [(3, .int 0), (2, .ref (am 0)), (1, .ref (ax 0)), (0, .ref b)]) hx hb dL_law_17 rfl hl (by decide) rfl (fun ls hl => ?_)
  exact law_loop hOK hL C0 hK (L / 5) 0 (by omega) (by omega) zX zM (hstart (L / 5) (by omega)) 0 rfl _ _ _ _ (by omega) (by omega) hP hD hS ls (lv_sub hl [3, 2, 1, 0] rfl)
