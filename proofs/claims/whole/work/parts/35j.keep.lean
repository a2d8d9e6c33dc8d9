/-! keep, back -/
theorem cpy18 (f g : Nat → Int32) {k : Nat} (hk : k < 18) : va_cpy f g (0 : Int32).toNatClampNeg (0 : Int32).toNatClampNeg (18 : Int32).toNatClampNeg k = f k := by
  have e0 : (0 : Int32).toNatClampNeg = 0 := rfl
  have e1 : (18 : Int32).toNatClampNeg = 18 := rfl
  rw [e0, e1]
  unfold va_cpy
  simp [hk]
theorem copy_okD (a b c : Int32) (U V X Y : Nat → Int32) {wd ht ln : Int32} {U2 V2 X2 Y2 : Nat → Int32} : ∃ U' V' X' Y', sX1_copy a b c U V X Y wd ht ln U2 V2 X2 Y2 = some (wd, ht, ln, U', V', X', Y') ∧ ∀ k, k < 18 → U' k = U2 k ∧ V' k = V2 k ∧ X' k = X2 k ∧ Y' k = Y2 k := by
  refine ⟨_, _, _, _, by
    unfold sX1_copy
    rw [gd_s (by decide), lt_v, gd_s (by decide), lt_v, gd_s (by decide), lt_v, gd_s (by decide), lt_v], fun k hk => ⟨cpy18 _ _ hk, cpy18 _ _ hk, cpy18 _ _ hk, cpy18 _ _ hk⟩⟩
theorem take_okD {nl : Nat} (hl : nl ≤ 14) (a b c : Int32) (X Y U V : Nat → Int32) (wd ht : Int32) (X2 Y2 U2 V2 : Nat → Int32) : ∃ X' Y' U' V', sX10_take a b c X Y U V wd ht (nI nl) X2 Y2 U2 V2 = some (wd, ht, nI nl, X', Y', U', V') ∧ ∀ k, k < nl → X' k = X2 k ∧ Y' k = Y2 k ∧ U' k = U2 k ∧ V' k = V2 k := by
  obtain ⟨s, h1, h2⟩ := iter_for (S := (Nat → Int32) × (Nat → Int32) × (Nat → Int32) × (Nat → Int32)) (B := bX10_take_26 (nI nl) X2 Y2 U2 V2) (fun i s => (nI i, s.1, s.2.1, s.2.2.1, s.2.2.2)) nl (fun i s => ∀ k, k < i → s.1 k = X2 k ∧ s.2.1 k = Y2 k ∧ s.2.2.1 k = U2 k ∧ s.2.2.2 k = V2 k) 0 (X, Y, U, V) (fun k hk => absurd hk (Nat.not_lt_zero _)) (Nat.zero_le _) (by omega) (fun i s _ hi hI => by
    obtain ⟨ia, ca⟩ := ix_c (i := i) (n := 18) (by omega) (by omega)
    refine ⟨(upd s.1 i (X2 i), upd s.2.1 i (Y2 i), upd s.2.2.1 i (U2 i), upd s.2.2.2 i (V2 i)), ?_, fun k hk => ?_⟩
    · unfold bX10_take_26
      simp only [dm5]
      rw [if_neg (by rw [nI_leS (by omega) (by omega)]; omega)]
      simp only [gd_s ia]
      rw [ca, ob_d4 (line_ok (by omega) _ _ _ _ _ _ _ _), lt_v, nI_1]
    · show upd s.1 i (X2 i) k = X2 k ∧ upd s.2.1 i (Y2 i) k = Y2 k ∧ upd s.2.2.1 i (U2 i) k = U2 k ∧ upd s.2.2.2 i (V2 i) k = V2 k
      by_cases z : k = i
      · subst z; exact ⟨pk_us, pk_us, pk_us, pk_us⟩
      · rw [pk_un z, pk_un z, pk_un z, pk_un z]; exact hI k (by omega)) (fun s _ => by
    unfold bX10_take_26
    simp only [dm5]
    rw [if_pos (by rw [nI_leS (by omega) (by omega)]; omega)])
  have h1' : iter (bX10_take_26 (nI nl) X2 Y2 U2 V2) FU ((0 : Int32), X, Y, U, V) = some (0, (nI nl, s.1, s.2.1, s.2.2.1, s.2.2.2)) := h1
  refine ⟨s.1, s.2.1, s.2.2.1, s.2.2.2, ?_, h2⟩
  unfold sX10_take
  rw [ob_x5 h1']
theorem LnAt_c {X Y U V X' Y' U' V' : Nat → Int32} {k : Nat} {L : Ln} (h : LnAt X Y U V k L) (e : U' k = U k ∧ V' k = V k ∧ X' k = X k ∧ Y' k = Y k) : LnAt X' Y' U' V' k L := ⟨e.2.2.1.trans h.1, e.2.2.2.trans h.2.1, e.1.trans h.2.2.1, e.2.1.trans h.2.2.2⟩
theorem LnAt_d {X Y U V X' Y' U' V' : Nat → Int32} {k : Nat} {L : Ln} (h : LnAt X Y U V k L) (e : X' k = X k ∧ Y' k = Y k ∧ U' k = U k ∧ V' k = V k) : LnAt X' Y' U' V' k L := ⟨e.1.trans h.1, e.2.1.trans h.2.1, e.2.2.1.trans h.2.2.1, e.2.2.2.trans h.2.2.2⟩
theorem step_keep (n : Nat) (a1 : Int32) (x : SX) (y : SM) (hr : Rel (n + 1) x y) : ∃ (r : Int32) (x' : SX) (y' : SM), stX_keep a1 x = some (r, x') ∧ stM_keep a1 y = some (r, y') ∧ Rel n x' y' := by
  obtain ⟨⟨f0, f1, f2, f3⟩, hk, wn⟩ := hr
  have u1 : ¬ (1 : Int32) = 0 := by decide
  rcases id wn with ⟨z1, z2⟩ | ⟨z1, w, h, nl, ld, m, Q, fm, nv, a, np, gs, pn, n1, n', c, pi, ⟨hw, dx, dm⟩, ⟨e1, e2, e3, e4, e5, e6, e7⟩, sx, sm, gz, lk, c6, hpi, ec, ep, hch, hpk⟩
  · exact ⟨-4, _, _, stX_keep_of (o_answered := cf 4 x.1.2.2.2.2) (by unfold sX9_keep; rw [z2, ob_d1 there0, if_neg (by decide), ob_d2 (tell4 _).1]), stM_keep_of (o_founds := cf 4 x.1.2.2.2.2) (by unfold sX12_keep; rw [z1, if_pos rfl, if_neg (by decide), ob_d2 (tell4 _).2, f0]), ⟨⟨rfl, f1, f2, f3⟩, hk, wn⟩⟩
  · obtain ⟨d1, d2, d3, d4, d5, d6⟩ := dx.1
    have th : sX1_isThere x.2.1.1 = some 1 := by rw [dx.2.1]; exact there1 d1 d2
    have iw : ¬ y.1.1 = 0 := by rw [z1]; exact u1
    obtain ⟨hk0, hk1, hk2, hk3⟩ := hk
    rcases plc_or a1 with ⟨k, hk4, e, p1, p2⟩ | ⟨p1, p2⟩
    · have : k = 0 ∨ k = 1 ∨ k = 2 ∨ k = 3 := by omega
      subst e
      rcases this with e | e | e | e <;> subst e
      · obtain ⟨U', V', X', Y', c1, c2⟩ := copy_okD x.2.2.1.1 x.2.2.1.2.1 x.2.2.1.2.2.1 x.2.2.1.2.2.2.2.2.1 x.2.2.1.2.2.2.2.2.2 x.2.2.1.2.2.2.1 x.2.2.1.2.2.2.2.1 (wd := x.2.1.1) (ht := x.2.1.2.1) (ln := x.2.1.2.2.1) (U2 := x.2.1.2.2.2.2.2.1) (V2 := x.2.1.2.2.2.2.2.2) (X2 := x.2.1.2.2.2.1) (Y2 := x.2.1.2.2.2.2.1)
        obtain ⟨X4, Y4, U4, V4, t1, t2⟩ := take_okD d5 y.2.2.2.2.2.2.2.1.1 y.2.2.2.2.2.2.2.1.2.1 y.2.2.2.2.2.2.2.1.2.2.1 y.2.2.2.2.2.2.2.1.2.2.2.2.2.2.1 y.2.2.2.2.2.2.2.1.2.2.2.2.2.2.2.1 y.2.2.2.2.2.2.2.1.2.2.2.2.2.2.2.2.1 y.2.2.2.2.2.2.2.1.2.2.2.2.2.2.2.2.2.1 y.2.1.1 y.2.1.2.1 y.2.1.2.2.2.2.2.2.1 y.2.1.2.2.2.2.2.2.2.1 y.2.1.2.2.2.2.2.2.2.2.1 y.2.1.2.2.2.2.2.2.2.2.2.1
        rw [← dm.2.2.1] at t1
        exact ⟨1, _, _, stX_keep_of (sX9_keep_go0 th c1), stM_keep_of (sX12_keep_go0 iw t1), ⟨⟨f0, f1, f2, f3⟩, ⟨(Or.inr ⟨rfl, w, h, nl, ld, ⟨dx.1, dx.2.1, dx.2.2.1, dx.2.2.2.1, fun k hk => LnAt_c (dx.2.2.2.2 k hk) (c2 k (by omega))⟩, ⟨dm.1, dm.2.1, dm.2.2.1, fun k hk => LnAt_d (dm.2.2.2 k hk) (t2 k hk)⟩⟩), hk1, hk2, hk3⟩, wn⟩⟩
      · obtain ⟨U', V', X', Y', c1, c2⟩ := copy_okD x.2.2.2.1.1 x.2.2.2.1.2.1 x.2.2.2.1.2.2.1 x.2.2.2.1.2.2.2.2.2.1 x.2.2.2.1.2.2.2.2.2.2 x.2.2.2.1.2.2.2.1 x.2.2.2.1.2.2.2.2.1 (wd := x.2.1.1) (ht := x.2.1.2.1) (ln := x.2.1.2.2.1) (U2 := x.2.1.2.2.2.2.2.1) (V2 := x.2.1.2.2.2.2.2.2) (X2 := x.2.1.2.2.2.1) (Y2 := x.2.1.2.2.2.2.1)
        obtain ⟨X4, Y4, U4, V4, t1, t2⟩ := take_okD d5 y.2.2.2.2.2.2.2.2.1.1 y.2.2.2.2.2.2.2.2.1.2.1 y.2.2.2.2.2.2.2.2.1.2.2.1 y.2.2.2.2.2.2.2.2.1.2.2.2.2.2.2.1 y.2.2.2.2.2.2.2.2.1.2.2.2.2.2.2.2.1 y.2.2.2.2.2.2.2.2.1.2.2.2.2.2.2.2.2.1 y.2.2.2.2.2.2.2.2.1.2.2.2.2.2.2.2.2.2.1 y.2.1.1 y.2.1.2.1 y.2.1.2.2.2.2.2.2.1 y.2.1.2.2.2.2.2.2.2.1 y.2.1.2.2.2.2.2.2.2.2.1 y.2.1.2.2.2.2.2.2.2.2.2.1
        rw [← dm.2.2.1] at t1
        exact ⟨1, _, _, stX_keep_of (sX9_keep_go1 th c1), stM_keep_of (sX12_keep_go1 iw t1), ⟨⟨f0, f1, f2, f3⟩, ⟨hk0, (Or.inr ⟨rfl, w, h, nl, ld, ⟨dx.1, dx.2.1, dx.2.2.1, dx.2.2.2.1, fun k hk => LnAt_c (dx.2.2.2.2 k hk) (c2 k (by omega))⟩, ⟨dm.1, dm.2.1, dm.2.2.1, fun k hk => LnAt_d (dm.2.2.2 k hk) (t2 k hk)⟩⟩), hk2, hk3⟩, wn⟩⟩
      · obtain ⟨U', V', X', Y', c1, c2⟩ := copy_okD x.2.2.2.2.1.1 x.2.2.2.2.1.2.1 x.2.2.2.2.1.2.2.1 x.2.2.2.2.1.2.2.2.2.2.1 x.2.2.2.2.1.2.2.2.2.2.2 x.2.2.2.2.1.2.2.2.1 x.2.2.2.2.1.2.2.2.2.1 (wd := x.2.1.1) (ht := x.2.1.2.1) (ln := x.2.1.2.2.1) (U2 := x.2.1.2.2.2.2.2.1) (V2 := x.2.1.2.2.2.2.2.2) (X2 := x.2.1.2.2.2.1) (Y2 := x.2.1.2.2.2.2.1)
        obtain ⟨X4, Y4, U4, V4, t1, t2⟩ := take_okD d5 y.2.2.2.2.2.2.2.2.2.1.1 y.2.2.2.2.2.2.2.2.2.1.2.1 y.2.2.2.2.2.2.2.2.2.1.2.2.1 y.2.2.2.2.2.2.2.2.2.1.2.2.2.2.2.2.1 y.2.2.2.2.2.2.2.2.2.1.2.2.2.2.2.2.2.1 y.2.2.2.2.2.2.2.2.2.1.2.2.2.2.2.2.2.2.1 y.2.2.2.2.2.2.2.2.2.1.2.2.2.2.2.2.2.2.2.1 y.2.1.1 y.2.1.2.1 y.2.1.2.2.2.2.2.2.1 y.2.1.2.2.2.2.2.2.2.1 y.2.1.2.2.2.2.2.2.2.2.1 y.2.1.2.2.2.2.2.2.2.2.2.1
        rw [← dm.2.2.1] at t1
        exact ⟨1, _, _, stX_keep_of (sX9_keep_go2 th c1), stM_keep_of (sX12_keep_go2 iw t1), ⟨⟨f0, f1, f2, f3⟩, ⟨hk0, hk1, (Or.inr ⟨rfl, w, h, nl, ld, ⟨dx.1, dx.2.1, dx.2.2.1, dx.2.2.2.1, fun k hk => LnAt_c (dx.2.2.2.2 k hk) (c2 k (by omega))⟩, ⟨dm.1, dm.2.1, dm.2.2.1, fun k hk => LnAt_d (dm.2.2.2 k hk) (t2 k hk)⟩⟩), hk3⟩, wn⟩⟩
      · obtain ⟨U', V', X', Y', c1, c2⟩ := copy_okD x.2.2.2.2.2.1.1 x.2.2.2.2.2.1.2.1 x.2.2.2.2.2.1.2.2.1 x.2.2.2.2.2.1.2.2.2.2.2.1 x.2.2.2.2.2.1.2.2.2.2.2.2 x.2.2.2.2.2.1.2.2.2.1 x.2.2.2.2.2.1.2.2.2.2.1 (wd := x.2.1.1) (ht := x.2.1.2.1) (ln := x.2.1.2.2.1) (U2 := x.2.1.2.2.2.2.2.1) (V2 := x.2.1.2.2.2.2.2.2) (X2 := x.2.1.2.2.2.1) (Y2 := x.2.1.2.2.2.2.1)
        obtain ⟨X4, Y4, U4, V4, t1, t2⟩ := take_okD d5 y.2.2.2.2.2.2.2.2.2.2.1 y.2.2.2.2.2.2.2.2.2.2.2.1 y.2.2.2.2.2.2.2.2.2.2.2.2.1 y.2.2.2.2.2.2.2.2.2.2.2.2.2.2.2.2.1 y.2.2.2.2.2.2.2.2.2.2.2.2.2.2.2.2.2.1 y.2.2.2.2.2.2.2.2.2.2.2.2.2.2.2.2.2.2.1 y.2.2.2.2.2.2.2.2.2.2.2.2.2.2.2.2.2.2.2.1 y.2.1.1 y.2.1.2.1 y.2.1.2.2.2.2.2.2.1 y.2.1.2.2.2.2.2.2.2.1 y.2.1.2.2.2.2.2.2.2.2.1 y.2.1.2.2.2.2.2.2.2.2.2.1
        rw [← dm.2.2.1] at t1
        exact ⟨1, _, _, stX_keep_of (sX9_keep_go3 th c1), stM_keep_of (sX12_keep_go3 iw t1), ⟨⟨f0, f1, f2, f3⟩, ⟨hk0, hk1, hk2, (Or.inr ⟨rfl, w, h, nl, ld, ⟨dx.1, dx.2.1, dx.2.2.1, dx.2.2.2.1, fun k hk => LnAt_c (dx.2.2.2.2 k hk) (c2 k (by omega))⟩, ⟨dm.1, dm.2.1, dm.2.2.1, fun k hk => LnAt_d (dm.2.2.2 k hk) (t2 k hk)⟩⟩)⟩, wn⟩⟩
    · exact ⟨-1, _, _, stX_keep_of (o_answered := cf 1 x.1.2.2.2.2) (by unfold sX9_keep; rw [ob_d1 th, if_pos u1, ob_d1 p1, if_neg (by decide), ob_d2 (tell1 _).1]), stM_keep_of (o_founds := cf 1 x.1.2.2.2.2) (by unfold sX12_keep; rw [z1, if_neg u1, ob_d1 p2, if_neg (by decide), if_pos u1, ob_d2 (tell1 _).2, f0]), ⟨⟨rfl, f1, f2, f3⟩, ⟨hk0, hk1, hk2, hk3⟩, wn⟩⟩
