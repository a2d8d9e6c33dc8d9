/-! sheets: one answer, at last -/
theorem side_or (a : Int32) : (∃ n, 1 ≤ n ∧ n ≤ 12 ∧ a = nI n ∧ sX9_isSide a = some 1 ∧ ¬ a < 1 ∧ ¬ (12 : Int32) < a) ∨ ((a < 1 ∨ (¬ a < 1 ∧ (12 : Int32) < a)) ∧ sX9_isSide a = some 0) := by
  unfold sX9_isSide
  by_cases z : a < 1
  · right
    exact ⟨Or.inl z, by rw [if_pos z]⟩
  · by_cases z2 : (12 : Int32) < a
    · right
      exact ⟨Or.inr ⟨z, z2⟩, by rw [if_neg z, if_pos z2]⟩
    · left
      have n0 : ¬ a < 0 := fun y => z (Int32.lt_trans y (by decide))
      obtain ⟨n, hn, e⟩ := nI_of n0
      subst e
      refine ⟨n, ?_, ?_, rfl, by rw [if_neg z, if_neg z2], z, z2⟩
      · rw [nl_1, nI_ltS (by omega) (by omega)] at z; omega
      · rw [show (12 : Int32) = nI 12 from rfl, nI_ltS (by omega) (by omega)] at z2; omega
theorem full_k : ∀ c, c < 7 → ∀ k, k < c → 2 ^ k &&& (2 ^ c - 1) = 2 ^ k := by
  have h : ∀ c : Fin 7, ∀ k : Fin 7, k.val < c.val → 2 ^ k.val &&& (2 ^ c.val - 1) = 2 ^ k.val := by decide +kernel
  exact fun c hc k hk => h ⟨c, hc⟩ ⟨k, by omega⟩ hk
theorem sheets_in {w h nl : Nat} {ld : Nat → Ln} {m : Nat} {Q : Nat → Pt3} {fm : Nat → Nat → Bool} {nv : Nat → Nat → Nat} {a np : Nat} {gs : Nat → St} {pn : Nat → Nat → Option Nat} {n : Nat} {u x y fw fe fs fr to tn pa sa wa : Nat → Int32} {n' : Nat} {d x2 y2 : Nat → Int64} {gw gr gt pb fa : Nat → Int32} (hw : Wd w h nl ld m Q fm nv a np gs pn) (hx : SdX w h nl ld m Q fm nv a np gs pn n u x y fw fe fs fr to tn pa sa wa) (hm : SdM w h nl ld m Q fm nv a np gs pn n' d x2 y2 gw gr gt pb fa) {al co kd : Nat → Int32} {nH nL : Nat → Int64} {al2 co2 kd2 : Nat → Int32} (hg : Gz np pn al co kd nH nL al2 co2 kd2) {c : Nat} (hc : c ≤ 6) {pi : Nat → Nat} (hpi : ∀ i, i < c → pi i < np) {ch pk : Nat → Int32} (hch : hN c ch pi) (hpk : hN c pk pi) (f : Nat → Int32) (bx : Int32) (few hi lh tu wi bt2 bu bw cu : Nat → Int32) {p q : Nat} (p1 : 1 ≤ p) (p2 : p ≤ 12) (q1 : 1 ≤ q) (q2 : q ≤ 12) (i1 : sX9_isSide (nI p) = some 1) (i2 : sX9_isSide (nI q) = some 1) (i3 : ¬ nI p < 1) (i4 : ¬ (12 : Int32) < nI p) (i5 : ¬ nI q < 1) (i6 : ¬ (12 : Int32) < nI q) (a3 : Int32) : ∃ (r : Int32) (g : Nat → Int32) (bx' : Int32) (few' hi' lh' tu' wi' bt2' bu' bw' cu' : Nat → Int32), sX9_sheets (nI p) (nI q) a3 (nI c) f ch bx few hi lh tu wi (nI w) kd u x y fr sa wa = some (r, g, bx', few', hi', lh', tu', wi') ∧ sX12_sheets (nI p) (nI q) a3 1 (nI c) bt2 bu bw cu fa f kd2 (nI n') d gw gr gt x2 y2 pk = some (r, bt2', bu', bw', cu', g) := by
  obtain ⟨w1, w2, w3, w4, w5, w6⟩ := id hw
  have dr := w1.1
  have th := there1 dr.1 dr.2.1
  have u1 : ¬ (1 : Int32) = 0 := by decide
  have p2c := bs_p2 c (by omega)
  obtain ⟨Wp, Hp, hWH⟩ := boxes_ex hw hx hm
  obtain ⟨hi', tu', wi', l1, l2, l3, l4⟩ := layX w4 hc hpi hch (kd := kd) (fun p hp => (hWH p hp).2.1) (fun p hp => (hWH p hp).2.2.2.1) a3 bx hi tu wi
  obtain ⟨bt', bu', bw', m1, m2, m3, m4⟩ := layM w4 hc hpi hpk (fun p hp => (hg.1 p hp).2.2.1) (fun p hp => (hWH p hp).2.2.1) (fun p hp => (hWH p hp).2.2.2.2) a3 bt2 bu bw
  have hb : BxOk c (fun k => Wp (pi k)) (fun k => Hp (pi k)) := ⟨hc, fun k hk => (hWH (pi k) (hpi k hk)).1⟩
  obtain ⟨v, few', lh', v1, v2, v3⟩ := fewX_ok hb p1 p2 q1 q2 l2 l3 l4 few lh
  obtain ⟨cu', t1, t2⟩ := tabM_ok hb p1 p2 q1 q2 m2 m3 m4 cu
  have le : nI q ≤ (12 : Int32) := by rw [show (12 : Int32) = nI 12 from rfl, nI_leS (by omega) (by omega)]; omega
  have stM : sX12_sheets (nI p) (nI q) a3 1 (nI c) bt2 bu bw cu fa f kd2 (nI n') d gw gr gt x2 y2 pk = ob (iter (bX12_sheets_210 (nI p) (nI q) (nI c) cu') FU (0 : Int32)) (fun kt => ex2 kt (fun t => dm1 t (fun v53 => ob (sX12_answer (-7 : Int32) f) (fun o => dm2 o (fun r54 o55 => some (r54, bt', bu', bw', cu', o55))))) (fun t => dm1 t (fun v56 => gd ((¬ (64 : Int32) < 0) ∧ (64 : Int32).toNatClampNeg ≤ 64) (lt (fun _ => 0) (fun (f57 : Nat → Int32) => ob (iter (bX12_sheets_258 (nI p) (nI q) (nI c) cu') FU ((1 : Int32), f57)) (fun kt => ex1 kt (fun t => dm2 t (fun v70 v71 => gd (¬ ((((1 : Int32) <<< (nI c &&& 31)) - (1 : Int32)) < 0 ∨ ((64 : Int32).toNatClampNeg) ≤ (((1 : Int32) <<< (nI c &&& 31)) - (1 : Int32)).toNatClampNeg)) (some ((v71 (((1 : Int32) <<< (nI c &&& 31)) - (1 : Int32)).toNatClampNeg), bt', bu', bw', cu', f)))))))))) := by
    unfold sX12_sheets
    rw [if_neg u1, if_neg i3, if_neg i4, if_neg i5, if_pos le, ob_x4 m1, ob_x2s t1]
  have stX : sX9_sheets (nI p) (nI q) a3 (nI c) f ch bx few hi lh tu wi (nI w) kd u x y fr sa wa = (if 0 ≤ (if v < 1000 then nI v else -1) then some ((if v < 1000 then nI v else -1), f, nI c, few', hi', lh', tu', wi') else ob (sX9_tell (-7 : Int32) f) (fun o => dm2 o (fun r13 o14 => some (r13, o14, nI c, few', hi', lh', tu', wi')))) := by
    unfold sX9_sheets
    rw [ob_d1 th, if_pos u1, ob_d1 i1, if_neg u1, ob_d1 i2, if_pos u1, ob_d4 l1, ob_d3 v2]
  rcases sing_ok hb p2 q2 t2 with ⟨k, z, k1, k2, k3⟩ | ⟨k1, z, k2⟩
  · have nv : ¬ v < 1000 := by
      intro y
      have c999 := (v3 999 (by omega)).mp (by omega)
      refine Cov_no (k := k) (by omega) (fun o ol hk y2 => k2 (cut_sub hb y2 hk)) 999 _ (by omega) (full_k c (by omega) k k1) c999
    refine ⟨-7, cf 7 f, nI c, few', hi', lh', tu', wi', bt', bu', bw', cu', ?_, ?_⟩
    · rw [stX, if_neg nv, if_neg (by decide), ob_d2 (tell7 f).1]
    · rw [stM, ob_x2a k3, dm1, ob_d2 (tell7 f).2]
  · obtain ⟨few2, f1, f2⟩ := fewM_ok hb p2 q2 t2
    obtain ⟨e, e1, e2, e3⟩ := f2 (2 ^ c - 1) (by omega)
    have cv : ∀ d, c ≤ d → Cov (fun o => CutP c (fun k => Wp (pi k)) (fun k => Hp (pi k)) (tnF a3 kd pi) o p q) d (2 ^ c - 1) := fun d hd => Cov_mono (Cov_yes hc k1 c (2 ^ c - 1) (Nat.le_refl _) (by omega)) hd
    have v6 : v ≤ 6 := (v3 6 (by omega)).mpr (cv 6 hc)
    have e6 : e ≤ 6 := (e3 6 (by omega)).mpr (cv 6 hc)
    have ev : v = e := by
      have a1 := (v3 e (by omega)).mpr ((e3 e (by omega)).mp (Nat.le_refl _))
      have a2 := (e3 v (by omega)).mpr ((v3 v (by omega)).mp (Nat.le_refl _))
      omega
    obtain ⟨ia, ca⟩ := ix_c (i := 2 ^ c - 1) (n := 64) (by omega) (by omega)
    refine ⟨nI v, f, nI c, few', hi', lh', tu', wi', bt', bu', bw', cu', ?_, ?_⟩
    · rw [stX, if_pos (show v < 1000 by omega), if_pos (by rw [nl_0, nI_leS (by omega) (by omega)]; omega)]
    · rw [stM, ob_x2b k2]
      show gd _ (lt (fun _ => 0) (fun (f57 : Nat → Int32) => ob (iter (bX12_sheets_258 (nI p) (nI q) (nI c) cu') FU ((1 : Int32), f57)) _)) = _
      rw [gd_s (by decide), lt_v, ob_x2s f1, bs_sh c (by omega), show (1 : Int32) = nI 1 from rfl, pk_sub (by omega), show ((64 : Int32).toNatClampNeg) = 64 from rfl, gd_s ia, ca, e1, ev]
theorem sheets_q {w h nl : Nat} {ld : Nat → Ln} {m : Nat} {Q : Nat → Pt3} {fm : Nat → Nat → Bool} {nv : Nat → Nat → Nat} {a np : Nat} {gs : Nat → St} {pn : Nat → Nat → Option Nat} {n : Nat} {u x y fw fe fs fr to tn pa sa wa : Nat → Int32} {n' : Nat} {d x2 y2 : Nat → Int64} {gw gr gt pb fa : Nat → Int32} (hw : Wd w h nl ld m Q fm nv a np gs pn) (hx : SdX w h nl ld m Q fm nv a np gs pn n u x y fw fe fs fr to tn pa sa wa) (hm : SdM w h nl ld m Q fm nv a np gs pn n' d x2 y2 gw gr gt pb fa) {al co kd : Nat → Int32} {nH nL : Nat → Int64} {al2 co2 kd2 : Nat → Int32} (hg : Gz np pn al co kd nH nL al2 co2 kd2) {c : Nat} (hc : c ≤ 6) {pi : Nat → Nat} (hpi : ∀ i, i < c → pi i < np) {ch pk : Nat → Int32} (hch : hN c ch pi) (hpk : hN c pk pi) (f : Nat → Int32) (bx : Int32) (few hi lh tu wi bt2 bu bw cu : Nat → Int32) (a1 a2 a3 : Int32) : ∃ (r : Int32) (g : Nat → Int32) (bx' : Int32) (few' hi' lh' tu' wi' bt2' bu' bw' cu' : Nat → Int32), sX9_sheets a1 a2 a3 (nI c) f ch bx few hi lh tu wi (nI w) kd u x y fr sa wa = some (r, g, bx', few', hi', lh', tu', wi') ∧ sX12_sheets a1 a2 a3 1 (nI c) bt2 bu bw cu fa f kd2 (nI n') d gw gr gt x2 y2 pk = some (r, bt2', bu', bw', cu', g) := by
  have dr := hw.1.1
  have th := there1 dr.1 dr.2.1
  have u1 : ¬ (1 : Int32) = 0 := by decide
  rcases side_or a1 with ⟨p, p1, p2, e, i1, i3, i4⟩ | ⟨o1, i1⟩
  · subst e
    rcases side_or a2 with ⟨q, q1, q2, e, i2, i5, i6⟩ | ⟨o2, i2⟩
    · subst e
      exact sheets_in hw hx hm hg hc hpi hch hpk f bx few hi lh tu wi bt2 bu bw cu p1 p2 q1 q2 i1 i2 i3 i4 i5 i6 a3
    · refine ⟨-1, cf 1 f, bx, few, hi, lh, tu, wi, bt2, bu, bw, cu, ?_, ?_⟩
      · unfold sX9_sheets
        rw [ob_d1 th, if_pos u1, ob_d1 i1, if_neg u1, ob_d1 i2, if_neg (by decide), ob_d2 (tell1 f).1]
      · unfold sX12_sheets
        rw [if_neg u1, if_neg i3, if_neg i4]
        rcases o2 with o2 | ⟨o2, o3⟩
        · rw [if_pos o2, if_pos u1, ob_d2 (tell1 f).2]
        · rw [if_neg o2, if_neg (Int32.not_le.mpr o3), if_pos u1, ob_d2 (tell1 f).2]
  · refine ⟨-1, cf 1 f, bx, few, hi, lh, tu, wi, bt2, bu, bw, cu, ?_, ?_⟩
    · unfold sX9_sheets
      rw [ob_d1 th, if_pos u1, ob_d1 i1, if_pos rfl, ob_d2 (tell1 f).1]
    · unfold sX12_sheets
      rw [if_neg u1]
      rcases o1 with o1 | ⟨o1, o2⟩
      · rw [if_pos o1, if_pos u1, ob_d2 (tell1 f).2]
      · rw [if_neg o1, if_pos o2, if_pos u1, ob_d2 (tell1 f).2]
