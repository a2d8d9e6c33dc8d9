/-! at most 125 panes -/
noncomputable def orbB (nv : Nat → Nat → Nat) (p : St) (x y : Nat) : Bool := @decide (Orb nv p (x, y)) (Classical.propDecidable _)
theorem orbB_t {nv : Nat → Nat → Nat} {p : St} {x y : Nat} : orbB nv p x y = true ↔ Orb nv p (x, y) := @decide_eq_true_iff _ (Classical.propDecidable _)
theorem orbB_WS {w h nl : Nat} {ld : Nat → Ln} {m : Nat} {Q : Nat → Pt3} {fm : Nat → Nat → Bool} (hM : Mesh w h nl ld m Q fm) {nv : Nat → Nat → Nat} (hn : NV Q fm nv) {p : St} (hp : isS fm p) : WS fm nv (orbB nv p) := by
  refine ⟨fun x y hxy => Orb_S hM hn hp (orbB_t.mp hxy), fun x y hf => ?_⟩
  have i : Orb nv p (x, y) ↔ Orb nv p (y, nv x y) := by
    constructor
    · intro o; exact Orb_t o (Orb_n nv (x, y))
    · intro o; exact Orb_t o (Orb_s hM hn (p := (x, y)) hf (Orb_n nv (x, y)))
  have h1 := @orbB_t nv p x y
  have h2 := @orbB_t nv p y (nv x y)
  cases e1 : orbB nv p x y <;> cases e2 : orbB nv p y (nv x y)
  · rfl
  · rw [h1.mpr (i.mpr (h2.mp e2))] at e1; cases e1
  · rw [h2.mpr (i.mp (h1.mp e1))] at e2; cases e2
  · rfl
/-- the lowest joint of a pane's walk -/
theorem low_turn {w h nl : Nat} {ld : Nat → Ln} {m : Nat} {Q : Nat → Pt3} {fm : Nat → Nat → Bool} (hM : Mesh w h nl ld m Q fm) {nv : Nat → Nat → Nat} (hn : NV Q fm nv) {W : Nat → Nat → Bool} (hW : WS fm nv W) {b : Nat} (hb : cn1 (onK (KX w h ld) Q 0) m 0 b) (eb : (Q b).2.1 = 0) (ho : W b 0 = false) (hex : ∃ x y, W x y = true) : ∃ v x z, v < x ∧ v < z ∧ fm v x = true ∧ fm v z = true ∧ dtp (Q v) (Q x) (Q z) < 0 ∧ W v z = true := by
  obtain ⟨v, ⟨z, hz⟩, hl⟩ := pk_least (fun v => ∃ y, W v y = true) hex
  have fz := hW.1 v z hz
  obtain ⟨x, fx, ez⟩ := pre_ex hM hn fz
  have wx : W x v = true := by rw [hW.2 x v fx, ez]; exact hz
  obtain ⟨a1, a2, a3, a4, -⟩ := fm_ad hM fx
  obtain ⟨b1, b2, b3, b4, -⟩ := fm_ad hM fz
  have hx : v < x := by
    rcases Nat.lt_or_ge x v with q | q
    · exact absurd ⟨v, wx⟩ (hl x q)
    · omega
  have wz : W z (nv v z) = true := by rw [← hW.2 v z fz]; exact hz
  have hz2 : v < z := by
    rcases Nat.lt_or_ge z v with q | q
    · exact absurd ⟨_, wz⟩ (hl z q)
    · omega
  obtain ⟨n1, n2, n3⟩ := nx_ne hM hn fx
  rw [ez] at n1 n2 n3
  have ne := (nb_fm hM v x z a4 fz (Ne.symm n2)).2.2.2 ⟨fun _ => hz2, fun _ => hx⟩
  refine ⟨v, x, z, hx, hz2, a4, fz, ?_, hz⟩
  rcases Int.lt_or_gt_of_ne ne with q | q
  · exact q
  · exfalso
    have k := om_pane hM hn hW hb eb fx
    rw [wx, ho] at k
    unfold om at k
    rw [if_neg (by omega), UU_s a1 hx] at k
    have r1 : RR Q m (fl W) v = 0 := by
      unfold RR
      refine sm_0 (fun c hc => sm_0 (fun d hd => ?_))
      by_cases nz : fl W c d = 0
      · rw [nz]; split <;> rfl
      · rw [if_neg]
        rintro ⟨q1, -, -⟩
        unfold fl at nz
        cases e1 : W c d with
        | true => exact hl c q1 ⟨d, e1⟩
        | false =>
          cases e2 : W d c with
          | true =>
            have f2 := hW.1 d c e2
            exact hl c q1 ⟨_, by rw [← hW.2 d c f2]; exact e2⟩
          | false => rw [e1, e2] at nz; exact nz rfl
    have r2 : sm m (fun d => if v < d ∧ dtp (Q v) (Q x) (Q d) < 0 then fl W v d else 0) = 0 := by
      refine sm_0 (fun d hd => ?_)
      by_cases nz : fl W v d = 0
      · rw [nz]; split <;> rfl
      · rw [if_neg]
        have fd := (fl_flow hM hn hW).2.2 v d nz
        by_cases dx : d = x
        · subst dx; have := dtp_r (Q v) (Q d); omega
        · by_cases dz : d = z
          · subst dz; omega
          · have := soon_c (n3 d fd dx dz)
            omega
    rw [r1, r2] at k
    simp [ib] at k
theorem top_end {L : Ln} {p : Pt3} (hn : lnN L) (hp : 0 < p.2.2) (h : onb L p = true) : ¬ (plt (L.1, L.2.1, 1) p ∧ plt (L.2.2.1, L.2.2.2, 1) p) := by
  rintro ⟨h1, h2⟩
  unfold onb at h
  obtain ⟨c1, c2, c3⟩ := of_decide_eq_true h
  rw [plt_iff] at h1 h2
  dsimp only at h1 h2
  rw [Nat.mul_one, Nat.mul_one] at h1 h2
  unfold lnN at hn
  unfold lnU lnV at *
  obtain ⟨a, b, u, v⟩ := L
  obtain ⟨x, y, d⟩ := p
  dsimp only at *
  have hd : (d : Int) ≠ 0 := by omega
  by_cases e : b = v
  · subst e
    -- level
    have : (x : Int) * 1 = x := by omega
    omega
  · -- the height decides
    have hb : b * d ≠ v * d := fun z => e (Nat.eq_of_mul_eq_mul_right hp z)
    rcases Nat.lt_or_gt_of_ne hb with q | q
    · have ey : y = v * d := by omega
      have ex : x = u * d := by
        have k : ((v : Int) - b) * ((x : Int) - u * d) = 0 := by
          rw [ey] at c1
          rw [Int.natCast_mul] at c1
          grind
        rcases Int.mul_eq_zero.mp k with z | z
        · omega
        · have : (x : Int) = ((u * d : Nat) : Int) := by rw [Int.natCast_mul]; omega
          omega
      omega
    · have ey : y = b * d := by omega
      have ex : x = a * d := by
        have k : ((v : Int) - b) * ((x : Int) - a * d) = 0 := by
          rw [ey] at c1
          rw [Int.natCast_mul] at c1
          grind
        rcases Int.mul_eq_zero.mp k with z | z
        · omega
        · have : (x : Int) = ((a * d : Nat) : Int) := by rw [Int.natCast_mul]; omega
          omega
      omega
def isEnd (L : Ln) (p : Pt3) : Prop := p = (L.1, L.2.1, 1) ∨ p = (L.2.2.1, L.2.2.2, 1)
theorem end_one {K : Nat → Ln} {N m : Nat} {Q : Nat → Pt3} (h : Mx K N m Q) {k v v' x x' : Nat} (hk : k < N) (e1 : isEnd (K k) (Q v)) (e2 : isEnd (K k) (Q v')) (c1 : cn1 (onK K Q k) m v x) (c2 : cn1 (onK K Q k) m v' x') : v = v' := by
  obtain ⟨hN, hK, hQ, hS, hall⟩ := h
  have key : ∀ v v' x', isEnd (K k) (Q v) → isEnd (K k) (Q v') → v < m → cn1 (onK K Q k) m v' x' → ¬ v < v' := by
    intro v v' x' e1 e2 hv c2 q
    obtain ⟨a1, a2, a3, a4, -⟩ := c2
    have p1 := hS v v' q (by omega)
    have p2 := hS v' x' a1 a2
    have p3 := hS v x' (by omega) a2
    apply top_end (hK k hk).2 (hQ x' a2).1 a4
    rcases e1 with e1 | e1 <;> rcases e2 with e2 | e2
    · rw [e1, e2] at p1; exact absurd p1 (plt_irr _)
    · rw [e1] at p3; rw [e2] at p2; exact ⟨p3, p2⟩
    · rw [e1] at p3; rw [e2] at p2; exact ⟨p2, p3⟩
    · rw [e1, e2] at p1; exact absurd p1 (plt_irr _)
  have v1 : v < m := by have := c1.1; have := c1.2.1; omega
  have v2 : v' < m := by have := c2.1; have := c2.2.1; omega
  have k1 := key v v' x' e1 e2 v1 c2
  have k2 := key v' v x e2 e1 v2 c1
  omega
theorem succ_one {on : Nat → Bool} {m i j j' : Nat} (h1 : cn1 on m i j) (h2 : cn1 on m i j') : j = j' := by
  rcases Nat.lt_trichotomy j j' with q | q | q
  · have := h2.2.2.2.2 j h1.1 q; rw [h1.2.2.2.1] at this; cases this
  · exact q
  · have := h1.2.2.2.2 j' h2.1 q; rw [h2.2.2.2.1] at this; cases this
/-- two pieces up from one joint that aren't on one carrier: their lines cross there -/
theorem nonpar {K : Nat → Ln} {N m : Nat} {Q : Nat → Pt3} (h : Mx K N m Q) {k l v x z : Nat} (hk : k < N) (hl : l < N) (c1 : cn1 (onK K Q k) m v x) (c2 : cn1 (onK K Q l) m v z) (hd : dtp (Q v) (Q x) (Q z) ≠ 0) : cW (K k) (K l) ≠ 0 := by
  intro hW
  obtain ⟨hN, hK, hQ, hS, hall⟩ := h
  obtain ⟨a1, a2, a3, a4, -⟩ := c1
  obtain ⟨b1, b2, b3, b4, -⟩ := c2
  have ov := hQ v (by omega)
  have ox := hQ x a2
  have oz := hQ z b2
  have n1 := (hK k hk).2
  have n2 := (hK l hl).2
  have cv := ((onb_al n1 ov.1).mp a3).1
  have cx := ((onb_al n1 ox.1).mp a4).1
  have cv' := ((onb_al n2 ov.1).mp b3).1
  have cz' := ((onb_al n2 oz.1).mp b4).1
  have cz := par_col (K := K k) (K' := K l) (p := Q z) ov.1 n2 n1 hW cv cv' cz'
  have key := det_al (v := Q z) cv cx
  have z0 : lnU (K k) * ry (K k) (Q z) - lnV (K k) * rx (K k) (Q z) = 0 := by omega
  rw [z0, Int.mul_zero] at key
  rcases Int.mul_eq_zero.mp key with q | q
  · have := lS_pos n1; omega
  · exact hd q
theorem side_v {w h nl : Nat} {ld : Nat → Ln} (hD : Dr w h nl ld) {m : Nat} {Q : Nat → Pt3} (hX : Mx (KX w h ld) (nl + 4) m Q) {k s v : Nat} (hk : k < nl + 4) (hs : s < 4) (hv : v < m) (hW : cW (KX w h ld k) (KX w h ld s) ≠ 0) (o1 : onK (KX w h ld) Q k v = true) (o2 : onK (KX w h ld) Q s v = true) : isEnd (KX w h ld k) (Q v) := by
  obtain ⟨d1, d2, d3, d4, d5, d6⟩ := id hD
  have fX := Fam_KX (w := w) (h := h) (fun i hi => (d6 i hi).1)
  have n1 := (hX.2.1 k hk)
  have n2 := (hX.2.1 s (by omega))
  have ov := hX.2.2.1 v hv
  have hc := crs_of n1.2 n2.2 ov.1 hW o1 o2
  have e := side_end (fX.2.1 k hk) (fX.2.2.2.1 s (by omega) (Or.inl hs)) hc
  have eq : Q v = crP (KX w h ld k) (KX w h ld s) := onb_one ov (crP_ok n1.1 n2.1 hc) n1.2 n2.2 hW o1 o2 (onb_crP n1.1 n1.2 hc) (by rw [← crP_sym hW]; exact onb_crP n2.1 n2.2 (crs_sym hc))
  unfold isEnd
  rw [eq]
  exact e
/-- a piece up along a side with another one on its left: the side is known by the joint -/
theorem side_z {w h nl : Nat} {ld : Nat → Ln} {m : Nat} {Q : Nat → Pt3} {fm : Nat → Nat → Bool} (hM : Mesh w h nl ld m Q fm) {k v x z : Nat} (hk : k < 4) (c : cn1 (onK (KX w h ld) Q k) m v z) (hx : x < m) (hvx : v < x) (hd : dtp (Q v) (Q x) (Q z) < 0) : (k = 0 ∧ (Q v).1 < w * (Q v).2.2) ∨ (k = 1 ∧ (Q v).1 = w * (Q v).2.2) := by
  obtain ⟨d1, d2, d3, d4, d5, d6⟩ := id hM.1
  obtain ⟨c1, c2, c3, c4, -⟩ := c
  have hQ := hM.2.1.1
  have hS := hM.2.1.2.1
  have wv := in_win hM.1 hM.2.1 (show v < m by omega)
  have wz := in_win hM.1 hM.2.1 c2
  have wx := in_win hM.1 hM.2.1 hx
  have ov := (hQ v (by omega)).1
  have oz := (hQ z c2).1
  have ox := (hQ x hx).1
  have p1 := hS v z c1 c2
  have p2 := hS v x hvx hx
  rw [plt_iff] at p1 p2
  have hk4 : k = 0 ∨ k = 1 ∨ k = 2 ∨ k = 3 := by omega
  rcases hk4 with rfl | rfl | rfl | rfl
  · have e1 := (on_0 d1 wv.1).mp c3
    have e2 := (on_0 d1 wz.1).mp c4
    rw [e1, e2] at p1
    refine Or.inl ⟨rfl, ?_⟩
    have h1 : (Q v).1 * (Q z).2.2 < (Q z).1 * (Q v).2.2 := by omega
    have h2 := Nat.mul_le_mul_right (Q v).2.2 wz.1
    have h3 : w * (Q z).2.2 * (Q v).2.2 = w * (Q v).2.2 * (Q z).2.2 := by grind
    exact Nat.lt_of_mul_lt_mul_right (a := (Q z).2.2) (by omega)
  · exact Or.inr ⟨rfl, (on_1 d3 wv.2).mp c3⟩
  · exfalso
    have e1 := (on_2 d1 wv.1).mp c3
    have e2 := (on_2 d1 wz.1).mp c4
    have h2 := Nat.mul_le_mul_right (Q v).2.2 wx.2
    have h3 : h * (Q x).2.2 * (Q v).2.2 = (Q v).2.1 * (Q x).2.2 := by rw [e1]; grind
    have h4 : (Q x).2.1 * (Q v).2.2 = h * (Q x).2.2 * (Q v).2.2 := by omega
    have e3 : (Q x).2.1 = h * (Q x).2.2 := Nat.eq_of_mul_eq_mul_right ov h4
    have : dtp (Q v) (Q x) (Q z) = 0 := by
      unfold dtp
      rw [e1, e2, e3, Int.natCast_mul, Int.natCast_mul, Int.natCast_mul]
      grind
    omega
  · exfalso
    have e1 := (on_3 d3 wv.2).mp c3
    have e2 := (on_3 d3 wz.2).mp c4
    rw [e1, e2] at p1
    have e : dtp (Q v) (Q x) (Q z) = ((Q x).1 : Int) * (((Q z).2.1 * (Q v).2.2 : Nat) - ((Q v).2.1 * (Q z).2.2 : Nat)) := by unfold dtp; rw [e1, e2]; grind
    have := Int.mul_nonneg (show (0 : Int) ≤ (Q x).1 by omega) (show (0 : Int) ≤ (((Q z).2.1 * (Q v).2.2 : Nat) : Int) - ((Q v).2.1 * (Q z).2.2 : Nat) by omega)
    omega
def cdW (w h nl : Nat) (ld : Nat → Ln) (m : Nat) (Q : Nat → Pt3) (c v z : Nat) : Prop := ∃ x k l, v < x ∧ x < m ∧ k < nl + 4 ∧ l < nl + 4 ∧ cn1 (onK (KX w h ld) Q k) m v x ∧ cn1 (onK (KX w h ld) Q l) m v z ∧ dtp (Q v) (Q x) (Q z) < 0 ∧ ((4 ≤ k ∧ 4 ≤ l ∧ c = tri (max k l - 4) + (min k l - 4)) ∨ (k < 4 ∧ l < 4 ∧ c = 91 + (tri (max k l) + min k l)) ∨ (4 ≤ k ∧ l < 4 ∧ c = 97 + (k - 4)) ∨ (k < 4 ∧ 4 ≤ l ∧ c = 111 + (l - 4)))
theorem tri_4 {i j : Nat} (hi : i < 4) (hj : j < i) : tri i + j < 6 := by
  have h1 : tri i + i ≤ tri 4 := tri_lt hi
  have h2 : tri 4 = 6 := by decide
  omega
theorem cdW_ex {w h nl : Nat} {ld : Nat → Ln} {m : Nat} {Q : Nat → Pt3} {fm : Nat → Nat → Bool} (hM : Mesh w h nl ld m Q fm) {v x z : Nat} (hx : v < x) (hz : v < z) (fx : fm v x = true) (fz : fm v z = true) (hd : dtp (Q v) (Q x) (Q z) < 0) : ∃ c, c < 125 ∧ cdW w h nl ld m Q c v z := by
  obtain ⟨k, hk, ck⟩ := (fm_ad hM fx).2.2.2.2.1 hx
  obtain ⟨l, hl, cl⟩ := (fm_ad hM fz).2.2.2.2.1 hz
  have hnl : nl ≤ 14 := hM.1.2.2.2.2.1
  have hxm := ck.2.1
  have hkl : k ≠ l := by
    intro e
    subst e
    have := succ_one ck cl
    subst this
    have := dtp_r (Q v) (Q x)
    omega
  by_cases q1 : 4 ≤ k <;> by_cases q2 : 4 ≤ l
  · have t := tri_14 (i := max k l - 4) (j := min k l - 4) (by omega) (by omega)
    exact ⟨_, by omega, x, k, l, hx, hxm, hk, hl, ck, cl, hd, Or.inl ⟨q1, q2, rfl⟩⟩
  · exact ⟨97 + (k - 4), by omega, x, k, l, hx, hxm, hk, hl, ck, cl, hd, Or.inr (Or.inr (Or.inl ⟨q1, by omega, rfl⟩))⟩
  · exact ⟨111 + (l - 4), by omega, x, k, l, hx, hxm, hk, hl, ck, cl, hd, Or.inr (Or.inr (Or.inr ⟨by omega, q2, rfl⟩))⟩
  · have t := tri_4 (i := max k l) (j := min k l) (by omega) (by omega)
    exact ⟨_, by omega, x, k, l, hx, hxm, hk, hl, ck, cl, hd, Or.inr (Or.inl ⟨by omega, by omega, rfl⟩)⟩
theorem cdW_one {w h nl : Nat} {ld : Nat → Ln} {m : Nat} {Q : Nat → Pt3} {fm : Nat → Nat → Bool} (hM : Mesh w h nl ld m Q fm) {c v z v' z' : Nat} (h1 : cdW w h nl ld m Q c v z) (h2 : cdW w h nl ld m Q c v' z') : v = v' ∧ z = z' := by
  have hX := Mesh_Mx hM
  obtain ⟨x, k, l, a1, a2, a3, a4, a5, a6, a7, a8⟩ := h1
  obtain ⟨x', k', l', b1, b2, b3, b4, b5, b6, b7, b8⟩ := h2
  have hnl : nl ≤ 14 := hM.1.2.2.2.2.1
  have nk := nonpar hX a3 a4 a5 a6 (by omega)
  have nk' := nonpar hX b3 b4 b5 b6 (by omega)
  have kl : k ≠ l := fun e => nk (by rw [e]; unfold cW; grind)
  have kl' : k' ≠ l' := fun e => nk' (by rw [e]; unfold cW; grind)
  -- one pair of lines
  have pair : (k = k' ∧ l = l') ∨ (k = l' ∧ l = k') → v = v' ∧ z = z' := by
    have hv : v < m := by omega
    have hv' : v' < m := by omega
    rintro (⟨rfl, rfl⟩ | ⟨rfl, rfl⟩)
    · have e : v = v' := Q_inj hX.2.2.2.1 hv hv' (onb_one (hX.2.2.1 v hv) (hX.2.2.1 v' hv') (hX.2.1 k a3).2 (hX.2.1 l a4).2 nk a5.2.2.1 a6.2.2.1 b5.2.2.1 b6.2.2.1)
      subst e
      exact ⟨rfl, succ_one a6 b6⟩
    · have e : v = v' := Q_inj hX.2.2.2.1 hv hv' (onb_one (hX.2.2.1 v hv) (hX.2.2.1 v' hv') (hX.2.1 k a3).2 (hX.2.1 l a4).2 nk a5.2.2.1 a6.2.2.1 b6.2.2.1 b5.2.2.1)
      subst e
      have e1 := succ_one a5 b6
      have e2 := succ_one a6 b5
      subst e1 e2
      rw [dtp_sw2] at b7
      omega
  have t14 : ∀ i j, 4 ≤ i → 4 ≤ j → i < nl + 4 → j < nl + 4 → i ≠ j → tri (max i j - 4) + (min i j - 4) < 91 := fun i j x1 x2 x3 x4 x5 => tri_14 (i := max i j - 4) (j := min i j - 4) (by omega) (by omega)
  have t4 : ∀ i j, i < 4 → j < 4 → i ≠ j → tri (max i j) + min i j < 6 := fun i j x1 x2 x3 => tri_4 (i := max i j) (j := min i j) (by omega) (by omega)
  rcases a8 with ⟨p1, p2, p3⟩ | ⟨p1, p2, p3⟩ | ⟨p1, p2, p3⟩ | ⟨p1, p2, p3⟩ <;> rcases b8 with ⟨q1, q2, q3⟩ | ⟨q1, q2, q3⟩ | ⟨q1, q2, q3⟩ | ⟨q1, q2, q3⟩
  · have := tri_one (i := max k l - 4) (j := min k l - 4) (a := max k' l' - 4) (b := min k' l' - 4) (by omega) (by omega) (by omega)
    exact pair (by omega)
  · have := t14 k l p1 p2 a3 a4 kl; omega
  · have := t14 k l p1 p2 a3 a4 kl; omega
  · have := t14 k l p1 p2 a3 a4 kl; omega
  · have := t14 k' l' q1 q2 b3 b4 kl'; omega
  · have := tri_one (i := max k l) (j := min k l) (a := max k' l') (b := min k' l') (by omega) (by omega) (by omega)
    exact pair (by omega)
  · have := t4 k l p1 p2 kl; omega
  · have := t4 k l p1 p2 kl; omega
  · have := t14 k' l' q1 q2 b3 b4 kl'; omega
  · have := t4 k' l' q1 q2 kl'; omega
  · obtain rfl : k = k' := by omega
    have e1 := side_v hM.1 hX a3 p2 (show v < m by omega) nk a5.2.2.1 a6.2.2.1
    have e2 := side_v hM.1 hX b3 q2 (show v' < m by omega) nk' b5.2.2.1 b6.2.2.1
    have e := end_one hX a3 e1 e2 a5 b5
    subst e
    have s1 := side_z hM p2 a6 a2 a1 a7
    have s2 := side_z hM q2 b6 b2 b1 b7
    have : l = l' := by omega
    subst this
    exact ⟨rfl, succ_one a6 b6⟩
  · omega
  · have := t14 k' l' q1 q2 b3 b4 kl'; omega
  · have := t4 k' l' q1 q2 kl'; omega
  · omega
  · obtain rfl : l = l' := by omega
    have n1 : cW (KX w h ld l) (KX w h ld k) ≠ 0 := by rw [cW_sym]; omega
    have n2 : cW (KX w h ld l) (KX w h ld k') ≠ 0 := by rw [cW_sym]; omega
    have e1 := side_v hM.1 hX a4 p1 (show v < m by omega) n1 a6.2.2.1 a5.2.2.1
    have e2 := side_v hM.1 hX b4 q1 (show v' < m by omega) n2 b6.2.2.1 b5.2.2.1
    have e := end_one hX a4 e1 e2 a6 b6
    subst e
    exact ⟨rfl, succ_one a6 b6⟩
theorem Cap_W {w h nl : Nat} {ld : Nat → Ln} {m : Nat} {Q : Nat → Pt3} {fm : Nat → Nat → Bool} (hM : Mesh w h nl ld m Q fm) {nv : Nat → Nat → Nat} (hn : NV Q fm nv) {b : Nat} (hb : cn1 (onK (KX w h ld) Q 0) m 0 b) (eb : (Q b).2.1 = 0) (n : Nat) (fs : Nat → St) (h1 : ∀ p, p < n → isS fm (fs p) ∧ ¬ Orb nv (fs p) (b, 0)) (h2 : ∀ p q, p < q → q < n → ¬ Orb nv (fs p) (fs q)) : n ≤ 125 := by
  have hex : ∀ p, ∃ c, p < n → (c < 125 ∧ ∃ v z, cdW w h nl ld m Q c v z ∧ Orb nv (fs p) (v, z)) := fun p => by
    by_cases hp : p < n
    · obtain ⟨a1, a2⟩ := h1 p hp
      have hW := orbB_WS hM hn a1
      have ho : orbB nv (fs p) b 0 = false := by
        cases e : orbB nv (fs p) b 0 with
        | false => rfl
        | true => exact absurd (orbB_t.mp e) a2
      obtain ⟨v, x, z, c1, c2, c3, c4, c5, c6⟩ := low_turn hM hn hW hb eb ho ⟨(fs p).1, (fs p).2, orbB_t.mpr (Orb_r nv (fs p))⟩
      obtain ⟨c, d1, d2⟩ := cdW_ex hM c1 c2 c3 c4 c5
      exact ⟨c, fun _ => ⟨d1, v, z, d2, orbB_t.mp c6⟩⟩
    · exact ⟨0, fun z => absurd z hp⟩
  obtain ⟨f, hf⟩ := Classical.axiomOfChoice hex
  refine fb_holes 125 n f (fun i hi => (hf i hi).1) (fun i j hij hj e => ?_)
  obtain ⟨-, v, z, x1, x2⟩ := hf i (by omega)
  obtain ⟨-, v', z', y1, y2⟩ := hf j hj
  rw [← e] at y1
  obtain ⟨rfl, rfl⟩ := cdW_one hM x1 y1
  exact h2 i j hij hj (Orb_t x2 (Orb_s hM hn (h1 j hj).1 y2))
