/-! what lies on the right: the same along a walk -/
def fl (W : Nat → Nat → Bool) (x y : Nat) : Int := ib (W x y) - ib (W y x)
/-- a set of whole walks -/
def WS (fm : Nat → Nat → Bool) (nv : Nat → Nat → Nat) (W : Nat → Nat → Bool) : Prop := (∀ x y, W x y = true → fm x y = true) ∧ ∀ x y, fm x y = true → W x y = W y (nv x y)
theorem pre_ex {w h nl : Nat} {ld : Nat → Ln} {m : Nat} {Q : Nat → Pt3} {fm : Nat → Nat → Bool} (hM : Mesh w h nl ld m Q fm) {nv : Nat → Nat → Nat} (hn : NV Q fm nv) {v z : Nat} (hf : fm v z = true) : ∃ d, fm d v = true ∧ nv d v = z := by
  obtain ⟨K, ⟨hK, eK⟩, -⟩ := per_ex hM hn (p := (v, z)) hf
  obtain ⟨k, rfl⟩ : ∃ k, K = k + 1 := ⟨K - 1, by omega⟩
  have hS := itr_S hM hn (p := (v, z)) hf k
  rw [itr_s] at eK
  refine ⟨(itr nv k (v, z)).1, ?_, ?_⟩
  · have e1 : (itr nv k (v, z)).2 = v := congrArg Prod.fst eK
    have := hS
    unfold isS at this
    rw [e1] at this
    exact this
  · have e1 : (itr nv k (v, z)).2 = v := congrArg Prod.fst eK
    have e2 : nv (itr nv k (v, z)).1 (itr nv k (v, z)).2 = z := congrArg Prod.snd eK
    rw [e1] at e2
    exact e2
theorem fl_flow {w h nl : Nat} {ld : Nat → Ln} {m : Nat} {Q : Nat → Pt3} {fm : Nat → Nat → Bool} (hM : Mesh w h nl ld m Q fm) {nv : Nat → Nat → Nat} (hn : NV Q fm nv) {W : Nat → Nat → Bool} (hW : WS fm nv W) : Flow m fm (fl W) := by
  refine ⟨fun c d => by unfold fl; omega, fun v hv => ?_, fun c d nz => ?_⟩
  · show sm m (fun d => ib (W v d) - ib (W d v)) = 0
    rw [sm_sub, sm_cnt, sm_cnt]
    have : cnt m (fun d => W d v) = cnt m (W v) := by
      refine cnt_bij (fun d => nv d v) (fun d hd hp => ?_) (fun d d' hd hd' hp hp' e => ?_) (fun z hz hq => ?_)
      · have f1 := hW.1 d v hp
        have f2 := (nx_ne hM hn f1).1
        exact ⟨(fm_ad hM f2).2.1, by rw [← hW.2 d v f1]; exact hp⟩
      · have := nx_inj hM hn (p := (d, v)) (q := (d', v)) (hW.1 d v hp) (hW.1 d' v hp') (Prod.ext rfl e)
        exact congrArg Prod.fst this
      · obtain ⟨d, d1, d2⟩ := pre_ex hM hn (hW.1 v z hq)
        refine ⟨d, (fm_ad hM d1).1, ?_, d2⟩
        rw [hW.2 d v d1, d2]; exact hq
    rw [this]; omega
  · unfold fl at nz
    cases e1 : W c d with
    | true => exact hW.1 c d e1
    | false =>
      cases e2 : W d c with
      | true => exact (fm_ad hM (hW.1 d c e2)).2.2.2.1
      | false => rw [e1, e2] at nz; exact absurd rfl nz
def om (Q : Nat → Pt3) (m : Nat) (f : Nat → Nat → Int) (x y : Nat) : Int := if x < y then RR Q m f x + UU Q m f x y else RR Q m f y + UU Q m f y x - f y x
theorem dtp_r (p q : Pt3) : dtp p q q = 0 := by unfold dtp; grind
theorem dtp_l (p q : Pt3) : dtp q p q = 0 := by unfold dtp; grind
theorem UU_s {Q : Nat → Pt3} {m : Nat} {f : Nat → Nat → Int} {y x : Nat} (hx : x < m) (hyx : y < x) : UU Q m f y x = sm m (fun d => if y < d ∧ dtp (Q y) (Q x) (Q d) < 0 then f y d else 0) + f y x := by
  have e : ∀ d, d < m → (if y < d ∧ (d = x ∨ dtp (Q y) (Q x) (Q d) < 0) then f y d else 0) = (if y < d ∧ dtp (Q y) (Q x) (Q d) < 0 then f y d else 0) + (if d = x then f y d else 0) := by
    intro d _
    by_cases q : d = x
    · subst q
      rw [if_pos rfl, if_pos ⟨hyx, Or.inl rfl⟩, if_neg (fun z => by have := dtp_r (Q y) (Q d); omega), Int.zero_add]
    · rw [if_neg q, Int.add_zero]
      exact if_iff ⟨fun z => ⟨z.1, z.2.resolve_left q⟩, fun z => ⟨z.1, Or.inr z.2⟩⟩ _ _
  unfold UU
  rw [sm_congr e, sm_add, sm_one hx]
theorem DD_s {Q : Nat → Pt3} {m : Nat} {f : Nat → Nat → Int} {y z : Nat} (hz : z < m) (hzy : z < y) : DD Q m f y z = sm m (fun c => if c < y ∧ dtp (Q z) (Q y) (Q c) < 0 then f c y else 0) + f z y := by
  have e : ∀ d, d < m → (if d < y ∧ (d = z ∨ dtp (Q z) (Q y) (Q d) < 0) then f d y else 0) = (if d < y ∧ dtp (Q z) (Q y) (Q d) < 0 then f d y else 0) + (if d = z then f d y else 0) := by
    intro d _
    by_cases q : d = z
    · subst q
      rw [if_pos rfl, if_pos ⟨hzy, Or.inl rfl⟩, if_neg (fun z => by have := dtp_l (Q y) (Q d); omega), Int.zero_add]
    · rw [if_neg q, Int.add_zero]
      exact if_iff ⟨fun z => ⟨z.1, z.2.resolve_left q⟩, fun z => ⟨z.1, Or.inr z.2⟩⟩ _ _
  unfold DD
  rw [sm_congr e, sm_add, sm_one hz (fun d => f d y)]
theorem tot_eq {m : Nat} {fm : Nat → Nat → Bool} {f : Nat → Nat → Int} (hf : Flow m fm f) {y : Nat} (hy : y < m) : sm m (fun d => if y < d then f y d else 0) = sm m (fun c => if c < y then f c y else 0) := by
  have h := hf.2.1 y hy
  have e : ∀ d, d < m → f y d = (if y < d then f y d else 0) - (if d < y then f d y else 0) := by
    intro d _
    have a := hf.1 y d
    rcases Nat.lt_trichotomy y d with q | q | q
    · rw [if_pos q, if_neg (by omega)]; omega
    · subst q
      simp only [Nat.lt_irrefl, if_false]; omega
    · rw [if_neg (by omega), if_pos q]; omega
  rw [sm_congr e, sm_sub] at h
  omega
theorem soon_c {p q s t : Pt3} (h : soonB p q s t = true) : (dtp p q s < 0 ∧ 0 ≤ dtp p q t) ∨ (dtp p q s = 0 ∧ 0 < dtp p q t) ∨ (dtp p q s < 0 ∧ dtp p q t < 0 ∧ dtp p s t < 0) ∨ (dtp p q s = 0 ∧ dtp p q t = 0 ∧ dtp p s t < 0) ∨ (0 < dtp p q s ∧ 0 < dtp p q t ∧ dtp p s t < 0) := by
  unfold soonB at h
  simp only [decide_eq_true_eq] at h
  have g1 := sg_cases (dtp p q s)
  have g2 := sg_cases (dtp p q t)
  omega
theorem m_pp {a b : Int} (h1 : 0 < a) (h2 : 0 < b) : 0 < a * b := Int.mul_pos h1 h2
theorem m_pn {a b : Int} (h1 : 0 < a) (h2 : b < 0) : a * b < 0 := Int.mul_neg_of_pos_of_neg h1 h2
theorem m_np {a b : Int} (h1 : a < 0) (h2 : 0 < b) : a * b < 0 := Int.mul_neg_of_neg_of_pos h1 h2
theorem m_nn {a b : Int} (h1 : a < 0) (h2 : b < 0) : 0 < a * b := Int.mul_pos_of_neg_of_neg h1 h2
theorem m_pp0 {a b : Int} (h1 : 0 < a) (h2 : 0 ≤ b) : 0 ≤ a * b := Int.mul_nonneg (by omega) h2
theorem m_pn0 {a b : Int} (h1 : 0 < a) (h2 : b ≤ 0) : a * b ≤ 0 := Int.mul_nonpos_of_nonneg_of_nonpos (by omega) h2
theorem m_np0 {a b : Int} (h1 : a < 0) (h2 : 0 ≤ b) : a * b ≤ 0 := Int.mul_nonpos_of_nonpos_of_nonneg (by omega) h2
theorem m_nn0 {a b : Int} (h1 : a < 0) (h2 : b ≤ 0) : 0 ≤ a * b := Int.mul_nonneg_of_nonpos_of_nonpos (by omega) h2
theorem om_next {w h nl : Nat} {ld : Nat → Ln} {m : Nat} {Q : Nat → Pt3} {fm : Nat → Nat → Bool} (hM : Mesh w h nl ld m Q fm) {nv : Nat → Nat → Nat} (hn : NV Q fm nv) {f : Nat → Nat → Int} (hf : Flow m fm f) {x y : Nat} (he : fm x y = true) : om Q m f x y = om Q m f y (nv x y) := by
  obtain ⟨n1, n2, n3⟩ := nx_ne hM hn he
  generalize nv x y = z at *
  obtain ⟨hx, hy, xy, hyx, -, -⟩ := fm_ad hM he
  obtain ⟨-, hz, yz, hzy, -, -⟩ := fm_ad hM n1
  have hQ := hM.2.1.1
  have hS := hM.2.1.2.1
  have hp : ∀ u, y < u → u < m → 0 < hh (Q y) (Q u) := fun u a b => hh_lt hQ hS a b
  have hng : ∀ u, u < y → hh (Q y) (Q u) < 0 := fun u a => by rw [hh_neg]; have := hh_lt hQ hS a hy; omega
  have nb := nb_fm hM y
  have nxz := nb x z hyx n1 (Ne.symm n2)
  have tot := tot_eq hf hy
  have nzf : ∀ d, f y d ≠ 0 → fm y d = true := fun d q => hf.2.2 y d q
  have nzf' : ∀ d, f d y ≠ 0 → fm y d = true := fun d q => by rw [hM.2.2.2.1.2.1]; exact hf.2.2 d y q
  have swzx := dtp_sw2 (Q y) (Q x) (Q z)
  -- for each other neighbour
  have oth : ∀ d, fm y d = true → d ≠ x → d ≠ z → d < m ∧ d ≠ y ∧ ((dtp (Q y) (Q x) (Q z) < 0 ∧ 0 ≤ dtp (Q y) (Q x) (Q d)) ∨ (dtp (Q y) (Q x) (Q z) = 0 ∧ 0 < dtp (Q y) (Q x) (Q d)) ∨ (dtp (Q y) (Q x) (Q z) < 0 ∧ dtp (Q y) (Q x) (Q d) < 0 ∧ dtp (Q y) (Q z) (Q d) < 0) ∨ (dtp (Q y) (Q x) (Q z) = 0 ∧ dtp (Q y) (Q x) (Q d) = 0 ∧ dtp (Q y) (Q z) (Q d) < 0) ∨ (0 < dtp (Q y) (Q x) (Q z) ∧ 0 < dtp (Q y) (Q x) (Q d) ∧ dtp (Q y) (Q z) (Q d) < 0)) ∧ hh (Q y) (Q x) * dtp (Q y) (Q z) (Q d) - hh (Q y) (Q z) * dtp (Q y) (Q x) (Q d) + hh (Q y) (Q d) * dtp (Q y) (Q x) (Q z) = 0 ∧ ((y < z ↔ y < d) → dtp (Q y) (Q z) (Q d) ≠ 0) ∧ ((y < x ↔ y < d) → dtp (Q y) (Q x) (Q d) ≠ 0) := by
    intro d fd dx dz
    exact ⟨(fm_ad hM fd).2.1, Ne.symm (fm_ad hM fd).2.2.1, soon_c (n3 d fd dx dz), hh3 _ _ _ _, (nb z d n1 fd (Ne.symm dz)).2.2.2, (nb x d hyx fd (Ne.symm dx)).2.2.2⟩
  rcases Nat.lt_or_gt_of_ne xy with xly | yx <;> rcases Nat.lt_or_gt_of_ne yz with yz' | zy
  · -- from below, up
    have e1 : om Q m f x y = RR Q m f y + DD Q m f y x := by unfold om; rw [if_pos xly]; exact om_key hM hf xly he
    have e2 : om Q m f y z = RR Q m f y + UU Q m f y z := by unfold om; rw [if_pos yz']
    rw [e1, e2]
    have Hx := hng x xly
    have Hz := hp z yz' hz
    have a1 : DD Q m f y x = sm m (fun c => if c < y then f c y else 0) := by
      unfold DD
      refine sm_congr (fun d _ => if_nz (fun nz => ⟨fun q => q.1, fun q => ⟨q, ?_⟩⟩))
      by_cases dx : d = x
      · exact Or.inl dx
      · right
        obtain ⟨o1, o2, o3, o4, o5, o6⟩ := oth d (nzf' d nz) dx (by omega)
        have Hd := hng d q
        have t := o6 (by omega)
        rw [dtp_sw]
        rcases Int.lt_or_gt_of_ne t with c | c
        · exfalso
          have c1 : dtp (Q y) (Q x) (Q z) < 0 := by omega
          have c2 : dtp (Q y) (Q z) (Q d) < 0 := by omega
          have r1 := m_nn Hx c2
          have r2 := m_pn Hz c
          have r3 := m_nn Hd c1
          omega
        · omega
    have a2 : UU Q m f y z = sm m (fun d => if y < d then f y d else 0) := by
      unfold UU
      refine sm_congr (fun d _ => if_nz (fun nz => ⟨fun q => q.1, fun q => ⟨q, ?_⟩⟩))
      by_cases dz : d = z
      · exact Or.inl dz
      · right
        obtain ⟨o1, o2, o3, o4, o5, o6⟩ := oth d (nzf d nz) (by omega) dz
        have Hd := hp d q o1
        have t := o5 (by omega)
        rcases Int.lt_or_gt_of_ne t with c | c
        · exact c
        · exfalso
          have c1 : dtp (Q y) (Q x) (Q z) ≤ 0 := by omega
          have c2 : 0 ≤ dtp (Q y) (Q x) (Q d) := by omega
          have r1 := m_np Hx c
          have r2 := m_pp0 Hz c2
          have r3 := m_pn0 Hd c1
          omega
    rw [a1, a2, tot]
  · -- from below, down
    have e1 : om Q m f x y = RR Q m f y + DD Q m f y x := by unfold om; rw [if_pos xly]; exact om_key hM hf xly he
    have e2 : om Q m f y z = RR Q m f y + DD Q m f y z - f z y := by unfold om; rw [if_neg (by omega), om_key hM hf zy hzy]
    rw [e1, e2, DD_s hz zy]
    have Hx := hng x xly
    have Hz := hng z zy
    have t0 := nxz.2.2.2 (by omega)
    rcases Int.lt_or_gt_of_ne t0 with c0 | c0
    · have a1 : DD Q m f y x = sm m (fun c => if c < y ∧ dtp (Q z) (Q y) (Q c) < 0 then f c y else 0) := by
        unfold DD
        refine sm_congr (fun d _ => if_nz (fun nz => ?_))
        rw [dtp_sw (Q y) (Q x) (Q d), dtp_sw (Q y) (Q z) (Q d)]
        by_cases dx : d = x
        · subst dx; omega
        · by_cases dz : d = z
          · subst dz
            have := dtp_r (Q y) (Q d)
            omega
          · obtain ⟨o1, o2, o3, o4, o5, o6⟩ := oth d (nzf' d nz) dx dz
            constructor
            · rintro ⟨q, q2⟩
              refine ⟨q, ?_⟩
              have Hd := hng d q
              have c1 : 0 < dtp (Q y) (Q x) (Q d) := by omega
              have t := o5 (by omega)
              rcases Int.lt_or_gt_of_ne t with c | c
              · have r1 := m_nn Hx c
                have r2 := m_np Hz c1
                have r3 := m_nn Hd c0
                omega
              · omega
            · rintro ⟨q, q2⟩
              have t := o6 (by omega)
              omega
      omega
    · have a1 : DD Q m f y x = sm m (fun c => if c < y then f c y else 0) := by
        unfold DD
        refine sm_congr (fun d _ => if_nz (fun nz => ⟨fun q => q.1, fun q => ⟨q, ?_⟩⟩))
        rw [dtp_sw (Q y) (Q x) (Q d)]
        by_cases dx : d = x
        · exact Or.inl dx
        · by_cases dz : d = z
          · subst dz; right; omega
          · obtain ⟨o1, o2, o3, o4, o5, o6⟩ := oth d (nzf' d nz) dx dz
            right; omega
      have a2 : sm m (fun c => if c < y ∧ dtp (Q z) (Q y) (Q c) < 0 then f c y else 0) = 0 := by
        refine sm_0 (fun d _ => ?_)
        by_cases nz : f d y = 0
        · rw [nz]; split <;> rfl
        · rw [if_neg]
          rw [dtp_sw (Q y) (Q z) (Q d)]
          by_cases dx : d = x
          · subst dx; omega
          · by_cases dz : d = z
            · subst dz; have := dtp_r (Q y) (Q d); omega
            · obtain ⟨o1, o2, o3, o4, o5, o6⟩ := oth d (nzf' d nz) dx dz
              omega
      have a3 : sm m (fun d => if y < d then f y d else 0) = 0 := by
        refine sm_0 (fun d _ => ?_)
        by_cases nz : f y d = 0
        · rw [nz]; split <;> rfl
        · rw [if_neg]
          intro q
          obtain ⟨o1, o2, o3, o4, o5, o6⟩ := oth d (nzf d nz) (by omega) (by omega)
          have Hd := hp d q o1
          have c1 : 0 < dtp (Q y) (Q x) (Q d) := by omega
          have c2 : dtp (Q y) (Q z) (Q d) < 0 := by omega
          have r1 := m_nn Hx c2
          have r2 := m_np Hz c1
          have r3 := m_pp Hd c0
          omega
      omega
  · -- from above, up
    have e1 : om Q m f x y = RR Q m f y + UU Q m f y x - f y x := by unfold om; rw [if_neg (by omega)]
    have e2 : om Q m f y z = RR Q m f y + UU Q m f y z := by unfold om; rw [if_pos yz']
    rw [e1, e2, UU_s hx yx]
    have Hx := hp x yx hx
    have Hz := hp z yz' hz
    have t0 := nxz.2.2.2 (by omega)
    rcases Int.lt_or_gt_of_ne t0 with c0 | c0
    · have a1 : UU Q m f y z = sm m (fun d => if y < d ∧ dtp (Q y) (Q x) (Q d) < 0 then f y d else 0) := by
        unfold UU
        refine sm_congr (fun d _ => if_nz (fun nz => ?_))
        by_cases dx : d = x
        · subst dx; have := dtp_r (Q y) (Q d); omega
        · by_cases dz : d = z
          · subst dz; omega
          · obtain ⟨o1, o2, o3, o4, o5, o6⟩ := oth d (nzf d nz) dx dz
            constructor
            · rintro ⟨q, q2⟩
              refine ⟨q, ?_⟩
              have Hd := hp d q o1
              have c1 : dtp (Q y) (Q z) (Q d) < 0 := by omega
              have t := o6 (by omega)
              rcases Int.lt_or_gt_of_ne t with c | c
              · exact c
              · have r1 := m_pn Hx c1
                have r2 := m_pp Hz c
                have r3 := m_pn Hd c0
                omega
            · rintro ⟨q, q2⟩
              omega
      omega
    · have a1 : UU Q m f y z = sm m (fun d => if y < d then f y d else 0) := by
        unfold UU
        refine sm_congr (fun d _ => if_nz (fun nz => ⟨fun q => q.1, fun q => ⟨q, ?_⟩⟩))
        by_cases dz : d = z
        · exact Or.inl dz
        · by_cases dx : d = x
          · subst dx; right; omega
          · obtain ⟨o1, o2, o3, o4, o5, o6⟩ := oth d (nzf d nz) dx dz
            right; omega
      have a2 : sm m (fun d => if y < d ∧ dtp (Q y) (Q x) (Q d) < 0 then f y d else 0) = 0 := by
        refine sm_0 (fun d _ => ?_)
        by_cases nz : f y d = 0
        · rw [nz]; split <;> rfl
        · rw [if_neg]
          by_cases dx : d = x
          · subst dx; have := dtp_r (Q y) (Q d); omega
          · by_cases dz : d = z
            · subst dz; omega
            · obtain ⟨o1, o2, o3, o4, o5, o6⟩ := oth d (nzf d nz) dx dz
              omega
      have a3 : sm m (fun c => if c < y then f c y else 0) = 0 := by
        refine sm_0 (fun d _ => ?_)
        by_cases nz : f d y = 0
        · rw [nz]; split <;> rfl
        · rw [if_neg]
          intro q
          obtain ⟨o1, o2, o3, o4, o5, o6⟩ := oth d (nzf' d nz) (by omega) (by omega)
          have Hd := hng d q
          have c1 : 0 < dtp (Q y) (Q x) (Q d) := by omega
          have c2 : dtp (Q y) (Q z) (Q d) < 0 := by omega
          have r1 := m_pn Hx c2
          have r2 := m_pp Hz c1
          have r3 := m_np Hd c0
          omega
      omega
  · -- from above, down
    have e1 : om Q m f x y = RR Q m f y + UU Q m f y x - f y x := by unfold om; rw [if_neg (by omega)]
    have e2 : om Q m f y z = RR Q m f y + DD Q m f y z - f z y := by unfold om; rw [if_neg (by omega), om_key hM hf zy hzy]
    rw [e1, e2, UU_s hx yx, DD_s hz zy]
    have Hx := hp x yx hx
    have Hz := hng z zy
    have a1 : sm m (fun d => if y < d ∧ dtp (Q y) (Q x) (Q d) < 0 then f y d else 0) = 0 := by
      refine sm_0 (fun d _ => ?_)
      by_cases nz : f y d = 0
      · rw [nz]; split <;> rfl
      · rw [if_neg]
        rintro ⟨q, q2⟩
        by_cases dx : d = x
        · subst dx; have := dtp_r (Q y) (Q d); omega
        · obtain ⟨o1, o2, o3, o4, o5, o6⟩ := oth d (nzf d nz) dx (by omega)
          have Hd := hp d q o1
          have c1 : dtp (Q y) (Q x) (Q z) < 0 := by omega
          have c2 : dtp (Q y) (Q z) (Q d) < 0 := by omega
          have r1 := m_pn Hx c2
          have r2 := m_nn Hz q2
          have r3 := m_pn Hd c1
          omega
    have a2 : sm m (fun c => if c < y ∧ dtp (Q z) (Q y) (Q c) < 0 then f c y else 0) = 0 := by
      refine sm_0 (fun d _ => ?_)
      by_cases nz : f d y = 0
      · rw [nz]; split <;> rfl
      · rw [if_neg]
        rintro ⟨q, q2⟩
        rw [dtp_sw (Q y) (Q z) (Q d)] at q2
        by_cases dz : d = z
        · subst dz; have := dtp_r (Q y) (Q d); omega
        · obtain ⟨o1, o2, o3, o4, o5, o6⟩ := oth d (nzf' d nz) (by omega) dz
          have Hd := hng d q
          have c0 : 0 < dtp (Q y) (Q z) (Q d) := by omega
          have c1 : dtp (Q y) (Q x) (Q z) ≤ 0 := by omega
          have c2 : 0 ≤ dtp (Q y) (Q x) (Q d) := by omega
          have r1 := m_pp Hx c0
          have r2 := m_np0 Hz c2
          have r3 := m_nn0 Hd c1
          omega
    omega
