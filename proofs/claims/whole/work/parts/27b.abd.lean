/-! bounds of a pane's area -/
def kap (Q : Nat → Pt3) (L Ω : Nat) (c d : Nat) : Int := (Ω : Int) / (sY Q L d - sY Q L c)
def xi (Q : Nat → Pt3) (L Ω k : Nat) (c d : Nat) : Int := 2 * Ω * sX Q L c + (sX Q L d - sX Q L c) * (sY Q L k + sY Q L (k + 1) - 2 * sY Q L c) * kap Q L Ω c d
theorem sY_mono {m : Nat} {Q : Nat → Pt3} (hQ : ∀ i, i < m → pOK (Q i)) (hS : Srt m Q) {L : Nat} (hL : dvL L) {c d : Nat} (hcd : c ≤ d) (hd : d < m) : sY Q L c ≤ sY Q L d := by
  rcases Nat.lt_or_ge c d with q | q
  · have p := hS c d q hd
    rw [plt_iff] at p
    have oc := pB_of (hQ c (by omega))
    have od := pB_of (hQ d hd)
    have e := Y1_sc hL oc od
    have hH : 0 ≤ Hf 1 0 (Q c) (Q d) := by
      unfold Hf
      simp only [Int.one_mul, Int.zero_mul, Int.add_zero]
      rw [← Int.natCast_mul, ← Int.natCast_mul]; omega
    have h1 := Int.mul_nonneg (show (0 : Int) ≤ L by omega) hH
    have dd : (0 : Int) < (Q c).2.2 * (Q d).2.2 := m_pp (by have := oc.1; omega) (by have := od.1; omega)
    rw [e] at h1
    have := Int.nonneg_of_mul_nonneg_right h1 dd
    omega
  · obtain rfl : c = d := by omega
    exact Int.le_refl _
theorem kap_ok {Q : Nat → Pt3} {L Ω : Nat} (hΩ : ∀ j, 0 < j → j ≤ 12 * L → j ∣ Ω) {c d : Nat} (h1 : 0 < sY Q L d - sY Q L c) (h2 : sY Q L d - sY Q L c ≤ 12 * L) : (sY Q L d - sY Q L c) * kap Q L Ω c d = Ω := by
  unfold kap
  generalize sY Q L d - sY Q L c = δ at *
  obtain ⟨j, rfl⟩ : ∃ j : Nat, δ = j := ⟨δ.toNat, by omega⟩
  obtain ⟨e, he⟩ := hΩ j (by omega) (by omega)
  rw [he, Int.natCast_mul, Int.mul_ediv_cancel_left _ (by omega)]
theorem strip_ok {w h nl : Nat} {ld : Nat → Ln} {m : Nat} {Q : Nat → Pt3} {fm : Nat → Nat → Bool} (hM : Mesh w h nl ld m Q fm) {f : Nat → Nat → Int} (hf : Flow m fm f) (hom : ∀ x y, fm x y = true → x < y → om Q m f x y = 0 ∨ om Q m f x y = 1) {L Ω : Nat} (hL : dvL L) (hΩ0 : 0 < Ω) (hΩ : ∀ j, 0 < j → j ≤ 12 * L → j ∣ Ω) {k : Nat} (hk : k + 1 < m) (hη : sY Q L k < sY Q L (k + 1)) : 0 ≤ sm m (fun c => sm m (fun d => if c ≤ k ∧ k < d then f c d * xi Q L Ω k c d else 0)) ∧ sm m (fun c => sm m (fun d => if c ≤ k ∧ k < d then f c d * xi Q L Ω k c d else 0)) ≤ ((24 * Ω * L : Nat) : Int) := by
  have hX := Mesh_Mx hM
  have hQ := hM.2.1.1
  have hS := hM.2.1.2.1
  have hm := hM.2.2.1
  have pt : ∀ v, v < m → pB (Q v) := fun v hv => pB_of (hQ v hv)
  have mo : ∀ {c d}, c ≤ d → d < m → sY Q L c ≤ sY Q L d := fun a b => sY_mono hQ hS hL a b
  have L0 : (0 : Int) < L := by have := hL.1; omega
  -- a piece at this strip
  have sp : ∀ c d, c ≤ k → k < d → d < m → 0 < sY Q L d - sY Q L c ∧ (sY Q L d - sY Q L c) * kap Q L Ω c d = Ω ∧ 0 < kap Q L Ω c d ∧ 0 ≤ sY Q L k + sY Q L (k + 1) - 2 * sY Q L c ∧ sY Q L k + sY Q L (k + 1) - 2 * sY Q L c ≤ 2 * (sY Q L d - sY Q L c) := by
    intro c d h1 h2 h3
    have a1 := mo h1 (by omega)
    have a2 := mo (show k + 1 ≤ d by omega) h3
    have a3 := (sc_facts hL (pt d h3)).2.2.2.1
    have a4 := (sc_facts hL (pt c (by omega))).2.2.1
    have e := kap_ok (Q := Q) hΩ (c := c) (d := d) (by omega) (by omega)
    have δ0 : 0 < sY Q L d - sY Q L c := by omega
    refine ⟨δ0, e, ?_, by omega, by omega⟩
    rcases Int.lt_or_le 0 (kap Q L Ω c d) with z | z
    · exact z
    · have := m_pn0 δ0 z; omega
  have xb : ∀ c d, c ≤ k → k < d → d < m → 0 ≤ xi Q L Ω k c d ∧ xi Q L Ω k c d ≤ ((24 * Ω * L : Nat) : Int) := by
    intro c d h1 h2 h3
    obtain ⟨δ0, e, κ0, s0, s1⟩ := sp c d h1 h2 h3
    obtain ⟨x1, x2, -⟩ := sc_facts hL (pt c (by omega))
    obtain ⟨x3, x4, -⟩ := sc_facts hL (pt d h3)
    have id1 : xi Q L Ω k c d = kap Q L Ω c d * (sX Q L c * (2 * (sY Q L d - sY Q L c) - (sY Q L k + sY Q L (k + 1) - 2 * sY Q L c)) + sX Q L d * (sY Q L k + sY Q L (k + 1) - 2 * sY Q L c)) := by
      unfold xi
      rw [← e]; grind
    generalize sY Q L k + sY Q L (k + 1) - 2 * sY Q L c = s at *
    generalize sY Q L d - sY Q L c = δ at *
    generalize kap Q L Ω c d = κ at *
    generalize sX Q L c = u at *
    generalize sX Q L d = v at *
    have p1 := Int.mul_nonneg x1 (show 0 ≤ 2 * δ - s by omega)
    have p2 := Int.mul_nonneg x3 s0
    have p3 := Int.mul_le_mul_of_nonneg_right x2 (show 0 ≤ 2 * δ - s by omega)
    have p4 := Int.mul_le_mul_of_nonneg_right x4 s0
    rw [id1]
    constructor
    · exact Int.mul_nonneg (by omega) (by omega)
    · have p5 : u * (2 * δ - s) + v * s ≤ 24 * L * δ := by
        have : 12 * (L : Int) * (2 * δ - s) + 12 * (L : Int) * s = 24 * L * δ := by grind
        omega
      have p6 := Int.mul_le_mul_of_nonneg_left p5 (show 0 ≤ κ by omega)
      have : κ * (24 * (L : Int) * δ) = ((24 * Ω * L : Nat) : Int) := by
        rw [Int.natCast_mul, Int.natCast_mul, ← e]; grind
      omega
  -- layers
  have lay : sm m (fun c => sm m (fun d => if c ≤ k ∧ k < d then f c d * xi Q L Ω k c d else 0)) = sm (24 * Ω * L) (fun t => sm m (fun c => sm m (fun d => if (c ≤ k ∧ k < d) ∧ (t : Int) < xi Q L Ω k c d then f c d else 0))) := by
    rw [sm_swap (24 * Ω * L) m (fun t c => sm m (fun d => if (c ≤ k ∧ k < d) ∧ (t : Int) < xi Q L Ω k c d then f c d else 0))]
    refine sm_congr (fun c hc => ?_)
    rw [sm_swap (24 * Ω * L) m (fun t d => if (c ≤ k ∧ k < d) ∧ (t : Int) < xi Q L Ω k c d then f c d else 0)]
    refine sm_congr (fun d hd => ?_)
    by_cases q : c ≤ k ∧ k < d
    · rw [if_pos q]
      obtain ⟨b1, b2⟩ := xb c d q.1 q.2 hd
      have e := layer b1 (24 * Ω * L)
      have e2 : xi Q L Ω k c d = sm (24 * Ω * L) (fun t => if (t : Int) < xi Q L Ω k c d then 1 else 0) := by rw [e]; omega
      conv => lhs; rw [e2]
      rw [← sm_mul]
      refine sm_congr (fun t _ => ?_)
      by_cases z : (t : Int) < xi Q L Ω k c d
      · rw [if_pos z, if_pos ⟨q, z⟩, Int.mul_one]
      · rw [if_neg z, if_neg (fun y => z y.2), Int.mul_zero]
    · rw [if_neg q]
      exact (sm_0 (fun t _ => if_neg (fun y => q y.1))).symm
  have each : ∀ t : Nat, 0 ≤ sm m (fun c => sm m (fun d => if (c ≤ k ∧ k < d) ∧ (t : Int) < xi Q L Ω k c d then f c d else 0)) ∧ sm m (fun c => sm m (fun d => if (c ≤ k ∧ k < d) ∧ (t : Int) < xi Q L Ω k c d then f c d else 0)) ≤ 1 := by
    intro t
    by_cases hx : ∃ e, e < 16384 ∧ (fm (e / 128) (e % 128) = true ∧ e / 128 ≤ k ∧ k < e % 128 ∧ (t : Int) < xi Q L Ω k (e / 128) (e % 128))
    · obtain ⟨e, e1, e2, e3⟩ := best_ex (R := fun e g => xi Q L Ω k (e / 128) (e % 128) ≤ xi Q L Ω k (g / 128) (g % 128)) (C := fun e => fm (e / 128) (e % 128) = true ∧ e / 128 ≤ k ∧ k < e % 128 ∧ (t : Int) < xi Q L Ω k (e / 128) (e % 128)) (fun a b c _ _ _ r1 r2 => by omega) (fun a b _ _ => by omega) 16384 hx
      have least : ∀ c d, fm c d = true → c ≤ k → k < d → (t : Int) < xi Q L Ω k c d → xi Q L Ω k (e / 128) (e % 128) ≤ xi Q L Ω k c d := by
        intro c d x1 x2 x3 x4
        obtain ⟨t2, t3, -⟩ := fm_ad hM x1
        have d1 : (c * 128 + d) / 128 = c := by omega
        have d2 : (c * 128 + d) % 128 = d := by omega
        have := e3 (c * 128 + d) (by omega) (by rw [d1, d2]; exact ⟨x1, x2, x3, x4⟩)
        rw [d1, d2] at this
        exact this
      generalize e / 128 = a at *
      generalize e % 128 = b at *
      obtain ⟨f1, f2, f3, f4⟩ := e2
      obtain ⟨ha, hb, -, -, pab, -⟩ := fm_ad hM f1
      have hab : a < b := by omega
      have pab := pab hab
      -- the point in the middle of the strip
      have hkB := pt k (by omega)
      have hlB := pt (k + 1) hk
      have cut := om_cut hM hf hab f1 (lo1 := fun v => decide (v ≤ a)) (lo2 := fun v => decide (v ≤ k)) (fun v hv => decide_eq_true hv) (fun v hv => by have := of_decide_eq_true hv; exact decide_eq_true (by omega)) (fun v hv => by have := of_decide_eq_true hv; omega) (fun u v huv hv => by have := of_decide_eq_true hv; exact decide_eq_true (by omega)) (fun u v huv hv => by have := of_decide_eq_true hv; exact decide_eq_true (by omega))
      rw [om_low hM ha] at cut
      have eom : om Q m f a b = RR Q m f a + UU Q m f a b := by unfold om; rw [if_pos hab]
      have eN : sm m (fun c => sm m (fun d => if (c ≤ k ∧ k < d) ∧ (t : Int) < xi Q L Ω k c d then f c d else 0)) = om Q m f a b := by
        rw [eom, cut]
        unfold SS
        refine sm_congr (fun c hc => sm_congr (fun d hd => if_nz (fun nz => ?_)))
        have fcd := hf.2.2 c d nz
        simp only [Bool.and_eq_true, Bool.not_eq_true', decide_eq_true_eq, decide_eq_false_iff_not]
        by_cases hsp : c ≤ k ∧ k < d
        · have cd : c < d := by omega
          have pcd := (fm_ad hM fcd).2.2.2.2.1 cd
          -- order of the two at the middle
          have tie : ∀ a b c d, a ≤ k → k < b → b < m → c ≤ k → k < d → d < m → Pc (onK (KX w h ld) Q) (nl + 4) m a b → Pc (onK (KX w h ld) Q) (nl + 4) m c d → ¬ (a = c ∧ b = d) → (REb Q a b c d = true ↔ xi Q L Ω k a b < xi Q L Ω k c d) := by
            intro a b c d h1 h2 h3 h4 h5 h6 pab pcd ne
            have hm1 : ∀ p r, p ≤ k → k < r → r < m → 0 < Hf 1 0 (Q p) (Q r) := by
              intro p r z1 z2 z3
              have := Y1_sc hL (pt p (by omega)) (pt r z3)
              have dd : (0 : Int) < (Q p).2.2 * (Q r).2.2 := m_pp (by have := (pt p (by omega)).1; omega) (by have := (pt r z3).1; omega)
              have x := m_pp dd (sp p r z1 z2 z3).1
              rw [← this, Int.mul_comm] at x
              exact ((sgn_mul L0).1).mp x
            have hmid : ∀ p, p ≤ k → 0 < Hf 1 0 (Q p) (cmb (Q (k + 1)).2.2 (Q k).2.2 (Q k) (Q (k + 1))) := by
              intro p z1
              have e : Hf 1 0 (Q p) (cmb (Q (k + 1)).2.2 (Q k).2.2 (Q k) (Q (k + 1))) = (Q (k + 1)).2.2 * Hf 1 0 (Q p) (Q k) + (Q k).2.2 * Hf 1 0 (Q p) (Q (k + 1)) := by
                unfold Hf cmb; dsimp only; simp only [Int.natCast_add, Int.natCast_mul]; grind
              have y1 := m_pp (show (0 : Int) < (Q k).2.2 by have := hkB.1; omega) (hm1 p (k + 1) z1 (by omega) hk)
              have y2 : 0 ≤ Hf 1 0 (Q p) (Q k) := by
                have := Y1_sc hL (pt p (by omega)) hkB
                have dd : (0 : Int) < (Q p).2.2 * (Q k).2.2 := m_pp (by have := (pt p (by omega)).1; omega) (by have := hkB.1; omega)
                have x := m_pp0 dd (show 0 ≤ sY Q L k - sY Q L p by have := mo z1 (show k < m by omega); omega)
                rw [← this] at x
                exact Int.nonneg_of_mul_nonneg_right x L0
              have y3 := m_pp0 (show (0 : Int) < (Q (k + 1)).2.2 by have := hlB.1; omega) y2
              rw [e]; omega
            have hmid2 : ∀ r, k < r → r < m → 0 < Hf 1 0 (cmb (Q (k + 1)).2.2 (Q k).2.2 (Q k) (Q (k + 1))) (Q r) := by
              intro r z2 z3
              have e : Hf 1 0 (cmb (Q (k + 1)).2.2 (Q k).2.2 (Q k) (Q (k + 1))) (Q r) = (Q (k + 1)).2.2 * Hf 1 0 (Q k) (Q r) + (Q k).2.2 * Hf 1 0 (Q (k + 1)) (Q r) := by
                unfold Hf cmb; dsimp only; simp only [Int.natCast_add, Int.natCast_mul]; grind
              have y1 := m_pp (show (0 : Int) < (Q (k + 1)).2.2 by have := hlB.1; omega) (hm1 k r (Nat.le_refl _) z2 z3)
              have y2 : 0 ≤ Hf 1 0 (Q (k + 1)) (Q r) := by
                have := Y1_sc hL hlB (pt r z3)
                have dd : (0 : Int) < (Q (k + 1)).2.2 * (Q r).2.2 := m_pp (by have := hlB.1; omega) (by have := (pt r z3).1; omega)
                have x := m_pp0 dd (show 0 ≤ sY Q L r - sY Q L (k + 1) by have := mo (show k + 1 ≤ r by omega) z3; omega)
                rw [← this] at x
                exact Int.nonneg_of_mul_nonneg_right x L0
              have y3 := m_pp0 (show (0 : Int) < (Q k).2.2 by have := hkB.1; omega) y2
              rw [e]; omega
            rw [lev hX 1 0 pab pcd ne (by omega) (by omega) (q := cmb (Q (k + 1)).2.2 (Q k).2.2 (Q k) (Q (k + 1))) (hm1 a b h1 h2 h3) (hm1 c d h4 h5 h6) (hmid a h1) (hmid c h4) (hmid2 b h2 h3) (hmid2 d h5 h6) (fun p r hp hr => by
              rcases hp with rfl | rfl <;> rcases hr with rfl | rfl
              · exact hm1 _ _ h1 h2 h3
              · exact hm1 _ _ h1 h5 h6
              · exact hm1 _ _ h4 h2 h3
              · exact hm1 _ _ h4 h5 h6)]
            have oa := pt a (by omega)
            have ob := pt b h3
            have oc := pt c (by omega)
            have od := pt d h6
            have E1 := mid_sc hL oa ob hkB hlB
            have E2 := mid_sc hL oc od hkB hlB
            have H1 := Y1_sc hL oa ob
            have H2 := Y1_sc hL oc od
            obtain ⟨δ1, k1, -, -, -⟩ := sp a b h1 h2 h3
            obtain ⟨δ2, k2, -, -, -⟩ := sp c d h4 h5 h6
            have X1 : xi Q L Ω k a b * (sY Q L b - sY Q L a) = Ω * ((sX Q L b - sX Q L a) * (sY Q L k + sY Q L (k + 1) - 2 * sY Q L a) + 2 * sX Q L a * (sY Q L b - sY Q L a)) := by unfold xi; rw [← k1]; grind
            have X2 : xi Q L Ω k c d * (sY Q L d - sY Q L c) = Ω * ((sX Q L d - sX Q L c) * (sY Q L k + sY Q L (k + 1) - 2 * sY Q L c) + 2 * sX Q L c * (sY Q L d - sY Q L c)) := by unfold xi; rw [← k2]; grind
            have Pp : (0 : Int) < (Q a).2.2 * (Q b).2.2 * ((Q c).2.2 * (Q d).2.2) * ((Q k).2.2 * (Q (k + 1)).2.2) * ((sY Q L b - sY Q L a) * (sY Q L d - sY Q L c)) := by
              have z1 : (0 : Int) < (Q a).2.2 := by have := oa.1; omega
              have z2 : (0 : Int) < (Q b).2.2 := by have := ob.1; omega
              have z3 : (0 : Int) < (Q c).2.2 := by have := oc.1; omega
              have z4 : (0 : Int) < (Q d).2.2 := by have := od.1; omega
              have z5 : (0 : Int) < (Q k).2.2 := by have := hkB.1; omega
              have z6 : (0 : Int) < (Q (k + 1)).2.2 := by have := hlB.1; omega
              exact m_pp (m_pp (m_pp (m_pp z1 z2) (m_pp z3 z4)) (m_pp z5 z6)) (m_pp δ1 δ2)
            have Lp : (0 : Int) < L * L * L * Ω := m_pp (m_pp (m_pp L0 L0) L0) (by omega)
            have key : (dtp (Q c) (Q d) (cmb (Q (k + 1)).2.2 (Q k).2.2 (Q k) (Q (k + 1))) * Hf 1 0 (Q a) (Q b) - dtp (Q a) (Q b) (cmb (Q (k + 1)).2.2 (Q k).2.2 (Q k) (Q (k + 1))) * Hf 1 0 (Q c) (Q d)) * (L * L * L * Ω) = (xi Q L Ω k c d - xi Q L Ω k a b) * ((Q a).2.2 * (Q b).2.2 * ((Q c).2.2 * (Q d).2.2) * ((Q k).2.2 * (Q (k + 1)).2.2) * ((sY Q L b - sY Q L a) * (sY Q L d - sY Q L c))) := by
              have r1 : (dtp (Q c) (Q d) (cmb (Q (k + 1)).2.2 (Q k).2.2 (Q k) (Q (k + 1))) * Hf 1 0 (Q a) (Q b) - dtp (Q a) (Q b) (cmb (Q (k + 1)).2.2 (Q k).2.2 (Q k) (Q (k + 1))) * Hf 1 0 (Q c) (Q d)) * (L * L * L * Ω) = Ω * ((L * L * dtp (Q c) (Q d) (cmb (Q (k + 1)).2.2 (Q k).2.2 (Q k) (Q (k + 1)))) * (L * Hf 1 0 (Q a) (Q b)) - (L * L * dtp (Q a) (Q b) (cmb (Q (k + 1)).2.2 (Q k).2.2 (Q k) (Q (k + 1)))) * (L * Hf 1 0 (Q c) (Q d))) := by
                generalize dtp (Q c) (Q d) (cmb (Q (k + 1)).2.2 (Q k).2.2 (Q k) (Q (k + 1))) = t1
                generalize dtp (Q a) (Q b) (cmb (Q (k + 1)).2.2 (Q k).2.2 (Q k) (Q (k + 1))) = t2
                generalize Hf 1 0 (Q a) (Q b) = t3
                generalize Hf 1 0 (Q c) (Q d) = t4
                grind
              rw [r1, E1, E2, H1, H2]
              clear r1 E1 E2 H1 H2 Pp Lp
              generalize xi Q L Ω k c d = ξ2 at *
              generalize xi Q L Ω k a b = ξ1 at *
              generalize sY Q L k + sY Q L (k + 1) = s at *
              generalize sX Q L k + sX Q L (k + 1) = r at *
              generalize sX Q L a = xa at *
              generalize sY Q L a = ya at *
              generalize sX Q L b = xb' at *
              generalize sY Q L b = yb at *
              generalize sX Q L c = xc at *
              generalize sY Q L c = yc at *
              generalize sX Q L d = xd at *
              generalize sY Q L d = yd at *
              generalize ((Q a).2.2 : Int) * ((Q b).2.2 : Int) = P1
              generalize ((Q c).2.2 : Int) * ((Q d).2.2 : Int) = P2
              generalize ((Q k).2.2 : Int) * ((Q (k + 1)).2.2 : Int) = P3
              have y1 : (ξ2 - ξ1) * (P1 * P2 * P3 * ((yb - ya) * (yd - yc))) = P1 * P2 * P3 * ((yb - ya) * (ξ2 * (yd - yc)) - (yd - yc) * (ξ1 * (yb - ya))) := by grind
              rw [y1, X1, X2]
              clear y1 X1 X2
              grind
            have s1 := sgn_mul (x := dtp (Q c) (Q d) (cmb (Q (k + 1)).2.2 (Q k).2.2 (Q k) (Q (k + 1))) * Hf 1 0 (Q a) (Q b) - dtp (Q a) (Q b) (cmb (Q (k + 1)).2.2 (Q k).2.2 (Q k) (Q (k + 1))) * Hf 1 0 (Q c) (Q d)) Lp
            have s2 := sgn_mul (x := xi Q L Ω k c d - xi Q L Ω k a b) Pp
            rw [key] at s1
            omega
          by_cases same : a = c ∧ b = d
          · obtain ⟨rfl, rfl⟩ := same
            have : REb Q a b a b = true := by unfold REb; rw [if_neg (by omega), if_pos rfl]; exact decide_eq_true (Or.inl rfl)
            rw [this]
            constructor
            · rintro ⟨h1, h2⟩; exact ⟨⟨by omega, by omega⟩, rfl⟩
            · rintro ⟨h1, h2⟩; exact ⟨⟨by omega, by omega⟩, f4⟩
          · have T1 := tie a b c d f2 f3 hb hsp.1 hsp.2 hd pab pcd same
            have T2 := tie c d a b hsp.1 hsp.2 hd f2 f3 hb pcd pab (fun z => same ⟨z.1.symm, z.2.symm⟩)
            constructor
            · rintro ⟨h1, h2⟩
              refine ⟨⟨by omega, by omega⟩, ?_⟩
              have le := least c d fcd h1.1 h1.2 h2
              rcases REb_tot hX pab pcd same (by omega) (by omega) with r | r
              · exact r
              · have := T2.mp r; omega
            · rintro ⟨h1, h2⟩
              have := T1.mp h2
              exact ⟨⟨by omega, by omega⟩, by omega⟩
        · constructor
          · rintro ⟨h1, -⟩; exact absurd h1 hsp
          · rintro ⟨⟨h1, h2⟩, -⟩; exact absurd ⟨by omega, by omega⟩ hsp
      rw [eN]
      rcases hom a b f1 hab with z | z <;> omega
    · have : sm m (fun c => sm m (fun d => if (c ≤ k ∧ k < d) ∧ (t : Int) < xi Q L Ω k c d then f c d else 0)) = 0 := by
        refine sm_0 (fun c hc => sm_0 (fun d hd => ?_))
        by_cases nz : f c d = 0
        · rw [nz]; split <;> rfl
        · rw [if_neg]
          rintro ⟨⟨h1, h2⟩, h3⟩
          have fcd := hf.2.2 c d nz
          have d1 : (c * 128 + d) / 128 = c := by omega
          have d2 : (c * 128 + d) % 128 = d := by omega
          exact hx ⟨c * 128 + d, by omega, by rw [d1, d2]; exact ⟨fcd, h1, h2, h3⟩⟩
      omega
  rw [lay]
  constructor
  · exact sm_nn (fun t _ => (each t).1)
  · have := sm_le (n := 24 * Ω * L) (fun t _ => (each t).2)
    have e : sm (24 * Ω * L) (fun _ => (1 : Int)) = ((24 * Ω * L : Nat) : Int) := by
      generalize 24 * Ω * L = M
      induction M with
      | zero => rfl
      | succ M ih => rw [sm_s, ih]; omega
    rw [e] at this
    exact this
