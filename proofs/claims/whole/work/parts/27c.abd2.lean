/-! the area, from strip to strip -/
theorem area_bd {w h nl : Nat} {ld : Nat → Ln} {m : Nat} {Q : Nat → Pt3} {fm : Nat → Nat → Bool} (hM : Mesh w h nl ld m Q fm) {nv : Nat → Nat → Nat} (hn : NV Q fm nv) {a b : Nat} (ha : cn1 (onK (KX w h ld) Q 3) m 0 a) (ea : (Q a).1 = 0) (hb : cn1 (onK (KX w h ld) Q 0) m 0 b) (eb : (Q b).2.1 = 0) {p : St} (hp : isS fm p) (hno : ¬ Orb nv (0, a) p) {K : Nat} (hK : Per nv p K) {L : Nat} (hL : dvL L) : 0 ≤ sm K (fun k => gX Q L (itr nv k p)) ∧ sm K (fun k => gX Q L (itr nv k p)) ≤ 288 * (L * L) := by
  have hQ := hM.2.1.1
  have hS := hM.2.1.2.1
  have pt : ∀ v, v < m → pB (Q v) := fun v hv => pB_of (hQ v hv)
  have hW := orbB_WS hM hn hp
  have hf := fl_flow hM hn hW
  have hW0 : orbB nv p b 0 = false := by
    rw [← W_lft hM hn hW ha ea hb eb]
    cases e : orbB nv p 0 a with
    | false => rfl
    | true => exact absurd (Orb_s hM hn hp (orbB_t.mp e)) hno
  have hom : ∀ x y, fm x y = true → x < y → om Q m (fl (orbB nv p)) x y = 0 ∨ om Q m (fl (orbB nv p)) x y = 1 := by
    intro x y hxy _
    rw [om_pane hM hn hW hb eb hxy, hW0, ib_f]
    cases orbB nv p x y <;> simp [ib]
  obtain ⟨Ω, hΩ0, hΩ⟩ := fact_ex (12 * L)
  generalize hfd : fl (orbB nv p) = f at *
  have L0 : (0 : Int) < L := by have := hL.1; omega
  -- the walk's sum over the pieces
  have E1 : sm K (fun k => gX Q L (itr nv k p)) = sm m (fun c => sm m (fun d => if c < d then f c d * gX Q L (c, d) else 0)) := by
    rw [orb_sum hM hn hp hK]
    have key : sm m (fun c => sm m (fun d => ib (orbB nv p c d) * gX Q L (c, d) - (if c < d then f c d * gX Q L (c, d) else 0))) = 0 := by
      refine sm_anti (fun c d _ _ => ?_)
      have ga : gX Q L (d, c) = - gX Q L (c, d) := by unfold gX; dsimp only; omega
      have fa : f c d = ib (orbB nv p c d) - ib (orbB nv p d c) := by rw [← hfd]; rfl
      have fb : f d c = ib (orbB nv p d c) - ib (orbB nv p c d) := by rw [← hfd]; rfl
      rw [ga]
      rcases Nat.lt_trichotomy c d with z | z | z
      · rw [if_pos z, if_neg (by omega), fa]; grind
      · subst z
        have : gX Q L (c, c) = 0 := by unfold gX; dsimp only; omega
        rw [this]; simp
      · rw [if_neg (by omega), if_pos z, fb]; grind
    rw [sm_congr (fun c _ => sm_sub m _ _), sm_sub] at key
    omega
  have E2 : sm m (fun c => sm m (fun d => if c < d then f c d * (sX Q L d * sY Q L d - sX Q L c * sY Q L c) else 0)) = 0 := by
    have key : sm m (fun c => sm m (fun d => (if c < d then f c d * (sX Q L d * sY Q L d - sX Q L c * sY Q L c) else 0) + sX Q L c * sY Q L c * f c d)) = 0 := by
      refine sm_anti (fun c d _ _ => ?_)
      have fa := hf.1 c d
      generalize sX Q L c * sY Q L c = tc
      generalize sX Q L d * sY Q L d = td
      rcases Nat.lt_trichotomy c d with z | z | z
      · rw [if_pos z, if_neg (by omega), fa]; grind
      · subst z
        have : f c c = 0 := by omega
        rw [this]; simp
      · rw [if_neg (by omega), if_pos z, fa]; grind
    rw [sm_congr (fun c _ => sm_add m _ _), sm_add] at key
    have z : sm m (fun c => sm m (fun d => sX Q L c * sY Q L c * f c d)) = 0 := by
      refine sm_0 (fun c hc => ?_)
      rw [sm_mul, hf.2.1 c hc, Int.mul_zero]
    omega
  have E3 : ∀ c d, c < d → d < m → (Ω : Int) * ((sX Q L c + sX Q L d) * (sY Q L d - sY Q L c)) = sm m (fun k => if c ≤ k ∧ k < d then (sY Q L (k + 1) - sY Q L k) * xi Q L Ω k c d else 0) := by
    intro c d hcd hd
    have t := tele (fun k => 2 * Ω * sX Q L c * sY Q L k + (sX Q L d - sX Q L c) * kap Q L Ω c d * (sY Q L k * sY Q L k - 2 * sY Q L c * sY Q L k)) (c := c) (d := d) m (by omega) (by omega)
    have e : ∀ k, k < m → (if c ≤ k ∧ k < d then (2 * Ω * sX Q L c * sY Q L (k + 1) + (sX Q L d - sX Q L c) * kap Q L Ω c d * (sY Q L (k + 1) * sY Q L (k + 1) - 2 * sY Q L c * sY Q L (k + 1))) - (2 * Ω * sX Q L c * sY Q L k + (sX Q L d - sX Q L c) * kap Q L Ω c d * (sY Q L k * sY Q L k - 2 * sY Q L c * sY Q L k)) else 0) = if c ≤ k ∧ k < d then (sY Q L (k + 1) - sY Q L k) * xi Q L Ω k c d else 0 := by
      intro k _
      by_cases z : c ≤ k ∧ k < d
      · rw [if_pos z, if_pos z]; unfold xi; grind
      · rw [if_neg z, if_neg z]
    rw [sm_congr e] at t
    rw [t]
    have mo := sY_mono hQ hS hL (show c ≤ d by omega) hd
    have a3 := (sc_facts hL (pt d hd)).2.2.2.1
    have a4 := (sc_facts hL (pt c (by omega))).2.2.1
    by_cases z : sY Q L d - sY Q L c = 0
    · have z' : sY Q L d = sY Q L c := by omega
      rw [z']; grind
    · have e := kap_ok (Q := Q) hΩ (c := c) (d := d) (by omega) (by omega)
      rw [← e]
      generalize kap Q L Ω c d = κ
      grind
  have E4 : (Ω : Int) * sm K (fun k => gX Q L (itr nv k p)) = sm m (fun k => (sY Q L (k + 1) - sY Q L k) * sm m (fun c => sm m (fun d => if c ≤ k ∧ k < d then f c d * xi Q L Ω k c d else 0))) := by
    have e1 : sm m (fun c => sm m (fun d => if c < d then f c d * gX Q L (c, d) else 0)) = sm m (fun c => sm m (fun d => if c < d then f c d * ((sX Q L c + sX Q L d) * (sY Q L d - sY Q L c)) else 0)) := by
      have : sm m (fun c => sm m (fun d => if c < d then f c d * ((sX Q L c + sX Q L d) * (sY Q L d - sY Q L c)) else 0)) = sm m (fun c => sm m (fun d => if c < d then f c d * gX Q L (c, d) else 0)) + sm m (fun c => sm m (fun d => if c < d then f c d * (sX Q L d * sY Q L d - sX Q L c * sY Q L c) else 0)) := by
        rw [← sm_add]
        refine sm_congr (fun c _ => ?_)
        rw [← sm_add]
        refine sm_congr (fun d _ => ?_)
        by_cases z : c < d
        · rw [if_pos z, if_pos z, if_pos z]; unfold gX; dsimp only; grind
        · rw [if_neg z, if_neg z, if_neg z]; rfl
      rw [this, E2]; omega
    rw [E1, e1, ← sm_mul]
    have e2 : ∀ c, c < m → (Ω : Int) * sm m (fun d => if c < d then f c d * ((sX Q L c + sX Q L d) * (sY Q L d - sY Q L c)) else 0) = sm m (fun d => sm m (fun k => (sY Q L (k + 1) - sY Q L k) * (if c ≤ k ∧ k < d then f c d * xi Q L Ω k c d else 0))) := by
      intro c _
      rw [← sm_mul]
      refine sm_congr (fun d hd => ?_)
      by_cases z : c < d
      · rw [if_pos z]
        have := E3 c d z hd
        have e : (Ω : Int) * (f c d * ((sX Q L c + sX Q L d) * (sY Q L d - sY Q L c))) = f c d * ((Ω : Int) * ((sX Q L c + sX Q L d) * (sY Q L d - sY Q L c))) := by grind
        rw [e, this, ← sm_mul]
        refine sm_congr (fun k _ => ?_)
        by_cases y : c ≤ k ∧ k < d
        · rw [if_pos y, if_pos y]; grind
        · rw [if_neg y, if_neg y]; simp
      · rw [if_neg z, Int.mul_zero]
        refine (sm_0 (fun k _ => ?_)).symm
        rw [if_neg (by omega), Int.mul_zero]
    rw [sm_congr e2]
    have e3 : ∀ c, c < m → sm m (fun d => sm m (fun k => (sY Q L (k + 1) - sY Q L k) * (if c ≤ k ∧ k < d then f c d * xi Q L Ω k c d else 0))) = sm m (fun k => sm m (fun d => (sY Q L (k + 1) - sY Q L k) * (if c ≤ k ∧ k < d then f c d * xi Q L Ω k c d else 0))) := fun c _ => sm_swap m m (fun d k => (sY Q L (k + 1) - sY Q L k) * (if c ≤ k ∧ k < d then f c d * xi Q L Ω k c d else 0))
    rw [sm_congr e3, sm_swap m m (fun c k => sm m (fun d => (sY Q L (k + 1) - sY Q L k) * (if c ≤ k ∧ k < d then f c d * xi Q L Ω k c d else 0)))]
    refine sm_congr (fun k _ => ?_)
    rw [← sm_mul]
    refine sm_congr (fun c _ => ?_)
    rw [sm_mul]
  -- each strip
  have term : ∀ k, k < m → 0 ≤ (sY Q L (k + 1) - sY Q L k) * sm m (fun c => sm m (fun d => if c ≤ k ∧ k < d then f c d * xi Q L Ω k c d else 0)) ∧ (sY Q L (k + 1) - sY Q L k) * sm m (fun c => sm m (fun d => if c ≤ k ∧ k < d then f c d * xi Q L Ω k c d else 0)) ≤ (if 0 ≤ k ∧ k < m - 1 then ((24 * Ω * L : Nat) : Int) * sY Q L (k + 1) - ((24 * Ω * L : Nat) : Int) * sY Q L k else 0) := by
    intro k hk
    by_cases z : k + 1 < m
    · have mo := sY_mono hQ hS hL (show k ≤ k + 1 by omega) z
      rw [if_pos ⟨by omega, by omega⟩, ← Int.mul_sub]
      by_cases y : sY Q L k = sY Q L (k + 1)
      · rw [y, Int.sub_self, Int.zero_mul, Int.mul_zero]; omega
      · obtain ⟨s1, s2⟩ := strip_ok hM hf hom hL hΩ0 hΩ z (by omega)
        refine ⟨Int.mul_nonneg (by omega) s1, ?_⟩
        rw [Int.mul_comm ((24 * Ω * L : Nat) : Int)]
        exact Int.mul_le_mul_of_nonneg_left s2 (by omega)
    · have : sm m (fun c => sm m (fun d => if c ≤ k ∧ k < d then f c d * xi Q L Ω k c d else 0)) = 0 := sm_0 (fun c _ => sm_0 (fun d hd => if_neg (by omega)))
      rw [this, if_neg (by omega), Int.mul_zero]; omega
  have lo := sm_nn (fun k hk => (term k hk).1)
  have hi := sm_le (fun k hk => (term k hk).2)
  have m0 := (jt_0 hM.2.1).1
  rw [tele (fun k => ((24 * Ω * L : Nat) : Int) * sY Q L k) (c := 0) (d := m - 1) m (by omega) (by omega)] at hi
  rw [← E4] at lo hi
  have Ωp : (0 : Int) < Ω := by omega
  have y1 := (sc_facts hL (pt (m - 1) (by omega))).2.2.2.1
  have y0 := (sc_facts hL (pt 0 m0)).2.2.1
  generalize sm K (fun k => gX Q L (itr nv k p)) = S at *
  constructor
  · exact Int.nonneg_of_mul_nonneg_right lo Ωp
  · have b1 : ((24 * Ω * L : Nat) : Int) * sY Q L (m - 1) - ((24 * Ω * L : Nat) : Int) * sY Q L 0 ≤ ((24 * Ω * L : Nat) : Int) * (12 * L) := by
      rw [← Int.mul_sub]
      exact Int.mul_le_mul_of_nonneg_left (by omega) (by omega)
    have b2 : ((24 * Ω * L : Nat) : Int) * (12 * L) = Ω * (288 * (L * L)) := by rw [Int.natCast_mul, Int.natCast_mul]; grind
    have : (Ω : Int) * S ≤ Ω * (288 * (L * L)) := by omega
    exact Int.le_of_mul_le_mul_left this Ωp
