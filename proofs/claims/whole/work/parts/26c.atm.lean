/-! sums along a walk -/
theorem orb_sum {w h nl : Nat} {ld : Nat → Ln} {m : Nat} {Q : Nat → Pt3} {fm : Nat → Nat → Bool} (hM : Mesh w h nl ld m Q fm) {nv : Nat → Nat → Nat} (hn : NV Q fm nv) {p : St} (hp : isS fm p) {K : Nat} (hK : Per nv p K) (φ : St → Int) : sm K (fun k => φ (itr nv k p)) = sm m (fun x => sm m (fun y => ib (orbB nv p x y) * φ (x, y))) := by
  have key : ∀ k, k ≤ K → sm k (fun k => φ (itr nv k p)) = sm m (fun x => sm m (fun y => ib (@decide (∃ i, i < k ∧ itr nv i p = (x, y)) (Classical.propDecidable _)) * φ (x, y))) := by
    intro k
    induction k with
    | zero =>
      intro _
      symm
      refine sm_0 (fun x _ => sm_0 (fun y _ => ?_))
      rw [@decide_eq_false _ (Classical.propDecidable _) (fun ⟨i, hi, _⟩ => absurd hi (Nat.not_lt_zero _)), ib_f, Int.zero_mul]
    | succ k ih =>
      intro hk
      obtain ⟨l1, l2, -⟩ := fm_ad hM (itr_S hM hn hp k)
      have e : ∀ x y, x < m → y < m → ib (@decide (∃ i, i < k + 1 ∧ itr nv i p = (x, y)) (Classical.propDecidable _)) * φ (x, y) = ib (@decide (∃ i, i < k ∧ itr nv i p = (x, y)) (Classical.propDecidable _)) * φ (x, y) + (if x = (itr nv k p).1 then (if y = (itr nv k p).2 then φ (x, y) else 0) else 0) := by
        intro x y hx hy
        by_cases q : itr nv k p = (x, y)
        · have q1 : x = (itr nv k p).1 := by rw [q]
          have q2 : y = (itr nv k p).2 := by rw [q]
          rw [if_pos q1, if_pos q2, @decide_eq_true _ (Classical.propDecidable _) ⟨k, by omega, q⟩, @decide_eq_false _ (Classical.propDecidable _) (fun ⟨i, hi, e⟩ => per_inj hM hn hp hK hi (by omega) (e.trans q.symm)), ib_t, ib_f]
          omega
        · have z : (if x = (itr nv k p).1 then (if y = (itr nv k p).2 then φ (x, y) else 0) else 0) = 0 := by
            by_cases q1 : x = (itr nv k p).1
            · rw [if_pos q1]
              by_cases q2 : y = (itr nv k p).2
              · exact absurd (Prod.ext q1.symm q2.symm) q
              · rw [if_neg q2]
            · rw [if_neg q1]
          rw [z, Int.add_zero]
          congr 2
          have iff : (∃ i, i < k + 1 ∧ itr nv i p = (x, y)) ↔ (∃ i, i < k ∧ itr nv i p = (x, y)) := by
            constructor
            · rintro ⟨i, hi, e⟩
              by_cases it : i = k
              · subst it; exact absurd e q
              · exact ⟨i, by omega, e⟩
            · rintro ⟨i, hi, e⟩
              exact ⟨i, by omega, e⟩
          exact @decide_eq_decide _ _ (Classical.propDecidable _) (Classical.propDecidable _) |>.mpr iff
      rw [sm_s, ih (by omega), sm_congr (fun x hx => sm_congr (fun y hy => e x y hx hy))]
      rw [sm_congr (fun x _ => sm_add m _ _), sm_add]
      congr 1
      have e2 : ∀ x, x < m → sm m (fun y => if x = (itr nv k p).1 then (if y = (itr nv k p).2 then φ (x, y) else 0) else 0) = if x = (itr nv k p).1 then φ (x, (itr nv k p).2) else 0 := by
        intro x hx
        by_cases q1 : x = (itr nv k p).1
        · simp only [q1, if_true]
          exact (sm_one l2 (fun y => φ ((itr nv k p).1, y)))
        · simp only [q1, if_false]
          exact sm_0 (fun _ _ => rfl)
      rw [sm_congr e2]
      exact (sm_one l1 (fun x => φ (x, (itr nv k p).2))).symm
  rw [key K (Nat.le_refl _)]
  refine sm_congr (fun x hx => sm_congr (fun y hy => ?_))
  congr 2
  unfold orbB
  refine @decide_eq_decide _ _ (Classical.propDecidable _) (Classical.propDecidable _) |>.mpr ⟨fun ⟨i, _, e⟩ => ⟨i, e⟩, fun o => orb_lt hK o⟩
/-! a ray to the right from a point -/
def lwB (p q : Pt3) : Bool := decide (p.2.1 * q.2.2 ≤ q.2.1 * p.2.2)
def crA (p r q : Pt3) : Bool := lwB p q && !lwB r q && decide (0 < dtp p r q)
def rho (Q : Nat → Pt3) (q : Pt3) (s : St) : Int := ib (crA (Q s.1) (Q s.2) q) - ib (crA (Q s.2) (Q s.1) q)
theorem dtp_hz {p r q : Pt3} (e1 : p.2.1 * q.2.2 = q.2.1 * p.2.2) : dtp p r q * q.2.2 = ((p.1 : Int) * q.2.2 - q.1 * p.2.2) * ((r.2.1 : Int) * q.2.2 - q.2.1 * r.2.2) := by
  have e : (p.2.1 : Int) * q.2.2 = q.2.1 * p.2.2 := by rw [← Int.natCast_mul, ← Int.natCast_mul, e1]
  unfold dtp
  grind
theorem dtp_hz2 {p r q : Pt3} (e1 : r.2.1 * q.2.2 = q.2.1 * r.2.2) : dtp p r q * q.2.2 = ((r.1 : Int) * q.2.2 - q.1 * r.2.2) * ((q.2.1 : Int) * p.2.2 - p.2.1 * q.2.2) := by
  have e : (r.2.1 : Int) * q.2.2 = q.2.1 * r.2.2 := by rw [← Int.natCast_mul, ← Int.natCast_mul, e1]
  unfold dtp
  grind
/-- q lies on the piece from p (lower) to r -/
def onP (p r q : Pt3) : Prop := dtp p r q = 0 ∧ pcmp p q ≤ 0 ∧ pcmp q r ≤ 0
theorem ray_eq {w h nl : Nat} {ld : Nat → Ln} {m : Nat} {Q : Nat → Pt3} {fm : Nat → Nat → Bool} (hM : Mesh w h nl ld m Q fm) {f : Nat → Nat → Int} (hf : Flow m fm f) {q : Pt3} (hq : pB q) (hno : ∀ c d, fm c d = true → c < d → ¬ onP (Q c) (Q d) q) (hon : ∀ v u, fm v u = true → pcmp (Q v) q ≠ 0) : RQ Q m f q = SS m f (fun v => decide (v < m) && lwB (Q v) q) (fun c d => decide (0 < dtp (Q c) (Q d) q)) := by
  have hQ := hM.2.1.1
  have hS := hM.2.1.2.1
  have q0 : (0 : Int) < q.2.2 := by have := hq.1; omega
  have lo_iff : ∀ v, loQ Q m q v = true ↔ (v < m ∧ plt (Q v) q) := fun v => decide_eq_true_iff
  have lo_f : ∀ v, loQ Q m q v = false → v < m → ¬ plt (Q v) q := fun v h1 h2 z => by rw [(lo_iff v).mpr ⟨h2, z⟩] at h1; cases h1
  have lw_t : ∀ v, lwB (Q v) q = true ↔ (Q v).2.1 * q.2.2 ≤ q.2.1 * (Q v).2.2 := fun v => decide_eq_true_iff
  refine cut_eq (r := fun _ => true) (fun c d _ _ => hf.1 c d) hf.2.1 (fun v hv h1 => ?_) (fun c d hc hd nz l1 l2 l3 => ?_) (fun c d hc hd nz l1 l2 l3 => ?_) (fun c d _ _ _ _ _ _ _ => rfl)
  · have := ((lo_iff v).mp h1).2
    rw [plt_iff] at this
    simp only [Bool.and_eq_true, decide_eq_true_eq]
    exact ⟨hv, (lw_t v).mpr (by omega)⟩
  · -- from q's own level up
    simp only [Bool.and_eq_true, decide_eq_true_eq] at l1
    have a1 := (lw_t c).mp l1.2
    have a2 := lo_f c l2 hc
    rw [plt_iff] at a2
    have fcd := hf.2.2 c d nz
    have e1 : (Q c).2.1 * q.2.2 = q.2.1 * (Q c).2.2 := by omega
    have nd : ¬ ((Q d).2.1 * q.2.2 ≤ q.2.1 * (Q d).2.2) := fun z => by
      have : (decide (d < m) && lwB (Q d) q) = true := by simp only [Bool.and_eq_true, decide_eq_true_eq]; exact ⟨hd, (lw_t d).mpr z⟩
      rw [this] at l3; cases l3
    have nx : (Q c).1 * q.2.2 ≠ q.1 * (Q c).2.2 := fun z => by
      apply hon c d fcd
      unfold pcmp pY pX
      rw [e1, z]; simp
    have k := dtp_hz (r := Q d) e1
    have p1 : (0 : Int) < ((Q c).1 : Int) * q.2.2 - q.1 * (Q c).2.2 := by rw [← Int.natCast_mul, ← Int.natCast_mul]; omega
    have p2 : (0 : Int) < ((Q d).2.1 : Int) * q.2.2 - q.2.1 * (Q d).2.2 := by rw [← Int.natCast_mul, ← Int.natCast_mul]; omega
    have := m_pp p1 p2
    exact decide_eq_true (((sgn_mul q0).1).mp (by omega))
  · -- from below to q's own level
    simp only [Bool.and_eq_true, decide_eq_true_eq] at l2
    have a1 := (lw_t d).mp l2.2
    have a2 := lo_f d l3 hd
    rw [plt_iff] at a2
    have fcd := hf.2.2 c d nz
    have e1 : (Q d).2.1 * q.2.2 = q.2.1 * (Q d).2.2 := by omega
    have p0 := ((lo_iff c).mp l1).2
    have nx : (Q d).1 * q.2.2 ≠ q.1 * (Q d).2.2 := fun z => by
      apply hon d c (fm_ad hM fcd).2.2.2.1
      unfold pcmp pY pX
      rw [e1, z]; simp
    have k := dtp_hz2 (p := Q c) e1
    have p1 : (0 : Int) < ((Q d).1 : Int) * q.2.2 - q.1 * (Q d).2.2 := by rw [← Int.natCast_mul, ← Int.natCast_mul]; omega
    have pqd : plt q (Q d) := by rw [plt_iff]; omega
    have cd : c < d := (ix_lt hQ hS hc hd).mp (plt_trans (hQ c hc).1 hq.1 (hQ d hd).1 p0 pqd)
    rw [plt_iff] at p0
    rcases p0 with p0 | p0
    · have p2 : (0 : Int) < (q.2.1 : Int) * (Q c).2.2 - (Q c).2.1 * q.2.2 := by rw [← Int.natCast_mul, ← Int.natCast_mul]; omega
      have := m_pp p1 p2
      exact decide_eq_true (((sgn_mul q0).1).mp (by omega))
    · exfalso
      apply hno c d fcd cd
      have z : (q.2.1 : Int) * (Q c).2.2 - (Q c).2.1 * q.2.2 = 0 := by rw [← Int.natCast_mul, ← Int.natCast_mul]; omega
      rw [z, Int.mul_zero] at k
      refine ⟨?_, ?_, ?_⟩
      · rcases Int.mul_eq_zero.mp k with y | y
        · exact y
        · omega
      · have : plt (Q c) q := by rw [plt_iff]; exact Or.inr p0
        unfold plt at this; omega
      · unfold plt at pqd; omega
theorem ray_sum {m : Nat} {Q : Nat → Pt3} (q : Pt3) (W : Nat → Nat → Bool) : sm m (fun x => sm m (fun y => ib (W x y) * rho Q q (x, y))) = SS m (fl W) (fun v => decide (v < m) && lwB (Q v) q) (fun c d => decide (0 < dtp (Q c) (Q d) q)) := by
  have e1 : sm m (fun x => sm m (fun y => ib (W x y) * rho Q q (x, y))) = sm m (fun x => sm m (fun y => ib (W x y) * ib (crA (Q x) (Q y) q))) - sm m (fun x => sm m (fun y => ib (W x y) * ib (crA (Q y) (Q x) q))) := by
    rw [← sm_sub]
    refine sm_congr (fun x _ => ?_)
    rw [← sm_sub]
    refine sm_congr (fun y _ => ?_)
    unfold rho
    rw [Int.mul_sub]
  have e2 : sm m (fun x => sm m (fun y => ib (W x y) * ib (crA (Q y) (Q x) q))) = sm m (fun x => sm m (fun y => ib (W y x) * ib (crA (Q x) (Q y) q))) := sm_swap m m (fun x y => ib (W x y) * ib (crA (Q y) (Q x) q))
  rw [e1, e2, ← sm_sub]
  unfold SS
  refine sm_congr (fun x hx => ?_)
  rw [← sm_sub]
  refine sm_congr (fun y hy => ?_)
  rw [ib_if]
  unfold crA fl
  simp only [hx, hy, decide_true, Bool.true_and]
  generalize ib (W x y) = a
  generalize ib (W y x) = b
  generalize ib (lwB (Q x) q && !lwB (Q y) q && decide (0 < dtp (Q x) (Q y) q)) = c
  grind
/-- on a firm piece or off all of them -/
theorem off_ne {w h nl : Nat} {ld : Nat → Ln} {m : Nat} {Q : Nat → Pt3} {fm : Nat → Nat → Bool} (hM : Mesh w h nl ld m Q fm) {q : Pt3} (hq : pB q) (hno : ∀ c d, fm c d = true → c < d → ¬ onP (Q c) (Q d) q) : ∀ v u, fm v u = true → pcmp (Q v) q ≠ 0 := by
  intro v u fvu z
  obtain ⟨a1, a2, a3, a4, -⟩ := fm_ad hM fvu
  have hQ := hM.2.1.1
  have hS := hM.2.1.2.1
  obtain ⟨ey, ex⟩ := pcmp_0 z
  have q0 : (0 : Int) < q.2.2 := by have := hq.1; omega
  have ey' : ((Q v).2.1 : Int) * q.2.2 = q.2.1 * (Q v).2.2 := by rw [← Int.natCast_mul, ← Int.natCast_mul, ey]
  have ex' : ((Q v).1 : Int) * q.2.2 = q.1 * (Q v).2.2 := by rw [← Int.natCast_mul, ← Int.natCast_mul, ex]
  have v0 : ((Q v).2.2 : Int) ≠ 0 := by have := (hQ v a1).1; omega
  have d0 : dtp (Q v) (Q u) q = 0 := by
    have : ((Q v).2.2 : Int) * dtp (Q v) (Q u) q = 0 := by unfold dtp; grind
    rcases Int.mul_eq_zero.mp this with y | y
    · exact absurd y v0
    · exact y
  have zq : pcmp q (Q v) = 0 := by
    unfold pcmp pY pX at z ⊢
    rw [ey, ex]; simp
  rcases Nat.lt_or_gt_of_ne a3 with y | y
  · refine hno v u fvu y ⟨d0, by omega, ?_⟩
    have p := hS v u y a2
    rw [plt_iff] at p
    have : plt q (Q u) := by
      rw [plt_iff]
      rcases p with p | ⟨p, p'⟩
      · exact Or.inl (cq_lt' (b := q.2.2) hq.1 (Nat.le_of_eq ey.symm) p)
      · exact Or.inr ⟨cq_eq (hQ v a1).1 ey.symm p, cq_lt' (b := q.2.2) hq.1 (Nat.le_of_eq ex.symm) p'⟩
    unfold plt at this; omega
  · refine hno u v a4 y ⟨by rw [dtp_sw, d0]; rfl, ?_, by omega⟩
    have p := hS u v y a1
    rw [plt_iff] at p
    have : plt (Q u) q := by
      rw [plt_iff]
      rcases p with p | ⟨p, p'⟩
      · exact Or.inl (cq_lt hq.1 p (Nat.le_of_eq ey))
      · exact Or.inr ⟨cq_eq (hQ v a1).1 p ey, cq_lt hq.1 p' (Nat.le_of_eq ex)⟩
    unfold plt at this; omega
theorem rounds_math {w h nl : Nat} {ld : Nat → Ln} {m : Nat} {Q : Nat → Pt3} {fm : Nat → Nat → Bool} (hM : Mesh w h nl ld m Q fm) {nv : Nat → Nat → Nat} (hn : NV Q fm nv) {a b : Nat} (ha : cn1 (onK (KX w h ld) Q 3) m 0 a) (ea : (Q a).1 = 0) (hb : cn1 (onK (KX w h ld) Q 0) m 0 b) (eb : (Q b).2.1 = 0) {q : Pt3} (hq : inQ w h q) (hno : ∀ c d, fm c d = true → c < d → ¬ onP (Q c) (Q d) q) : ∃ e : St, isS fm e ∧ ¬ Orb nv (0, a) e ∧ ∀ p K, isS fm p → ¬ Orb nv (0, a) p → Per nv p K → sm K (fun k => rho Q q (itr nv k p)) = ib (orbB nv p e.1 e.2) := by
  have qB := inQ_B hM.1.2.1 hM.1.2.2.2.1 hq
  have hon := off_ne hM qB hno
  obtain ⟨e, e1, e2, e3⟩ := at_math hM hn ha ea hb eb hq hon
  refine ⟨e, e1, e2, fun p K hp ho hK => ?_⟩
  rw [orb_sum hM hn hp hK (rho Q q), ray_sum, ← ray_eq hM (fl_flow hM hn (orbB_WS hM hn hp)) qB hno hon]
  exact e3 p hp ho
