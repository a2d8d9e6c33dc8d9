/-! pieces at one level, from left to right -/
def Hf (α β : Int) (p q : Pt3) : Int := (α * q.2.1 + β * q.1) * p.2.2 - (α * p.2.1 + β * p.1) * q.2.2
theorem Hf_hh (p q : Pt3) : Hf 1000000 1 p q = hh p q := by unfold Hf hh hz; grind
theorem IA (α β : Int) (a b p1 p2 q : Pt3) : dtp a b q * Hf α β p1 p2 = dtp a b p1 * Hf α β q p2 + dtp a b p2 * Hf α β p1 q + dtp p1 p2 q * Hf α β a b := by unfold Hf dtp; grind
theorem lev_id (α β : Int) (a b c d p1 p2 q : Pt3) : (dtp c d q * Hf α β a b - dtp a b q * Hf α β c d) * Hf α β p1 p2 = (dtp c d p1 * Hf α β a b - dtp a b p1 * Hf α β c d) * Hf α β q p2 + (dtp c d p2 * Hf α β a b - dtp a b p2 * Hf α β c d) * Hf α β p1 q := by
  have h1 := IA α β a b p1 p2 q
  have h2 := IA α β c d p1 p2 q
  generalize Hf α β a b = Hab at *
  generalize Hf α β c d = Hcd at *
  generalize Hf α β p1 p2 = H at *
  generalize Hf α β q p2 = s at *
  generalize Hf α β p1 q = t at *
  generalize dtp a b q = x1 at *
  generalize dtp c d q = x2 at *
  generalize dtp a b p1 = x3 at *
  generalize dtp a b p2 = x4 at *
  generalize dtp c d p1 = x5 at *
  generalize dtp c d p2 = x6 at *
  generalize dtp p1 p2 q = x7 at *
  grind
theorem lev_sg {D H X s Y t : Int} (e : D * H = X * s + Y * t) (hH : 0 < H) (hs : 0 < s) (ht : 0 < t) : (0 ≤ X → 0 ≤ Y → (0 < X ∨ 0 < Y) → 0 < D) ∧ (X ≤ 0 → Y ≤ 0 → (X < 0 ∨ Y < 0) → D < 0) := by
  have k := sgn_mul (x := D) hH
  constructor
  · intro h1 h2 h3
    have a1 := Int.mul_nonneg h1 (show 0 ≤ s by omega)
    have a2 := Int.mul_nonneg h2 (show 0 ≤ t by omega)
    rcases h3 with h3 | h3
    · have := m_pp h3 hs; omega
    · have := m_pp h3 ht; omega
  · intro h1 h2 h3
    have a1 := Int.mul_nonpos_of_nonpos_of_nonneg h1 (show 0 ≤ s by omega)
    have a2 := Int.mul_nonpos_of_nonpos_of_nonneg h2 (show 0 ≤ t by omega)
    rcases h3 with h3 | h3
    · have := m_np h3 hs; omega
    · have := m_np h3 ht; omega
/-- right of it at the lower end: right of it at every level -/
theorem lev {K : Nat → Ln} {N m : Nat} {Q : Nat → Pt3} (h : Mx K N m Q) (α β : Int) {a b c d : Nat} (pab : Pc (onK K Q) N m a b) (pcd : Pc (onK K Q) N m c d) (hne : ¬ (a = c ∧ b = d)) (hcb : c < b) (had : a < d) {q : Pt3} (hab : 0 < Hf α β (Q a) (Q b)) (hcd : 0 < Hf α β (Q c) (Q d)) (h1 : 0 < Hf α β (Q a) q) (h2 : 0 < Hf α β (Q c) q) (h3 : 0 < Hf α β q (Q b)) (h4 : 0 < Hf α β q (Q d)) (hh' : ∀ p r, (p = a ∨ p = c) → (r = b ∨ r = d) → 0 < Hf α β (Q p) (Q r)) : REb Q a b c d = true ↔ 0 < dtp (Q c) (Q d) q * Hf α β (Q a) (Q b) - dtp (Q a) (Q b) q * Hf α β (Q c) (Q d) := by
  have l1 := Pc_lt pab
  have l2 := Pc_lt pcd
  have za := dtp_l (Q b) (Q a)
  have zb := dtp_r (Q a) (Q b)
  have zc := dtp_l (Q d) (Q c)
  have zd := dtp_r (Q c) (Q d)
  have Ecb := lev_id α β (Q a) (Q b) (Q c) (Q d) (Q c) (Q b) q
  have Ecd := lev_id α β (Q a) (Q b) (Q c) (Q d) (Q c) (Q d) q
  have Eab := lev_id α β (Q a) (Q b) (Q c) (Q d) (Q a) (Q b) q
  have Ead := lev_id α β (Q a) (Q b) (Q c) (Q d) (Q a) (Q d) q
  rw [zc, zb] at Ecb
  rw [zc, zd] at Ecd
  rw [za, zb] at Eab
  rw [za, zd] at Ead
  have Scb := lev_sg Ecb (hh' c b (Or.inr rfl) (Or.inl rfl)) h3 h2
  have Scd := lev_sg Ecd (hh' c d (Or.inr rfl) (Or.inr rfl)) h4 h2
  have Sab := lev_sg Eab (hh' a b (Or.inl rfl) (Or.inl rfl)) h3 h1
  have Sad := lev_sg Ead (hh' a d (Or.inl rfl) (Or.inr rfl)) h4 h1
  have g1 := sgn_mul (x := dtp (Q a) (Q b) (Q c)) hcd
  have g2 := sgn_mul (x := dtp (Q a) (Q b) (Q d)) hcd
  have g3 := sgn_mul (x := dtp (Q c) (Q d) (Q a)) hab
  have g4 := sgn_mul (x := dtp (Q c) (Q d) (Q b)) hab
  generalize dtp (Q c) (Q d) q * Hf α β (Q a) (Q b) - dtp (Q a) (Q b) q * Hf α β (Q c) (Q d) = D at *
  clear Ecb Ecd Eab Ead
  unfold REb
  rcases Nat.lt_trichotomy a c with x | x | x
  · have n1 := pl_in h pab x hcb
    rw [if_neg (by omega), if_neg (by omega), decide_eq_true_iff]
    rcases Nat.lt_trichotomy b d with y | y | y
    · have k := pl_n2 h pab pcd x hcb y
      have n2 := pl_in h pcd (v := b) hcb y
      clear Scd Sab Sad g2 g3
      omega
    · subst y
      rw [zb] at *
      clear Scb Sab Sad g3 g4
      omega
    · have k := pl_n1 h pab pcd x y
      have n2 := pl_in h pab (v := d) had y
      clear Scb Sab Sad g3 g4
      omega
  · subst x
    rw [if_neg (by omega), if_pos rfl, decide_eq_true_iff]
    have sw := dtp_sw2 (Q a) (Q b) (Q d)
    rcases Nat.lt_trichotomy b d with y | y | y
    · have n2 := pl_in h pcd (v := b) hcb y
      rw [za, zc] at *
      clear Scb Scd Sad g1 g2 g3
      omega
    · exact absurd ⟨rfl, y⟩ hne
    · have n2 := pl_in h pab (v := d) had y
      rw [za, zc] at *
      clear Scb Scd Sab g1 g3 g4
      omega
  · have n1 := pl_in h pcd x had
    rw [if_pos x, decide_eq_true_iff]
    rcases Nat.lt_trichotomy b d with y | y | y
    · have k := pl_n1 h pcd pab x y
      have n2 := pl_in h pcd (v := b) hcb y
      clear Scb Scd Sad g1 g2
      omega
    · subst y
      rw [zb, zd] at *
      clear Scb Scd Sad g1 g2 g4
      omega
    · have k := pl_n2 h pcd pab x had y
      have n2 := pl_in h pab (v := d) had y
      clear Scb Scd Sab g1 g4
      omega
theorem REb_tot {K : Nat → Ln} {N m : Nat} {Q : Nat → Pt3} (h : Mx K N m Q) {a b c d : Nat} (pab : Pc (onK K Q) N m a b) (pcd : Pc (onK K Q) N m c d) (hne : ¬ (a = c ∧ b = d)) (hcb : c < b) (had : a < d) : REb Q a b c d = true ∨ REb Q c d a b = true := by
  unfold REb
  rcases Nat.lt_trichotomy a c with x | x | x
  · have n1 := pl_in h pab x hcb
    rw [if_neg (by omega), if_neg (by omega), if_pos x, decide_eq_true_iff, decide_eq_true_iff]
    omega
  · subst x
    rw [if_neg (by omega), if_pos rfl, if_neg (by omega), if_pos rfl, decide_eq_true_iff, decide_eq_true_iff]
    have sw := dtp_sw2 (Q a) (Q b) (Q d)
    rcases Nat.lt_trichotomy b d with y | y | y
    · have n2 := pl_in h pcd (v := b) hcb y
      omega
    · exact absurd ⟨rfl, y⟩ hne
    · have n2 := pl_in h pab (v := d) had y
      omega
  · have n1 := pl_in h pcd x had
    rw [if_pos x, if_neg (by omega), if_neg (by omega), decide_eq_true_iff, decide_eq_true_iff]
    omega
/-- the least of a finite set under a total order with ties -/
theorem best_ex {R : Nat → Nat → Prop} {C : Nat → Prop} (tr : ∀ a b c, C a → C b → C c → R a b → R b c → R a c) (to : ∀ a b, C a → C b → R a b ∨ R b a) : ∀ k, (∃ a, a < k ∧ C a) → ∃ c, c < k ∧ C c ∧ ∀ a, a < k → C a → R c a := by
  intro k
  induction k with
  | zero => rintro ⟨a, h, -⟩; omega
  | succ k ih =>
    rintro ⟨a, ha, hC⟩
    by_cases hx : ∃ a, a < k ∧ C a
    · obtain ⟨c, c1, c2, c3⟩ := ih hx
      by_cases hk : C k
      · rcases to c k c2 hk with r | r
        · refine ⟨c, by omega, c2, fun b hb hCb => ?_⟩
          by_cases e : b = k
          · rw [e]; exact r
          · exact c3 b (by omega) hCb
        · refine ⟨k, by omega, hk, fun b hb hCb => ?_⟩
          by_cases e : b = k
          · rw [e]
            rcases to k k hk hk with z | z <;> exact z
          · exact tr k c b hk c2 hCb r (c3 b (by omega) hCb)
      · refine ⟨c, by omega, c2, fun b hb hCb => ?_⟩
        by_cases e : b = k
        · rw [e] at hCb; exact absurd hCb hk
        · exact c3 b (by omega) hCb
    · have : a = k := by
        rcases Nat.lt_or_ge a k with q | q
        · exact absurd ⟨a, q, hC⟩ hx
        · omega
      subst this
      refine ⟨a, by omega, hC, fun b hb hCb => ?_⟩
      by_cases e : b = a
      · rw [e]
        rcases to a a hC hC with z | z <;> exact z
      · exact absurd ⟨b, by omega, hCb⟩ hx
def loQ (Q : Nat → Pt3) (m : Nat) (q : Pt3) (v : Nat) : Bool := decide (v < m ∧ pcmp (Q v) q < 0)
def RQ (Q : Nat → Pt3) (m : Nat) (f : Nat → Nat → Int) (q : Pt3) : Int := SS m f (loQ Q m q) (fun c d => decide (0 < dtp (Q c) (Q d) q))
theorem fr_tr {n1 d1 n2 d2 n3 d3 : Int} (h1 : 0 < d1) (h2 : 0 < d2) (h3 : 0 < d3) (a : n1 * d2 ≤ n2 * d1) (b : n2 * d3 ≤ n3 * d2) : n1 * d3 ≤ n3 * d1 := by
  have x1 := Int.mul_le_mul_of_nonneg_right a (show 0 ≤ d3 by omega)
  have x2 := Int.mul_le_mul_of_nonneg_right b (show 0 ≤ d1 by omega)
  have e1 : n1 * d2 * d3 = d2 * (n1 * d3) := by grind
  have e2 : n2 * d1 * d3 = n2 * d3 * d1 := by grind
  have e3 : n3 * d2 * d1 = d2 * (n3 * d1) := by grind
  have : d2 * (n1 * d3) ≤ d2 * (n3 * d1) := by omega
  exact Int.le_of_mul_le_mul_left this h2
/-- the first firm piece on the right of a point -/
theorem near_ex {w h nl : Nat} {ld : Nat → Ln} {m : Nat} {Q : Nat → Pt3} {fm : Nat → Nat → Bool} (hM : Mesh w h nl ld m Q fm) {q : Pt3} (hq : pB q) (hon : ∀ v u, fm v u = true → pcmp (Q v) q ≠ 0) (hr : ∃ c d, fm c d = true ∧ plt (Q c) q ∧ plt q (Q d) ∧ 0 < dtp (Q c) (Q d) q) : ∃ a b, a < b ∧ fm a b = true ∧ plt (Q a) q ∧ plt q (Q b) ∧ 0 < dtp (Q a) (Q b) q ∧ ∀ f, Flow m fm f → RQ Q m f q = om Q m f a b := by
  have hX := Mesh_Mx hM
  have hQ := hM.2.1.1
  have hS := hM.2.1.2.1
  have hm := hM.2.2.1
  have pt : ∀ v, v < m → pB (Q v) := fun v hv => pB_of (hQ v hv)
  have ix : ∀ {i j}, i < m → j < m → (plt (Q i) (Q j) ↔ i < j) := fun hi hj => ix_lt hQ hS hi hj
  -- spanning pieces
  have span : ∀ c d, fm c d = true → plt (Q c) q → plt q (Q d) → c < d ∧ c < m ∧ d < m ∧ 0 < hh (Q c) (Q d) ∧ Pc (onK (KX w h ld) Q) (nl + 4) m c d := by
    intro c d fcd p1 p2
    obtain ⟨a1, a2, -, -, k1, -⟩ := fm_ad hM fcd
    have := plt_trans (hQ c a1).1 hq.1 (hQ d a2).1 p1 p2
    have hlt := (ix a1 a2).mp this
    exact ⟨hlt, a1, a2, hh_lt hQ hS hlt a2, k1 hlt⟩
  obtain ⟨e, e1, e2, e3⟩ := best_ex (R := fun e g => dtp (Q (e / 128)) (Q (e % 128)) q * hh (Q (g / 128)) (Q (g % 128)) ≤ dtp (Q (g / 128)) (Q (g % 128)) q * hh (Q (e / 128)) (Q (e % 128))) (C := fun e => fm (e / 128) (e % 128) = true ∧ plt (Q (e / 128)) q ∧ plt q (Q (e % 128)) ∧ 0 < dtp (Q (e / 128)) (Q (e % 128)) q) (fun a b c ha hb hc r1 r2 => fr_tr (span _ _ ha.1 ha.2.1 ha.2.2.1).2.2.2.1 (span _ _ hb.1 hb.2.1 hb.2.2.1).2.2.2.1 (span _ _ hc.1 hc.2.1 hc.2.2.1).2.2.2.1 r1 r2) (fun a b _ _ => by omega) 16384 (by
    obtain ⟨c, d, x1, x2, x3, x4⟩ := hr
    obtain ⟨s1, s2, s3, -⟩ := span c d x1 x2 x3
    have d1 : (c * 128 + d) / 128 = c := by omega
    have d2 : (c * 128 + d) % 128 = d := by omega
    exact ⟨c * 128 + d, by omega, by rw [d1, d2]; exact ⟨x1, x2, x3, x4⟩⟩)
  generalize e / 128 = a at *
  generalize e % 128 = b at *
  obtain ⟨f1, f2, f3, f4⟩ := e2
  obtain ⟨s1, s2, s3, s4, s5⟩ := span a b f1 f2 f3
  have least : ∀ c d, fm c d = true → plt (Q c) q → plt q (Q d) → 0 < dtp (Q c) (Q d) q → dtp (Q a) (Q b) q * hh (Q c) (Q d) ≤ dtp (Q c) (Q d) q * hh (Q a) (Q b) := by
    intro c d x1 x2 x3 x4
    obtain ⟨t1, t2, t3, -⟩ := span c d x1 x2 x3
    have d1 : (c * 128 + d) / 128 = c := by omega
    have d2 : (c * 128 + d) % 128 = d := by omega
    have := e3 (c * 128 + d) (by omega) (by rw [d1, d2]; exact ⟨x1, x2, x3, x4⟩)
    rw [d1, d2] at this
    exact this
  refine ⟨a, b, s1, f1, f2, f3, f4, fun f hf => ?_⟩
  have eom : om Q m f a b = RR Q m f a + UU Q m f a b := by unfold om; rw [if_pos s1]
  rw [eom, ← om_low hM s2]
  have cut := om_cut hM hf s1 f1 (lo1 := fun v => decide (v ≤ a)) (lo2 := loQ Q m q) (fun v hv => decide_eq_true hv) (fun v hv => by
    have := of_decide_eq_true hv
    refine decide_eq_true ⟨by omega, ?_⟩
    rcases Nat.lt_or_ge v a with z | z
    · exact plt_trans (hQ v (by omega)).1 (hQ a s2).1 hq.1 (hS v a z s2) f2
    · obtain rfl : v = a := by omega
      exact f2) (fun v hv => by
    obtain ⟨v1, v2⟩ := of_decide_eq_true hv
    exact (ix v1 s3).mp (plt_trans (hQ v v1).1 hq.1 (hQ b s3).1 v2 f3)) (fun u v huv hv => by
    have := of_decide_eq_true hv
    exact decide_eq_true (by omega)) (fun u v huv hv => by
    obtain ⟨v1, v2⟩ := of_decide_eq_true hv
    refine decide_eq_true ⟨by omega, ?_⟩
    rcases Nat.lt_or_ge u v with z | z
    · exact plt_trans (hQ u (by omega)).1 (hQ v v1).1 hq.1 (hS u v z v1) v2
    · obtain rfl : u = v := by omega
      exact v2)
  rw [cut]
  unfold RQ SS
  refine sm_congr (fun c hc => sm_congr (fun d hd => if_nz (fun nz => ?_)))
  have fcd := hf.2.2 c d nz
  simp only [Bool.and_eq_true, Bool.not_eq_true', decide_eq_true_eq]
  constructor
  all_goals
    rintro ⟨⟨z1, z2⟩, z3⟩
    refine ⟨⟨z1, z2⟩, ?_⟩
    have p1 : plt (Q c) q := (of_decide_eq_true z1).2
    have p2 : plt q (Q d) := by
      have n1 : ¬ (d < m ∧ pcmp (Q d) q < 0) := fun z => by unfold loQ at z2; rw [decide_eq_true z] at z2; cases z2
      have n2 := hon d c (fm_ad hM fcd).2.2.2.1
      have : 0 < pcmp (Q d) q := by omega
      exact pcmp_gt.mp this
    obtain ⟨t1, t2, t3, t4, t5⟩ := span c d fcd p1 p2
    have cb : c < b := (ix t2 s3).mp (plt_trans (hQ c t2).1 hq.1 (hQ b s3).1 p1 f3)
    have ad : a < d := (ix s2 t3).mp (plt_trans (hQ a s2).1 hq.1 (hQ d t3).1 f2 p2)
    have Lv : ¬ (a = c ∧ b = d) → (REb Q a b c d = true ↔ 0 < dtp (Q c) (Q d) q * hh (Q a) (Q b) - dtp (Q a) (Q b) q * hh (Q c) (Q d)) := by
      intro ne
      have := lev hX 1000000 1 s5 t5 ne cb ad (q := q) (by rw [Hf_hh]; exact s4) (by rw [Hf_hh]; exact t4) (by rw [Hf_hh]; exact (hh_pos (pt a s2) hq).mpr f2) (by rw [Hf_hh]; exact (hh_pos (pt c t2) hq).mpr p1) (by rw [Hf_hh]; exact (hh_pos hq (pt b s3)).mpr f3) (by rw [Hf_hh]; exact (hh_pos hq (pt d t3)).mpr p2) (fun p r hp hr => by
        rw [Hf_hh]
        have : p < r ∧ r < m := by rcases hp with rfl | rfl <;> rcases hr with rfl | rfl <;> omega
        exact hh_lt hQ hS this.1 this.2)
      rw [Hf_hh, Hf_hh] at this
      exact this
    have Lv2 : ¬ (a = c ∧ b = d) → (REb Q c d a b = true ↔ 0 < dtp (Q a) (Q b) q * hh (Q c) (Q d) - dtp (Q c) (Q d) q * hh (Q a) (Q b)) := by
      intro ne
      have := lev hX 1000000 1 t5 s5 (fun z => ne ⟨z.1.symm, z.2.symm⟩) ad cb (q := q) (by rw [Hf_hh]; exact t4) (by rw [Hf_hh]; exact s4) (by rw [Hf_hh]; exact (hh_pos (pt c t2) hq).mpr p1) (by rw [Hf_hh]; exact (hh_pos (pt a s2) hq).mpr f2) (by rw [Hf_hh]; exact (hh_pos hq (pt d t3)).mpr p2) (by rw [Hf_hh]; exact (hh_pos hq (pt b s3)).mpr f3) (fun p r hp hr => by
        rw [Hf_hh]
        have : p < r ∧ r < m := by rcases hp with rfl | rfl <;> rcases hr with rfl | rfl <;> omega
        exact hh_lt hQ hS this.1 this.2)
      rw [Hf_hh, Hf_hh] at this
      exact this
    by_cases same : a = c ∧ b = d
    · obtain ⟨rfl, rfl⟩ := same
      first
        | exact f4
        | (unfold REb; rw [if_neg (by omega), if_pos rfl]; exact decide_eq_true (Or.inl rfl))
    · have L := Lv same
      first
        | (have := L.mp z3
           have x1 := m_pp f4 t4
           have x2 : 0 < dtp (Q c) (Q d) q * hh (Q a) (Q b) := by omega
           exact ((sgn_mul s4).1).mp x2)
        | (refine L.mpr ?_
           have x1 := least c d fcd p1 p2 z3
           have L2 := Lv2 same
           rcases REb_tot hX s5 t5 same cb ad with r | r
           · exact L.mp r
           · have := L2.mp r; omega)
