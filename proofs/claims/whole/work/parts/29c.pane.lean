/-! corner, boxes, pane, area, at -/
theorem mnF_at (f : Nat → Nat) : ∀ K k, k < K → mnF f K ≤ f k := by
  intro K
  induction K with
  | zero => intro k hk; omega
  | succ K ih =>
    intro k hk
    show (if f K < mnF f K then f K else mnF f K) ≤ f k
    by_cases z : k = K
    · subst z; split <;> omega
    · have := ih k (by omega)
      split <;> omega
theorem mxF_at (f : Nat → Nat) : ∀ K k, k < K → f k ≤ mxF f K := by
  intro K
  induction K with
  | zero => intro k hk; omega
  | succ K ih =>
    intro k hk
    show f k ≤ (if mxF f K < f K then f K else mxF f K)
    by_cases z : k = K
    · subst z; split <;> omega
    · have := ih k (by omega)
      split <;> omega
theorem flr_ceil {a b : Nat} (hb : 0 < b) : a / b ≤ (a + b - 1) / b := Nat.div_le_div_right (by omega)
theorem corn_q {w h nl : Nat} {ld : Nat → Ln} {m : Nat} {Q : Nat → Pt3} {fm : Nat → Nat → Bool} {nv : Nat → Nat → Nat} {a np : Nat} {gs : Nat → St} {pn : Nat → Nat → Option Nat} {n : Nat} {u x y fw fe fs fr to tn pa sa wa : Nat → Int32} {n' : Nat} {d x2 y2 : Nat → Int64} {gw gr gt pb fa : Nat → Int32} (hw : Wd w h nl ld m Q fm nv a np gs pn) (hx : SdX w h nl ld m Q fm nv a np gs pn n u x y fw fe fs fr to tn pa sa wa) (hm : SdM w h nl ld m Q fm nv a np gs pn n' d x2 y2 gw gr gt pb fa) {p : Nat} (hp : p < np) : ∃ K, 0 < K ∧ K ≤ 684 ∧ sX7_corners (nI p) sa = some (nI K) ∧ sX12_corners (nI p) fa (nI n') d gw gr gt x2 y2 = some (nI K) ∧ ∃ (cs : Nat) (σ : Nat → Nat), fa p = nI cs ∧ σ 0 = cs ∧ ∀ k, k < K → ∃ j, sX7_jointAtCorner (nI p) (nI k) fr sa wa = some (nI j) ∧ iter (bX12_corner_56 (nI k) (nI n') d gw gr gt x2 y2) FU (nI cs, (0 : Int32)) = some (0, (nI (σ k), nI k)) ∧ sX12_beginOf (nI (σ k)) gr gt = some (nI j) := by
  obtain ⟨F, T, fi, tw, st, wk, x1, x2, x3, x4⟩ := hx
  obtain ⟨A, B, cs, m1, m2, m3, m4⟩ := hm
  obtain ⟨w1, w2, w3, w4, w5, w6⟩ := hw
  have s8 := x2.2.2.2.2.2.2.2
  obtain ⟨K, hK, K6⟩ := wkK s8 x4 hp
  obtain ⟨f1, f2, f3⟩ := m4 p hp
  obtain ⟨K', σ, v1, v2, v3, v4, v5, v6⟩ := wsig w1 w2 m2 m1 f2 (w5.1 p hp).1 f3
  have eK := Per_one hK v1
  subst eK
  have t5 := m2.2.2.2.2
  refine ⟨K, hK.1, K6, cornX_ok s8 w4 x4 hp hK, cornM_ok w4 hp f1 t5 hK.1 v2 v3 v4 (fun t => ⟨(v5 t).1, (v5 t).2.2⟩) v6, cs p, σ, f1, v3, fun k hk => ⟨(itr nv k (gs p)).1, jacX_ok s8 w4 x2.2.1 x4 hp hK hk, ?_, ?_⟩⟩
  · have := cornM2_ok (k := k) (fun t => ⟨(v5 t).1, (v5 t).2.2⟩) (by omega)
    rw [v3] at this
    exact this
  · rw [bg_ok t5 m2.2.1 m2.2.2.1 (v5 k).1]
    have := (v5 k).2.1
    rw [← this]
theorem corner_q {w h nl : Nat} {ld : Nat → Ln} {m : Nat} {Q : Nat → Pt3} {fm : Nat → Nat → Bool} {nv : Nat → Nat → Nat} {a np : Nat} {gs : Nat → St} {pn : Nat → Nat → Option Nat} {n : Nat} {u x y fw fe fs fr to tn pa sa wa : Nat → Int32} {n' : Nat} {d x2 y2 : Nat → Int64} {gw gr gt pb fa : Nat → Int32} (hw : Wd w h nl ld m Q fm nv a np gs pn) (hx : SdX w h nl ld m Q fm nv a np gs pn n u x y fw fe fs fr to tn pa sa wa) (hm : SdM w h nl ld m Q fm nv a np gs pn n' d x2 y2 gw gr gt pb fa) (f : Nat → Int32) (a1 a2 : Int32) : ∃ r g, sX9_corner a1 a2 f (nI w) fr (nI np) sa wa = some (r, g) ∧ sX12_corner a1 a2 1 (nI np) fa f (nI n') d gw gr gt x2 y2 = some (r, g) := by
  obtain ⟨w1, w2, w3, w4, w5, w6⟩ := id hw
  have dr := w1.1
  have th := there1 dr.1 dr.2.1
  unfold sX9_corner
  rw [ob_s th]
  unfold sX12_corner
  rw [if_neg (show ¬ (1 : Int32) = 0 by decide)]
  rcases nI_or a1 np (by omega) with ⟨p, hp, e⟩ | ho
  · subst e
    obtain ⟨_, _, h1, h2⟩ := hasJ (m := np) (by omega) hp
    obtain ⟨K, K0, K6, c1, c2, cs, σ, f1, s0, c3⟩ := corn_q hw hx hm hp
    show ∃ r g, ob (sX9_hasPane (nI p) (nI np)) _ = some (r, g) ∧ ob (sX12_isPane (nI p) (nI np)) _ = some (r, g)
    rw [ob_s h1, ob_s h2]
    show ∃ r g, (if a2 < 0 then _ else ob (sX7_corners (nI p) sa) _) = some (r, g) ∧ (if a2 < 0 then _ else ob (sX12_corners (nI p) fa (nI n') d gw gr gt x2 y2) _) = some (r, g)
    by_cases z : a2 < 0
    · rw [if_pos z, if_pos z]
      exact ⟨-1, cf 1 f, rfl, rfl⟩
    · rw [if_neg z, if_neg z, ob_s c1, ob_s c2]
      obtain ⟨k, hk, e⟩ := nI_of z
      subst e
      show ∃ r g, (if nI k < nI K then ob (sX7_jointAtCorner (nI p) (nI k) fr sa wa) (fun o => dm1 o (fun r8 => some (r8, f))) else _) = some (r, g) ∧ (if nI k < nI K then gd (¬ (nI p < 0 ∨ 160 ≤ (nI p).toNatClampNeg)) (lt (fa (nI p).toNatClampNeg) (fun x15 => ob (iter (bX12_corner_56 (nI k) (nI n') d gw gr gt x2 y2) FU (x15, (0 : Int32))) (fun kt => ex1 kt (fun t => dm2 t (fun v20 v21 => ob (sX12_beginOf v20 gr gt) (fun o => dm1 o (fun r22 => some (r22, f)))))))) else _) = some (r, g)
      by_cases y : k < K
      · have y' : nI k < nI K := by rw [nI_ltS (by omega) (by omega)]; exact y
        obtain ⟨j, j1, j2, j3⟩ := c3 k y
        obtain ⟨ia, ca⟩ := ix_c (i := p) (n := 160) (by omega) (by omega)
        rw [if_pos y', if_pos y', ob_s j1, gd_s ia, ca, f1]
        refine ⟨nI j, f, rfl, ?_⟩
        show ob (iter (bX12_corner_56 (nI k) (nI n') d gw gr gt x2 y2) FU (nI cs, (0 : Int32))) _ = _
        rw [ob_s j2]
        show ob (sX12_beginOf (nI (σ k)) gr gt) _ = _
        rw [ob_s j3]
        rfl
      · have y' : ¬ nI k < nI K := by rw [nI_ltS (by omega) (by omega)]; exact y
        rw [if_neg y', if_neg y']
        exact ⟨-1, cf 1 f, rfl, rfl⟩
  · obtain ⟨_, _, h1, h2⟩ := hasN ho
    refine ⟨-1, cf 1 f, ?_, ?_⟩
    · show ob (sX9_hasPane a1 (nI np)) _ = _
      rw [ob_s h1]; rfl
    · rw [ob_s h2]; rfl
def wFl (Q : Nat → Pt3) (nv : Nat → Nat → Nat) (g : St) (k : Nat) : Nat := (Q (itr nv k g).1).1 / (Q (itr nv k g).1).2.2
def wCe (Q : Nat → Pt3) (nv : Nat → Nat → Nat) (g : St) (k : Nat) : Nat := ((Q (itr nv k g).1).1 + (Q (itr nv k g).1).2.2 - 1) / (Q (itr nv k g).1).2.2
def hFl (Q : Nat → Pt3) (nv : Nat → Nat → Nat) (g : St) (k : Nat) : Nat := (Q (itr nv k g).1).2.1 / (Q (itr nv k g).1).2.2
def hCe (Q : Nat → Pt3) (nv : Nat → Nat → Nat) (g : St) (k : Nat) : Nat := ((Q (itr nv k g).1).2.1 + (Q (itr nv k g).1).2.2 - 1) / (Q (itr nv k g).1).2.2
theorem box_q {w h nl : Nat} {ld : Nat → Ln} {m : Nat} {Q : Nat → Pt3} {fm : Nat → Nat → Bool} {nv : Nat → Nat → Nat} {a np : Nat} {gs : Nat → St} {pn : Nat → Nat → Option Nat} {n : Nat} {u x y fw fe fs fr to tn pa sa wa : Nat → Int32} {n' : Nat} {d x2 y2 : Nat → Int64} {gw gr gt pb fa : Nat → Int32} (hw : Wd w h nl ld m Q fm nv a np gs pn) (hx : SdX w h nl ld m Q fm nv a np gs pn n u x y fw fe fs fr to tn pa sa wa) (hm : SdM w h nl ld m Q fm nv a np gs pn n' d x2 y2 gw gr gt pb fa) {p : Nat} (hp : p < np) : ∃ K l b W H : Nat, Per nv (gs p) K ∧ W = mxF (wCe Q nv (gs p)) K - mnF (wFl Q nv (gs p)) K ∧ H = mxF (hCe Q nv (gs p)) K - mnF (hFl Q nv (gs p)) K ∧ W ≤ 12 ∧ H ≤ 12 ∧ sX7_boxLeft (nI p) u x fr sa wa = some (nI l) ∧ sX12_side (nI p) (1 : Int32) (0 : Int32) fa (nI n') d gw gr gt x2 y2 = some (nI l) ∧ sX7_boxBottom (nI p) u y fr sa wa = some (nI b) ∧ sX12_side (nI p) (0 : Int32) (0 : Int32) fa (nI n') d gw gr gt x2 y2 = some (nI b) ∧ sX7_boxWidth (nI p) u x fr sa wa = some (nI W) ∧ sX12_wide (nI p) fa (nI n') d gw gr gt x2 y2 = some (nI W) ∧ sX7_boxHeight (nI p) u y fr sa wa = some (nI H) ∧ sX12_tall (nI p) fa (nI n') d gw gr gt x2 y2 = some (nI H) := by
  obtain ⟨F, T, fi, tw, st, wk, x1, x2', x3, x4⟩ := hx
  obtain ⟨A, B, cs, m1, m2, m3, m4⟩ := hm
  obtain ⟨w1, w2, w3, w4, w5, w6⟩ := hw
  have s8 := x2'.2.2.2.2.2.2.2
  have m123 := w1.2.2.1
  obtain ⟨K, hK, K6⟩ := wkK s8 x4 hp
  obtain ⟨f1, f2, f3⟩ := m4 p hp
  have sp := (w5.1 p hp).1
  obtain ⟨K', σ, v1, v2, v3, v4, v5, v6⟩ := wsig w1 w2 m2 m1 f2 sp f3
  have eK := Per_one hK v1
  subst eK
  have t5 := m2.2.2.2.2
  have jl : ∀ k, (itr nv k (gs p)).1 < m := fun k => (w1.2.2.2.1.1 _ _ (itr_S w1 w2 sp k)).1
  have eb : ∀ k, bg A B (σ k) = (itr nv k (gs p)).1 := fun k => by rw [← (v5 k).2.1]
  have pk : ∀ k, pOK (Q (itr nv k (gs p)).1) := fun k => w1.2.1.1 _ (jl k)
  have hjx : ∀ k, k < K → (itr nv k (gs p)).1 < 129 ∧ x (itr nv k (gs p)).1 = nI ((fun j => (Q j).1) (itr nv k (gs p)).1) ∧ u (itr nv k (gs p)).1 = nI ((fun j => (Q j).2.2) (itr nv k (gs p)).1) ∧ 0 < (fun j => (Q j).2.2) (itr nv k (gs p)).1 ∧ (fun j => (Q j).2.2) (itr nv k (gs p)).1 ≤ 288 ∧ (fun j => (Q j).1) (itr nv k (gs p)).1 ≤ 12 * (fun j => (Q j).2.2) (itr nv k (gs p)).1 := fun k _ => by
    have j1 := jl k
    have j2 := pk k
    have j3 := x1 _ j1
    exact ⟨by omega, j3.1, j3.2.2, j2.1, j2.2.1, j2.2.2.1⟩
  have hjy : ∀ k, k < K → (itr nv k (gs p)).1 < 129 ∧ y (itr nv k (gs p)).1 = nI ((fun j => (Q j).2.1) (itr nv k (gs p)).1) ∧ u (itr nv k (gs p)).1 = nI ((fun j => (Q j).2.2) (itr nv k (gs p)).1) ∧ 0 < (fun j => (Q j).2.2) (itr nv k (gs p)).1 ∧ (fun j => (Q j).2.2) (itr nv k (gs p)).1 ≤ 288 ∧ (fun j => (Q j).2.1) (itr nv k (gs p)).1 ≤ 12 * (fun j => (Q j).2.2) (itr nv k (gs p)).1 := fun k _ => by
    have j1 := jl k
    have j2 := pk k
    have j3 := x1 _ j1
    exact ⟨by omega, j3.2.1, j3.2.2, j2.1, j2.2.1, j2.2.2.2.1⟩
  have kx : ∀ t, t < K → bg A B (σ t) < 240 ∧ Cof 1 x2 y2 (bg A B (σ t)) = lN ((fun j => (Q j).1) (bg A B (σ t))) ∧ d (bg A B (σ t)) = lN ((fun j => (Q j).2.2) (bg A B (σ t))) ∧ 0 < (fun j => (Q j).2.2) (bg A B (σ t)) ∧ (fun j => (Q j).2.2) (bg A B (σ t)) ≤ 288 ∧ (fun j => (Q j).1) (bg A B (σ t)) ≤ 12 * (fun j => (Q j).2.2) (bg A B (σ t)) := fun t _ => by
    rw [eb t]
    have j1 := jl t
    have j2 := pk t
    have j3 := m1 _ j1
    exact ⟨by omega, j3.1, j3.2.2, j2.1, j2.2.1, j2.2.2.1⟩
  have ky : ∀ t, t < K → bg A B (σ t) < 240 ∧ Cof 0 x2 y2 (bg A B (σ t)) = lN ((fun j => (Q j).2.1) (bg A B (σ t))) ∧ d (bg A B (σ t)) = lN ((fun j => (Q j).2.2) (bg A B (σ t))) ∧ 0 < (fun j => (Q j).2.2) (bg A B (σ t)) ∧ (fun j => (Q j).2.2) (bg A B (σ t)) ≤ 288 ∧ (fun j => (Q j).2.1) (bg A B (σ t)) ≤ 12 * (fun j => (Q j).2.2) (bg A B (σ t)) := fun t _ => by
    rw [eb t]
    have j1 := jl t
    have j2 := pk t
    have j3 := m1 _ j1
    exact ⟨by omega, j3.2.1, j3.2.2, j2.1, j2.2.1, j2.2.2.2.1⟩
  obtain ⟨z1, z2⟩ := sideM_ok w4 hp f1 t5 m2.2.1 m2.2.2.1 hK.1 v2 v3 v4 (fun t => ⟨(v5 t).1, (v5 t).2.2⟩) v6 (X := fun j => (Q j).1) (D := fun j => (Q j).2.2) 1 kx
  obtain ⟨z3, z4⟩ := sideM_ok w4 hp f1 t5 m2.2.1 m2.2.2.1 hK.1 v2 v3 v4 (fun t => ⟨(v5 t).1, (v5 t).2.2⟩) v6 (X := fun j => (Q j).2.1) (D := fun j => (Q j).2.2) 0 ky
  have y1 := boxLX s8 w4 x2'.2.1 x4 hp hK K6 (u := u) (xa := x) (X := fun j => (Q j).1) (D := fun j => (Q j).2.2) hjx
  have y2' := boxWX s8 w4 x2'.2.1 x4 hp hK K6 (u := u) (xa := x) (X := fun j => (Q j).1) (D := fun j => (Q j).2.2) hjx
  have y3 := boxLX s8 w4 x2'.2.1 x4 hp hK K6 (u := u) (xa := y) (X := fun j => (Q j).2.1) (D := fun j => (Q j).2.2) hjy
  have y4 := boxWX s8 w4 x2'.2.1 x4 hp hK K6 (u := u) (xa := y) (X := fun j => (Q j).2.1) (D := fun j => (Q j).2.2) hjy
  have q1 : mnF (wFl Q nv (gs p)) K ≤ mxF (wCe Q nv (gs p)) K := by
    have a1 := mnF_at (wFl Q nv (gs p)) K 0 hK.1
    have a2 := mxF_at (wCe Q nv (gs p)) K 0 hK.1
    have a3 : wFl Q nv (gs p) 0 ≤ wCe Q nv (gs p) 0 := flr_ceil (pk 0).1
    omega
  have q2 : mnF (hFl Q nv (gs p)) K ≤ mxF (hCe Q nv (gs p)) K := by
    have a1 := mnF_at (hFl Q nv (gs p)) K 0 hK.1
    have a2 := mxF_at (hCe Q nv (gs p)) K 0 hK.1
    have a3 : hFl Q nv (gs p) 0 ≤ hCe Q nv (gs p) 0 := flr_ceil (pk 0).1
    omega
  have q3 : mxF (wCe Q nv (gs p)) K ≤ 12 := mxF_le K (fun i _ => ceil12 (pk i).2.2.1 (pk i).1)
  have q4 : mxF (hCe Q nv (gs p)) K ≤ 12 := mxF_le K (fun i _ => ceil12 (pk i).2.2.2.1 (pk i).1)
  have g1 : (fun k => (fun j => (Q j).1) (bg A B (σ k)) / (fun j => (Q j).2.2) (bg A B (σ k))) = wFl Q nv (gs p) := by funext k; show (Q (bg A B (σ k))).1 / (Q (bg A B (σ k))).2.2 = _; rw [eb k]; rfl
  have g2 : (fun k => ((fun j => (Q j).1) (bg A B (σ k)) + (fun j => (Q j).2.2) (bg A B (σ k)) - 1) / (fun j => (Q j).2.2) (bg A B (σ k))) = wCe Q nv (gs p) := by funext k; show ((Q (bg A B (σ k))).1 + (Q (bg A B (σ k))).2.2 - 1) / (Q (bg A B (σ k))).2.2 = _; rw [eb k]; rfl
  have g3 : (fun k => (fun j => (Q j).2.1) (bg A B (σ k)) / (fun j => (Q j).2.2) (bg A B (σ k))) = hFl Q nv (gs p) := by funext k; show (Q (bg A B (σ k))).2.1 / (Q (bg A B (σ k))).2.2 = _; rw [eb k]; rfl
  have g4 : (fun k => ((fun j => (Q j).2.1) (bg A B (σ k)) + (fun j => (Q j).2.2) (bg A B (σ k)) - 1) / (fun j => (Q j).2.2) (bg A B (σ k))) = hCe Q nv (gs p) := by funext k; show ((Q (bg A B (σ k))).2.1 + (Q (bg A B (σ k))).2.2 - 1) / (Q (bg A B (σ k))).2.2 = _; rw [eb k]; rfl
  rw [g1] at z1
  rw [g2] at z2
  rw [g3] at z3
  rw [g4] at z4
  refine ⟨K, mnF (wFl Q nv (gs p)) K, mnF (hFl Q nv (gs p)) K, _, _, hK, rfl, rfl, by omega, by omega, y1, z1, ?_, z3, ?_, ?_, ?_, ?_⟩
  · rw [boxBX]; exact y3
  · rw [← pk_sub q1]; exact y2'
  · unfold sX12_wide
    rw [ob_s z2]
    show ob (sX12_side (nI p) (1 : Int32) (0 : Int32) fa (nI n') d gw gr gt x2 y2) _ = _
    rw [ob_s z1, ← pk_sub q1]
    rfl
  · rw [boxHX, ← pk_sub q2]; exact y4
  · unfold sX12_tall
    rw [ob_s z4]
    show ob (sX12_side (nI p) (0 : Int32) (0 : Int32) fa (nI n') d gw gr gt x2 y2) _ = _
    rw [ob_s z3, ← pk_sub q2]
    rfl
