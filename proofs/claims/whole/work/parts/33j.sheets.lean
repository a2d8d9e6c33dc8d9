/-! sheets: one answer -/
theorem ob_d7 {X Y Z W V U S R : Type} {e : Option (X × Y × Z × W × V × U × S)} {a : X} {b : Y} {c : Z} {d : W} {v : V} {u : U} {s : S} (h : e = some (a, b, c, d, v, u, s)) (F : X → Y → Z → W → V → U → S → Option R) : ob e (fun o => dm7 o F) = F a b c d v u s := by subst h; rfl
theorem ob_x5 {A1 A2 A3 A4 A5 R : Type} {e : Option (Nat × A1 × A2 × A3 × A4 × A5)} {a : A1} {b : A2} {c : A3} {d : A4} {v : A5} (h : e = some (0, (a, b, c, d, v))) (F : A1 → A2 → A3 → A4 → A5 → Option R) : ob e (fun kt => ex1 kt (fun t => dm5 t F)) = F a b c d v := by subst h; rfl
def tnF (a3 : Int32) (kd : Nat → Int32) (pi : Nat → Nat) (k : Nat) : Bool := decide (¬ a3 = 0) && decide (¬ kd (pi k) = 2)
theorem boxes_ex {w h nl : Nat} {ld : Nat → Ln} {m : Nat} {Q : Nat → Pt3} {fm : Nat → Nat → Bool} {nv : Nat → Nat → Nat} {a np : Nat} {gs : Nat → St} {pn : Nat → Nat → Option Nat} {n : Nat} {u x y fw fe fs fr to tn pa sa wa : Nat → Int32} {n' : Nat} {d x2 y2 : Nat → Int64} {gw gr gt pb fa : Nat → Int32} (hw : Wd w h nl ld m Q fm nv a np gs pn) (hx : SdX w h nl ld m Q fm nv a np gs pn n u x y fw fe fs fr to tn pa sa wa) (hm : SdM w h nl ld m Q fm nv a np gs pn n' d x2 y2 gw gr gt pb fa) : ∃ Wp Hp : Nat → Nat, ∀ p, p < np → (1 ≤ Wp p ∧ Wp p ≤ 12 ∧ 1 ≤ Hp p ∧ Hp p ≤ 12) ∧ sX7_boxWidth (nI p) u x fr sa wa = some (nI (Wp p)) ∧ sX12_wide (nI p) fa (nI n') d gw gr gt x2 y2 = some (nI (Wp p)) ∧ sX7_boxHeight (nI p) u y fr sa wa = some (nI (Hp p)) ∧ sX12_tall (nI p) fa (nI n') d gw gr gt x2 y2 = some (nI (Hp p)) := by
  have h1 : ∀ p, ∃ WH : Nat × Nat, p < np → (1 ≤ WH.1 ∧ WH.1 ≤ 12 ∧ 1 ≤ WH.2 ∧ WH.2 ≤ 12) ∧ sX7_boxWidth (nI p) u x fr sa wa = some (nI WH.1) ∧ sX12_wide (nI p) fa (nI n') d gw gr gt x2 y2 = some (nI WH.1) ∧ sX7_boxHeight (nI p) u y fr sa wa = some (nI WH.2) ∧ sX12_tall (nI p) fa (nI n') d gw gr gt x2 y2 = some (nI WH.2) := by
    intro p
    by_cases hp : p < np
    · obtain ⟨K, l, b, W, H, k1, k2, k3, k4, k5, _, _, _, _, b5, b6, b7, b8⟩ := box_q hw hx hm hp
      obtain ⟨p1, p2⟩ := box_pos hw.1 hw.2.1 (hw.2.2.2.2.1.1 p hp).1 k1
      exact ⟨(W, H), fun _ => ⟨⟨by omega, k4, by omega, k5⟩, b5, b6, b7, b8⟩⟩
    · exact ⟨(0, 0), fun z => absurd z hp⟩
  exact ⟨fun p => (Classical.choose (h1 p)).1, fun p => (Classical.choose (h1 p)).2, fun p => Classical.choose_spec (h1 p)⟩
theorem layX {np c : Nat} (hnp : np ≤ 125) (hc : c ≤ 6) {pi : Nat → Nat} (hpi : ∀ i, i < c → pi i < np) {ch kd u x y fr sa wa : Nat → Int32} (hch : hN c ch pi) {Wp Hp : Nat → Nat} (hW : ∀ p, p < np → sX7_boxWidth (nI p) u x fr sa wa = some (nI (Wp p))) (hH : ∀ p, p < np → sX7_boxHeight (nI p) u y fr sa wa = some (nI (Hp p))) (a3 bx : Int32) (hi tu wi : Nat → Int32) : ∃ hi' tu' wi', sX9_layOutBoxes a3 (nI c) ch bx hi tu wi kd u x y fr sa wa = some (nI c, hi', tu', wi') ∧ hN c wi' (fun k => Wp (pi k)) ∧ hN c hi' (fun k => Hp (pi k)) ∧ hB c tu' (tnF a3 kd pi) := by
  obtain ⟨s, h1, h2, h3, h4⟩ := iter_for (S := (Nat → Int32) × (Nat → Int32) × (Nat → Int32)) (B := bX9_layOutBoxes_9 a3 (nI c) ch kd u x y fr sa wa) (fun i s => (nI i, nI i, s.1, s.2.1, s.2.2)) c (fun i s => hN i s.2.2 (fun k => Wp (pi k)) ∧ hN i s.1 (fun k => Hp (pi k)) ∧ hB i s.2.1 (tnF a3 kd pi)) 0 (hi, tu, wi) ⟨fun k hk => absurd hk (Nat.not_lt_zero _), fun k hk => absurd hk (Nat.not_lt_zero _), fun k hk => absurd hk (Nat.not_lt_zero _)⟩ (by omega) (by omega) (fun i s _ hic hI => by
    obtain ⟨g1, g2, g3⟩ := hI
    have hp := hpi i hic
    obtain ⟨ia, ca⟩ := ix_c (i := i) (n := 6) (by omega) (by omega)
    obtain ⟨ib, cb⟩ := ix_c (i := pi i) (n := 128) (by omega) (by omega)
    have ap : ∀ v8 : Int32, sX0_append (nI (Wp (pi i))) (nI (Hp (pi i))) v8 (nI i) s.1 s.2.1 s.2.2 = some (nI (i + 1), upd s.1 i (nI (Hp (pi i))), upd s.2.1 i (vp_nar .boolean v8), upd s.2.2 i (nI (Wp (pi i)))) := by
      intro v8
      unfold sX0_append
      rw [if_pos (by rw [show (6 : Int32) = nI 6 from rfl, nI_ltS (by omega) (by omega)]; omega)]
      simp only [gd_s ia]
      simp only [ca, lt, nI_1]
    have tv : (if a3 = 0 then some (0 : Int32) else gd (¬ (nI (pi i) < 0 ∨ 128 ≤ (nI (pi i)).toNatClampNeg)) (if (kd (nI (pi i)).toNatClampNeg) = (2 : Int32) then some (0 : Int32) else some (1 : Int32))) = some (bI (tnF a3 kd pi i)) := by
      rw [gd_s ib, cb]
      unfold tnF
      by_cases z : a3 = 0
      · rw [if_pos z]; simp [z]; rfl
      · rw [if_neg z]
        by_cases z2 : kd (pi i) = 2
        · rw [if_pos z2]; simp [z2]; rfl
        · rw [if_neg z2]; simp [z, z2]; rfl
    refine ⟨(upd s.1 i (nI (Hp (pi i))), upd s.2.1 i (bI (tnF a3 kd pi i)), upd s.2.2 i (nI (Wp (pi i)))), ?_, fun k hk => ?_, fun k hk => ?_, fun k hk => ?_⟩
    · unfold bX9_layOutBoxes_9
      simp only [dm5]
      rw [if_neg (by rw [nI_leS (by omega) (by omega)]; omega), gd_s ia, ca, hch i hic, lt_v, ob_d1 tv, ob_d1 (hW _ hp), ob_d1 (hH _ hp), ob_d4 (ap _), nar_bb, lt_v, nI_1]
    · show upd s.2.2 i (nI (Wp (pi i))) k = _
      by_cases z : k = i
      · subst z; exact pk_us
      · rw [pk_un z]; exact g1 k (by omega)
    · show upd s.1 i (nI (Hp (pi i))) k = _
      by_cases z : k = i
      · subst z; exact pk_us
      · rw [pk_un z]; exact g2 k (by omega)
    · show upd s.2.1 i (bI (tnF a3 kd pi i)) k = _
      by_cases z : k = i
      · subst z; exact pk_us
      · rw [pk_un z]; exact g3 k (by omega)) (fun s _ => by
    unfold bX9_layOutBoxes_9
    simp only [dm5]
    rw [if_pos (by rw [nI_leS (by omega) (by omega)]; omega)])
  have h1' : iter (bX9_layOutBoxes_9 a3 (nI c) ch kd u x y fr sa wa) FU ((0 : Int32), (0 : Int32), hi, tu, wi) = some (0, (nI c, nI c, s.1, s.2.1, s.2.2)) := h1
  refine ⟨s.1, s.2.1, s.2.2, ?_, h2, h3, h4⟩
  unfold sX9_layOutBoxes
  rw [ob_d1 (show sX0_clear bx = some 0 from rfl), ob_x5 h1']
theorem layM {np c : Nat} (hnp : np ≤ 125) (hc : c ≤ 6) {pi : Nat → Nat} (hpi : ∀ i, i < c → pi i < np) {pk kd kd2 fa gw gr gt : Nat → Int32} {d x2 y2 : Nat → Int64} {n' : Nat} (hpk : hN c pk pi) (hkd : ∀ p, p < np → kd p = kd2 p) {Wp Hp : Nat → Nat} (hW : ∀ p, p < np → sX12_wide (nI p) fa (nI n') d gw gr gt x2 y2 = some (nI (Wp p))) (hH : ∀ p, p < np → sX12_tall (nI p) fa (nI n') d gw gr gt x2 y2 = some (nI (Hp p))) (a3 : Int32) (bt2 bu bw : Nat → Int32) : ∃ bt' bu' bw', iter (bX12_sheets_50 a3 (nI c) fa kd2 (nI n') d gw gr gt x2 y2 pk) FU ((0 : Int32), bt2, bu, bw) = some (0, (nI c, bt', bu', bw')) ∧ hN c bw' (fun k => Wp (pi k)) ∧ hN c bt' (fun k => Hp (pi k)) ∧ hB c bu' (tnF a3 kd pi) := by
  obtain ⟨s, h1, h2, h3, h4⟩ := iter_for (S := (Nat → Int32) × (Nat → Int32) × (Nat → Int32)) (B := bX12_sheets_50 a3 (nI c) fa kd2 (nI n') d gw gr gt x2 y2 pk) (fun i s => (nI i, s.1, s.2.1, s.2.2)) c (fun i s => hN i s.2.2 (fun k => Wp (pi k)) ∧ hN i s.1 (fun k => Hp (pi k)) ∧ hB i s.2.1 (tnF a3 kd pi)) 0 (bt2, bu, bw) ⟨fun k hk => absurd hk (Nat.not_lt_zero _), fun k hk => absurd hk (Nat.not_lt_zero _), fun k hk => absurd hk (Nat.not_lt_zero _)⟩ (by omega) (by omega) (fun i s _ hic hI => by
    obtain ⟨g1, g2, g3⟩ := hI
    have hp := hpi i hic
    obtain ⟨ia, ca⟩ := ix_c (i := i) (n := 6) (by omega) (by omega)
    obtain ⟨ib, cb⟩ := ix_c (i := pi i) (n := 160) (by omega) (by omega)
    have tv : (if a3 = 0 then some (0 : Int32) else if (kd2 (pi i)) = (2 : Int32) then some (0 : Int32) else some (1 : Int32)) = some (bI (tnF a3 kd pi i)) := by
      rw [← hkd _ hp]
      unfold tnF
      by_cases z : a3 = 0
      · rw [if_pos z]; simp [z]; rfl
      · rw [if_neg z]
        by_cases z2 : kd (pi i) = 2
        · rw [if_pos z2]; simp [z2]; rfl
        · rw [if_neg z2]; simp [z, z2]; rfl
    refine ⟨(upd s.1 i (nI (Hp (pi i))), upd s.2.1 i (bI (tnF a3 kd pi i)), upd s.2.2 i (nI (Wp (pi i)))), ?_, fun k hk => ?_, fun k hk => ?_, fun k hk => ?_⟩
    · unfold bX12_sheets_50
      simp only [dm4]
      rw [if_neg (by rw [nI_leS (by omega) (by omega)]; omega)]
      simp only [gd_s ia]
      rw [ca, hpk i hic, ob_d1 (hW _ hp)]
      simp only [lt]
      rw [ob_d1 (hH _ hp)]
      simp only [gd_s ib]
      rw [cb, ob_d1 tv, nar_bb, nI_1]
    · show upd s.2.2 i (nI (Wp (pi i))) k = _
      by_cases z : k = i
      · subst z; exact pk_us
      · rw [pk_un z]; exact g1 k (by omega)
    · show upd s.1 i (nI (Hp (pi i))) k = _
      by_cases z : k = i
      · subst z; exact pk_us
      · rw [pk_un z]; exact g2 k (by omega)
    · show upd s.2.1 i (bI (tnF a3 kd pi i)) k = _
      by_cases z : k = i
      · subst z; exact pk_us
      · rw [pk_un z]; exact g3 k (by omega)) (fun s _ => by
    unfold bX12_sheets_50
    simp only [dm4]
    rw [if_pos (by rw [nI_leS (by omega) (by omega)]; omega)])
  exact ⟨s.1, s.2.1, s.2.2, h1, h2, h3, h4⟩
