/-! the reference: isCut, the table of cuts -/
theorem isCut_ok {c : Nat} {W H : Nat → Nat} {tn : Nat → Bool} (hb : BxOk c W H) {s w h : Nat} (hs2 : s < 2 ^ c) (hw1 : 1 ≤ w) (hw : w ≤ 12) (hh1 : 1 ≤ h) (hh : h ≤ 12) {bt2 bu bw cu : Nat → Int32} (hW : hN c bw W) (hH : hN c bt2 H) (hT : hB c bu tn) (ht : ∀ t, t < 2 ^ c → ∀ x y, 1 ≤ x → x ≤ w → 1 ≤ y → y ≤ h → (x < w ∨ y < h) → CT c W H tn cu t x y) : ∃ b : Bool, sX12_isCut (nI s) (nI w) (nI h) (nI c) bt2 bu bw cu = some (bI b) ∧ (b = true ↔ CutP c W H tn s w h) := by
  have hc6 := hb.1
  have p2c := bs_p2 c (by omega)
  have s64 : s < 64 := by omega
  by_cases s0 : s = 0
  · subst s0
    exact ⟨true, rfl, fun _ => cut_0 hw1 hh1, fun _ => rfl⟩
  · have sub : ∀ t, t &&& s = t → t < 2 ^ c := fun t h1 => by
      have : t &&& s ≤ s := Nat.and_le_right
      omega
    rcases iter_first (B := bX12_isCut_9 (nI s) (nI w) (nI h) (nI c) bt2 bu bw) c (fun k => s = 2 ^ k ∧ isBx W H tn k w h) 0 (by omega) (by omega) (fun k _ k2 => by
      have pk := bs_p2 k (by omega)
      unfold bX12_isCut_9
      rw [dm1, if_neg (by rw [nI_leS (by omega) (by omega)]; omega), bs_sh k (by omega)]
      by_cases z : s = 2 ^ k
      · obtain ⟨b, b1, b2⟩ := isBox_ok hb k2 hw hh hW hH hT
        rw [if_neg (fun y => y (by rw [z])), ob_d1 b1]
        cases b with
        | false =>
          left
          refine ⟨fun y => absurd (b2.mpr y.2) (by simp), ?_⟩
          rw [if_pos (by decide), lt_v, nI_1]
        | true =>
          right
          exact ⟨⟨z, b2.mp rfl⟩, by rw [if_neg (by decide)]⟩
      · left
        refine ⟨fun y => z y.1, ?_⟩
        rw [if_pos (by rw [nI_eqS (by omega) (by omega)]; exact z), lt_v, nI_1]) (by
      unfold bX12_isCut_9
      rw [dm1, if_pos (by rw [nI_leS (by omega) (by omega)]; omega)]) with ⟨k, _, k2, k3, _, k5⟩ | ⟨k1, k2⟩
    · refine ⟨true, ?_, fun _ => ?_, fun _ => rfl⟩
      · unfold sX12_isCut
        rw [if_pos (by rw [nl_0, nI_eqS (by omega) (by omega)]; exact s0), show (0 : Int32) = nI 0 from rfl, ob_x2a k5]
        rfl
      · rw [k3.1]; exact cut_bx k2 k3.2
    · obtain ⟨k, t', h1, h2⟩ := iter_whE (S := Option Nat) (B := bX12_isCut_48 (nI s) (nI w) (nI h) cu) (fun v => oI v) (fun v => match v with
          | none => ∀ t, t &&& s = t → ¬ hq c W H tn s w t h
          | some v => v &&& s = v ∧ ∀ t, t &&& s = t → v < t → ¬ hq c W H tn s w t h) (fun v => match v with
          | none => 0
          | some v => v + 1) (fun k _ => ((k = 0 ∨ k = 1) ∧ ∃ t, t &&& s = t ∧ hq c W H tn s w t h) ∨ (k = 2 ∧ ∀ t, t &&& s = t → ¬ hq c W H tn s w t h)) (fun v hI => by
        cases v with
        | none =>
          right
          refine ⟨2, oI none, ?_, Or.inr ⟨rfl, hI⟩⟩
          unfold bX12_isCut_48
          rw [dm1, if_pos (show oI none < 0 by decide)]
        | some v =>
          obtain ⟨i1, i2⟩ := hI
          have vl := bs_ltof s64 i1
          have nv : ¬ nI v < 0 := nI_pos (by omega)
          rcases cutV_ok s64 i1 hw hw1 hh (fun t q1 x x1 x2 => ht t (sub t q1) x h x1 (by omega) hh1 (Nat.le_refl _) (Or.inl x2)) with ⟨x, z, x1, x2, x3, x4, x5⟩ | ⟨x1, z, x2⟩
          · right
            refine ⟨0, nI v, ?_, Or.inl ⟨Or.inl rfl, v, i1, Or.inl ⟨x, x1, x2, x3, x4⟩⟩⟩
            show bX12_isCut_48 (nI s) (nI w) (nI h) cu (nI v) = _
            unfold bX12_isCut_48
            rw [dm1, if_neg nv, ob_x2a x5]
            rfl
          · rcases cutH_ok s64 i1 hw hh1 hh (fun t q1 y y1 y2 => ht t (sub t q1) w y hw1 (Nat.le_refl _) y1 (by omega) (Or.inr y2)) with ⟨y, z', y1, y2, y3, y4, y5⟩ | ⟨y1, z', y2⟩
            · right
              refine ⟨1, nI v, ?_, Or.inl ⟨Or.inr rfl, v, i1, Or.inr ⟨y, y1, y2, y3, y4⟩⟩⟩
              show bX12_isCut_48 (nI s) (nI w) (nI h) cu (nI v) = _
              unfold bX12_isCut_48
              rw [dm1, if_neg nv, ob_x2b x2]
              show ob (iter (bX12_isCut_111 (nI s) (nI w) (nI h) cu (nI v)) FU (1 : Int32)) _ = _
              rw [ob_x2a y5]
              rfl
            · left
              have nq : ¬ hq c W H tn s w v h := by
                intro q
                rcases q with ⟨x, q1, q2, q3, q4⟩ | ⟨y, q1, q2, q3, q4⟩
                · exact x1 x q1 q2 ⟨q3, q4⟩
                · exact y1 y q1 q2 ⟨q3, q4⟩
              have st : bX12_isCut_48 (nI s) (nI w) (nI h) cu (nI v) = ob (if ¬ nI v = 0 then some ((nI v - (1 : Int32)) &&& nI s) else some (-1 : Int32)) (fun t => dm1 t (fun v22 => some (0, v22))) := by
                unfold bX12_isCut_48
                rw [dm1, if_neg nv, ob_x2b x2]
                show ob (iter (bX12_isCut_111 (nI s) (nI w) (nI h) cu (nI v)) FU (1 : Int32)) _ = _
                rw [ob_x2b y2]
                rfl
              by_cases v0 : v = 0
              · subst v0
                refine ⟨none, ?_, fun t q1 => ?_, by show 0 < 0 + 1; omega⟩
                · show bX12_isCut_48 (nI s) (nI w) (nI h) cu (nI 0) = _
                  rw [st]; rfl
                · by_cases z : t = 0
                  · subst z; exact nq
                  · exact i2 t q1 (by omega)
              · obtain ⟨n1, n2, n3⟩ := bs_next s s64 v vl (by omega)
                refine ⟨some ((v - 1) &&& s), ?_, ⟨n3, fun t q1 q2 => ?_⟩, by show ((v - 1) &&& s) + 1 < v + 1; omega⟩
                · show bX12_isCut_48 (nI s) (nI w) (nI h) cu (nI v) = _
                  rw [st, if_pos (by rw [nl_0, nI_eqS (by omega) (by omega)]; exact v0), n1, ob_d1 rfl]
                  rfl
                · have tl := bs_ltof s64 q1
                  by_cases z : t = v
                  · subst z; exact nq
                  · by_cases z2 : t < v
                    · have := bs_gap s s64 v vl (by omega) i1 t tl q1 z2
                      omega
                    · exact i2 t q1 (by omega)) (some s) ⟨bs_self s, fun t q1 q2 => by
          have : t &&& s ≤ s := Nat.and_le_right
          omega⟩ (by show s + 1 < 999999999; omega)
      have h1' : iter (bX12_isCut_48 (nI s) (nI w) (nI h) cu) FU (nI s) = some (k, t') := h1
      have st : sX12_isCut (nI s) (nI w) (nI h) (nI c) bt2 bu bw cu = ob (iter (bX12_isCut_48 (nI s) (nI w) (nI h) cu) FU (nI s)) (fun kt => ex3 kt (fun t => dm1 t (fun v23 => some (1 : Int32))) (fun t => dm1 t (fun v24 => some (1 : Int32))) (fun t => dm1 t (fun v25 => some (0 : Int32)))) := by
        unfold sX12_isCut
        rw [if_pos (by rw [nl_0, nI_eqS (by omega) (by omega)]; exact s0), show (0 : Int32) = nI 0 from rfl, ob_x2b k2]
        rfl
      have up : ∀ t, t &&& s = t → hq c W H tn s w t h → CutP c W H tn s w h := by
        intro t q1 q2
        rcases q2 with ⟨x, x1, x2, x3, x4⟩ | ⟨y, y1, y2, y3, y4⟩
        · exact cut_v s64 q1 x1 x2 hh1 x3 x4
        · exact cut_h s64 q1 y1 y2 hw1 y3 y4
      rcases h2 with ⟨h3, t, q1, q2⟩ | ⟨h3, h4⟩
      · refine ⟨true, ?_, fun _ => up t q1 q2, fun _ => rfl⟩
        rcases h3 with h3 | h3
        · subst h3
          rw [st, ob_x3a h1']; rfl
        · subst h3
          rw [st, ob_x3b h1']; rfl
      · subst h3
        refine ⟨false, ?_, fun z => (by cases z), fun z => ?_⟩
        · rw [st, ob_x3c h1']; rfl
        · exfalso
          rcases cut_inv z with z | ⟨k, z1, z2, z3⟩ | ⟨o, x, z1, z2, z3, z4, z5⟩ | ⟨o, y, z1, z2, z3, z4, z5⟩
          · exact s0 z
          · exact k1 k (by omega) z1 ⟨z2, z3⟩
          · exact h4 o z1 (Or.inl ⟨x, z2, z3, z4, z5⟩)
          · exact h4 o z1 (Or.inr ⟨y, z2, z3, z4, z5⟩)
theorem tabM_ok {c : Nat} {W H : Nat → Nat} {tn : Nat → Bool} (hb : BxOk c W H) {a b : Nat} (ha1 : 1 ≤ a) (ha : a ≤ 12) (hb1 : 1 ≤ b) (hb2 : b ≤ 12) {bt2 bu bw : Nat → Int32} (hW : hN c bw W) (hH : hN c bt2 H) (hT : hB c bu tn) (cu : Nat → Int32) : ∃ cu', iter (bX12_sheets_136 (nI a) (nI b) (nI c) bt2 bu bw) FU ((1 : Int32), cu) = some (0, (nI (a + 1), cu')) ∧ ∀ s, s < 2 ^ c → CT c W H tn cu' s a b := by
  have hc6 := hb.1
  have p2c := bs_p2 c (by omega)
  obtain ⟨cu', h1, h2⟩ := iter_for (S := Nat → Int32) (B := bX12_sheets_136 (nI a) (nI b) (nI c) bt2 bu bw) (fun i l => (nI i, l)) (a + 1) (fun i l => ∀ s, s < 2 ^ c → ∀ x y, 1 ≤ x → x < i → 1 ≤ y → y ≤ b → CT c W H tn l s x y) 1 cu (fun s _ x y x1 x2 => by omega) (by omega) (by omega) (fun w l hw1 hw2 hI => by
    obtain ⟨l1, k1, k2⟩ := iter_for (S := Nat → Int32) (B := bX12_sheets_145 (nI b) (nI c) bt2 bu bw (nI w)) (fun i l => (nI i, l)) (b + 1) (fun i l => (∀ s, s < 2 ^ c → ∀ x y, 1 ≤ x → x < w → 1 ≤ y → y ≤ b → CT c W H tn l s x y) ∧ ∀ s, s < 2 ^ c → ∀ y, 1 ≤ y → y < i → CT c W H tn l s w y) 1 l ⟨hI, fun s _ y y1 y2 => by omega⟩ (by omega) (by omega) (fun h l hh1 hh2 hJ => by
      obtain ⟨l2, m1, m2⟩ := iter_for (S := Nat → Int32) (B := bX12_sheets_154 (nI c) bt2 bu bw (nI w) (nI h)) (fun i l => (nI i, l)) (2 ^ c) (fun i l => ((∀ s, s < 2 ^ c → ∀ x y, 1 ≤ x → x < w → 1 ≤ y → y ≤ b → CT c W H tn l s x y) ∧ ∀ s, s < 2 ^ c → ∀ y, 1 ≤ y → y < h → CT c W H tn l s w y) ∧ ∀ s, s < i → CT c W H tn l s w h) 0 l ⟨hJ, fun s hs => absurd hs (Nat.not_lt_zero _)⟩ (Nat.zero_le _) (by omega) (fun s l _ hs hK => by
        obtain ⟨⟨g1, g2⟩, g3⟩ := hK
        obtain ⟨v, e1, e2⟩ := isCut_ok hb hs hw1 (by omega) hh1 (by omega) hW hH hT (cu := l) (fun t t1 x y x1 x2 y1 y2 z => by
          by_cases q : x = w
          · subst q
            exact g2 t t1 y y1 (by omega)
          · exact g1 t t1 x y x1 (by omega) y1 (by omega))
        have il := ixc_lt (s := s) (w := w) (h := h) (by omega) (by omega) (by omega)
        obtain ⟨ia, ca⟩ := ix_c il (by omega)
        have keep : ∀ s' x y, x ≤ 12 → y ≤ 12 → ¬ (s' = s ∧ x = w ∧ y = h) → CT c W H tn l s' x y → CT c W H tn (upd l (ixc s w h) (bI v)) s' x y := by
          intro s' x y hx hy hne ⟨u, u1, u2⟩
          refine ⟨u, ?_, u2⟩
          rw [pk_un (fun z => hne (ixc_ne hx hy (by omega) (by omega) z))]
          exact u1
        refine ⟨upd l (ixc s w h) (bI v), ?_, ⟨fun s' s1 x y x1 x2 y1 y2 => keep s' x y (by omega) (by omega) (by omega) (g1 s' s1 x y x1 x2 y1 y2), fun s' s1 y y1 y2 => keep s' w y (by omega) (by omega) (by omega) (g2 s' s1 y y1 y2)⟩, fun s' s1 => ?_⟩
        · unfold bX12_sheets_154
          simp only [dm2]
          rw [bs_sh c (by omega), if_neg (by rw [nI_leS (by omega) (by omega)]; omega), ob_d1 (plc s w h), ob_d1 e1, gd_s ia, ca, nar_bb, lt_v, lt_v, nI_1]
        · by_cases q : s' = s
          · subst q
            exact ⟨v, pk_us, e2⟩
          · exact keep s' w h (by omega) (by omega) (fun z => q z.1) (g3 s' (by omega))) (fun l _ => by
        unfold bX12_sheets_154
        simp only [dm2]
        rw [bs_sh c (by omega), if_pos (by rw [nI_leS (by omega) (by omega)]; omega)])
      have m1' : iter (bX12_sheets_154 (nI c) bt2 bu bw (nI w) (nI h)) FU ((0 : Int32), l) = some (0, (nI (2 ^ c), l2)) := m1
      refine ⟨l2, ?_, m2.1.1, fun s s1 y y1 y2 => ?_⟩
      · unfold bX12_sheets_145
        simp only [dm2]
        rw [if_neg (by rw [nI_ltS (by omega) (by omega)]; omega), ob_s m1', ex1_0]
        simp only [lt, nI_1]
      · by_cases q : y = h
        · subst q; exact m2.2 s s1
        · exact m2.1.2 s s1 y y1 (by omega)) (fun l _ => by
      unfold bX12_sheets_145
      simp only [dm2]
      rw [if_pos (by rw [nI_ltS (by omega) (by omega)]; omega)])
    have k1' : iter (bX12_sheets_145 (nI b) (nI c) bt2 bu bw (nI w)) FU ((1 : Int32), l) = some (0, (nI (b + 1), l1)) := k1
    refine ⟨l1, ?_, fun s s1 x y x1 x2 y1 y2 => ?_⟩
    · unfold bX12_sheets_136
      simp only [dm2]
      rw [if_neg (by rw [nI_ltS (by omega) (by omega)]; omega), ob_s k1', ex1_0]
      simp only [lt, nI_1]
    · by_cases q : x = w
      · subst q; exact k2.2 s s1 y y1 (by omega)
      · exact k2.1 s s1 x y x1 (by omega) y1 y2) (fun l _ => by
    unfold bX12_sheets_136
    simp only [dm2]
    rw [if_pos (by rw [nI_ltS (by omega) (by omega)]; omega)])
  exact ⟨cu', h1, fun s hs => h2 s hs a b ha1 (by omega) hb1 (Nat.le_refl _)⟩
