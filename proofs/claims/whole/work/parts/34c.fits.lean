/-! does a turning fit: class and reference -/
def TJ (w h q : Nat) (o : Bool) (m m' : Nat) (Q Q' : Nat → Pt3) : Prop := ∀ i, i < m → ∃ j, j < m' ∧ Q' j = im w h q o (Q i)
def TP (w h q : Nat) (o : Bool) (m m' : Nat) (Q Q' : Nat → Pt3) (ad ad' : Nat → Nat → Bool) : Prop := ∀ a b, a < m → b < m → ad a b = true → ∀ i j, i < m' → j < m' → Q' i = im w h q o (Q a) → Q' j = im w h q o (Q b) → ad' i j = true
def ImA (w h q : Nat) (o : Bool) (m m' : Nat) (Q Q' : Nat → Pt3) (img : Nat → Int32) : Prop := ∀ i, i < m → ∃ j, j < m' ∧ img i = nI j ∧ Q' j = im w h q o (Q i)
theorem tjX {w h q : Nat} (hw : w ≤ 12) (hh : h ≤ 12) (hq : q ≤ 4) (o : Bool) {m m' : Nat} (hm : m ≤ 123) (hm' : m' ≤ 123) {Q Q' : Nat → Pt3} (hQ : ∀ i, i < m → pOK (Q i) ∧ (Q i).1 ≤ w * (Q i).2.2 ∧ (Q i).2.1 ≤ h * (Q i).2.2) (hQ' : ∀ i, i < m' → pOK (Q' i)) {u x y u' x' y' : Nat → Int32} (hJ : JR m Q u x y) (hJ' : JR m' Q' u' x' y') (img : Nat → Int32) : ∃ (b : Bool) (img' : Nat → Int32), sX5_takesJoints (nI q) (bI o) img (nI m) u x y (nI m') u' x' y' (nI w) (nI h) = some (bI b, img') ∧ (b = true ↔ TJ w h q o m m' Q Q') ∧ (b = true → ImA w h q o m m' Q Q' img') := by
  obtain ⟨k, t', h1, h2⟩ := iter_forE (S := Nat → Int32) (B := bX5_takesJoints_3 (nI q) (bI o) (nI m) u x y (nI m') u' x' y' (nI w) (nI h)) (fun i s => (nI i, s)) m (fun i s => ∀ k, k < i → ∃ j, j < m' ∧ s k = nI j ∧ Q' j = im w h q o (Q k)) (fun k t' => (k = 0 ∧ ¬ TJ w h q o m m' Q Q') ∨ (k = 1 ∧ ImA w h q o m m' Q Q' t'.2)) 0 img (fun k hk => absurd hk (Nat.not_lt_zero _)) (Nat.zero_le _) (by omega) (fun i s _ hi hI => by
    obtain ⟨ia, ca⟩ := ix_c (i := i) (n := 128) (by omega) (by omega)
    obtain ⟨q1, q2, q3⟩ := hQ i hi
    obtain ⟨v, v1, v2⟩ := imX hw hh hq o hm (show m' ≤ 128 by omega) hQ' hJ hJ' hi q1 q2 q3
    have st : bX5_takesJoints_3 (nI q) (bI o) (nI m) u x y (nI m') u' x' y' (nI w) (nI h) (nI i, s) = (if 0 ≤ v then some (0, (nI (i + 1), upd s i v)) else some (1, (nI i, upd s i v))) := by
      unfold bX5_takesJoints_3
      simp only [dm2]
      rw [if_neg (by rw [nI_leS (by omega) (by omega)]; omega), ob_d1 v1, gd_s ia, ca, lt_v]
      rw [ca] at ia
      rw [gd_s ia, pk_us, lt_v, nI_1]
    rcases v2 with ⟨j, j1, j2, j3, j4⟩ | ⟨j1, j2⟩
    · left
      subst j4
      refine ⟨upd s i (nI j), ?_, fun k hk => ?_⟩
      · rw [st, if_pos (by rw [nl_0, nI_leS (by omega) (by omega)]; omega)]
      · by_cases z : k = i
        · subst z; exact ⟨j, j1, pk_us, j2⟩
        · obtain ⟨j', z1, z2, z3⟩ := hI k (by omega)
          exact ⟨j', z1, by rw [pk_un z]; exact z2, z3⟩
    · right
      subst j2
      refine ⟨0, (nI i, upd s i (-1)), ?_, Or.inl ⟨rfl, fun z => ?_⟩⟩
      · rw [st, if_neg (by decide)]
      · obtain ⟨j, z1, z2⟩ := z i hi
        exact j1 j z1 z2) (fun s hI => by
    refine ⟨1, (nI m, s), ?_, Or.inr ⟨rfl, hI⟩⟩
    unfold bX5_takesJoints_3
    simp only [dm2]
    rw [if_pos (by rw [nI_leS (by omega) (by omega)]; omega)])
  have h1' : iter (bX5_takesJoints_3 (nI q) (bI o) (nI m) u x y (nI m') u' x' y' (nI w) (nI h)) FU ((0 : Int32), img) = some (k, t') := h1
  rcases h2 with ⟨e, h2⟩ | ⟨e, h2⟩
  · subst e
    refine ⟨false, t'.2, ?_, ⟨fun z => (by cases z), fun z => absurd z h2⟩, fun z => (by cases z)⟩
    unfold sX5_takesJoints
    rw [ob_x2a h1']; rfl
  · subst e
    refine ⟨true, t'.2, ?_, ⟨fun _ i hi => ?_, fun _ => rfl⟩, fun _ => h2⟩
    · unfold sX5_takesJoints
      rw [ob_x2b h1']; rfl
    · obtain ⟨j, z1, _, z3⟩ := h2 i hi
      exact ⟨j, z1, z3⟩
theorem tpX {w h q : Nat} {o : Bool} {m m' n : Nat} (hm : m ≤ 123) (hm' : m' ≤ 123) (hn : n ≤ 684) {Q Q' : Nat → Pt3} (hS' : Srt m' Q') {ad ad' : Nat → Nat → Bool} {F T fi : Nat → Nat} (hS : Stps ad m n F T fi) {fr to : Nat → Int32} (hf : hN n fr F) (ht : hN n to T) {n2 : Nat} (hn2 : n2 ≤ 684) {F2 T2 fi2 : Nat → Nat} (hS2 : Stps ad' m' n2 F2 T2 fi2) {fs2 to2 : Nat → Int32} (hg : ∀ i, i ≤ m' → fs2 i = nI (fi2 i)) (ht2 : hN n2 to2 T2) {img : Nat → Int32} (hI : ImA w h q o m m' Q Q' img) : ∃ b : Bool, sX5_takesPieces img (nI n) fr to fs2 to2 = some (bI b) ∧ (b = true ↔ TP w h q o m m' Q Q' ad ad') := by
  rcases iter_first (B := bX5_takesPieces_10 img (nI n) fr to fs2 to2) n (fun s => ∃ i j, i < m' ∧ j < m' ∧ Q' i = im w h q o (Q (F s)) ∧ Q' j = im w h q o (Q (T s)) ∧ ad' i j = false) 0 (Nat.zero_le _) (by omega) (fun s _ hs => by
    obtain ⟨f1, f2, f3⟩ := hS.1 s hs
    obtain ⟨ia, ca⟩ := ix_c (i := s) (n := 768) (by omega) (by omega)
    obtain ⟨ib, cb⟩ := ix_c (i := F s) (n := 128) (by omega) (by omega)
    obtain ⟨ic, cc⟩ := ix_c (i := T s) (n := 128) (by omega) (by omega)
    obtain ⟨i, i1, i2, i3⟩ := hI (F s) f1
    obtain ⟨j, j1, j2, j3⟩ := hI (T s) f2
    have st : ∀ r, sX8_stepBetween (nI i) (nI j) fs2 to2 = some r → bX5_takesPieces_10 img (nI n) fr to fs2 to2 (nI s) = (if 0 ≤ r then some (0, nI (s + 1)) else some (1, nI s)) := by
      intro r hr
      unfold bX5_takesPieces_10
      rw [dm1, if_neg (by rw [nI_leS (by omega) (by omega)]; omega), gd_s ia, ca, hf s hs, ht s hs, gd_s ib, cb, i2]
      rw [ca] at ia
      rw [gd_s ia, gd_s ic, cc, j2, ob_d1 hr, lt_v, nI_1]
    rcases stepB_ok hS2 (by omega) (by omega) hg ht2 i1 (j := j) (by omega) with ⟨s2, z1, z2, z3, z4⟩ | ⟨z1, z2⟩
    · left
      refine ⟨fun ⟨i', j', y1, y2, y3, y4, y5⟩ => ?_, ?_⟩
      · have e1 := Q_inj hS' i1 y1 (by rw [i3, y3])
        have e2 := Q_inj hS' j1 y2 (by rw [j3, y4])
        subst e1; subst e2
        have := (hS2.1 s2 z1).2.2
        rw [z2, z3, y5] at this
        cases this
      · rw [st _ z4, if_pos (by rw [nl_0, nI_leS (by omega) (by omega)]; omega)]
    · right
      refine ⟨⟨i, j, i1, j1, i3, j3, ?_⟩, ?_⟩
      · cases y : ad' i j with
        | false => rfl
        | true =>
          obtain ⟨s2, y1, y2, y3⟩ := hS2.2.2.1 i j i1 j1 y
          exact absurd ⟨y2, y3⟩ (z1 s2 y1)
      · rw [st _ z2, if_neg (by decide)]) (by
    unfold bX5_takesPieces_10
    rw [dm1, if_pos (by rw [nI_leS (by omega) (by omega)]; omega)]) with ⟨s, _, s2, ⟨i, j, z1, z2, z3, z4, z5⟩, _, s5⟩ | ⟨s1, s2⟩
  · refine ⟨false, ?_, fun z => (by cases z), fun z => ?_⟩
    · unfold sX5_takesPieces
      rw [show (0 : Int32) = nI 0 from rfl, ob_x2a s5]; rfl
    · obtain ⟨f1, f2, f3⟩ := hS.1 s s2
      have := z (F s) (T s) f1 f2 f3 i j z1 z2 z3 z4
      rw [z5] at this; cases this
  · refine ⟨true, ?_, fun _ a b ha hb hab i j hi hj h1 h2 => ?_, fun _ => rfl⟩
    · unfold sX5_takesPieces
      rw [show (0 : Int32) = nI 0 from rfl, ob_x2b s2]; rfl
    · cases y : ad' i j with
      | true => rfl
      | false =>
        obtain ⟨s, y1, y2, y3⟩ := hS.2.2.1 a b ha hb hab
        exact absurd ⟨i, j, hi, hj, by rw [y2]; exact h1, by rw [y3]; exact h2, y⟩ (s1 s (Nat.zero_le _) y1)
theorem tjM {w h q : Nat} (hw : w ≤ 12) (hh : h ≤ 12) (hq : q ≤ 4) (o : Bool) {m m' : Nat} (hm : m ≤ 123) (hm' : m' ≤ 123) {Q Q' : Nat → Pt3} (hQ : ∀ i, i < m → pOK (Q i) ∧ (Q i).1 ≤ w * (Q i).2.2 ∧ (Q i).2.1 ≤ h * (Q i).2.2) (hQ' : ∀ i, i < m' → pOK (Q' i)) {d x y d' x' y' : Nat → Int64} (hJ : JL m Q d x y) (hJ' : JL m' Q' d' x' y') (go : Nat → Int32) : ∃ (k : Nat) (t' : Int32 × (Nat → Int32)), iter (bX12_isTurned_101 (nI q) (bI o) (nI w) (nI h) (nI m) d x y (nI m') d' x' y') FU ((0 : Int32), go) = some (k, t') ∧ ((k = 0 ∧ ¬ TJ w h q o m m' Q Q') ∨ (k = 1 ∧ TJ w h q o m m' Q Q' ∧ ImA w h q o m m' Q Q' t'.2)) := by
  obtain ⟨k, t', h1, h2⟩ := iter_forE (S := Nat → Int32) (B := bX12_isTurned_101 (nI q) (bI o) (nI w) (nI h) (nI m) d x y (nI m') d' x' y') (fun i s => (nI i, s)) m (fun i s => ∀ k, k < i → ∃ j, j < m' ∧ s k = nI j ∧ Q' j = im w h q o (Q k)) (fun k t' => (k = 0 ∧ ¬ TJ w h q o m m' Q Q') ∨ (k = 1 ∧ ImA w h q o m m' Q Q' t'.2)) 0 go (fun k hk => absurd hk (Nat.not_lt_zero _)) (Nat.zero_le _) (by omega) (fun i s _ hi hI => by
    obtain ⟨q1, q2, q3⟩ := hQ i hi
    obtain ⟨v, st, v2⟩ := imM hw hh hq o hm (show m' ≤ 128 by omega) hQ' hJ hJ' hi q1 q2 q3 s
    rcases v2 with ⟨j, j1, j2, j3, j4⟩ | ⟨j1, j2⟩
    · left
      subst j4
      refine ⟨upd s i (nI j), ?_, fun k hk => ?_⟩
      · rw [st, if_pos (by rw [nl_0, nI_leS (by omega) (by omega)]; omega)]
      · by_cases z : k = i
        · subst z; exact ⟨j, j1, pk_us, j2⟩
        · obtain ⟨j', z1, z2, z3⟩ := hI k (by omega)
          exact ⟨j', z1, by rw [pk_un z]; exact z2, z3⟩
    · right
      subst j2
      refine ⟨0, (nI i, upd s i (-1)), ?_, Or.inl ⟨rfl, fun z => ?_⟩⟩
      · rw [st, if_neg (by decide)]
      · obtain ⟨j, z1, z2⟩ := z i hi
        exact j1 j z1 z2) (fun s hI => by
    refine ⟨1, (nI m, s), ?_, Or.inr ⟨rfl, hI⟩⟩
    unfold bX12_isTurned_101
    simp only [dm2]
    rw [if_pos (by rw [nI_leS (by omega) (by omega)]; omega)])
  refine ⟨k, t', h1, ?_⟩
  rcases h2 with h2 | ⟨e, h2⟩
  · exact Or.inl h2
  · refine Or.inr ⟨e, fun i hi => ?_, h2⟩
    obtain ⟨j, z1, _, z3⟩ := h2 i hi
    exact ⟨j, z1, z3⟩
theorem tpM {w h q : Nat} {o : Bool} {m m' n : Nat} (hm : m ≤ 123) (hm' : m' ≤ 123) (hn : n ≤ 342) {Q Q' : Nat → Pt3} (hS' : Srt m' Q') {P P' : Nat → Nat → Prop} {ad ad' : Nat → Nat → Bool} {A B : Nat → Nat} (hP : PcM P m n A B) (hR : PcR P ad m) {gr gt : Nat → Int32} (hf : hN n gr A) (ht : hN n gt B) {n2 : Nat} (hn2 : n2 ≤ 342) {A2 B2 : Nat → Nat} (hP2 : PcM P' m' n2 A2 B2) (hR2 : PcR P' ad' m') (hs2 : ∀ i j, ad' i j = ad' j i) {gr2 gt2 : Nat → Int32} (hf2 : hN n2 gr2 A2) (ht2 : hN n2 gt2 B2) {img : Nat → Int32} (hI : ImA w h q o m m' Q Q' img) : ∃ (k : Nat) (z : Int32), iter (bX12_isTurned_271 (nI n) gr gt (nI n2) gr2 gt2 img) FU (0 : Int32) = some (k, z) ∧ ((k = 0 ∧ ¬ TP w h q o m m' Q Q' ad ad') ∨ (k = 1 ∧ TP w h q o m m' Q Q' ad ad')) := by
  rcases iter_first (B := bX12_isTurned_271 (nI n) gr gt (nI n2) gr2 gt2 img) n (fun s => ∃ i j, i < m' ∧ j < m' ∧ Q' i = im w h q o (Q (A s)) ∧ Q' j = im w h q o (Q (B s)) ∧ ad' i j = false) 0 (Nat.zero_le _) (by omega) (fun s _ hs => by
    obtain ⟨f1, f2, f3⟩ := hP.1 s hs
    obtain ⟨ia, ca⟩ := ix_c (i := s) (n := 800) (by omega) (by omega)
    obtain ⟨ib, cb⟩ := ix_c (i := A s) (n := 240) (by omega) (by omega)
    obtain ⟨ic, cc⟩ := ix_c (i := B s) (n := 240) (by omega) (by omega)
    obtain ⟨i, i1, i2, i3⟩ := hI (A s) (by omega)
    obtain ⟨j, j1, j2, j3⟩ := hI (B s) f2
    have st : ∀ r, sX10_piece (nI i) (nI j) (nI n2) gr2 gt2 = some r → bX12_isTurned_271 (nI n) gr gt (nI n2) gr2 gt2 img (nI s) = (if 0 ≤ r then some (0, nI (s + 1)) else some (1, nI s)) := by
      intro r hr
      unfold bX12_isTurned_271
      rw [dm1, if_neg (by rw [nI_leS (by omega) (by omega)]; omega), gd_s ia, ca, hf s hs, ht s hs, gd_s ib, cb, i2]
      rw [ca] at ia
      rw [gd_s ia, gd_s ic, cc, j2, ob_d1 hr, lt_v, nI_1]
    rcases mpiece_ok (i := i) (j := j) (n := n2) (by omega) (by omega) (by omega) hf2 ht2 (fun s hs => by have := hP2.1 s hs; omega) (fun s hs => by have := hP2.1 s hs; omega) with ⟨k, z1, z2, _, z4⟩ | ⟨z1, z2⟩
    · left
      refine ⟨fun ⟨i', j', y1, y2, y3, y4, y5⟩ => ?_, ?_⟩
      · have e1 := Q_inj hS' i1 y1 (by rw [i3, y3])
        have e2 := Q_inj hS' j1 y2 (by rw [j3, y4])
        subst e1; subst e2
        have pk := (hP2.1 k z1).2.2
        have q : ad' i j = true := by
          apply (hR2 i j i1 j1).mpr
          rcases z2 with ⟨z3, z5⟩ | ⟨z3, z5⟩
          · rw [z3, z5] at pk; exact Or.inl pk
          · rw [z3, z5] at pk; exact Or.inr pk
        rw [y5] at q; cases q
      · rw [st _ z4, if_pos (by rw [nl_0, nI_leS (by omega) (by omega)]; omega)]
    · right
      refine ⟨⟨i, j, i1, j1, i3, j3, ?_⟩, ?_⟩
      · cases y : ad' i j with
        | false => rfl
        | true =>
          rcases (hR2 i j i1 j1).mp y with y | y
          · obtain ⟨k, y1, y2, y3⟩ := hP2.2.2 _ _ y
            exact absurd (Or.inl ⟨y2, y3⟩) (z1 k y1)
          · obtain ⟨k, y1, y2, y3⟩ := hP2.2.2 _ _ y
            exact absurd (Or.inr ⟨y2, y3⟩) (z1 k y1)
      · rw [st _ z2, if_neg (by decide)]) (by
    unfold bX12_isTurned_271
    rw [dm1, if_pos (by rw [nI_leS (by omega) (by omega)]; omega)]) with ⟨s, _, s2, ⟨i, j, z1, z2, z3, z4, z5⟩, _, s5⟩ | ⟨s1, s2⟩
  · refine ⟨0, nI s, s5, Or.inl ⟨rfl, fun z => ?_⟩⟩
    obtain ⟨f1, f2, f3⟩ := hP.1 s s2
    have := z (A s) (B s) (by omega) f2 ((hR _ _ (by omega) f2).mpr (Or.inl f3)) i j z1 z2 z3 z4
    rw [z5] at this; cases this
  · refine ⟨1, nI n, s2, Or.inr ⟨rfl, fun a b ha hb hab i j hi hj h1 h2 => ?_⟩⟩
    cases y : ad' i j with
    | true => rfl
    | false =>
      rcases (hR a b ha hb).mp hab with q | q
      · obtain ⟨k, y1, y2, y3⟩ := hP.2.2 _ _ q
        exact absurd ⟨i, j, hi, hj, by rw [y2]; exact h1, by rw [y3]; exact h2, y⟩ (s1 k (Nat.zero_le _) y1)
      · obtain ⟨k, y1, y2, y3⟩ := hP.2.2 _ _ q
        exact absurd ⟨j, i, hj, hi, by rw [y2]; exact h2, by rw [y3]; exact h1, by rw [hs2]; exact y⟩ (s1 k (Nat.zero_le _) y1)
