/-! alike: the number of turnings -/
def FT (w h w' h' q : Nat) (o : Bool) (m m' n n2 : Nat) (Q Q' : Nat → Pt3) (ad ad' : Nat → Nat → Bool) : Prop := wq w h q = w' ∧ wq h w q = h' ∧ m = m' ∧ n = n2 ∧ TJ w h q o m m' Q Q' ∧ TP w h q o m m' Q Q' ad ad'
noncomputable def ftB (w h w' h' q : Nat) (o : Bool) (m m' n n2 : Nat) (Q Q' : Nat → Pt3) (ad ad' : Nat → Nat → Bool) : Bool := @decide (FT w h w' h' q o m m' n n2 Q Q' ad ad') (Classical.propDecidable _)
theorem ftB_i (w h w' h' q : Nat) (o : Bool) (m m' n n2 : Nat) (Q Q' : Nat → Pt3) (ad ad' : Nat → Nat → Bool) : ftB w h w' h' q o m m' n n2 Q Q' ad ad' = true ↔ FT w h w' h' q o m m' n n2 Q Q' ad ad' := by unfold ftB; exact @decide_eq_true_iff _ (Classical.propDecidable _)
def totF (g : Nat → Bool → Bool) : Nat → Nat
  | 0 => 0
  | q + 1 => totF g q + (if g q false = true then 1 else 0) + (if g q true = true then 1 else 0)
theorem totF_le (g : Nat → Bool → Bool) : ∀ q, totF g q ≤ 2 * q := by
  intro q
  induction q with
  | zero => exact Nat.le_refl _
  | succ q ih =>
    show totF g q + (if g q false = true then 1 else 0) + (if g q true = true then 1 else 0) ≤ 2 * (q + 1)
    split <;> split <;> omega
theorem fitsX {w h q : Nat} (hw : w ≤ 12) (hh : h ≤ 12) (hq : q ≤ 4) (o : Bool) {m m' : Nat} (hm : m ≤ 123) (hm' : m' ≤ 123) {Q Q' : Nat → Pt3} (hQ : ∀ i, i < m → pOK (Q i) ∧ (Q i).1 ≤ w * (Q i).2.2 ∧ (Q i).2.1 ≤ h * (Q i).2.2) (hQ' : ∀ i, i < m' → pOK (Q' i)) (hS' : Srt m' Q') {u x y u' x' y' : Nat → Int32} (hJ : JR m Q u x y) (hJ' : JR m' Q' u' x' y') {ad ad' : Nat → Nat → Bool} {n n2 : Nat} (hn : n ≤ 684) (hn2 : n2 ≤ 684) {F T fi F2 T2 fi2 : Nat → Nat} (hS : Stps ad m n F T fi) {fr to : Nat → Int32} (hf : hN n fr F) (ht : hN n to T) (hS2 : Stps ad' m' n2 F2 T2 fi2) {fs2 to2 : Nat → Int32} (hg : ∀ i, i ≤ m' → fs2 i = nI (fi2 i)) (ht2 : hN n2 to2 T2) (img : Nat → Int32) : ∃ (b : Bool) (img' : Nat → Int32), sX5_fits (nI q) (bI o) img (nI m) u x y (nI n) fr to (nI m') u' x' y' (nI n2) fs2 to2 (nI w) (nI h) = some (bI b, img') ∧ (b = true ↔ m = m' ∧ n = n2 ∧ TJ w h q o m m' Q Q' ∧ TP w h q o m m' Q Q' ad ad') := by
  unfold sX5_fits
  by_cases z1 : m = m'
  · rw [if_neg (fun z => z (by rw [z1]))]
    by_cases z2 : n = n2
    · rw [if_neg (fun z => z (by rw [z2]))]
      obtain ⟨b, img', e1, e2, e3⟩ := tjX hw hh hq o hm hm' hQ hQ' hJ hJ' img
      rw [ob_d2 e1]
      cases b with
      | false =>
        refine ⟨false, img', by rw [if_pos (by decide)]; rfl, fun z => (by cases z), fun z => ?_⟩
        have := e2.mpr z.2.2.1
        cases this
      | true =>
        obtain ⟨c, f1, f2⟩ := tpX hm hm' hn hS' hS hf ht hn2 hS2 hg ht2 (e3 rfl)
        refine ⟨c, img', ?_, ?_⟩
        · rw [if_neg (by decide), ob_d1 f1]
          cases c <;> rfl
        · rw [f2]
          exact ⟨fun z => ⟨z1, z2, e2.mp rfl, z⟩, fun z => z.2.2.2⟩
    · refine ⟨false, img, by rw [if_pos (by rw [nI_eqS (by omega) (by omega)]; exact z2)]; rfl, fun z => (by cases z), fun z => absurd z.2.1 z2⟩
  · refine ⟨false, img, by rw [if_pos (by rw [nI_eqS (by omega) (by omega)]; exact z1)]; rfl, fun z => (by cases z), fun z => absurd z.1 z1⟩
theorem par_a : ∀ q, q < 4 → ((nI q &&& (1 : Int32)) = 0 ↔ q % 2 = 0) := by
  have h : ∀ q : Fin 4, ((nI q.val &&& (1 : Int32)) = 0 ↔ q.val % 2 = 0) := by decide +kernel
  exact fun q hq => h ⟨q, hq⟩
theorem par_b : ∀ q, q < 4 → ((nI q - nI q / (2 : Int32) * (2 : Int32)) = 0 ↔ q % 2 = 0) := by
  have h : ∀ q : Fin 4, ((nI q.val - nI q.val / (2 : Int32) * (2 : Int32)) = 0 ↔ q.val % 2 = 0) := by decide +kernel
  exact fun q hq => h ⟨q, hq⟩
theorem turnM {w h w' h' q : Nat} (hw : w ≤ 12) (hh : h ≤ 12) (hw' : w' ≤ 12) (hh' : h' ≤ 12) (hq : q < 4) (o : Bool) {m m' : Nat} (hm : m ≤ 123) (hm' : m' ≤ 123) {Q Q' : Nat → Pt3} (hQ : ∀ i, i < m → pOK (Q i) ∧ (Q i).1 ≤ w * (Q i).2.2 ∧ (Q i).2.1 ≤ h * (Q i).2.2) (hQ' : ∀ i, i < m' → pOK (Q' i)) (hS' : Srt m' Q') {d x y d' x' y' : Nat → Int64} (hJ : JL m Q d x y) (hJ' : JL m' Q' d' x' y') {P P' : Nat → Nat → Prop} {ad ad' : Nat → Nat → Bool} {n n2 : Nat} (hn : n ≤ 342) (hn2 : n2 ≤ 342) {A B A2 B2 : Nat → Nat} (hP : PcM P m n A B) (hR : PcR P ad m) {gr gt : Nat → Int32} (hf : hN n gr A) (ht : hN n gt B) (hP2 : PcM P' m' n2 A2 B2) (hR2 : PcR P' ad' m') (hs2 : ∀ i j, ad' i j = ad' j i) {gr2 gt2 : Nat → Int32} (hf2 : hN n2 gr2 A2) (ht2 : hN n2 gt2 B2) (go : Nat → Int32) : ∃ (b : Bool) (go' : Nat → Int32), sX12_isTurned (nI q) (bI o) go (nI w) (nI h) (nI m) (nI n) d gr gt x y (nI w') (nI h') (nI m') (nI n2) d' gr2 gt2 x' y' = some (bI b, go') ∧ (b = true ↔ FT w h w' h' q o m m' n n2 Q Q' ad ad') := by
  have l1 := wq_le (q := q) hw hh
  have l2 := wq_le (q := q) hh hw
  have v1 : (if ¬ (nI q &&& (1 : Int32)) = 0 then some (nI h) else some (nI w)) = some (nI (wq w h q)) := by
    unfold wq
    by_cases z : q % 2 = 0
    · rw [if_neg (fun y => y ((par_a q hq).mpr z)), if_pos z]
    · rw [if_pos (fun y => z ((par_a q hq).mp y)), if_neg z]
  have v2 : (if ¬ (nI q &&& (1 : Int32)) = 0 then some (nI w) else some (nI h)) = some (nI (wq h w q)) := by
    unfold wq
    by_cases z : q % 2 = 0
    · rw [if_neg (fun y => y ((par_a q hq).mpr z)), if_pos z]
    · rw [if_pos (fun y => z ((par_a q hq).mp y)), if_neg z]
  unfold sX12_isTurned
  rw [ob_d1 v1, ob_d1 v2]
  by_cases z1 : wq w h q = w'
  · rw [if_neg (fun z => z (by rw [z1]))]
    by_cases z2 : wq h w q = h'
    · rw [if_neg (fun z => z (by rw [z2]))]
      by_cases z3 : m = m'
      · rw [if_neg (fun z => z (by rw [z3]))]
        by_cases z4 : n = n2
        · rw [if_pos (by rw [z4])]
          obtain ⟨k, t', e1, e2⟩ := tjM hw hh (show q ≤ 4 by omega) o hm hm' hQ hQ' hJ hJ' go
          rcases e2 with ⟨e, e2⟩ | ⟨e, e2, e3⟩
          · subst e
            refine ⟨false, t'.2, by rw [ob_x2a e1]; rfl, fun z => (by cases z), fun z => absurd z.2.2.2.2.1 e2⟩
          · subst e
            obtain ⟨k, z, f1, f2⟩ := tpM hm hm' hn hS' hP hR hf ht hn2 hP2 hR2 hs2 hf2 ht2 e3
            rw [ob_x2b e1, dm2]
            rcases f2 with ⟨e, f2⟩ | ⟨e, f2⟩
            · subst e
              refine ⟨false, t'.2, by rw [ob_x2a f1]; rfl, fun z => (by cases z), fun z => absurd z.2.2.2.2.2 f2⟩
            · subst e
              refine ⟨true, t'.2, by rw [ob_x2b f1]; rfl, fun _ => ⟨z1, z2, z3, z4, e2, f2⟩, fun _ => rfl⟩
        · refine ⟨false, go, by rw [if_neg (by rw [nI_eqS (by omega) (by omega)]; exact z4)]; rfl, fun z => (by cases z), fun z => absurd z.2.2.2.1 z4⟩
      · refine ⟨false, go, by rw [if_pos (by rw [nI_eqS (by omega) (by omega)]; exact z3)]; rfl, fun z => (by cases z), fun z => absurd z.2.2.1 z3⟩
    · refine ⟨false, go, by rw [if_pos (by rw [nI_eqS (by omega) (by omega)]; exact z2)]; rfl, fun z => (by cases z), fun z => absurd z.2.1 z2⟩
  · refine ⟨false, go, by rw [if_pos (by rw [nI_eqS (by omega) (by omega)]; exact z1)]; rfl, fun z => (by cases z), fun z => absurd z.1 z1⟩
/-- the loop over the turnings, class -/
theorem turnsX {w h w' h' : Nat} (hw : w ≤ 12) (hh : h ≤ 12) (hw' : w' ≤ 12) (hh' : h' ≤ 12) {m m' : Nat} (hm : m ≤ 123) (hm' : m' ≤ 123) {Q Q' : Nat → Pt3} (hQ : ∀ i, i < m → pOK (Q i) ∧ (Q i).1 ≤ w * (Q i).2.2 ∧ (Q i).2.1 ≤ h * (Q i).2.2) (hQ' : ∀ i, i < m' → pOK (Q' i)) (hS' : Srt m' Q') {u x y u' x' y' : Nat → Int32} (hJ : JR m Q u x y) (hJ' : JR m' Q' u' x' y') {ad ad' : Nat → Nat → Bool} {n n2 : Nat} (hn : n ≤ 684) (hn2 : n2 ≤ 684) {F T fi F2 T2 fi2 : Nat → Nat} (hS : Stps ad m n F T fi) {fr to : Nat → Int32} (hf : hN n fr F) (ht : hN n to T) (hS2 : Stps ad' m' n2 F2 T2 fi2) {fs2 to2 : Nat → Int32} (hg : ∀ i, i ≤ m' → fs2 i = nI (fi2 i)) (ht2 : hN n2 to2 T2) (img : Nat → Int32) : ∃ img', iter (bX5_turnings_13 (nI m) u x y (nI n) fr to (nI w) (nI h) (nI w') (nI h') (nI m') u' x' y' (nI n2) fs2 to2) FU ((0 : Int32), (0 : Int32), img) = some (0, (nI (totF (fun q o => ftB w h w' h' q o m m' n n2 Q Q' ad ad') 4), nI 4, img')) := by
  obtain ⟨img', h1, _⟩ := iter_for (S := Nat → Int32) (B := bX5_turnings_13 (nI m) u x y (nI n) fr to (nI w) (nI h) (nI w') (nI h') (nI m') u' x' y' (nI n2) fs2 to2) (fun q s => (nI (totF (fun q o => ftB w h w' h' q o m m' n n2 Q Q' ad ad') q), nI q, s)) 4 (fun _ _ => True) 0 img trivial (by omega) (by omega) (fun q s _ hq _ => by
    have l1 := wq_le (q := q) hw hh
    have l2 := wq_le (q := q) hh hw
    have v0 : (if (nI q - nI q / (2 : Int32) * (2 : Int32)) = 0 then some (0 : Int32) else some (1 : Int32)) = some (bI (decide (¬ q % 2 = 0))) := by
      by_cases z : q % 2 = 0
      · rw [if_pos ((par_b q hq).mpr z), decide_eq_false (fun y => y z)]; rfl
      · rw [if_neg (fun y => z ((par_b q hq).mp y)), decide_eq_true z]; rfl
    have v1 : (if bI (decide (¬ q % 2 = 0)) = 0 then some (nI w) else some (nI h)) = some (nI (wq w h q)) := by
      unfold wq
      by_cases z : q % 2 = 0
      · rw [decide_eq_false (fun y => y z), if_pos (by decide), if_pos z]
      · rw [decide_eq_true z, if_neg (by decide), if_neg z]
    have v2 : (if bI (decide (¬ q % 2 = 0)) = 0 then some (nI h) else some (nI w)) = some (nI (wq h w q)) := by
      unfold wq
      by_cases z : q % 2 = 0
      · rw [decide_eq_false (fun y => y z), if_pos (by decide), if_pos z]
      · rw [decide_eq_true z, if_neg (by decide), if_neg z]
    have n4 : ¬ (4 : Int32) ≤ nI q := by rw [show (4 : Int32) = nI 4 from rfl, nI_leS (by omega) (by omega)]; omega
    by_cases z1 : wq w h q = w' ∧ wq h w q = h'
    · obtain ⟨z1, z2⟩ := z1
      obtain ⟨b0, s1, e1, e2⟩ := fitsX hw hh (show q ≤ 4 by omega) false hm hm' hQ hQ' hS' hJ hJ' hn hn2 hS hf ht hS2 hg ht2 s
      obtain ⟨b1, s2, f1, f2⟩ := fitsX hw hh (show q ≤ 4 by omega) true hm hm' hQ hQ' hS' hJ hJ' hn hn2 hS hf ht hS2 hg ht2 s1
      have c0 : ftB w h w' h' q false m m' n n2 Q Q' ad ad' = b0 := by
        rw [Bool.eq_iff_iff, ftB_i, e2]
        exact ⟨fun z => z.2.2, fun z => ⟨z1, z2, z⟩⟩
      have c1 : ftB w h w' h' q true m m' n n2 Q Q' ad ad' = b1 := by
        rw [Bool.eq_iff_iff, ftB_i, f2]
        exact ⟨fun z => z.2.2, fun z => ⟨z1, z2, z⟩⟩
      refine ⟨s2, ?_, trivial⟩
      have e1' : sX5_fits (nI q) (0 : Int32) s (nI m) u x y (nI n) fr to (nI m') u' x' y' (nI n2) fs2 to2 (nI w) (nI h) = some (bI b0, s1) := e1
      have f1' : sX5_fits (nI q) (1 : Int32) s1 (nI m) u x y (nI n) fr to (nI m') u' x' y' (nI n2) fs2 to2 (nI w) (nI h) = some (bI b1, s2) := f1
      have g0 : (if bI b0 = 0 then some (0 : Int32) else some (1 : Int32)) = some (nI (if b0 = true then 1 else 0)) := by cases b0 <;> rfl
      have tot : totF (fun q o => ftB w h w' h' q o m m' n n2 Q Q' ad ad') (q + 1) = totF (fun q o => ftB w h w' h' q o m m' n n2 Q Q' ad ad') q + (if b0 = true then 1 else 0) + (if b1 = true then 1 else 0) := by
        show totF _ q + (if ftB w h w' h' q false m m' n n2 Q Q' ad ad' = true then 1 else 0) + (if ftB w h w' h' q true m m' n n2 Q Q' ad ad' = true then 1 else 0) = _
        rw [c0, c1]
      unfold bX5_turnings_13
      simp only [dm3]
      rw [if_neg n4, gd_s (by decide), ob_d1 v0, ob_d1 v1, ob_d1 v2, if_neg (fun z => z (by rw [z1])), if_neg (fun z => z (by rw [z2])), ob_d2 e1', ob_d1 g0, lt_v, ob_d2 f1', tot]
      cases b1 with
      | false =>
        rw [if_pos (by decide), lt_v, ob_d2 rfl, lt_v, nI_1, nI_add, show (0 : Int32) = nI 0 from rfl, nI_add]
        rfl
      | true =>
        rw [if_neg (by decide), lt_v, ob_d2 rfl, lt_v, nI_1, nI_add, show (1 : Int32) = nI 1 from rfl, nI_add]
        rfl
    · have c : ∀ o, ftB w h w' h' q o m m' n n2 Q Q' ad ad' = false := by
        intro o
        cases y : ftB w h w' h' q o m m' n n2 Q Q' ad ad' with
        | false => rfl
        | true =>
          have := (ftB_i w h w' h' q o m m' n n2 Q Q' ad ad').mp y
          exact absurd ⟨this.1, this.2.1⟩ z1
      refine ⟨s, ?_, trivial⟩
      have tot : totF (fun q o => ftB w h w' h' q o m m' n n2 Q Q' ad ad') (q + 1) = totF (fun q o => ftB w h w' h' q o m m' n n2 Q Q' ad ad') q := by
        show totF _ q + (if ftB w h w' h' q false m m' n n2 Q Q' ad ad' = true then 1 else 0) + (if ftB w h w' h' q true m m' n n2 Q Q' ad ad' = true then 1 else 0) = _
        rw [c, c]; simp
      unfold bX5_turnings_13
      simp only [dm3]
      rw [if_neg n4, gd_s (by decide), ob_d1 v0, ob_d1 v1, ob_d1 v2, tot]
      by_cases y1 : wq w h q = w'
      · have y2 : ¬ wq h w q = h' := fun y2 => z1 ⟨y1, y2⟩
        rw [if_neg (fun z => z (by rw [y1])), if_pos (by rw [nI_eqS (by omega) (by omega)]; exact y2), ob_d2 rfl, lt_v, nI_1]
      · rw [if_pos (by rw [nI_eqS (by omega) (by omega)]; exact y1), ob_d2 rfl, lt_v, nI_1]) (fun s _ => by
    unfold bX5_turnings_13
    simp only [dm3]
    rw [if_pos (by decide)])
  exact ⟨img', h1⟩
