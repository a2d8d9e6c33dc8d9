/-! turning a window: images of joints, class and reference -/
def fiI (m : Nat) (Q : Nat → Pt3) (p : Pt3) (v : Int32) : Prop := (∃ j, j < m ∧ Q j = p ∧ (∀ k, k < j → ¬ Q k = p) ∧ v = nI j) ∨ ((∀ k, k < m → ¬ Q k = p) ∧ v = -1)
theorem fiI_one {m : Nat} {Q : Nat → Pt3} {p : Pt3} {v v' : Int32} (h : fiI m Q p v) (h' : fiI m Q p v') : v = v' := by
  rcases h with ⟨j, j1, j2, j3, j4⟩ | ⟨h1, h2⟩
  · rcases h' with ⟨k, k1, k2, k3, k4⟩ | ⟨k1, k2⟩
    · rcases Nat.lt_trichotomy j k with z | z | z
      · exact absurd j2 (k3 j z)
      · subst z; rw [j4, k4]
      · exact absurd k2 (j3 k z)
    · exact absurd j2 (k1 j j1)
  · rcases h' with ⟨k, k1, k2, k3, k4⟩ | ⟨k1, k2⟩
    · exact absurd k2 (h1 k k1)
    · rw [h2, k2]
theorem imX {w h q : Nat} (hw : w ≤ 12) (hh : h ≤ 12) (hq : q ≤ 4) (o : Bool) {m m' : Nat} (hm : m ≤ 123) (hm' : m' ≤ 128) {Q Q' : Nat → Pt3} (hQ' : ∀ i, i < m' → pOK (Q' i)) {u x y u' x' y' : Nat → Int32} (hJ : JR m Q u x y) (hJ' : JR m' Q' u' x' y') {i : Nat} (hi : i < m) (hp : pOK (Q i)) (h1 : (Q i).1 ≤ w * (Q i).2.2) (h2 : (Q i).2.1 ≤ h * (Q i).2.2) : ∃ v, sX5_imageOf (nI i) (nI q) (bI o) u x y (nI m') u' x' y' (nI w) (nI h) = some v ∧ fiI m' Q' (im w h q o (Q i)) v := by
  obtain ⟨ia, ca⟩ := ix_c (i := i) (n := 129) (by omega) (by omega)
  obtain ⟨j1, j2, j3⟩ := hJ i hi
  have tr := trnX hw hh hq hp h1 h2
  obtain ⟨t1, t2, t3, t4⟩ := trn_ok h1 h2 q
  have e1 : (trn q ((Q i).1, (Q i).2.1, w * (Q i).2.2, h * (Q i).2.2)).2.2.1 = wq w h q * (Q i).2.2 := congrArg Prod.fst t1
  have io := im_ok hw hh hp h1 h2 q o
  have st : sX5_imageOf (nI i) (nI q) (bI o) u x y (nI m') u' x' y' (nI w) (nI h) = sX4_indexOf (nI (im w h q o (Q i)).1) (nI (im w h q o (Q i)).2.1) (nI (im w h q o (Q i)).2.2) (nI m') u' x' y' := by
    unfold sX5_imageOf
    simp only [gd_s ia]
    rw [ca, j1, j2, j3]
    simp only [lt]
    rw [nI_mul, nI_mul, ob_x5 tr]
    have fin : ∀ z : Option Int32, ob z (fun o => dm1 o (fun r => some r)) = z := by
      intro z; cases z <;> rfl
    cases o with
    | false =>
      rw [if_pos (show bI false = 0 by decide), fin]
      rfl
    | true =>
      rw [if_neg (show ¬ bI true = 0 by decide), fin, pk_sub (by rw [e1]; exact t2)]
      rfl
  rw [st]
  rcases idx_ok hm' hQ' hJ' io with ⟨j, k1, k2, k3, k4⟩ | ⟨k1, k2⟩
  · exact ⟨nI j, k4, Or.inl ⟨j, k1, k2, k3, rfl⟩⟩
  · exact ⟨-1, k2, Or.inr ⟨k1, rfl⟩⟩
theorem lN_mulI (a b : Nat) (ha : a < 2147483648) : (nI a).toInt64 * lN b = lN (a * b) := by
  rw [← iz_n, iz_l (by omega) (by omega), ← lz_n b, lz_mul, ← Int.natCast_mul, lz_n]
theorem lN_subN {a b : Nat} (h : b ≤ a) : lN a - lN b = lN (a - b) := by
  rw [← lz_n, ← lz_n, lz_sub, ← Int.ofNat_sub h, lz_n]
theorem trnM {w h q : Nat} (hw : w ≤ 12) (hh : h ≤ 12) (hq : q ≤ 4) {p : Pt3} (hp : pOK p) (h1 : p.1 ≤ w * p.2.2) (h2 : p.2.1 ≤ h * p.2.2) : iter (bX12_isTurned_170 (nI q) (lN p.2.2)) FU (lN p.1, lN p.2.1, nI h, nI w, (0 : Int32)) = some (0, (lN (trn q (p.1, p.2.1, w * p.2.2, h * p.2.2)).1, lN (trn q (p.1, p.2.1, w * p.2.2, h * p.2.2)).2.1, nI (wq h w q), nI (wq w h q), nI q)) := by
  obtain ⟨s, e1, _⟩ := iter_for (S := Unit) (B := bX12_isTurned_170 (nI q) (lN p.2.2)) (fun i _ => (lN (trn i (p.1, p.2.1, w * p.2.2, h * p.2.2)).1, lN (trn i (p.1, p.2.1, w * p.2.2, h * p.2.2)).2.1, nI (wq h w i), nI (wq w h i), nI i)) q (fun _ _ => True) 0 () trivial (by omega) (by omega) (fun i _ _ hi _ => by
    refine ⟨(), ?_, trivial⟩
    obtain ⟨t1, t2, t3, t4⟩ := trn_ok h1 h2 i
    have e2 : (trn i (p.1, p.2.1, w * p.2.2, h * p.2.2)).2.2.2 = wq h w i * p.2.2 := congrArg Prod.snd t1
    have wl := wq_le (q := i) hh hw
    have s1 : wq w h (i + 1) = wq h w i := by
      unfold wq
      by_cases z : i % 2 = 0
      · rw [if_pos z, if_neg (by omega)]
      · rw [if_neg z, if_pos (by omega)]
    have s2 : wq h w (i + 1) = wq w h i := by
      unfold wq
      by_cases z : i % 2 = 0
      · rw [if_pos z, if_neg (by omega)]
      · rw [if_neg z, if_pos (by omega)]
    unfold bX12_isTurned_170
    simp only [dm5]
    rw [if_neg (by rw [nI_leS (by omega) (by omega)]; omega), lt_v, lt_v, lN_mulI _ _ (by omega), lN_subN t3, nI_1, s1, s2, ← e2]
    rfl) (fun _ _ => by
    unfold bX12_isTurned_170
    simp only [dm5]
    rw [if_pos (by rw [nI_leS (by omega) (by omega)]; omega)])
  exact e1
theorem imM {w h q : Nat} (hw : w ≤ 12) (hh : h ≤ 12) (hq : q ≤ 4) (o : Bool) {m m' : Nat} (hm : m ≤ 123) (hm' : m' ≤ 128) {Q Q' : Nat → Pt3} (hQ' : ∀ i, i < m' → pOK (Q' i)) {d x y d' x' y' : Nat → Int64} (hJ : JL m Q d x y) (hJ' : JL m' Q' d' x' y') {i : Nat} (hi : i < m) (hp : pOK (Q i)) (h1 : (Q i).1 ≤ w * (Q i).2.2) (h2 : (Q i).2.1 ≤ h * (Q i).2.2) (go : Nat → Int32) : ∃ v, bX12_isTurned_101 (nI q) (bI o) (nI w) (nI h) (nI m) d x y (nI m') d' x' y' (nI i, go) = (if 0 ≤ v then some (0, (nI (i + 1), upd go i v)) else some (1, (nI i, upd go i v))) ∧ fiI m' Q' (im w h q o (Q i)) v := by
  obtain ⟨ia, ca⟩ := ix_c (i := i) (n := 240) (by omega) (by omega)
  obtain ⟨j1, j2, j3⟩ := hJ i hi
  have tr := trnM hw hh hq hp h1 h2
  obtain ⟨t1, t2, t3, t4⟩ := trn_ok h1 h2 q
  have e1 : (trn q ((Q i).1, (Q i).2.1, w * (Q i).2.2, h * (Q i).2.2)).2.2.1 = wq w h q * (Q i).2.2 := congrArg Prod.fst t1
  have io := im_ok hw hh hp h1 h2 q o
  have wl := wq_le (q := q) hw hh
  have ov : (if bI o = 0 then some (lN (trn q ((Q i).1, (Q i).2.1, w * (Q i).2.2, h * (Q i).2.2)).1) else some ((nI (wq w h q)).toInt64 * lN (Q i).2.2 - lN (trn q ((Q i).1, (Q i).2.1, w * (Q i).2.2, h * (Q i).2.2)).1)) = some (lN (im w h q o (Q i)).1) := by
    cases o with
    | false => rfl
    | true =>
      rw [if_neg (show ¬ bI true = 0 by decide), lN_mulI _ _ (by omega), lN_subN t2, ← e1]
      rfl
  have go1 : ∀ v, sX10_find (lN (im w h q o (Q i)).1) (lN (im w h q o (Q i)).2.1) (lN (im w h q o (Q i)).2.2) (nI m') d' x' y' = some v → bX12_isTurned_101 (nI q) (bI o) (nI w) (nI h) (nI m) d x y (nI m') d' x' y' (nI i, go) = (if 0 ≤ v then some (0, (nI (i + 1), upd go i v)) else some (1, (nI i, upd go i v))) := by
    intro v hv
    have hv' : sX10_find (lN (im w h q o (Q i)).1) (lN (trn q ((Q i).1, (Q i).2.1, w * (Q i).2.2, h * (Q i).2.2)).2.1) (lN (Q i).2.2) (nI m') d' x' y' = some v := hv
    unfold bX12_isTurned_101
    simp only [dm2]
    rw [if_neg (by rw [nI_leS (by omega) (by omega)]; omega)]
    simp only [gd_s ia]
    rw [ca, j1, j2, j3]
    simp only [lt]
    rw [ob_x5 tr, ob_d1 ov, ob_d1 hv', pk_us, nI_1]
  rcases fnd_ok hm' hQ' hJ' io with ⟨j, k1, k2, k3, k4⟩ | ⟨k1, k2⟩
  · exact ⟨nI j, go1 _ k4, Or.inl ⟨j, k1, k2, k3, rfl⟩⟩
  · exact ⟨-1, go1 _ k2, Or.inr ⟨k1, rfl⟩⟩
