/-! glass, bits: one answer -/
theorem isKind_ok (a : Int32) : (∃ k, k < 3 ∧ a = nI k ∧ sX9_isKind a = some 1) ∨ ((a < 0 ∨ nI 3 ≤ a) ∧ sX9_isKind a = some 0) := by
  rcases nI_or a 3 (by omega) with ⟨k, hk, e⟩ | ho
  · left
    subst e
    refine ⟨k, hk, rfl, ?_⟩
    have : k = 0 ∨ k = 1 ∨ k = 2 := by omega
    rcases this with e | e | e <;> subst e <;> rfl
  · right
    refine ⟨ho, ?_⟩
    unfold sX9_isKind
    rw [if_neg (ne_out ho (k := 0) (b := 0) (by omega) (by omega) rfl), if_neg (ne_out ho (k := 1) (b := 1) (by omega) (by omega) rfl), if_pos (ne_out ho (k := 2) (b := 2) (by omega) (by omega) rfl)]
theorem put_X {p k : Nat} (hp : p < 128) (hk : k < 3) (a3 : Int32) (al co kd : Nat → Int32) : sX3_put (nI p) (nI k) a3 al co kd = some (upd al p (if k = 0 then 255 else a3 &&& 255), upd co p 8, upd kd p (nI k)) := by
  obtain ⟨ia, ca⟩ := ix_c (i := p) (n := 128) hp (by omega)
  unfold sX3_put
  rw [gd_s ia, ca, lt_v]
  rw [ca] at ia
  by_cases z : k = 0
  · subst z
    rw [if_neg (show ¬ ¬ nI 0 = 0 by decide), gd_s ia, lt_v, gd_s ia, lt_v, if_pos rfl]
  · rw [if_pos (by rw [nl_0, nI_eqS (by omega) (by omega)]; exact z), gd_s ia, lt_v, gd_s ia, lt_v, if_neg z]
theorem Gz_put {np : Nat} {pn : Nat → Nat → Option Nat} {al co kd : Nat → Int32} {nH nL : Nat → Int64} {al2 co2 kd2 : Nat → Int32} (h : Gz np pn al co kd nH nL al2 co2 kd2) {p k : Nat} (hk : k < 3) (v : Int32) : Gz np pn (upd al p v) (upd co p 8) (upd kd p (nI k)) nH nL (upd al2 p v) (upd co2 p 8) (upd kd2 p (nI k)) := by
  refine ⟨fun q hq => ?_, h.2⟩
  by_cases z : q = p
  · subst z
    rw [pk_us, pk_us, pk_us, pk_us, pk_us, pk_us]
    exact ⟨rfl, rfl, rfl, k, by omega, rfl⟩
  · rw [pk_un z, pk_un z, pk_un z, pk_un z, pk_un z, pk_un z]
    exact h.1 q hq
theorem glass_q {w np : Nat} (w1 : 1 ≤ w) (w2 : w ≤ 12) (hnp : np ≤ 125) {pn : Nat → Nat → Option Nat} {al co kd : Nat → Int32} {nH nL : Nat → Int64} {al2 co2 kd2 : Nat → Int32} (hg : Gz np pn al co kd nH nL al2 co2 kd2) (f : Nat → Int32) (a1 a2 a3 : Int32) : ∃ r g al' co' kd' al2' co2' kd2', sX9_glass a1 a2 a3 f (nI w) al co kd (nI np) = some (r, g, al', co', kd') ∧ sX12_glass a1 a2 a3 1 (nI np) al2 co2 f kd2 = some (r, al2', co2', g, kd2') ∧ Gz np pn al' co' kd' nH nL al2' co2' kd2' := by
  have th := there1 w1 w2
  have u1 : ¬ (1 : Int32) = 0 := by decide
  rcases nI_or a1 np (by omega) with ⟨p, hp, e⟩ | ho
  · subst e
    obtain ⟨_, _, h1, h2⟩ := hasJ (m := np) (by omega) hp
    obtain ⟨ia, ca⟩ := ix_c (i := p) (n := 160) (by omega) (by omega)
    rcases isKind_ok a2 with ⟨k, hk, e, ik⟩ | ⟨ho, ik⟩
    · subst e
      have n0 : ¬ nI k < 0 := nI_pos (by omega)
      have k2 : nI k ≤ (2 : Int32) := by rw [nl_2, nI_leS (by omega) (by omega)]; omega
      refine ⟨1, f, _, _, _, _, _, _, ?_, ?_, Gz_put hg hk (p := p) (if k = 0 then 255 else a3 &&& 255)⟩
      · unfold sX9_glass
        rw [ob_d1 th, if_pos u1, ob_d1 h1, if_pos u1, ob_d1 ik, if_pos u1, ob_d3 (put_X (by omega) hk a3 al co kd)]
      · unfold sX12_glass
        rw [if_neg u1, ob_d1 h2, if_pos u1, if_neg n0, if_pos k2, gd_s ia, ca, lt_v]
        rw [ca] at ia
        by_cases z : k = 0
        · subst z
          rw [if_neg (show ¬ ¬ nI 0 = 0 by decide), gd_s ia, lt_v, gd_s ia, lt_v, if_pos rfl]
        · rw [if_pos (by rw [nl_0, nI_eqS (by omega) (by omega)]; exact z), gd_s ia, lt_v, gd_s ia, lt_v, if_neg z]
    · refine ⟨-5, cf 5 f, al, co, kd, al2, co2, kd2, ?_, ?_, hg⟩
      · unfold sX9_glass
        rw [ob_d1 th, if_pos u1, ob_d1 h1, if_pos u1, ob_d1 ik, if_neg (by decide), ob_d2 (tell5 f).1]
      · unfold sX12_glass
        rw [if_neg u1, ob_d1 h2, if_pos u1]
        by_cases z : a2 < 0
        · rw [if_pos z, ob_d2 (tell5 f).2]
        · rw [if_neg z, if_neg (le_out ho z (k := 2) (b := 2) (by omega) (by omega) rfl), ob_d2 (tell5 f).2]
  · obtain ⟨_, _, h1, h2⟩ := hasN ho
    refine ⟨-1, cf 1 f, al, co, kd, al2, co2, kd2, ?_, ?_, hg⟩
    · unfold sX9_glass
      rw [ob_d1 th, if_pos u1, ob_d1 h1, if_neg (by decide), ob_d2 (tell1 f).1]
    · unfold sX12_glass
      rw [if_neg u1, ob_d1 h2, if_neg (by decide), if_pos u1, ob_d2 (tell1 f).2]
def bitF (g : Nat → Bool) : Nat → Int32
  | 0 => 0
  | n + 1 => if g n = true then bitF g n ||| ((1 : Int32) <<< (nI n &&& 31)) else bitF g n
theorem bitF_z {g : Nat → Bool} : ∀ m n, m ≤ n → (∀ k, m ≤ k → k < n → g k = false) → bitF g n = bitF g m := by
  intro m n h
  induction n with
  | zero => intro _; have : m = 0 := by omega
            subst this; rfl
  | succ n ih =>
    intro hz
    by_cases y : m = n + 1
    · subst y; rfl
    · show (if g n = true then _ else bitF g n) = _
      rw [hz n (by omega) (by omega), if_neg (by simp)]
      exact ih (by omega) (fun k h1 h2 => hz k h1 (by omega))
theorem leftX {i : Nat} (hi : i < 10) {g : Nat → Bool} {lb : Nat → Int32} (h1 : ∀ k, k < 30 → 30 * i + k < 128 → lb (30 * i + k) = bI (g k)) (h2 : ∀ k, k < 30 → 128 ≤ 30 * i + k → g k = false) : sX3_leftFrom (nI (30 * i)) lb = some (bitF g 30) := by
  obtain ⟨k, t', e1, e2, e3⟩ := iter_forE (S := Unit) (B := bX3_leftFrom_4 (nI (30 * i)) lb) (fun k _ => (bitF g k, nI k)) 30 (fun _ _ => True) (fun k t' => k = 0 ∧ t'.1 = bitF g 30) 0 () trivial (by omega) (by omega) (fun k s _ hk _ => by
    have n30 : ¬ (30 : Int32) ≤ nI k := by rw [show (30 : Int32) = nI 30 from rfl, nI_leS (by omega) (by omega)]; omega
    by_cases z : 128 ≤ 30 * i + k
    · right
      refine ⟨0, (bitF g k, nI k), ?_, rfl, (bitF_z k 30 (by omega) (fun j j1 j2 => h2 j j2 (by omega))).symm⟩
      unfold bX3_leftFrom_4
      simp only [dm2]
      rw [if_neg n30, nI_add, if_pos (by rw [show (128 : Int32) = nI 128 from rfl, nI_leS (by omega) (by omega)]; omega)]
    · left
      obtain ⟨ia, ca⟩ := ix_c (i := 30 * i + k) (n := 128) (by omega) (by omega)
      refine ⟨(), ?_, trivial⟩
      have st : bX3_leftFrom_4 (nI (30 * i)) lb (bitF g k, nI k) = ob (if bI (g k) = 0 then some (bitF g k) else some (bitF g k ||| ((1 : Int32) <<< (nI k &&& 31)))) (fun t => dm1 t (fun v3 => some (0, (v3, nI (k + 1))))) := by
        unfold bX3_leftFrom_4
        simp only [dm2]
        rw [if_neg n30, nI_add, if_neg (by rw [show (128 : Int32) = nI 128 from rfl, nI_leS (by omega) (by omega)]; omega), gd_s ia, ca, h1 k hk (by omega)]
        simp only [lt, nI_1]
      rw [st]
      show _ = some (0, ((if g k = true then bitF g k ||| ((1 : Int32) <<< (nI k &&& 31)) else bitF g k), nI (k + 1)))
      cases g k <;> rfl) (fun s _ => by
    refine ⟨0, (bitF g 30, nI 30), ?_, rfl, rfl⟩
    unfold bX3_leftFrom_4
    simp only [dm2]
    rw [if_pos (by decide)])
  subst e2
  have e1' : iter (bX3_leftFrom_4 (nI (30 * i)) lb) FU ((0 : Int32), (0 : Int32)) = some (0, t') := by rw [← e1]; rfl
  unfold sX3_leftFrom
  rw [ob_s e1', ex1_0, dm2, e3]
theorem bitsM {i np : Nat} (hi : i < 10) (hnp : np ≤ 125) {g : Nat → Bool} {lk : Nat → Int32} (h1 : ∀ k, k < 30 → 30 * i + k < np → lk (30 * i + k) = bI (g k)) (h2 : ∀ k, k < 30 → np ≤ 30 * i + k → g k = false) : ∃ v, iter (bX12_bits_39 (nI i) (nI np) 1 lk) FU ((0 : Int32), (0 : Int32)) = some (0, (bitF g 30, v)) := by
  obtain ⟨s, e1, _⟩ := iter_for (S := Unit) (B := bX12_bits_39 (nI i) (nI np) 1 lk) (fun k _ => (bitF g k, nI k)) 30 (fun _ _ => True) 0 () trivial (by omega) (by omega) (fun k s _ hk _ => by
    have n30 : ¬ (30 : Int32) ≤ nI k := by rw [show (30 : Int32) = nI 30 from rfl, nI_leS (by omega) (by omega)]; omega
    refine ⟨(), ?_, trivial⟩
    have st : bX12_bits_39 (nI i) (nI np) 1 lk (bitF g k, nI k) = ob (if nI np ≤ nI (30 * i + k) then some (0 : Int32) else gd (¬ (nI (30 * i + k) < 0 ∨ 160 ≤ (nI (30 * i + k)).toNatClampNeg)) (if (lk (nI (30 * i + k)).toNatClampNeg) = 0 then some (0 : Int32) else some ((1 : Int32) <<< (nI k &&& 31)))) (fun t => dm1 t (fun v12 => some (0, (bitF g k ||| v12, nI (k + 1))))) := by
      unfold bX12_bits_39
      simp only [dm2]
      rw [if_neg n30, if_neg (by decide), show (30 : Int32) = nI 30 from rfl, nI_mul, nI_add]
      simp only [lt, nI_1]
    rw [st]
    show _ = some (0, ((if g k = true then bitF g k ||| ((1 : Int32) <<< (nI k &&& 31)) else bitF g k), nI (k + 1)))
    by_cases z : np ≤ 30 * i + k
    · rw [if_pos (by rw [nI_leS (by omega) (by omega)]; exact z), h2 k hk z, if_neg (by simp), ob_d1 rfl]
      rw [show bitF g k ||| (0 : Int32) = bitF g k from Int32.or_zero]
    · obtain ⟨ia, ca⟩ := ix_c (i := 30 * i + k) (n := 160) (by omega) (by omega)
      rw [if_neg (by rw [nI_leS (by omega) (by omega)]; exact z), gd_s ia, ca, h1 k hk (by omega)]
      cases g k with
      | false =>
        rw [if_pos (by decide), if_neg (by simp), ob_d1 rfl]
        rw [show bitF g k ||| (0 : Int32) = bitF g k from Int32.or_zero]
      | true => rfl) (fun s _ => by
    unfold bX12_bits_39
    simp only [dm2]
    rw [if_pos (by decide)])
  exact ⟨nI 30, by rw [← e1]; rfl⟩
theorem bits_q {w np : Nat} (w1 : 1 ≤ w) (w2 : w ≤ 12) (hnp : np ≤ 125) {lb : Nat → Int32} {hl : Int32} {lk : Nat → Int32} (hlk : LkR np lb hl lk) (f : Nat → Int32) (a1 : Int32) : ∃ r g, sX9_bits a1 f (nI w) lb = some (r, g) ∧ sX12_bits a1 1 (nI np) hl f lk = some (r, g) := by
  have th := there1 w1 w2
  have u1 : ¬ (1 : Int32) = 0 := by decide
  rcases nI_or a1 10 (by omega) with ⟨i, hi, e⟩ | ho
  · subst e
    have n0 : ¬ nI i < 0 := nI_pos (by omega)
    have l10 : nI i < (10 : Int32) := by rw [show (10 : Int32) = nI 10 from rfl, nI_ltS (by omega) (by omega)]; omega
    have l9 : nI i ≤ (9 : Int32) := by rw [show (9 : Int32) = nI 9 from rfl, nI_leS (by omega) (by omega)]; omega
    rcases id hlk with ⟨e, h⟩ | ⟨e, L, h1, h2⟩
    · subst e
      have q := leftX hi (g := fun _ => false) (lb := lb) (fun k _ hk => by rw [h _ hk]; rfl) (fun _ _ _ => rfl)
      refine ⟨bitF (fun _ => false) 30, f, ?_, ?_⟩
      · unfold sX9_bits
        rw [ob_d1 th, if_pos u1, if_neg n0, if_pos l10, show (30 : Int32) * nI i = nI (30 * i) from nI_mul 30 i, ob_d1 q]
      · have c1 : iter (bX12_bits_39 (nI i) (nI np) 0 lk) FU ((0 : Int32), (0 : Int32)) = some (0, ((0 : Int32), (0 : Int32))) := by
          show iter _ (999999999 + 1) _ = _
          unfold iter
          have : bX12_bits_39 (nI i) (nI np) 0 lk ((0 : Int32), (0 : Int32)) = some (1, ((0 : Int32), (0 : Int32))) := rfl
          rw [this]
        unfold sX12_bits
        rw [if_neg u1, if_neg n0, if_pos l9, ob_x2s c1, bitF_z 0 30 (by omega) (fun _ _ _ => rfl)]
        rfl
    · subst e
      have q := leftX hi (g := fun k => L (30 * i + k) && decide (30 * i + k < np)) (lb := lb) (fun k _ hk => h1 _ hk) (fun k _ hk => by rw [decide_eq_false (by omega)]; simp)
      obtain ⟨v, q2⟩ := bitsM hi hnp (g := fun k => L (30 * i + k) && decide (30 * i + k < np)) (lk := lk) (fun k _ hk => by rw [h2 _ hk, decide_eq_true hk]; simp) (fun k _ hk => by rw [decide_eq_false (by omega)]; simp)
      refine ⟨bitF (fun k => L (30 * i + k) && decide (30 * i + k < np)) 30, f, ?_, ?_⟩
      · unfold sX9_bits
        rw [ob_d1 th, if_pos u1, if_neg n0, if_pos l10, show (30 : Int32) * nI i = nI (30 * i) from nI_mul 30 i, ob_d1 q]
      · unfold sX12_bits
        rw [if_neg u1, if_neg n0, if_pos l9, ob_x2s q2]
  · refine ⟨-1, cf 1 f, ?_, ?_⟩
    · unfold sX9_bits
      rw [ob_d1 th, if_pos u1]
      by_cases z : a1 < 0
      · rw [if_pos z, ob_d2 (tell1 f).1]
      · rw [if_neg z, if_neg (by
          intro y
          obtain ⟨j, hj, e⟩ := nI_of z
          subst e
          rw [show (10 : Int32) = nI 10 from rfl, nI_ltS (by omega) (by omega)] at y
          rcases ho with ho | ho
          · exact z ho
          · rw [nI_leS (by omega) (by omega)] at ho; omega), ob_d2 (tell1 f).1]
    · unfold sX12_bits
      rw [if_neg u1]
      by_cases z : a1 < 0
      · rw [if_pos z, if_pos u1, ob_d2 (tell1 f).2]
      · rw [if_neg z, if_neg (le_out ho z (k := 9) (b := 9) (by omega) (by omega) rfl), if_pos u1, ob_d2 (tell1 f).2]
