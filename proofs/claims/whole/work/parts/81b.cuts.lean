/-! The law's call words in cuts: a word's place is its cut and its place in that cut. -/
def lw_ck : List (List Cond) := [wsL_law_r1, wsL_law_r2, wsL_law_r3, wsL_law_r4, wsL_law_r5, wsL_law_r6, wsL_law_r7, wsL_law_r8, wsL_law_r9, wsL_law_r10, wsL_law_r11, wsL_law_r12, wsL_law_r13, wsL_law_r14, wsL_law_r15, wsL_law_r16, wsL_law_r17, wsL_law_r18, wsL_law_r19, wsL_law_r20, wsL_law_r21, wsL_law_r22, wsL_law_r23, wsL_law_r24, wsL_law_r25, wsL_law_r26, wsL_law_r27, wsL_law_r28, wsL_law_r29, wsL_law_r30, wsL_law_r31, wsL_law_r32, wsL_law_r33, wsL_law_r34, wsL_law_r35, wsL_law_r36, wsL_law_r37, wsL_law_r38, wsL_law_r39, wsL_law_r40, wsL_law_r41, wsL_law_r42, wsL_law_r43, wsL_law_r44, wsL_law_r45, wsX90, wsX120, wsX10, wsX60, wsX70, wsX30, wsX50, wsX00, wsX40, wsX80, wsX20, wsX100, wsX110]
theorem lw_ck_in (c : List Cond) (hc : c ∈ lw_ck) (w : Cond) (hw : w ∈ c) : w ∈ wsL_law := by
  have hf : w ∈ lw_ck.flatten := List.mem_flatten.mpr ⟨c, hc, hw⟩
  simp only [lw_ck, List.flatten_cons, List.flatten_nil, List.mem_append] at hf
  unfold wsL_law
  simp only [List.mem_append]
  grind
theorem goodIn_c (ws : List Cond) (ps : List (Nat × Nat)) (hp : ws = ps.filterMap (fun p => lw_ck[p.1]?.bind (fun c => c[p.2]?))) (h : ws.all goodWord = true) : GoodIn wsL_law ws := by
  intro w hw
  have h1 := List.all_eq_true.mp h w hw
  rw [hp] at hw
  obtain ⟨p, -, hi⟩ := List.mem_filterMap.mp hw
  obtain ⟨c, hc, hi⟩ := Option.bind_eq_some_iff.mp hi
  exact ⟨lw_ck_in c (List.mem_of_getElem? hc) w (List.mem_of_getElem? hi), good_of_word h1⟩
