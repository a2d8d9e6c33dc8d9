def lt_ck : List (List Cond) := [k2_sels lw_privs, tables_1_1, tables_1_2, tables_1_3, tables_1_4, tables_1_5, tables_1_6]
theorem lt_ck_in (c : List Cond) (hc : c ∈ lt_ck) (w : Cond) (hw : w ∈ c) : w ∈ lw_tbl := by
  have hf : w ∈ lt_ck.flatten := List.mem_flatten.mpr ⟨c, hc, hw⟩
  simp only [lt_ck, List.flatten_cons, List.flatten_nil, List.mem_append] at hf
  unfold lw_tbl tables_1
  simp only [List.mem_append]
  grind
theorem in_by (ws : List Cond) (ps : List (Nat × Nat)) (hp : ws = ps.filterMap (fun p => lt_ck[p.1]?.bind (fun c => c[p.2]?))) : ∀ w ∈ ws, w ∈ lw_tbl := by
  intro w hw
  rw [hp] at hw
  obtain ⟨p, -, hi⟩ := List.mem_filterMap.mp hw
  obtain ⟨c, hc, hi⟩ := Option.bind_eq_some_iff.mp hi
  exact lt_ck_in c (List.mem_of_getElem? hc) w (List.mem_of_getElem? hi)
set_option maxRecDepth 100000 in
theorem in_wsL_law_r1 : ∀ w ∈ wsL_law_r1, w ∈ lw_tbl := in_by _ [(1, 17), (1, 18), (1, 1), (4, 121), (4, 122), (1, 11), (1, 19), (1, 20), (1, 21), (1, 22), (1, 23), (1, 24), (1, 25), (1, 26), (1, 2), (2, 66), (2, 67), (1, 63), (2, 75), (2, 76), (1, 65), (1, 66), (1, 3), (2, 68)] rfl
set_option maxRecDepth 100000 in
theorem in_wsL_law_r2 : ∀ w ∈ wsL_law_r2, w ∈ lw_tbl := in_by _ [(1, 168), (1, 169), (1, 6), (2, 69), (1, 214), (1, 215), (1, 8), (2, 70), (2, 23), (2, 24), (1, 9), (2, 71), (2, 41), (2, 42), (1, 10), (2, 72), (2, 73), (2, 74), (2, 77), (1, 27), (1, 28), (1, 29), (1, 30), (1, 40)] rfl
set_option maxRecDepth 100000 in
theorem in_wsL_law_r3 : ∀ w ∈ wsL_law_r3, w ∈ lw_tbl := in_by _ [(1, 42), (1, 44), (1, 46), (1, 67), (1, 68), (1, 69), (1, 70), (1, 71), (1, 72), (1, 4), (1, 156), (1, 102), (1, 103), (1, 5), (1, 160), (1, 73), (1, 74), (1, 75), (1, 76), (1, 81), (1, 85), (1, 89), (1, 104), (1, 105)] rfl
set_option maxRecDepth 100000 in
theorem in_wsL_law_r4 : ∀ w ∈ wsL_law_r4, w ∈ lw_tbl := in_by _ [(1, 106), (1, 107), (1, 108), (1, 113), (1, 116), (1, 119), (1, 153), (1, 121), (1, 124), (1, 126), (1, 127), (1, 154), (1, 128), (1, 129), (1, 170), (1, 171), (1, 172), (1, 173), (1, 155), (1, 190), (1, 159), (1, 191), (1, 195), (1, 196)] rfl
set_option maxRecDepth 100000 in
theorem in_wsL_law_r5 : ∀ w ∈ wsL_law_r5, w ∈ lw_tbl := in_by _ [(1, 197), (1, 174), (1, 175), (1, 7), (1, 198), (1, 176), (1, 177), (1, 178), (1, 179), (1, 182), (1, 216), (1, 217), (1, 218), (1, 219), (1, 221), (1, 223), (1, 225), (1, 227), (1, 228), (1, 229), (1, 230), (1, 231), (1, 232), (1, 233)] rfl
set_option maxRecDepth 100000 in
theorem in_wsL_law_r6 : ∀ w ∈ wsL_law_r6, w ∈ lw_tbl := in_by _ [(1, 234), (1, 235), (2, 25), (2, 26), (2, 27), (2, 28), (2, 31), (2, 29), (2, 32), (2, 33), (2, 30), (2, 43), (2, 44), (2, 45), (2, 46), (2, 48), (2, 49), (2, 50), (2, 51), (2, 52), (4, 123), (4, 124), (4, 125), (4, 126)] rfl
set_option maxRecDepth 100000 in
theorem in_wsL_law_r7 : ∀ w ∈ wsL_law_r7, w ∈ lw_tbl := in_by _ [(4, 127), (4, 128), (1, 12), (4, 207), (4, 209), (4, 210), (4, 211), (4, 213), (4, 214), (4, 215), (4, 216), (4, 217), (4, 219), (4, 221), (4, 222), (4, 223), (4, 194), (4, 195), (1, 13), (4, 224), (4, 225), (4, 226), (4, 227), (4, 228)] rfl
set_option maxRecDepth 100000 in
theorem in_wsL_law_r8 : ∀ w ∈ wsL_law_r8, w ∈ lw_tbl := in_by _ [(4, 229), (4, 231), (4, 232), (4, 233), (4, 234), (4, 235), (4, 236), (4, 237), (4, 238), (4, 130), (4, 131), (4, 132), (4, 140), (4, 141), (4, 142), (4, 143), (4, 146), (4, 148), (4, 150), (4, 154), (4, 156), (4, 158), (4, 197), (4, 198)] rfl
set_option maxRecDepth 100000 in
theorem in_wsL_law_r9 : ∀ w ∈ wsL_law_r9, w ∈ lw_tbl := in_by _ [(4, 199), (4, 200), (2, 103), (2, 104), (2, 105), (2, 106), (1, 193), (2, 107), (2, 109), (0, 0), (2, 110), (2, 111), (2, 112), (2, 113), (2, 114), (2, 115), (2, 116), (2, 117), (1, 31), (1, 34), (1, 38), (2, 118), (2, 119), (2, 120)] rfl
set_option maxRecDepth 100000 in
theorem in_wsL_law_r10 : ∀ w ∈ wsL_law_r10, w ∈ lw_tbl := in_by _ [(2, 121), (2, 122), (2, 124), (0, 1), (2, 125), (2, 126), (2, 127), (2, 128), (2, 129), (2, 130), (2, 131), (2, 132), (2, 133), (1, 77), (1, 37), (1, 41), (1, 43), (1, 45), (1, 47), (2, 134), (2, 136), (0, 2), (2, 137), (2, 139)] rfl
set_option maxRecDepth 100000 in
theorem in_wsL_law_r11 : ∀ w ∈ wsL_law_r11, w ∈ lw_tbl := in_by _ [(2, 140), (2, 141), (2, 142), (2, 143), (2, 144), (2, 145), (2, 146), (2, 147), (2, 148), (2, 149), (2, 151), (0, 3), (2, 152), (2, 153), (2, 155), (0, 4), (2, 156), (2, 157), (2, 158), (2, 159), (2, 160), (1, 78), (1, 39), (2, 161)] rfl
set_option maxRecDepth 100000 in
theorem in_wsL_law_r12 : ∀ w ∈ wsL_law_r12, w ∈ lw_tbl := in_by _ [(2, 163), (0, 5), (2, 164), (2, 165), (2, 166), (2, 167), (2, 168), (2, 169), (2, 170), (2, 171), (2, 172), (2, 173), (1, 14), (2, 174), (2, 175), (2, 176), (2, 177), (2, 178), (2, 180), (0, 6), (2, 181), (2, 182), (2, 184), (0, 7)] rfl
set_option maxRecDepth 100000 in
theorem in_wsL_law_r13 : ∀ w ∈ wsL_law_r13, w ∈ lw_tbl := in_by _ [(2, 185), (1, 112), (2, 186), (2, 188), (0, 8), (2, 189), (2, 190), (2, 192), (0, 9), (2, 193), (2, 198), (2, 194), (2, 195), (2, 196), (2, 197), (2, 199), (2, 201), (0, 10), (2, 202), (2, 203), (2, 205), (0, 11), (2, 206), (2, 207)] rfl
set_option maxRecDepth 100000 in
theorem in_wsL_law_r14 : ∀ w ∈ wsL_law_r14, w ∈ lw_tbl := in_by _ [(2, 208), (2, 209), (2, 210), (2, 211), (2, 213), (0, 12), (2, 214), (2, 215), (2, 217), (0, 13), (2, 218), (2, 219), (2, 220), (2, 221), (2, 222), (1, 109), (1, 122), (1, 194), (2, 223), (2, 225), (0, 14), (2, 226), (1, 125), (1, 82)] rfl
set_option maxRecDepth 100000 in
theorem in_wsL_law_r15 : ∀ w ∈ wsL_law_r15, w ∈ lw_tbl := in_by _ [(1, 117), (2, 227), (2, 229), (0, 15), (2, 230), (2, 231), (2, 232), (2, 233), (2, 234), (2, 235), (2, 237), (0, 16), (2, 238), (2, 239), (3, 0), (3, 1), (3, 2), (3, 3), (3, 4), (1, 15), (3, 5), (3, 6), (3, 7), (3, 8)] rfl
set_option maxRecDepth 100000 in
theorem in_wsL_law_r16 : ∀ w ∈ wsL_law_r16, w ∈ lw_tbl := in_by _ [(3, 9), (1, 192), (1, 220), (3, 10), (3, 11), (3, 12), (3, 13), (3, 14), (3, 15), (3, 16), (3, 17), (3, 18), (3, 19), (3, 20), (3, 21), (1, 120), (3, 22), (3, 24), (0, 17), (3, 25), (5, 64), (5, 65), (5, 66), (5, 67)] rfl
set_option maxRecDepth 100000 in
theorem in_wsL_law_r17 : ∀ w ∈ wsL_law_r17, w ∈ lw_tbl := in_by _ [(4, 208), (4, 212), (5, 68), (5, 70), (0, 38), (5, 71), (5, 72), (5, 74), (0, 39), (5, 75), (5, 76), (5, 77), (5, 78), (5, 79), (4, 137), (4, 133), (4, 135), (4, 139), (4, 144), (4, 152), (5, 80), (5, 81), (5, 82), (5, 83)] rfl
set_option maxRecDepth 100000 in
theorem in_wsL_law_r18 : ∀ w ∈ wsL_law_r18, w ∈ lw_tbl := in_by _ [(5, 84), (5, 86), (0, 40), (5, 87), (5, 94), (5, 89), (5, 90), (5, 91), (5, 92), (5, 93), (5, 95), (5, 97), (0, 41), (5, 98), (5, 99), (5, 100), (5, 101), (5, 102), (5, 104), (0, 42), (5, 105), (5, 106), (5, 108), (0, 43)] rfl
set_option maxRecDepth 100000 in
theorem in_wsL_law_r19 : ∀ w ∈ wsL_law_r19, w ∈ lw_tbl := in_by _ [(5, 109), (5, 110), (5, 112), (0, 44), (5, 113), (5, 114), (5, 115), (5, 116), (5, 117), (5, 118), (5, 120), (0, 45), (5, 121), (5, 122), (5, 124), (0, 46), (5, 125), (5, 126), (5, 127), (5, 128), (5, 129), (5, 130), (5, 132), (0, 47)] rfl
set_option maxRecDepth 100000 in
theorem in_wsL_law_r20 : ∀ w ∈ wsL_law_r20, w ∈ lw_tbl := in_by _ [(5, 133), (5, 134), (5, 136), (0, 48), (5, 137), (5, 138), (5, 140), (0, 49), (5, 141), (5, 142), (5, 144), (0, 50), (5, 145), (5, 146), (5, 148), (0, 51), (5, 149), (5, 150), (5, 152), (0, 52), (5, 153), (5, 154), (5, 156), (0, 53)] rfl
set_option maxRecDepth 100000 in
theorem in_wsL_law_r21 : ∀ w ∈ wsL_law_r21, w ∈ lw_tbl := in_by _ [(5, 157), (5, 158), (5, 160), (0, 54), (5, 161), (5, 162), (5, 163), (5, 164), (5, 165), (5, 167), (0, 55), (5, 168), (4, 218), (4, 220), (3, 26), (3, 27), (3, 28), (3, 29), (3, 30), (3, 31), (3, 32), (3, 33), (3, 34), (3, 35)] rfl
set_option maxRecDepth 100000 in
theorem in_wsL_law_r22 : ∀ w ∈ wsL_law_r22, w ∈ lw_tbl := in_by _ [(3, 36), (3, 37), (3, 38), (3, 39), (3, 40), (3, 41), (3, 42), (5, 169), (5, 170), (5, 171), (5, 172), (5, 173), (5, 175), (0, 56), (5, 176), (5, 177), (3, 43), (3, 44), (3, 45), (3, 46), (3, 47), (3, 48), (3, 49), (3, 50)] rfl
set_option maxRecDepth 100000 in
theorem in_wsL_law_r23 : ∀ w ∈ wsL_law_r23, w ∈ lw_tbl := in_by _ [(5, 178), (5, 179), (5, 180), (5, 181), (3, 51), (3, 52), (3, 53), (3, 54), (1, 33), (1, 36), (1, 158), (1, 80), (1, 162), (1, 111), (3, 55), (3, 56), (3, 57), (3, 58), (5, 182), (5, 183), (5, 184), (5, 185), (3, 59), (3, 60)] rfl
set_option maxRecDepth 100000 in
theorem in_wsL_law_r24 : ∀ w ∈ wsL_law_r24, w ∈ lw_tbl := in_by _ [(3, 61), (3, 62), (1, 84), (1, 91), (1, 87), (3, 63), (3, 65), (0, 18), (3, 66), (3, 67), (3, 68), (3, 69), (3, 70), (3, 71), (3, 72), (3, 73), (3, 74), (3, 75), (3, 76), (3, 77), (3, 78), (3, 79), (5, 186), (5, 187)] rfl
set_option maxRecDepth 100000 in
theorem in_wsL_law_r25 : ∀ w ∈ wsL_law_r25, w ∈ lw_tbl := in_by _ [(5, 188), (5, 189), (5, 190), (5, 192), (0, 57), (5, 193), (5, 194), (5, 195), (3, 80), (3, 81), (3, 82), (3, 83), (1, 123), (3, 84), (5, 196), (5, 197), (5, 198), (5, 199), (5, 200), (3, 85), (3, 86), (3, 87), (3, 88), (3, 89)] rfl
set_option maxRecDepth 100000 in
theorem in_wsL_law_r26 : ∀ w ∈ wsL_law_r26, w ∈ lw_tbl := in_by _ [(3, 91), (0, 19), (3, 92), (3, 93), (3, 94), (3, 95), (3, 96), (3, 97), (1, 114), (5, 201), (5, 202), (5, 203), (5, 204), (5, 205), (5, 207), (0, 58), (5, 208), (5, 209), (5, 211), (0, 59), (5, 212), (3, 98), (3, 99), (3, 100)] rfl
set_option maxRecDepth 100000 in
theorem in_wsL_law_r27 : ∀ w ∈ wsL_law_r27, w ∈ lw_tbl := in_by _ [(3, 101), (1, 222), (1, 224), (1, 226), (3, 102), (3, 103), (3, 104), (3, 105), (1, 92), (3, 111), (3, 106), (3, 107), (3, 108), (3, 109), (3, 110), (3, 112), (3, 113), (3, 114), (3, 115), (1, 88), (3, 116), (3, 117), (3, 118), (3, 119)] rfl
set_option maxRecDepth 100000 in
theorem in_wsL_law_r28 : ∀ w ∈ wsL_law_r28, w ∈ lw_tbl := in_by _ [(3, 123), (3, 120), (3, 121), (3, 122), (3, 124), (3, 125), (3, 126), (3, 127), (3, 128), (3, 129), (3, 130), (3, 131), (3, 132), (3, 133), (3, 134), (3, 135), (3, 136), (3, 137), (3, 138), (5, 213), (5, 214), (5, 215), (5, 216), (5, 217)] rfl
set_option maxRecDepth 100000 in
theorem in_wsL_law_r29 : ∀ w ∈ wsL_law_r29, w ∈ lw_tbl := in_by _ [(5, 219), (0, 60), (5, 220), (5, 221), (5, 222), (5, 223), (5, 225), (0, 61), (5, 226), (5, 227), (5, 229), (0, 62), (5, 230), (5, 231), (5, 233), (0, 63), (5, 234), (3, 139), (3, 140), (3, 141), (3, 142), (3, 143), (3, 144), (3, 145)] rfl
set_option maxRecDepth 100000 in
theorem in_wsL_law_r30 : ∀ w ∈ wsL_law_r30, w ∈ lw_tbl := in_by _ [(3, 146), (3, 151), (3, 147), (3, 148), (3, 149), (3, 150), (1, 180), (1, 181), (3, 152), (3, 153), (3, 154), (3, 155), (3, 156), (3, 157), (1, 14), (3, 158), (3, 159), (3, 160), (3, 161), (3, 162), (3, 163), (3, 164), (3, 165), (5, 235)] rfl
set_option maxRecDepth 100000 in
theorem in_wsL_law_r31 : ∀ w ∈ wsL_law_r31, w ∈ lw_tbl := in_by _ [(5, 236), (5, 237), (5, 238), (6, 26), (6, 27), (6, 28), (5, 239), (6, 0), (6, 1), (6, 2), (4, 201), (6, 3), (6, 4), (6, 5), (6, 6), (6, 7), (6, 8), (6, 10), (0, 64), (6, 11), (6, 12), (6, 13), (6, 14), (6, 15)] rfl
set_option maxRecDepth 100000 in
theorem in_wsL_law_r32 : ∀ w ∈ wsL_law_r32, w ∈ lw_tbl := in_by _ [(6, 16), (6, 17), (6, 18), (6, 19), (6, 20), (6, 21), (6, 22), (6, 23), (6, 24), (6, 25), (6, 29), (6, 30), (6, 31), (6, 32), (3, 166), (3, 167), (3, 168), (3, 169), (6, 33), (6, 34), (6, 35), (6, 36), (3, 170), (3, 171)] rfl
set_option maxRecDepth 100000 in
theorem in_wsL_law_r33 : ∀ w ∈ wsL_law_r33, w ∈ lw_tbl := in_by _ [(3, 172), (3, 173), (3, 174), (3, 175), (3, 176), (3, 177), (3, 178), (3, 179), (3, 181), (0, 20), (3, 182), (3, 183), (3, 184), (3, 185), (3, 187), (0, 21), (3, 188), (3, 189), (3, 191), (0, 22), (3, 192), (3, 193), (3, 194), (3, 195)] rfl
set_option maxRecDepth 100000 in
theorem in_wsL_law_r34 : ∀ w ∈ wsL_law_r34, w ∈ lw_tbl := in_by _ [(3, 196), (6, 37), (6, 38), (6, 39), (6, 40), (6, 41), (6, 43), (0, 65), (6, 44), (6, 45), (6, 47), (0, 66), (6, 48), (3, 197), (3, 198), (3, 199), (3, 200), (3, 201), (3, 202), (3, 203), (3, 204), (6, 49), (6, 50), (6, 51)] rfl
set_option maxRecDepth 100000 in
theorem in_wsL_law_r35 : ∀ w ∈ wsL_law_r35, w ∈ lw_tbl := in_by _ [(6, 52), (3, 205), (3, 206), (3, 207), (3, 208), (3, 209), (3, 210), (3, 211), (3, 212), (3, 213), (3, 214), (3, 216), (0, 23), (3, 217), (3, 218), (3, 220), (0, 24), (3, 221), (3, 222), (3, 224), (0, 25), (3, 225), (3, 226), (3, 228)] rfl
set_option maxRecDepth 100000 in
theorem in_wsL_law_r36 : ∀ w ∈ wsL_law_r36, w ∈ lw_tbl := in_by _ [(0, 26), (3, 229), (3, 230), (3, 232), (0, 27), (3, 233), (3, 234), (3, 236), (0, 28), (3, 237), (3, 238), (6, 53), (6, 54), (6, 55), (6, 56), (6, 57), (6, 58), (6, 60), (0, 67), (6, 61), (6, 62), (6, 64), (0, 68), (6, 65)] rfl
set_option maxRecDepth 100000 in
theorem in_wsL_law_r37 : ∀ w ∈ wsL_law_r37, w ∈ lw_tbl := in_by _ [(4, 230), (6, 66), (6, 68), (0, 69), (6, 69), (3, 239), (4, 0), (4, 1), (4, 2), (4, 3), (4, 4), (4, 5), (4, 6), (6, 70), (6, 71), (6, 72), (6, 73), (4, 7), (4, 8), (4, 9), (4, 10), (4, 11), (4, 12), (4, 13)] rfl
set_option maxRecDepth 100000 in
theorem in_wsL_law_r38 : ∀ w ∈ wsL_law_r38, w ∈ lw_tbl := in_by _ [(4, 14), (6, 74), (6, 75), (6, 76), (6, 77), (4, 15), (4, 16), (4, 17), (4, 18), (6, 78), (6, 79), (6, 80), (6, 81), (4, 19), (4, 20), (4, 21), (4, 22), (6, 82), (6, 83), (6, 84), (6, 85), (4, 23), (4, 24), (4, 25)] rfl
set_option maxRecDepth 100000 in
theorem in_wsL_law_r39 : ∀ w ∈ wsL_law_r39, w ∈ lw_tbl := in_by _ [(4, 26), (4, 27), (4, 29), (0, 29), (4, 30), (4, 31), (4, 32), (4, 33), (4, 34), (2, 47), (4, 35), (4, 36), (4, 37), (4, 38), (4, 39), (4, 40), (4, 41), (4, 42), (4, 43), (4, 45), (0, 30), (4, 46), (4, 51), (4, 47)] rfl
set_option maxRecDepth 100000 in
theorem in_wsL_law_r40 : ∀ w ∈ wsL_law_r40, w ∈ lw_tbl := in_by _ [(4, 49), (0, 31), (4, 50), (4, 52), (4, 54), (0, 32), (4, 55), (4, 56), (4, 57), (4, 59), (0, 33), (4, 60), (6, 86), (6, 87), (6, 88), (6, 89), (6, 90), (6, 91), (6, 92), (6, 93), (6, 95), (0, 70), (6, 96), (6, 97)] rfl
set_option maxRecDepth 100000 in
theorem in_wsL_law_r41 : ∀ w ∈ wsL_law_r41, w ∈ lw_tbl := in_by _ [(6, 99), (0, 71), (6, 100), (4, 61), (4, 62), (4, 63), (4, 64), (4, 65), (4, 66), (4, 67), (4, 68), (4, 69), (4, 70), (4, 71), (4, 72), (4, 74), (4, 73), (1, 16), (6, 101), (6, 102), (6, 103), (6, 104), (6, 105), (6, 106)] rfl
set_option maxRecDepth 100000 in
theorem in_wsL_law_r42 : ∀ w ∈ wsL_law_r42, w ∈ lw_tbl := in_by _ [(6, 107), (6, 108), (6, 109), (6, 110), (6, 111), (4, 75), (4, 76), (4, 77), (4, 78), (6, 112), (6, 113), (6, 114), (6, 115), (4, 79), (4, 80), (4, 81), (4, 82), (4, 83), (4, 84), (4, 85), (4, 86), (1, 35), (1, 32), (4, 87)] rfl
set_option maxRecDepth 100000 in
theorem in_wsL_law_r43 : ∀ w ∈ wsL_law_r43, w ∈ lw_tbl := in_by _ [(4, 88), (4, 90), (0, 34), (4, 91), (1, 157), (1, 79), (1, 161), (1, 110), (4, 92), (4, 94), (0, 35), (4, 95), (4, 96), (4, 98), (0, 36), (4, 99), (1, 90), (1, 83), (1, 86), (4, 100), (4, 101), (4, 102), (4, 103), (4, 104)] rfl
set_option maxRecDepth 100000 in
theorem in_wsL_law_r44 : ∀ w ∈ wsL_law_r44, w ∈ lw_tbl := in_by _ [(4, 106), (0, 37), (4, 107), (1, 115), (1, 118), (4, 108), (6, 116), (6, 117), (6, 118), (6, 119), (6, 120), (6, 122), (0, 72), (6, 123), (6, 124), (6, 125), (6, 126), (6, 127), (4, 109), (4, 110), (4, 111), (4, 112), (6, 128), (6, 129)] rfl
set_option maxRecDepth 100000 in
theorem in_wsL_law_r45 : ∀ w ∈ wsL_law_r45, w ∈ lw_tbl := in_by _ [(6, 130), (6, 131), (4, 113), (4, 114), (4, 115), (4, 116), (6, 132), (6, 133), (6, 134), (6, 135), (4, 117), (4, 118), (4, 119), (4, 120), (6, 136), (6, 137), (6, 138), (6, 139)] rfl
set_option maxRecDepth 100000 in
theorem in_wsX90 : ∀ w ∈ wsX90, w ∈ lw_tbl := in_by _ [(2, 78), (2, 80), (2, 82), (2, 84), (2, 86), (2, 88), (2, 90), (2, 92), (2, 94), (2, 96), (2, 98), (2, 100)] rfl
set_option maxRecDepth 100000 in
theorem in_wsX120 : ∀ w ∈ wsX120, w ∈ lw_tbl := in_by _ [(4, 239), (5, 1), (5, 3), (5, 5), (5, 7), (5, 9), (5, 11), (5, 13), (5, 15), (5, 17), (5, 19), (5, 21), (5, 23), (5, 25), (5, 27), (5, 29), (5, 31), (5, 33), (5, 35), (5, 37), (5, 39), (5, 41), (5, 43), (5, 45), (5, 47), (5, 49), (5, 51), (5, 53), (5, 55), (5, 57), (5, 59), (5, 61)] rfl
set_option maxRecDepth 100000 in
theorem in_wsX10 : ∀ w ∈ wsX10, w ∈ lw_tbl := in_by _ [(1, 48), (1, 50), (1, 52), (1, 54), (1, 56), (1, 58), (1, 60)] rfl
set_option maxRecDepth 100000 in
theorem in_wsX60 : ∀ w ∈ wsX60, w ∈ lw_tbl := in_by _ [(1, 163), (1, 165)] rfl
set_option maxRecDepth 100000 in
theorem in_wsX70 : ∀ w ∈ wsX70, w ∈ lw_tbl := in_by _ [(1, 199), (1, 201), (1, 203), (1, 205), (1, 207), (1, 209), (1, 211)] rfl
set_option maxRecDepth 100000 in
theorem in_wsX30 : ∀ w ∈ wsX30, w ∈ lw_tbl := in_by _ [(1, 236), (1, 238), (2, 0), (2, 2), (2, 4), (2, 6), (2, 8), (2, 10), (2, 12), (2, 14), (2, 16), (2, 18), (2, 20)] rfl
set_option maxRecDepth 100000 in
theorem in_wsX50 : ∀ w ∈ wsX50, w ∈ lw_tbl := in_by _ [(2, 34), (2, 36), (2, 38)] rfl
set_option maxRecDepth 100000 in
theorem in_wsX00 : ∀ w ∈ wsX00, w ∈ lw_tbl := in_by _ [(2, 53), (2, 55), (2, 57), (2, 59), (2, 61), (2, 63)] rfl
set_option maxRecDepth 100000 in
theorem in_wsX40 : ∀ w ∈ wsX40, w ∈ lw_tbl := in_by _ [(1, 93), (1, 95), (1, 97), (1, 99)] rfl
set_option maxRecDepth 100000 in
theorem in_wsX80 : ∀ w ∈ wsX80, w ∈ lw_tbl := in_by _ [(1, 130), (1, 132), (1, 134), (1, 136), (1, 138), (1, 140), (1, 142), (1, 144), (1, 146), (1, 148), (1, 150)] rfl
set_option maxRecDepth 100000 in
theorem in_wsX20 : ∀ w ∈ wsX20, w ∈ lw_tbl := in_by _ [(1, 183), (1, 185), (1, 187)] rfl
set_option maxRecDepth 100000 in
theorem in_wsX100 : ∀ w ∈ wsX100, w ∈ lw_tbl := in_by _ [(4, 160), (4, 162), (4, 164), (4, 166), (4, 168), (4, 170), (4, 172), (4, 174), (4, 176), (4, 178), (4, 180), (4, 182), (4, 184), (4, 186), (4, 188), (4, 190)] rfl
set_option maxRecDepth 100000 in
theorem in_wsX110 : ∀ w ∈ wsX110, w ∈ lw_tbl := in_by _ [(4, 202), (4, 204)] rfl
theorem wsL_law_in : ∀ w ∈ wsL_law, w ∈ lw_tbl := by
  unfold wsL_law
  exact List.forall_mem_append.mpr ⟨List.forall_mem_append.mpr ⟨List.forall_mem_append.mpr ⟨List.forall_mem_append.mpr ⟨List.forall_mem_append.mpr ⟨List.forall_mem_append.mpr ⟨List.forall_mem_append.mpr ⟨List.forall_mem_append.mpr ⟨List.forall_mem_append.mpr ⟨List.forall_mem_append.mpr ⟨List.forall_mem_append.mpr ⟨List.forall_mem_append.mpr ⟨List.forall_mem_append.mpr ⟨List.forall_mem_append.mpr ⟨List.forall_mem_append.mpr ⟨in_wsL_law_r1, List.forall_mem_append.mpr ⟨in_wsL_law_r2, List.forall_mem_append.mpr ⟨in_wsL_law_r3, List.forall_mem_append.mpr ⟨in_wsL_law_r4, List.forall_mem_append.mpr ⟨in_wsL_law_r5, List.forall_mem_append.mpr ⟨in_wsL_law_r6, List.forall_mem_append.mpr ⟨in_wsL_law_r7, List.forall_mem_append.mpr ⟨in_wsL_law_r8, List.forall_mem_append.mpr ⟨in_wsL_law_r9, List.forall_mem_append.mpr ⟨in_wsL_law_r10, List.forall_mem_append.mpr ⟨in_wsL_law_r11, List.forall_mem_append.mpr ⟨in_wsL_law_r12, List.forall_mem_append.mpr ⟨in_wsL_law_r13, List.forall_mem_append.mpr ⟨in_wsL_law_r14, List.forall_mem_append.mpr ⟨in_wsL_law_r15, List.forall_mem_append.mpr ⟨in_wsL_law_r16, List.forall_mem_append.mpr ⟨in_wsL_law_r17, List.forall_mem_append.mpr ⟨in_wsL_law_r18, List.forall_mem_append.mpr ⟨in_wsL_law_r19, List.forall_mem_append.mpr ⟨in_wsL_law_r20, List.forall_mem_append.mpr ⟨in_wsL_law_r21, List.forall_mem_append.mpr ⟨in_wsL_law_r22, List.forall_mem_append.mpr ⟨in_wsL_law_r23, List.forall_mem_append.mpr ⟨in_wsL_law_r24, List.forall_mem_append.mpr ⟨in_wsL_law_r25, List.forall_mem_append.mpr ⟨in_wsL_law_r26, List.forall_mem_append.mpr ⟨in_wsL_law_r27, List.forall_mem_append.mpr ⟨in_wsL_law_r28, List.forall_mem_append.mpr ⟨in_wsL_law_r29, List.forall_mem_append.mpr ⟨in_wsL_law_r30, List.forall_mem_append.mpr ⟨in_wsL_law_r31, List.forall_mem_append.mpr ⟨in_wsL_law_r32, List.forall_mem_append.mpr ⟨in_wsL_law_r33, List.forall_mem_append.mpr ⟨in_wsL_law_r34, List.forall_mem_append.mpr ⟨in_wsL_law_r35, List.forall_mem_append.mpr ⟨in_wsL_law_r36, List.forall_mem_append.mpr ⟨in_wsL_law_r37, List.forall_mem_append.mpr ⟨in_wsL_law_r38, List.forall_mem_append.mpr ⟨in_wsL_law_r39, List.forall_mem_append.mpr ⟨in_wsL_law_r40, List.forall_mem_append.mpr ⟨in_wsL_law_r41, List.forall_mem_append.mpr ⟨in_wsL_law_r42, List.forall_mem_append.mpr ⟨in_wsL_law_r43, List.forall_mem_append.mpr ⟨in_wsL_law_r44, in_wsL_law_r45⟩⟩⟩⟩⟩⟩⟩⟩⟩⟩⟩⟩⟩⟩⟩⟩⟩⟩⟩⟩⟩⟩⟩⟩⟩⟩⟩⟩⟩⟩⟩⟩⟩⟩⟩⟩⟩⟩⟩⟩⟩⟩⟩⟩, in_wsX90⟩, in_wsX120⟩, in_wsX10⟩, in_wsX60⟩, in_wsX70⟩, in_wsX30⟩, in_wsX50⟩, in_wsX00⟩, in_wsX40⟩, in_wsX80⟩, in_wsX20⟩, in_wsX100⟩, in_wsX110⟩, fun _ h => absurd h List.not_mem_nil⟩
theorem inX0 : ∀ w ∈ wsX00, w ∈ lw_tbl := in_wsX00
theorem inX1 : ∀ w ∈ wsX10, w ∈ lw_tbl := in_wsX10
theorem inX2 : ∀ w ∈ wsX20, w ∈ lw_tbl := in_wsX20
theorem inX3 : ∀ w ∈ wsX30, w ∈ lw_tbl := in_wsX30
theorem inX4 : ∀ w ∈ wsX40, w ∈ lw_tbl := in_wsX40
theorem inX5 : ∀ w ∈ wsX50, w ∈ lw_tbl := in_wsX50
theorem inX6 : ∀ w ∈ wsX60, w ∈ lw_tbl := in_wsX60
theorem inX7 : ∀ w ∈ wsX70, w ∈ lw_tbl := in_wsX70
theorem inX8 : ∀ w ∈ wsX80, w ∈ lw_tbl := in_wsX80
theorem inX9 : ∀ w ∈ wsX90, w ∈ lw_tbl := in_wsX90
theorem inX10 : ∀ w ∈ wsX100, w ∈ lw_tbl := in_wsX100
theorem inX11 : ∀ w ∈ wsX110, w ∈ lw_tbl := in_wsX110
theorem inX12 : ∀ w ∈ wsX120, w ∈ lw_tbl := in_wsX120
