set_option maxRecDepth 20000 in
theorem gX9_sheets_X9_isSide : GoodIn wsX9_sheets (va_wsS RX9 78 yX9_isSide wsX9_isSide) := goodIn_app (goodIn_r ([.methodLink RX9 78 yX9_isSide, .static yX9_isSide, .initialized yX9_isSide.cls] : List Cond) [15, 16, 12] rfl (by decide +kernel)) ggX9_sheets_X9_isSide
set_option maxRecDepth 20000 in
theorem ggX9_sheets_X9_layOutBoxes : GoodIn wsX9_sheets wsX9_layOutBoxes := goodIn_k ckX9_sheets_in _ [(0, 20), (0, 1), (0, 21), (0, 22), (0, 23), (1, 0), (1, 1), (1, 2), (1, 3), (1, 4), (1, 5), (1, 6), (1, 7), (1, 8), (1, 9), (1, 10), (1, 11), (1, 12), (1, 13), (1, 14), (1, 15), (1, 16), (1, 17), (1, 18), (1, 19), (1, 20), (1, 21), (1, 22), (1, 23), (2, 0), (2, 1), (2, 2), (2, 3), (2, 4), (2, 5), (2, 6), (2, 7), (2, 8), (2, 9), (2, 10), (2, 11), (2, 12), (2, 13), (2, 14), (2, 15), (2, 16), (2, 17), (2, 18), (2, 19), (2, 20), (2, 21), (2, 22), (2, 23), (3, 0), (3, 1), (3, 2), (3, 3), (3, 4), (3, 5), (3, 6), (3, 7), (3, 8), (3, 9), (3, 10), (3, 11), (3, 12), (5, 0), (5, 1), (5, 2), (5, 3), (5, 4), (5, 5), (5, 6), (5, 7), (5, 8), (5, 9), (5, 10), (5, 11), (7, 0), (7, 1), (7, 2), (7, 3), (7, 4), (7, 5), (7, 6), (7, 7), (7, 8), (7, 9), (7, 10), (7, 11), (7, 12), (8, 0), (8, 1), (8, 2), (8, 3), (8, 4), (8, 5), (9, 0), (9, 1), (9, 2), (9, 3), (9, 4), (9, 5), (9, 6), (10, 0), (10, 1), (10, 2), (10, 3), (11, 0), (11, 1), (11, 2), (11, 3), (11, 4), (11, 5), (11, 6), (11, 7), (11, 8), (11, 9), (11, 10)] rfl (by decide +kernel)
set_option maxRecDepth 20000 in
theorem gX9_sheets_X9_layOutBoxes : GoodIn wsX9_sheets (wsV RX9 229 RX9 yX9_layOutBoxes wsX9_layOutBoxes) := goodIn_app (goodIn_r ([.methodLink RX9 229 yX9_layOutBoxes, .instanceMethod yX9_layOutBoxes, .selects RX9 yX9_layOutBoxes yX9_layOutBoxes, .initialized RX9] : List Cond) [18, 19, 20, 12] rfl (by decide +kernel)) ggX9_sheets_X9_layOutBoxes
set_option maxRecDepth 20000 in
theorem ggX9_sheets_X0_fewestSheets : GoodIn wsX9_sheets wsX0_fewestSheets := goodIn_k ckX9_sheets_in _ [(3, 16), (1, 7), (3, 17), (3, 18), (3, 19), (3, 20), (3, 21), (1, 5), (3, 22), (3, 23), (2, 16), (1, 18), (2, 17), (4, 0), (4, 1), (4, 2), (4, 3), (3, 10), (3, 11), (3, 12), (4, 4), (4, 5), (4, 6), (4, 7), (4, 8), (1, 17), (1, 19), (4, 9), (4, 10), (4, 11), (4, 12), (8, 0), (8, 1), (8, 2), (8, 3), (8, 4), (8, 5)] rfl (by decide +kernel)
set_option maxRecDepth 20000 in
theorem gX9_sheets_X0_fewestSheets : GoodIn wsX9_sheets (wsV RX9 233 RX0 yX0_fewestSheets wsX0_fewestSheets) := goodIn_app (goodIn_r ([.methodLink RX9 233 yX0_fewestSheets, .instanceMethod yX0_fewestSheets, .selects RX0 yX0_fewestSheets yX0_fewestSheets, .initialized RX0] : List Cond) [86, 87, 88, 30] rfl (by decide +kernel)) ggX9_sheets_X0_fewestSheets
theorem dX9_sheets_0 : decode cX9_sheets 0 = .ok (.aload_n 0, 1) := de_42 (by decide +kernel)
theorem dX9_sheets_1 : decode cX9_sheets 1 = .ok (.getfield 12, 3) := de_180 (by decide +kernel)
theorem dX9_sheets_4 : decode cX9_sheets 4 = .ok (.invokevirtual 92, 3) := de_182 (by decide +kernel)
theorem dX9_sheets_7 : decode cX9_sheets 7 = .ok (.ifCond .ne 10, 3) := de_154 (by decide +kernel)
theorem dX9_sheets_10 : decode cX9_sheets 10 = .ok (.aload_n 0, 1) := de_42 (by decide +kernel)
theorem dX9_sheets_11 : decode cX9_sheets 11 = .ok (.bipush (-4), 2) := de_16 (by decide +kernel)
theorem dX9_sheets_13 : decode cX9_sheets 13 = .ok (.invokevirtual 74, 3) := de_182 (by decide +kernel)
theorem dX9_sheets_16 : decode cX9_sheets 16 = .ok (.ireturn, 1) := de_172 (by decide +kernel)
theorem dX9_sheets_17 : decode cX9_sheets 17 = .ok (.iload_n 1, 1) := de_27 (by decide +kernel)
theorem dX9_sheets_18 : decode cX9_sheets 18 = .ok (.invokestatic 78, 3) := de_184 (by decide +kernel)
theorem dX9_sheets_21 : decode cX9_sheets 21 = .ok (.ifCond .eq 10, 3) := de_153 (by decide +kernel)
theorem dX9_sheets_24 : decode cX9_sheets 24 = .ok (.iload_n 2, 1) := de_28 (by decide +kernel)
theorem dX9_sheets_25 : decode cX9_sheets 25 = .ok (.invokestatic 78, 3) := de_184 (by decide +kernel)
theorem dX9_sheets_28 : decode cX9_sheets 28 = .ok (.ifCond .ne 9, 3) := de_154 (by decide +kernel)
theorem dX9_sheets_31 : decode cX9_sheets 31 = .ok (.aload_n 0, 1) := de_42 (by decide +kernel)
theorem dX9_sheets_32 : decode cX9_sheets 32 = .ok (.iconst (-1), 1) := de_2 (by decide +kernel)
theorem dX9_sheets_33 : decode cX9_sheets 33 = .ok (.invokevirtual 74, 3) := de_182 (by decide +kernel)
theorem dX9_sheets_36 : decode cX9_sheets 36 = .ok (.ireturn, 1) := de_172 (by decide +kernel)
theorem dX9_sheets_37 : decode cX9_sheets 37 = .ok (.aload_n 0, 1) := de_42 (by decide +kernel)
theorem dX9_sheets_38 : decode cX9_sheets 38 = .ok (.iload_n 3, 1) := de_29 (by decide +kernel)
theorem dX9_sheets_39 : decode cX9_sheets 39 = .ok (.invokevirtual 229, 3) := de_182 (by decide +kernel)
theorem dX9_sheets_42 : decode cX9_sheets 42 = .ok (.aload_n 0, 1) := de_42 (by decide +kernel)
theorem dX9_sheets_43 : decode cX9_sheets 43 = .ok (.getfield 60, 3) := de_180 (by decide +kernel)
theorem dX9_sheets_46 : decode cX9_sheets 46 = .ok (.iload_n 1, 1) := de_27 (by decide +kernel)
theorem dX9_sheets_47 : decode cX9_sheets 47 = .ok (.iload_n 2, 1) := de_28 (by decide +kernel)
theorem dX9_sheets_48 : decode cX9_sheets 48 = .ok (.invokevirtual 233, 3) := de_182 (by decide +kernel)
theorem dX9_sheets_51 : decode cX9_sheets 51 = .ok (.istore 4, 2) := de_54 (by decide +kernel)
theorem dX9_sheets_53 : decode cX9_sheets 53 = .ok (.iload 4, 2) := de_21 (by decide +kernel)
theorem dX9_sheets_55 : decode cX9_sheets 55 = .ok (.ifCond .ge 12, 3) := de_156 (by decide +kernel)
theorem dX9_sheets_58 : decode cX9_sheets 58 = .ok (.aload_n 0, 1) := de_42 (by decide +kernel)
theorem dX9_sheets_59 : decode cX9_sheets 59 = .ok (.bipush (-7), 2) := de_16 (by decide +kernel)
theorem dX9_sheets_61 : decode cX9_sheets 61 = .ok (.invokevirtual 74, 3) := de_182 (by decide +kernel)
theorem dX9_sheets_64 : decode cX9_sheets 64 = .ok (.goto 5, 3) := de_167 (by decide +kernel)
theorem dX9_sheets_67 : decode cX9_sheets 67 = .ok (.iload 4, 2) := de_21 (by decide +kernel)
theorem dX9_sheets_69 : decode cX9_sheets 69 = .ok (.ireturn, 1) := de_172 (by decide +kernel)
set_option maxRecDepth 20000 in
theorem ggX9_keep_X1_isThere : GoodIn wsX9_keep wsX1_isThere := goodIn_r _ [7, 8, 44, 45, 46, 47, 48, 49, 50] rfl (by decide +kernel)
set_option maxRecDepth 20000 in
theorem gX9_keep_X1_isThere : GoodIn wsX9_keep (wsV RX9 92 RX1 yX1_isThere wsX1_isThere) := goodIn_app (goodIn_r ([.methodLink RX9 92 yX1_isThere, .instanceMethod yX1_isThere, .selects RX1 yX1_isThere yX1_isThere, .initialized RX1] : List Cond) [3, 4, 5, 6] rfl (by decide +kernel)) ggX9_keep_X1_isThere
def ckX9_keep : List (List Cond) := [wsX9_keep_r1, wsX9_keep_r2, wsX90, wsX10]
theorem ckX9_keep_in : ∀ c ∈ ckX9_keep, ∀ w ∈ c, w ∈ wsX9_keep := List.forall_mem_cons.mpr ⟨fun _ h9 => List.mem_cons_of_mem _ (List.mem_append_left _ (List.mem_append_left _ (List.mem_append_left _ h9))), List.forall_mem_cons.mpr ⟨fun _ h9 => List.mem_cons_of_mem _ (List.mem_append_left _ (List.mem_append_left _ (List.mem_append_right _ h9))), List.forall_mem_cons.mpr ⟨fun _ h9 => List.mem_cons_of_mem _ (List.mem_append_left _ (List.mem_append_right _ h9)), List.forall_mem_cons.mpr ⟨fun _ h9 => List.mem_cons_of_mem _ (List.mem_append_right _ h9), List.forall_mem_nil _⟩⟩⟩⟩
set_option maxRecDepth 20000 in
theorem ggX9_keep_X9_tell : GoodIn wsX9_keep wsX9_tell := goodIn_k ckX9_keep_in _ [(0, 12), (0, 13), (2, 0), (2, 1), (2, 2), (2, 3), (2, 4), (2, 5), (2, 6), (2, 7), (2, 8), (2, 9), (2, 10), (2, 11)] rfl (by decide +kernel)
set_option maxRecDepth 20000 in
theorem gX9_keep_X9_tell : GoodIn wsX9_keep (wsV RX9 74 RX9 yX9_tell wsX9_tell) := goodIn_app (goodIn_r ([.methodLink RX9 74 yX9_tell, .instanceMethod yX9_tell, .selects RX9 yX9_tell yX9_tell, .initialized RX9] : List Cond) [9, 10, 11, 12] rfl (by decide +kernel)) ggX9_keep_X9_tell
set_option maxRecDepth 20000 in
theorem ggX9_keep_X9_isPlace : GoodIn wsX9_keep wsX9_isPlace := goodIn_r _ [17] rfl (by decide +kernel)
set_option maxRecDepth 20000 in
theorem gX9_keep_X9_isPlace : GoodIn wsX9_keep (va_wsS RX9 236 yX9_isPlace wsX9_isPlace) := goodIn_app (goodIn_r ([.methodLink RX9 236 yX9_isPlace, .static yX9_isPlace, .initialized yX9_isPlace.cls] : List Cond) [15, 16, 12] rfl (by decide +kernel)) ggX9_keep_X9_isPlace
set_option maxRecDepth 20000 in
theorem ggX9_keep_X1_copy : GoodIn wsX9_keep wsX1_copy := goodIn_k ckX9_keep_in _ [(0, 20), (0, 7), (0, 21), (0, 22), (0, 23), (1, 0), (1, 1), (1, 2), (1, 3), (1, 4), (1, 5), (1, 6), (3, 0), (3, 1), (3, 2), (3, 3), (3, 4), (3, 5), (3, 6)] rfl (by decide +kernel)
set_option maxRecDepth 20000 in
theorem gX9_keep_X1_copy : GoodIn wsX9_keep (wsV RX9 239 RX1 yX1_copy wsX1_copy) := goodIn_app (goodIn_r ([.methodLink RX9 239 yX1_copy, .instanceMethod yX1_copy, .selects RX1 yX1_copy yX1_copy, .initialized RX1] : List Cond) [18, 19, 20, 6] rfl (by decide +kernel)) ggX9_keep_X1_copy
theorem dX9_keep_0 : decode cX9_keep 0 = .ok (.aload_n 0, 1) := de_42 (by decide +kernel)
theorem dX9_keep_1 : decode cX9_keep 1 = .ok (.getfield 12, 3) := de_180 (by decide +kernel)
theorem dX9_keep_4 : decode cX9_keep 4 = .ok (.invokevirtual 92, 3) := de_182 (by decide +kernel)
theorem dX9_keep_7 : decode cX9_keep 7 = .ok (.ifCond .ne 10, 3) := de_154 (by decide +kernel)
theorem dX9_keep_10 : decode cX9_keep 10 = .ok (.aload_n 0, 1) := de_42 (by decide +kernel)
theorem dX9_keep_11 : decode cX9_keep 11 = .ok (.bipush (-4), 2) := de_16 (by decide +kernel)
theorem dX9_keep_13 : decode cX9_keep 13 = .ok (.invokevirtual 74, 3) := de_182 (by decide +kernel)
theorem dX9_keep_16 : decode cX9_keep 16 = .ok (.ireturn, 1) := de_172 (by decide +kernel)
theorem dX9_keep_17 : decode cX9_keep 17 = .ok (.iload_n 1, 1) := de_27 (by decide +kernel)
theorem dX9_keep_18 : decode cX9_keep 18 = .ok (.invokestatic 236, 3) := de_184 (by decide +kernel)
theorem dX9_keep_21 : decode cX9_keep 21 = .ok (.ifCond .ne 9, 3) := de_154 (by decide +kernel)
theorem dX9_keep_24 : decode cX9_keep 24 = .ok (.aload_n 0, 1) := de_42 (by decide +kernel)
theorem dX9_keep_25 : decode cX9_keep 25 = .ok (.iconst (-1), 1) := de_2 (by decide +kernel)
theorem dX9_keep_26 : decode cX9_keep 26 = .ok (.invokevirtual 74, 3) := de_182 (by decide +kernel)
theorem dX9_keep_29 : decode cX9_keep 29 = .ok (.ireturn, 1) := de_172 (by decide +kernel)
theorem dX9_keep_30 : decode cX9_keep 30 = .ok (.aload_n 0, 1) := de_42 (by decide +kernel)
theorem dX9_keep_31 : decode cX9_keep 31 = .ok (.getfield 16, 3) := de_180 (by decide +kernel)
theorem dX9_keep_34 : decode cX9_keep 34 = .ok (.iload_n 1, 1) := de_27 (by decide +kernel)
theorem dX9_keep_35 : decode cX9_keep 35 = .ok (.aaload, 1) := de_50 (by decide +kernel)
theorem dX9_keep_36 : decode cX9_keep 36 = .ok (.aload_n 0, 1) := de_42 (by decide +kernel)
theorem dX9_keep_37 : decode cX9_keep 37 = .ok (.getfield 12, 3) := de_180 (by decide +kernel)
theorem dX9_keep_40 : decode cX9_keep 40 = .ok (.invokevirtual 239, 3) := de_182 (by decide +kernel)
theorem dX9_keep_43 : decode cX9_keep 43 = .ok (.iconst 1, 1) := de_4 (by decide +kernel)
theorem dX9_keep_44 : decode cX9_keep 44 = .ok (.ireturn, 1) := de_172 (by decide +kernel)
set_option maxRecDepth 20000 in
theorem ggX9_back_X9_isPlace : GoodIn wsX9_back wsX9_isPlace := goodIn_r _ [8] rfl (by decide +kernel)
set_option maxRecDepth 20000 in
theorem gX9_back_X9_isPlace : GoodIn wsX9_back (va_wsS RX9 236 yX9_isPlace wsX9_isPlace) := goodIn_app (goodIn_r ([.methodLink RX9 236 yX9_isPlace, .static yX9_isPlace, .initialized yX9_isPlace.cls] : List Cond) [5, 6, 7] rfl (by decide +kernel)) ggX9_back_X9_isPlace
def ckX9_back : List (List Cond) := [wsX9_back_r1, wsX9_back_r2, wsX9_back_r3, wsX9_back_r4, wsX9_back_r5, wsX9_back_r6, wsX9_back_r7, wsX9_back_r8, wsX9_back_r9, wsX9_back_r10, wsX90, wsX70, wsX10, wsX60, wsX40, wsX80, wsX30]
theorem ckX9_back_in : ∀ c ∈ ckX9_back, ∀ w ∈ c, w ∈ wsX9_back := List.forall_mem_cons.mpr ⟨fun _ h9 => List.mem_cons_of_mem _ (List.mem_append_left _ (List.mem_append_left _ (List.mem_append_left _ (List.mem_append_left _ (List.mem_append_left _ (List.mem_append_left _ (List.mem_append_left _ (List.mem_append_left _ h9)))))))), List.forall_mem_cons.mpr ⟨fun _ h9 => List.mem_cons_of_mem _ (List.mem_append_left _ (List.mem_append_left _ (List.mem_append_left _ (List.mem_append_left _ (List.mem_append_left _ (List.mem_append_left _ (List.mem_append_left _ (List.mem_append_right _ (List.mem_append_left _ h9))))))))), List.forall_mem_cons.mpr ⟨fun _ h9 => List.mem_cons_of_mem _ (List.mem_append_left _ (List.mem_append_left _ (List.mem_append_left _ (List.mem_append_left _ (List.mem_append_left _ (List.mem_append_left _ (List.mem_append_left _ (List.mem_append_right _ (List.mem_append_right _ (List.mem_append_left _ h9)))))))))), List.forall_mem_cons.mpr ⟨fun _ h9 => List.mem_cons_of_mem _ (List.mem_append_left _ (List.mem_append_left _ (List.mem_append_left _ (List.mem_append_left _ (List.mem_append_left _ (List.mem_append_left _ (List.mem_append_left _ (List.mem_append_right _ (List.mem_append_right _ (List.mem_append_right _ (List.mem_append_left _ h9))))))))))), List.forall_mem_cons.mpr ⟨fun _ h9 => List.mem_cons_of_mem _ (List.mem_append_left _ (List.mem_append_left _ (List.mem_append_left _ (List.mem_append_left _ (List.mem_append_left _ (List.mem_append_left _ (List.mem_append_left _ (List.mem_append_right _ (List.mem_append_right _ (List.mem_append_right _ (List.mem_append_right _ (List.mem_append_left _ h9)))))))))))), List.forall_mem_cons.mpr ⟨fun _ h9 => List.mem_cons_of_mem _ (List.mem_append_left _ (List.mem_append_left _ (List.mem_append_left _ (List.mem_append_left _ (List.mem_append_left _ (List.mem_append_left _ (List.mem_append_left _ (List.mem_append_right _ (List.mem_append_right _ (List.mem_append_right _ (List.mem_append_right _ (List.mem_append_right _ (List.mem_append_left _ h9))))))))))))), List.forall_mem_cons.mpr ⟨fun _ h9 => List.mem_cons_of_mem _ (List.mem_append_left _ (List.mem_append_left _ (List.mem_append_left _ (List.mem_append_left _ (List.mem_append_left _ (List.mem_append_left _ (List.mem_append_left _ (List.mem_append_right _ (List.mem_append_right _ (List.mem_append_right _ (List.mem_append_right _ (List.mem_append_right _ (List.mem_append_right _ (List.mem_append_left _ h9)))))))))))))), List.forall_mem_cons.mpr ⟨fun _ h9 => List.mem_cons_of_mem _ (List.mem_append_left _ (List.mem_append_left _ (List.mem_append_left _ (List.mem_append_left _ (List.mem_append_left _ (List.mem_append_left _ (List.mem_append_left _ (List.mem_append_right _ (List.mem_append_right _ (List.mem_append_right _ (List.mem_append_right _ (List.mem_append_right _ (List.mem_append_right _ (List.mem_append_right _ (List.mem_append_left _ h9))))))))))))))), List.forall_mem_cons.mpr ⟨fun _ h9 => List.mem_cons_of_mem _ (List.mem_append_left _ (List.mem_append_left _ (List.mem_append_left _ (List.mem_append_left _ (List.mem_append_left _ (List.mem_append_left _ (List.mem_append_left _ (List.mem_append_right _ (List.mem_append_right _ (List.mem_append_right _ (List.mem_append_right _ (List.mem_append_right _ (List.mem_append_right _ (List.mem_append_right _ (List.mem_append_right _ (List.mem_append_left _ h9)))))))))))))))), List.forall_mem_cons.mpr ⟨fun _ h9 => List.mem_cons_of_mem _ (List.mem_append_left _ (List.mem_append_left _ (List.mem_append_left _ (List.mem_append_left _ (List.mem_append_left _ (List.mem_append_left _ (List.mem_append_left _ (List.mem_append_right _ (List.mem_append_right _ (List.mem_append_right _ (List.mem_append_right _ (List.mem_append_right _ (List.mem_append_right _ (List.mem_append_right _ (List.mem_append_right _ (List.mem_append_right _ h9)))))))))))))))), List.forall_mem_cons.mpr ⟨fun _ h9 => List.mem_cons_of_mem _ (List.mem_append_left _ (List.mem_append_left _ (List.mem_append_left _ (List.mem_append_left _ (List.mem_append_left _ (List.mem_append_left _ (List.mem_append_right _ h9))))))), List.forall_mem_cons.mpr ⟨fun _ h9 => List.mem_cons_of_mem _ (List.mem_append_left _ (List.mem_append_left _ (List.mem_append_left _ (List.mem_append_left _ (List.mem_append_left _ (List.mem_append_right _ h9)))))), List.forall_mem_cons.mpr ⟨fun _ h9 => List.mem_cons_of_mem _ (List.mem_append_left _ (List.mem_append_left _ (List.mem_append_left _ (List.mem_append_left _ (List.mem_append_right _ h9))))), List.forall_mem_cons.mpr ⟨fun _ h9 => List.mem_cons_of_mem _ (List.mem_append_left _ (List.mem_append_left _ (List.mem_append_left _ (List.mem_append_right _ h9)))), List.forall_mem_cons.mpr ⟨fun _ h9 => List.mem_cons_of_mem _ (List.mem_append_left _ (List.mem_append_left _ (List.mem_append_right _ h9))), List.forall_mem_cons.mpr ⟨fun _ h9 => List.mem_cons_of_mem _ (List.mem_append_left _ (List.mem_append_right _ h9)), List.forall_mem_cons.mpr ⟨fun _ h9 => List.mem_cons_of_mem _ (List.mem_append_right _ h9), List.forall_mem_nil _⟩⟩⟩⟩⟩⟩⟩⟩⟩⟩⟩⟩⟩⟩⟩⟩⟩
set_option maxRecDepth 20000 in
theorem ggX9_back_X9_tell : GoodIn wsX9_back wsX9_tell := goodIn_k ckX9_back_in _ [(0, 11), (0, 12), (10, 0), (10, 1), (10, 2), (10, 3), (10, 4), (10, 5), (10, 6), (10, 7), (10, 8), (10, 9), (10, 10), (10, 11)] rfl (by decide +kernel)
set_option maxRecDepth 20000 in
theorem gX9_back_X9_tell : GoodIn wsX9_back (wsV RX9 74 RX9 yX9_tell wsX9_tell) := goodIn_app (goodIn_r ([.methodLink RX9 74 yX9_tell, .instanceMethod yX9_tell, .selects RX9 yX9_tell yX9_tell, .initialized RX9] : List Cond) [9, 10, 11, 7] rfl (by decide +kernel)) ggX9_back_X9_tell
set_option maxRecDepth 20000 in
theorem ggX9_back_X1_isThere : GoodIn wsX9_back wsX1_isThere := goodIn_k ckX9_back_in _ [(0, 17), (0, 18), (12, 0), (12, 1), (12, 2), (12, 3), (12, 4), (12, 5), (12, 6)] rfl (by decide +kernel)
set_option maxRecDepth 20000 in
theorem gX9_back_X1_isThere : GoodIn wsX9_back (wsV RX9 92 RX1 yX1_isThere wsX1_isThere) := goodIn_app (goodIn_r ([.methodLink RX9 92 yX1_isThere, .instanceMethod yX1_isThere, .selects RX1 yX1_isThere yX1_isThere, .initialized RX1] : List Cond) [14, 15, 16, 17] rfl (by decide +kernel)) ggX9_back_X1_isThere
set_option maxRecDepth 20000 in
theorem ggX9_back_X1_copy : GoodIn wsX9_back wsX1_copy := goodIn_k ckX9_back_in _ [(0, 22), (0, 18), (0, 23), (1, 0), (1, 1), (1, 2), (1, 3), (1, 4), (1, 5), (1, 6), (1, 7), (1, 8), (12, 0), (12, 1), (12, 2), (12, 3), (12, 4), (12, 5), (12, 6)] rfl (by decide +kernel)
set_option maxRecDepth 20000 in
theorem gX9_back_X1_copy : GoodIn wsX9_back (wsV RX9 239 RX1 yX1_copy wsX1_copy) := goodIn_app (goodIn_r ([.methodLink RX9 239 yX1_copy, .instanceMethod yX1_copy, .selects RX1 yX1_copy yX1_copy, .initialized RX1] : List Cond) [20, 21, 22, 17] rfl (by decide +kernel)) ggX9_back_X1_copy
set_option maxRecDepth 20000 in
theorem ggX9_back_X9_redraw : GoodIn wsX9_back wsX9_redraw := goodIn_k ckX9_back_in _ [(1, 12), (1, 13), (0, 1), (0, 2), (1, 14), (1, 15), (1, 16), (1, 17), (1, 18), (1, 19), (1, 20), (1, 21), (1, 22), (1, 23), (2, 0), (2, 1), (2, 2), (2, 3), (2, 4), (2, 5), (2, 6), (2, 7), (2, 8), (2, 9), (2, 10), (2, 11), (2, 12), (2, 13), (2, 14), (0, 6), (2, 15), (2, 16), (2, 17), (2, 18), (2, 19), (2, 20), (2, 21), (2, 22), (2, 23), (3, 0), (3, 1), (3, 2), (3, 3), (3, 4), (3, 5), (3, 6), (3, 7), (3, 8), (3, 9), (3, 10), (3, 11), (3, 12), (3, 13), (3, 14), (3, 15), (3, 16), (3, 17), (3, 18), (3, 19), (3, 20), (3, 21), (3, 22), (3, 23), (4, 0), (4, 1), (4, 2), (4, 3), (4, 4), (4, 5), (4, 6), (4, 7), (4, 8), (4, 9), (4, 10), (4, 11), (4, 12), (4, 13), (4, 14), (4, 15), (4, 16), (4, 17), (4, 18), (4, 19), (4, 20), (4, 21), (4, 22), (4, 23), (5, 0), (5, 1), (5, 2), (5, 3), (5, 4), (5, 5), (5, 6), (5, 7), (5, 8), (5, 9), (5, 10), (5, 11), (5, 12), (5, 13), (5, 14), (5, 15), (5, 16), (5, 17), (5, 18), (5, 19), (5, 20), (5, 21), (5, 22), (5, 23), (6, 0), (6, 1), (6, 2), (6, 3), (6, 4), (6, 5), (6, 6), (6, 7), (6, 8), (6, 9), (6, 10), (6, 11), (6, 12), (6, 13), (6, 14), (6, 15), (6, 16), (6, 17), (6, 18), (6, 19), (6, 20), (6, 21), (6, 22), (6, 23), (7, 0), (7, 1), (7, 2), (7, 3), (7, 4), (7, 5), (7, 6), (7, 7), (7, 8), (7, 9), (7, 10), (7, 11), (7, 12), (7, 13), (7, 14), (7, 15), (7, 16), (7, 17), (7, 18), (7, 19), (7, 20), (7, 21), (7, 22), (7, 23), (8, 0), (8, 1), (8, 2), (8, 3), (8, 4), (8, 5), (8, 6), (8, 7), (8, 8), (8, 9), (8, 10), (8, 11), (8, 12), (8, 13), (8, 14), (8, 15), (8, 16), (8, 17), (8, 18), (8, 19), (8, 20), (8, 21), (8, 22), (8, 23), (9, 0), (9, 1), (9, 2), (9, 3), (9, 4), (9, 5), (9, 6), (9, 7), (9, 8), (9, 9), (9, 10), (9, 11), (9, 12), (9, 13), (10, 0), (10, 1), (10, 2), (10, 3), (10, 4), (10, 5), (10, 6), (10, 7), (10, 8), (10, 9), (10, 10), (10, 11), (13, 0), (13, 1), (14, 0), (14, 1), (14, 2), (14, 3), (12, 0), (12, 1), (12, 2), (12, 3), (12, 4), (12, 5), (12, 6), (15, 0), (15, 1), (15, 2), (15, 3), (15, 4), (15, 5), (15, 6), (15, 7), (15, 8), (15, 9), (15, 10), (11, 0), (11, 1), (11, 2), (11, 3), (11, 4), (11, 5), (11, 6), (16, 0), (16, 1), (16, 2), (16, 3), (16, 4), (16, 5), (16, 6), (16, 7), (16, 8), (16, 9), (16, 10), (16, 11), (16, 12)] rfl (by decide +kernel)
set_option maxRecDepth 20000 in
theorem gX9_back_X9_redraw : GoodIn wsX9_back (wsV RX9 86 RX9 yX9_redraw wsX9_redraw) := goodIn_app (goodIn_r ([.methodLink RX9 86 yX9_redraw, .instanceMethod yX9_redraw, .selects RX9 yX9_redraw yX9_redraw, .initialized RX9] : List Cond) [34, 35, 36, 7] rfl (by decide +kernel)) ggX9_back_X9_redraw
theorem dX9_back_0 : decode cX9_back 0 = .ok (.iload_n 1, 1) := de_27 (by decide +kernel)
theorem dX9_back_1 : decode cX9_back 1 = .ok (.invokestatic 236, 3) := de_184 (by decide +kernel)
theorem dX9_back_4 : decode cX9_back 4 = .ok (.ifCond .ne 9, 3) := de_154 (by decide +kernel)
theorem dX9_back_7 : decode cX9_back 7 = .ok (.aload_n 0, 1) := de_42 (by decide +kernel)
theorem dX9_back_8 : decode cX9_back 8 = .ok (.iconst (-1), 1) := de_2 (by decide +kernel)
theorem dX9_back_9 : decode cX9_back 9 = .ok (.invokevirtual 74, 3) := de_182 (by decide +kernel)
theorem dX9_back_12 : decode cX9_back 12 = .ok (.ireturn, 1) := de_172 (by decide +kernel)
theorem dX9_back_13 : decode cX9_back 13 = .ok (.aload_n 0, 1) := de_42 (by decide +kernel)
theorem dX9_back_14 : decode cX9_back 14 = .ok (.getfield 16, 3) := de_180 (by decide +kernel)
theorem dX9_back_17 : decode cX9_back 17 = .ok (.iload_n 1, 1) := de_27 (by decide +kernel)
theorem dX9_back_18 : decode cX9_back 18 = .ok (.aaload, 1) := de_50 (by decide +kernel)
theorem dX9_back_19 : decode cX9_back 19 = .ok (.invokevirtual 92, 3) := de_182 (by decide +kernel)
theorem dX9_back_22 : decode cX9_back 22 = .ok (.ifCond .ne 10, 3) := de_154 (by decide +kernel)
theorem dX9_back_25 : decode cX9_back 25 = .ok (.aload_n 0, 1) := de_42 (by decide +kernel)
theorem dX9_back_26 : decode cX9_back 26 = .ok (.bipush (-4), 2) := de_16 (by decide +kernel)
theorem dX9_back_28 : decode cX9_back 28 = .ok (.invokevirtual 74, 3) := de_182 (by decide +kernel)
theorem dX9_back_31 : decode cX9_back 31 = .ok (.ireturn, 1) := de_172 (by decide +kernel)
theorem dX9_back_32 : decode cX9_back 32 = .ok (.aload_n 0, 1) := de_42 (by decide +kernel)
theorem dX9_back_33 : decode cX9_back 33 = .ok (.getfield 12, 3) := de_180 (by decide +kernel)
theorem dX9_back_36 : decode cX9_back 36 = .ok (.aload_n 0, 1) := de_42 (by decide +kernel)
theorem dX9_back_37 : decode cX9_back 37 = .ok (.getfield 16, 3) := de_180 (by decide +kernel)
theorem dX9_back_40 : decode cX9_back 40 = .ok (.iload_n 1, 1) := de_27 (by decide +kernel)
theorem dX9_back_41 : decode cX9_back 41 = .ok (.aaload, 1) := de_50 (by decide +kernel)
theorem dX9_back_42 : decode cX9_back 42 = .ok (.invokevirtual 239, 3) := de_182 (by decide +kernel)
theorem dX9_back_45 : decode cX9_back 45 = .ok (.aload_n 0, 1) := de_42 (by decide +kernel)
theorem dX9_back_46 : decode cX9_back 46 = .ok (.invokevirtual 86, 3) := de_182 (by decide +kernel)
theorem dX9_back_49 : decode cX9_back 49 = .ok (.aload_n 0, 1) := de_42 (by decide +kernel)
theorem dX9_back_50 : decode cX9_back 50 = .ok (.getfield 39, 3) := de_180 (by decide +kernel)
theorem dX9_back_53 : decode cX9_back 53 = .ok (.getfield 89, 3) := de_180 (by decide +kernel)
theorem dX9_back_56 : decode cX9_back 56 = .ok (.ireturn, 1) := de_172 (by decide +kernel)
set_option maxRecDepth 20000 in
theorem ggX9_alike_X9_isPlace : GoodIn wsX9_alike wsX9_isPlace := goodIn_r _ [7] rfl (by decide +kernel)
set_option maxRecDepth 20000 in
theorem gX9_alike_X9_isPlace : GoodIn wsX9_alike (va_wsS RX9 236 yX9_isPlace wsX9_isPlace) := goodIn_app (goodIn_r ([.methodLink RX9 236 yX9_isPlace, .static yX9_isPlace, .initialized yX9_isPlace.cls] : List Cond) [4, 5, 6] rfl (by decide +kernel)) ggX9_alike_X9_isPlace
def ckX9_alike : List (List Cond) := [wsX9_alike_r1, wsX9_alike_r2, wsX9_alike_r3, wsX9_alike_r4, wsX9_alike_r5, wsX9_alike_r6, wsX9_alike_r7, wsX9_alike_r8, wsX90, wsX10, wsX50, wsX60, wsX40, wsX80]
theorem ckX9_alike_in : ∀ c ∈ ckX9_alike, ∀ w ∈ c, w ∈ wsX9_alike := List.forall_mem_cons.mpr ⟨fun _ h9 => List.mem_cons_of_mem _ (List.mem_append_left _ (List.mem_append_left _ (List.mem_append_left _ (List.mem_append_left _ (List.mem_append_left _ (List.mem_append_left _ (List.mem_append_left _ h9))))))), List.forall_mem_cons.mpr ⟨fun _ h9 => List.mem_cons_of_mem _ (List.mem_append_left _ (List.mem_append_left _ (List.mem_append_left _ (List.mem_append_left _ (List.mem_append_left _ (List.mem_append_left _ (List.mem_append_right _ (List.mem_append_left _ h9)))))))), List.forall_mem_cons.mpr ⟨fun _ h9 => List.mem_cons_of_mem _ (List.mem_append_left _ (List.mem_append_left _ (List.mem_append_left _ (List.mem_append_left _ (List.mem_append_left _ (List.mem_append_left _ (List.mem_append_right _ (List.mem_append_right _ (List.mem_append_left _ h9))))))))), List.forall_mem_cons.mpr ⟨fun _ h9 => List.mem_cons_of_mem _ (List.mem_append_left _ (List.mem_append_left _ (List.mem_append_left _ (List.mem_append_left _ (List.mem_append_left _ (List.mem_append_left _ (List.mem_append_right _ (List.mem_append_right _ (List.mem_append_right _ (List.mem_append_left _ h9)))))))))), List.forall_mem_cons.mpr ⟨fun _ h9 => List.mem_cons_of_mem _ (List.mem_append_left _ (List.mem_append_left _ (List.mem_append_left _ (List.mem_append_left _ (List.mem_append_left _ (List.mem_append_left _ (List.mem_append_right _ (List.mem_append_right _ (List.mem_append_right _ (List.mem_append_right _ (List.mem_append_left _ h9))))))))))), List.forall_mem_cons.mpr ⟨fun _ h9 => List.mem_cons_of_mem _ (List.mem_append_left _ (List.mem_append_left _ (List.mem_append_left _ (List.mem_append_left _ (List.mem_append_left _ (List.mem_append_left _ (List.mem_append_right _ (List.mem_append_right _ (List.mem_append_right _ (List.mem_append_right _ (List.mem_append_right _ (List.mem_append_left _ h9)))))))))))), List.forall_mem_cons.mpr ⟨fun _ h9 => List.mem_cons_of_mem _ (List.mem_append_left _ (List.mem_append_left _ (List.mem_append_left _ (List.mem_append_left _ (List.mem_append_left _ (List.mem_append_left _ (List.mem_append_right _ (List.mem_append_right _ (List.mem_append_right _ (List.mem_append_right _ (List.mem_append_right _ (List.mem_append_right _ (List.mem_append_left _ h9))))))))))))), List.forall_mem_cons.mpr ⟨fun _ h9 => List.mem_cons_of_mem _ (List.mem_append_left _ (List.mem_append_left _ (List.mem_append_left _ (List.mem_append_left _ (List.mem_append_left _ (List.mem_append_left _ (List.mem_append_right _ (List.mem_append_right _ (List.mem_append_right _ (List.mem_append_right _ (List.mem_append_right _ (List.mem_append_right _ (List.mem_append_right _ h9))))))))))))), List.forall_mem_cons.mpr ⟨fun _ h9 => List.mem_cons_of_mem _ (List.mem_append_left _ (List.mem_append_left _ (List.mem_append_left _ (List.mem_append_left _ (List.mem_append_left _ (List.mem_append_right _ h9)))))), List.forall_mem_cons.mpr ⟨fun _ h9 => List.mem_cons_of_mem _ (List.mem_append_left _ (List.mem_append_left _ (List.mem_append_left _ (List.mem_append_left _ (List.mem_append_right _ h9))))), List.forall_mem_cons.mpr ⟨fun _ h9 => List.mem_cons_of_mem _ (List.mem_append_left _ (List.mem_append_left _ (List.mem_append_left _ (List.mem_append_right _ h9)))), List.forall_mem_cons.mpr ⟨fun _ h9 => List.mem_cons_of_mem _ (List.mem_append_left _ (List.mem_append_left _ (List.mem_append_right _ h9))), List.forall_mem_cons.mpr ⟨fun _ h9 => List.mem_cons_of_mem _ (List.mem_append_left _ (List.mem_append_right _ h9)), List.forall_mem_cons.mpr ⟨fun _ h9 => List.mem_cons_of_mem _ (List.mem_append_right _ h9), List.forall_mem_nil _⟩⟩⟩⟩⟩⟩⟩⟩⟩⟩⟩⟩⟩⟩
set_option maxRecDepth 20000 in
theorem ggX9_alike_X9_tell : GoodIn wsX9_alike wsX9_tell := goodIn_k ckX9_alike_in _ [(0, 10), (0, 11), (8, 0), (8, 1), (8, 2), (8, 3), (8, 4), (8, 5), (8, 6), (8, 7), (8, 8), (8, 9), (8, 10), (8, 11)] rfl (by decide +kernel)
set_option maxRecDepth 20000 in
theorem gX9_alike_X9_tell : GoodIn wsX9_alike (wsV RX9 74 RX9 yX9_tell wsX9_tell) := goodIn_app (goodIn_r ([.methodLink RX9 74 yX9_tell, .instanceMethod yX9_tell, .selects RX9 yX9_tell yX9_tell, .initialized RX9] : List Cond) [8, 9, 10, 6] rfl (by decide +kernel)) ggX9_alike_X9_tell
set_option maxRecDepth 20000 in
theorem ggX9_alike_X1_isThere : GoodIn wsX9_alike wsX1_isThere := goodIn_k ckX9_alike_in _ [(0, 16), (0, 17), (9, 0), (9, 1), (9, 2), (9, 3), (9, 4), (9, 5), (9, 6)] rfl (by decide +kernel)
set_option maxRecDepth 20000 in
theorem gX9_alike_X1_isThere : GoodIn wsX9_alike (wsV RX9 92 RX1 yX1_isThere wsX1_isThere) := goodIn_app (goodIn_r ([.methodLink RX9 92 yX1_isThere, .instanceMethod yX1_isThere, .selects RX1 yX1_isThere yX1_isThere, .initialized RX1] : List Cond) [13, 14, 15, 16] rfl (by decide +kernel)) ggX9_alike_X1_isThere
set_option maxRecDepth 20000 in
theorem ggX9_alike_X5_turnings : GoodIn wsX9_alike wsX5_turnings := goodIn_k ckX9_alike_in _ [(0, 22), (0, 23), (1, 0), (1, 1), (1, 2), (1, 3), (1, 4), (1, 5), (1, 6), (1, 7), (1, 8), (1, 9), (1, 10), (1, 11), (1, 12), (1, 13), (1, 14), (1, 15), (1, 16), (1, 17), (1, 18), (1, 19), (1, 20), (1, 21), (1, 22), (1, 23), (2, 0), (0, 5), (2, 1), (2, 2), (2, 3), (2, 4), (2, 5), (2, 6), (2, 7), (2, 8), (2, 9), (2, 10), (2, 11), (2, 12), (2, 13), (2, 14), (2, 15), (2, 16), (2, 17), (2, 18), (2, 19), (2, 20), (2, 21), (2, 22), (2, 23), (3, 0), (3, 1), (3, 2), (3, 3), (3, 4), (3, 5), (3, 6), (3, 7), (3, 8), (3, 9), (3, 10), (3, 11), (3, 12), (3, 13), (3, 14), (3, 15), (3, 16), (3, 17), (3, 18), (3, 19), (3, 20), (3, 21), (3, 22), (3, 23), (4, 0), (4, 1), (4, 2), (4, 3), (4, 4), (4, 5), (4, 6), (4, 7), (4, 8), (4, 9), (4, 10), (4, 11), (4, 12), (4, 13), (4, 14), (4, 15), (4, 16), (4, 17), (4, 18), (4, 19), (4, 20), (4, 21), (4, 22), (4, 23), (5, 0), (5, 1), (5, 2), (5, 3), (5, 4), (5, 5), (5, 6), (5, 7), (5, 8), (5, 9), (5, 10), (5, 11), (5, 12), (5, 13), (5, 14), (5, 15), (5, 16), (5, 17), (5, 18), (5, 19), (5, 20), (5, 21), (5, 22), (5, 23), (6, 0), (6, 1), (6, 2), (6, 3), (6, 4), (0, 21), (6, 5), (6, 6), (6, 7), (6, 8), (6, 9), (6, 10), (6, 11), (6, 12), (6, 13), (6, 14), (6, 15), (6, 16), (6, 17), (6, 18), (6, 19), (6, 20), (6, 21), (6, 22), (6, 23), (7, 0), (7, 1), (7, 2), (7, 3), (7, 4), (7, 5), (7, 6), (7, 7), (7, 8), (7, 9), (10, 0), (10, 1), (10, 2), (9, 0), (9, 1), (9, 2), (9, 3), (9, 4), (9, 5), (9, 6), (11, 0), (11, 1), (12, 0), (12, 1), (12, 2), (12, 3), (13, 0), (13, 1), (13, 2), (13, 3), (13, 4), (13, 5), (13, 6), (13, 7), (13, 8), (13, 9), (13, 10)] rfl (by decide +kernel)
set_option maxRecDepth 20000 in
theorem gX9_alike_X5_turnings : GoodIn wsX9_alike (wsV RX9 243 RX5 yX5_turnings wsX5_turnings) := goodIn_app (goodIn_r ([.methodLink RX9 243 yX5_turnings, .instanceMethod yX5_turnings, .selects RX5 yX5_turnings yX5_turnings, .initialized RX5] : List Cond) [19, 20, 21, 22] rfl (by decide +kernel)) ggX9_alike_X5_turnings
theorem dX9_alike_0 : decode cX9_alike 0 = .ok (.iload_n 1, 1) := de_27 (by decide +kernel)
theorem dX9_alike_1 : decode cX9_alike 1 = .ok (.invokestatic 236, 3) := de_184 (by decide +kernel)
theorem dX9_alike_4 : decode cX9_alike 4 = .ok (.ifCond .ne 9, 3) := de_154 (by decide +kernel)
theorem dX9_alike_7 : decode cX9_alike 7 = .ok (.aload_n 0, 1) := de_42 (by decide +kernel)
theorem dX9_alike_8 : decode cX9_alike 8 = .ok (.iconst (-1), 1) := de_2 (by decide +kernel)
theorem dX9_alike_9 : decode cX9_alike 9 = .ok (.invokevirtual 74, 3) := de_182 (by decide +kernel)
theorem dX9_alike_12 : decode cX9_alike 12 = .ok (.ireturn, 1) := de_172 (by decide +kernel)
theorem dX9_alike_13 : decode cX9_alike 13 = .ok (.aload_n 0, 1) := de_42 (by decide +kernel)
theorem dX9_alike_14 : decode cX9_alike 14 = .ok (.getfield 12, 3) := de_180 (by decide +kernel)
theorem dX9_alike_17 : decode cX9_alike 17 = .ok (.invokevirtual 92, 3) := de_182 (by decide +kernel)
theorem dX9_alike_20 : decode cX9_alike 20 = .ok (.ifCond .eq 15, 3) := de_153 (by decide +kernel)
theorem dX9_alike_23 : decode cX9_alike 23 = .ok (.aload_n 0, 1) := de_42 (by decide +kernel)
theorem dX9_alike_24 : decode cX9_alike 24 = .ok (.getfield 16, 3) := de_180 (by decide +kernel)
theorem dX9_alike_27 : decode cX9_alike 27 = .ok (.iload_n 1, 1) := de_27 (by decide +kernel)
theorem dX9_alike_28 : decode cX9_alike 28 = .ok (.aaload, 1) := de_50 (by decide +kernel)
theorem dX9_alike_29 : decode cX9_alike 29 = .ok (.invokevirtual 92, 3) := de_182 (by decide +kernel)
theorem dX9_alike_32 : decode cX9_alike 32 = .ok (.ifCond .ne 10, 3) := de_154 (by decide +kernel)
theorem dX9_alike_35 : decode cX9_alike 35 = .ok (.aload_n 0, 1) := de_42 (by decide +kernel)
theorem dX9_alike_36 : decode cX9_alike 36 = .ok (.bipush (-4), 2) := de_16 (by decide +kernel)
theorem dX9_alike_38 : decode cX9_alike 38 = .ok (.invokevirtual 74, 3) := de_182 (by decide +kernel)
theorem dX9_alike_41 : decode cX9_alike 41 = .ok (.ireturn, 1) := de_172 (by decide +kernel)
theorem dX9_alike_42 : decode cX9_alike 42 = .ok (.aload_n 0, 1) := de_42 (by decide +kernel)
theorem dX9_alike_43 : decode cX9_alike 43 = .ok (.getfield 53, 3) := de_180 (by decide +kernel)
theorem dX9_alike_46 : decode cX9_alike 46 = .ok (.aload_n 0, 1) := de_42 (by decide +kernel)
theorem dX9_alike_47 : decode cX9_alike 47 = .ok (.getfield 12, 3) := de_180 (by decide +kernel)
theorem dX9_alike_50 : decode cX9_alike 50 = .ok (.aload_n 0, 1) := de_42 (by decide +kernel)
theorem dX9_alike_51 : decode cX9_alike 51 = .ok (.getfield 16, 3) := de_180 (by decide +kernel)
theorem dX9_alike_54 : decode cX9_alike 54 = .ok (.iload_n 1, 1) := de_27 (by decide +kernel)
theorem dX9_alike_55 : decode cX9_alike 55 = .ok (.aaload, 1) := de_50 (by decide +kernel)
theorem dX9_alike_56 : decode cX9_alike 56 = .ok (.invokevirtual 243, 3) := de_182 (by decide +kernel)
theorem dX9_alike_59 : decode cX9_alike 59 = .ok (.ireturn, 1) := de_172 (by decide +kernel)
set_option maxRecDepth 20000 in
theorem ggX9_rack_X9_isPlace : GoodIn wsX9_rack wsX9_isPlace := goodIn_r _ [10] rfl (by decide +kernel)
set_option maxRecDepth 20000 in
theorem gX9_rack_X9_isPlace : GoodIn wsX9_rack (va_wsS RX9 236 yX9_isPlace wsX9_isPlace) := goodIn_app (goodIn_r ([.methodLink RX9 236 yX9_isPlace, .static yX9_isPlace, .initialized yX9_isPlace.cls] : List Cond) [7, 8, 9] rfl (by decide +kernel)) ggX9_rack_X9_isPlace
def ckX9_rack : List (List Cond) := [wsX9_rack_r1, wsX9_rack_r2, wsX90, wsX30, wsX10, wsX70]
theorem ckX9_rack_in : ∀ c ∈ ckX9_rack, ∀ w ∈ c, w ∈ wsX9_rack := List.forall_mem_cons.mpr ⟨fun _ h9 => List.mem_cons_of_mem _ (List.mem_append_left _ (List.mem_append_left _ (List.mem_append_left _ (List.mem_append_left _ (List.mem_append_left _ h9))))), List.forall_mem_cons.mpr ⟨fun _ h9 => List.mem_cons_of_mem _ (List.mem_append_left _ (List.mem_append_left _ (List.mem_append_left _ (List.mem_append_left _ (List.mem_append_right _ h9))))), List.forall_mem_cons.mpr ⟨fun _ h9 => List.mem_cons_of_mem _ (List.mem_append_left _ (List.mem_append_left _ (List.mem_append_left _ (List.mem_append_right _ h9)))), List.forall_mem_cons.mpr ⟨fun _ h9 => List.mem_cons_of_mem _ (List.mem_append_left _ (List.mem_append_left _ (List.mem_append_right _ h9))), List.forall_mem_cons.mpr ⟨fun _ h9 => List.mem_cons_of_mem _ (List.mem_append_left _ (List.mem_append_right _ h9)), List.forall_mem_cons.mpr ⟨fun _ h9 => List.mem_cons_of_mem _ (List.mem_append_right _ h9), List.forall_mem_nil _⟩⟩⟩⟩⟩⟩
set_option maxRecDepth 20000 in
theorem ggX9_rack_X9_tell : GoodIn wsX9_rack wsX9_tell := goodIn_k ckX9_rack_in _ [(0, 13), (0, 14), (2, 0), (2, 1), (2, 2), (2, 3), (2, 4), (2, 5), (2, 6), (2, 7), (2, 8), (2, 9), (2, 10), (2, 11)] rfl (by decide +kernel)
set_option maxRecDepth 20000 in
theorem gX9_rack_X9_tell : GoodIn wsX9_rack (wsV RX9 74 RX9 yX9_tell wsX9_tell) := goodIn_app (goodIn_r ([.methodLink RX9 74 yX9_tell, .instanceMethod yX9_tell, .selects RX9 yX9_tell yX9_tell, .initialized RX9] : List Cond) [11, 12, 13, 9] rfl (by decide +kernel)) ggX9_rack_X9_tell
set_option maxRecDepth 20000 in
theorem ggX9_rack_X1_isThere : GoodIn wsX9_rack wsX1_isThere := goodIn_k ckX9_rack_in _ [(0, 19), (0, 20), (4, 0), (4, 1), (4, 2), (4, 3), (4, 4), (4, 5), (4, 6)] rfl (by decide +kernel)
set_option maxRecDepth 20000 in
theorem gX9_rack_X1_isThere : GoodIn wsX9_rack (wsV RX9 92 RX1 yX1_isThere wsX1_isThere) := goodIn_app (goodIn_r ([.methodLink RX9 92 yX1_isThere, .instanceMethod yX1_isThere, .selects RX1 yX1_isThere yX1_isThere, .initialized RX1] : List Cond) [16, 17, 18, 19] rfl (by decide +kernel)) ggX9_rack_X1_isThere
set_option maxRecDepth 20000 in
theorem ggX9_rack_X9_hasPane : GoodIn wsX9_rack wsX9_hasPane := goodIn_k ckX9_rack_in _ [(1, 0), (1, 1), (1, 2), (2, 0), (2, 1), (2, 2), (2, 3), (2, 4), (2, 5), (2, 6), (2, 7), (2, 8), (2, 9), (2, 10), (2, 11), (5, 0), (5, 1), (5, 2), (5, 3), (5, 4), (5, 5), (5, 6)] rfl (by decide +kernel)
set_option maxRecDepth 20000 in
theorem gX9_rack_X9_hasPane : GoodIn wsX9_rack (wsV RX9 168 RX9 yX9_hasPane wsX9_hasPane) := goodIn_app (goodIn_r ([.methodLink RX9 168 yX9_hasPane, .instanceMethod yX9_hasPane, .selects RX9 yX9_hasPane yX9_hasPane, .initialized RX9] : List Cond) [22, 23, 24, 9] rfl (by decide +kernel)) ggX9_rack_X9_hasPane
theorem dX9_rack_0 : decode cX9_rack 0 = .ok (.iload_n 1, 1) := de_27 (by decide +kernel)
theorem dX9_rack_1 : decode cX9_rack 1 = .ok (.invokestatic 236, 3) := de_184 (by decide +kernel)
theorem dX9_rack_4 : decode cX9_rack 4 = .ok (.ifCond .ne 9, 3) := de_154 (by decide +kernel)
theorem dX9_rack_7 : decode cX9_rack 7 = .ok (.aload_n 0, 1) := de_42 (by decide +kernel)
theorem dX9_rack_8 : decode cX9_rack 8 = .ok (.iconst (-1), 1) := de_2 (by decide +kernel)
theorem dX9_rack_9 : decode cX9_rack 9 = .ok (.invokevirtual 74, 3) := de_182 (by decide +kernel)
theorem dX9_rack_12 : decode cX9_rack 12 = .ok (.ireturn, 1) := de_172 (by decide +kernel)
theorem dX9_rack_13 : decode cX9_rack 13 = .ok (.iload_n 2, 1) := de_28 (by decide +kernel)
theorem dX9_rack_14 : decode cX9_rack 14 = .ok (.iconst (-1), 1) := de_2 (by decide +kernel)
theorem dX9_rack_15 : decode cX9_rack 15 = .ok (.if_icmp .ne 12, 3) := de_160 (by decide +kernel)
theorem dX9_rack_18 : decode cX9_rack 18 = .ok (.aload_n 0, 1) := de_42 (by decide +kernel)
theorem dX9_rack_19 : decode cX9_rack 19 = .ok (.getfield 20, 3) := de_180 (by decide +kernel)
theorem dX9_rack_22 : decode cX9_rack 22 = .ok (.iload_n 1, 1) := de_27 (by decide +kernel)
theorem dX9_rack_23 : decode cX9_rack 23 = .ok (.iconst (-1), 1) := de_2 (by decide +kernel)
theorem dX9_rack_24 : decode cX9_rack 24 = .ok (.iastore, 1) := de_79 (by decide +kernel)
theorem dX9_rack_25 : decode cX9_rack 25 = .ok (.iconst 1, 1) := de_4 (by decide +kernel)
theorem dX9_rack_26 : decode cX9_rack 26 = .ok (.ireturn, 1) := de_172 (by decide +kernel)
theorem dX9_rack_27 : decode cX9_rack 27 = .ok (.aload_n 0, 1) := de_42 (by decide +kernel)
theorem dX9_rack_28 : decode cX9_rack 28 = .ok (.getfield 12, 3) := de_180 (by decide +kernel)
theorem dX9_rack_31 : decode cX9_rack 31 = .ok (.invokevirtual 92, 3) := de_182 (by decide +kernel)
theorem dX9_rack_34 : decode cX9_rack 34 = .ok (.ifCond .ne 10, 3) := de_154 (by decide +kernel)
theorem dX9_rack_37 : decode cX9_rack 37 = .ok (.aload_n 0, 1) := de_42 (by decide +kernel)
theorem dX9_rack_38 : decode cX9_rack 38 = .ok (.bipush (-4), 2) := de_16 (by decide +kernel)
theorem dX9_rack_40 : decode cX9_rack 40 = .ok (.invokevirtual 74, 3) := de_182 (by decide +kernel)
theorem dX9_rack_43 : decode cX9_rack 43 = .ok (.ireturn, 1) := de_172 (by decide +kernel)
theorem dX9_rack_44 : decode cX9_rack 44 = .ok (.aload_n 0, 1) := de_42 (by decide +kernel)
theorem dX9_rack_45 : decode cX9_rack 45 = .ok (.iload_n 2, 1) := de_28 (by decide +kernel)
theorem dX9_rack_46 : decode cX9_rack 46 = .ok (.invokevirtual 168, 3) := de_182 (by decide +kernel)
theorem dX9_rack_49 : decode cX9_rack 49 = .ok (.ifCond .ne 9, 3) := de_154 (by decide +kernel)
theorem dX9_rack_52 : decode cX9_rack 52 = .ok (.aload_n 0, 1) := de_42 (by decide +kernel)
theorem dX9_rack_53 : decode cX9_rack 53 = .ok (.iconst (-1), 1) := de_2 (by decide +kernel)
theorem dX9_rack_54 : decode cX9_rack 54 = .ok (.invokevirtual 74, 3) := de_182 (by decide +kernel)
theorem dX9_rack_57 : decode cX9_rack 57 = .ok (.ireturn, 1) := de_172 (by decide +kernel)
theorem dX9_rack_58 : decode cX9_rack 58 = .ok (.aload_n 0, 1) := de_42 (by decide +kernel)
theorem dX9_rack_59 : decode cX9_rack 59 = .ok (.getfield 20, 3) := de_180 (by decide +kernel)
theorem dX9_rack_62 : decode cX9_rack 62 = .ok (.iload_n 1, 1) := de_27 (by decide +kernel)
theorem dX9_rack_63 : decode cX9_rack 63 = .ok (.aload_n 0, 1) := de_42 (by decide +kernel)
theorem dX9_rack_64 : decode cX9_rack 64 = .ok (.getfield 46, 3) := de_180 (by decide +kernel)
theorem dX9_rack_67 : decode cX9_rack 67 = .ok (.getfield 189, 3) := de_180 (by decide +kernel)
theorem dX9_rack_70 : decode cX9_rack 70 = .ok (.iload_n 2, 1) := de_28 (by decide +kernel)
theorem dX9_rack_71 : decode cX9_rack 71 = .ok (.iaload, 1) := de_46 (by decide +kernel)
theorem dX9_rack_72 : decode cX9_rack 72 = .ok (.iastore, 1) := de_79 (by decide +kernel)
theorem dX9_rack_73 : decode cX9_rack 73 = .ok (.aload_n 0, 1) := de_42 (by decide +kernel)
theorem dX9_rack_74 : decode cX9_rack 74 = .ok (.getfield 24, 3) := de_180 (by decide +kernel)
theorem dX9_rack_77 : decode cX9_rack 77 = .ok (.iload_n 1, 1) := de_27 (by decide +kernel)
theorem dX9_rack_78 : decode cX9_rack 78 = .ok (.aload_n 0, 1) := de_42 (by decide +kernel)
theorem dX9_rack_79 : decode cX9_rack 79 = .ok (.getfield 46, 3) := de_180 (by decide +kernel)
theorem dX9_rack_82 : decode cX9_rack 82 = .ok (.getfield 192, 3) := de_180 (by decide +kernel)
theorem dX9_rack_85 : decode cX9_rack 85 = .ok (.iload_n 2, 1) := de_28 (by decide +kernel)
theorem dX9_rack_86 : decode cX9_rack 86 = .ok (.iaload, 1) := de_46 (by decide +kernel)
theorem dX9_rack_87 : decode cX9_rack 87 = .ok (.iastore, 1) := de_79 (by decide +kernel)
theorem dX9_rack_88 : decode cX9_rack 88 = .ok (.iconst 1, 1) := de_4 (by decide +kernel)
theorem dX9_rack_89 : decode cX9_rack 89 = .ok (.ireturn, 1) := de_172 (by decide +kernel)
set_option maxRecDepth 20000 in
theorem ggX9_as_X9_isPlace : GoodIn wsX9_as wsX9_isPlace := goodIn_r _ [6] rfl (by decide +kernel)
set_option maxRecDepth 20000 in
theorem gX9_as_X9_isPlace : GoodIn wsX9_as (va_wsS RX9 236 yX9_isPlace wsX9_isPlace) := goodIn_app (goodIn_r ([.methodLink RX9 236 yX9_isPlace, .static yX9_isPlace, .initialized yX9_isPlace.cls] : List Cond) [3, 4, 5] rfl (by decide +kernel)) ggX9_as_X9_isPlace
set_option maxRecDepth 20000 in
theorem ggX9_as_X9_isKind : GoodIn wsX9_as wsX9_isKind := goodIn_r _ [9] rfl (by decide +kernel)
set_option maxRecDepth 20000 in
theorem gX9_as_X9_isKind : GoodIn wsX9_as (va_wsS RX9 212 yX9_isKind wsX9_isKind) := goodIn_app (goodIn_r ([.methodLink RX9 212 yX9_isKind, .static yX9_isKind, .initialized yX9_isKind.cls] : List Cond) [7, 8, 5] rfl (by decide +kernel)) ggX9_as_X9_isKind
set_option maxRecDepth 20000 in
theorem ggX9_as_X9_tell : GoodIn wsX9_as wsX9_tell := goodIn_r _ [13, 14, 15, 16, 17, 18, 19, 20, 21, 22, 23, 24, 25, 26] rfl (by decide +kernel)
set_option maxRecDepth 20000 in
theorem gX9_as_X9_tell : GoodIn wsX9_as (wsV RX9 74 RX9 yX9_tell wsX9_tell) := goodIn_app (goodIn_r ([.methodLink RX9 74 yX9_tell, .instanceMethod yX9_tell, .selects RX9 yX9_tell yX9_tell, .initialized RX9] : List Cond) [10, 11, 12, 5] rfl (by decide +kernel)) ggX9_as_X9_tell
theorem dX9_as_0 : decode cX9_as 0 = .ok (.iload_n 1, 1) := de_27 (by decide +kernel)
theorem dX9_as_1 : decode cX9_as 1 = .ok (.invokestatic 236, 3) := de_184 (by decide +kernel)
theorem dX9_as_4 : decode cX9_as 4 = .ok (.ifCond .eq 10, 3) := de_153 (by decide +kernel)
theorem dX9_as_7 : decode cX9_as 7 = .ok (.iload_n 2, 1) := de_28 (by decide +kernel)
theorem dX9_as_8 : decode cX9_as 8 = .ok (.invokestatic 212, 3) := de_184 (by decide +kernel)
theorem dX9_as_11 : decode cX9_as 11 = .ok (.ifCond .ne 9, 3) := de_154 (by decide +kernel)
theorem dX9_as_14 : decode cX9_as 14 = .ok (.aload_n 0, 1) := de_42 (by decide +kernel)
theorem dX9_as_15 : decode cX9_as 15 = .ok (.iconst (-1), 1) := de_2 (by decide +kernel)
theorem dX9_as_16 : decode cX9_as 16 = .ok (.invokevirtual 74, 3) := de_182 (by decide +kernel)
theorem dX9_as_19 : decode cX9_as 19 = .ok (.ireturn, 1) := de_172 (by decide +kernel)
theorem dX9_as_20 : decode cX9_as 20 = .ok (.aload_n 0, 1) := de_42 (by decide +kernel)
theorem dX9_as_21 : decode cX9_as 21 = .ok (.getfield 20, 3) := de_180 (by decide +kernel)
theorem dX9_as_24 : decode cX9_as 24 = .ok (.iload_n 1, 1) := de_27 (by decide +kernel)
theorem dX9_as_25 : decode cX9_as 25 = .ok (.iaload, 1) := de_46 (by decide +kernel)
theorem dX9_as_26 : decode cX9_as 26 = .ok (.iconst (-1), 1) := de_2 (by decide +kernel)
theorem dX9_as_27 : decode cX9_as 27 = .ok (.if_icmp .ne 10, 3) := de_160 (by decide +kernel)
theorem dX9_as_30 : decode cX9_as 30 = .ok (.aload_n 0, 1) := de_42 (by decide +kernel)
theorem dX9_as_31 : decode cX9_as 31 = .ok (.bipush (-4), 2) := de_16 (by decide +kernel)
theorem dX9_as_33 : decode cX9_as 33 = .ok (.invokevirtual 74, 3) := de_182 (by decide +kernel)
theorem dX9_as_36 : decode cX9_as 36 = .ok (.ireturn, 1) := de_172 (by decide +kernel)
theorem dX9_as_37 : decode cX9_as 37 = .ok (.aload_n 0, 1) := de_42 (by decide +kernel)
theorem dX9_as_38 : decode cX9_as 38 = .ok (.getfield 20, 3) := de_180 (by decide +kernel)
theorem dX9_as_41 : decode cX9_as 41 = .ok (.iload_n 1, 1) := de_27 (by decide +kernel)
theorem dX9_as_42 : decode cX9_as 42 = .ok (.iaload, 1) := de_46 (by decide +kernel)
theorem dX9_as_43 : decode cX9_as 43 = .ok (.iload_n 2, 1) := de_28 (by decide +kernel)
theorem dX9_as_44 : decode cX9_as 44 = .ok (.if_icmp .ge 10, 3) := de_162 (by decide +kernel)
theorem dX9_as_47 : decode cX9_as 47 = .ok (.aload_n 0, 1) := de_42 (by decide +kernel)
theorem dX9_as_48 : decode cX9_as 48 = .ok (.bipush (-5), 2) := de_16 (by decide +kernel)
theorem dX9_as_50 : decode cX9_as 50 = .ok (.invokevirtual 74, 3) := de_182 (by decide +kernel)
theorem dX9_as_53 : decode cX9_as 53 = .ok (.ireturn, 1) := de_172 (by decide +kernel)
theorem dX9_as_54 : decode cX9_as 54 = .ok (.aload_n 0, 1) := de_42 (by decide +kernel)
theorem dX9_as_55 : decode cX9_as 55 = .ok (.getfield 24, 3) := de_180 (by decide +kernel)
theorem dX9_as_58 : decode cX9_as 58 = .ok (.iload_n 1, 1) := de_27 (by decide +kernel)
theorem dX9_as_59 : decode cX9_as 59 = .ok (.iaload, 1) := de_46 (by decide +kernel)
theorem dX9_as_60 : decode cX9_as 60 = .ok (.ireturn, 1) := de_172 (by decide +kernel)
set_option maxRecDepth 20000 in
theorem ggX9_found_X9_tell : GoodIn wsX9_found wsX9_tell := goodIn_r _ [6, 1, 7, 8, 9, 10, 11, 12, 13, 14, 15, 16, 17, 18] rfl (by decide +kernel)
set_option maxRecDepth 20000 in
theorem gX9_found_X9_tell : GoodIn wsX9_found (wsV RX9 74 RX9 yX9_tell wsX9_tell) := goodIn_app (goodIn_r ([.methodLink RX9 74 yX9_tell, .instanceMethod yX9_tell, .selects RX9 yX9_tell yX9_tell, .initialized RX9] : List Cond) [2, 3, 4, 5] rfl (by decide +kernel)) ggX9_found_X9_tell
theorem dX9_found_0 : decode cX9_found 0 = .ok (.iload_n 1, 1) := de_27 (by decide +kernel)
theorem dX9_found_1 : decode cX9_found 1 = .ok (.ifCond .ge 9, 3) := de_156 (by decide +kernel)
theorem dX9_found_4 : decode cX9_found 4 = .ok (.iload_n 1, 1) := de_27 (by decide +kernel)
theorem dX9_found_5 : decode cX9_found 5 = .ok (.bipush (-7), 2) := de_16 (by decide +kernel)
theorem dX9_found_7 : decode cX9_found 7 = .ok (.if_icmp .ge 9, 3) := de_162 (by decide +kernel)
theorem dX9_found_10 : decode cX9_found 10 = .ok (.aload_n 0, 1) := de_42 (by decide +kernel)
theorem dX9_found_11 : decode cX9_found 11 = .ok (.iconst (-1), 1) := de_2 (by decide +kernel)
theorem dX9_found_12 : decode cX9_found 12 = .ok (.invokevirtual 74, 3) := de_182 (by decide +kernel)
theorem dX9_found_15 : decode cX9_found 15 = .ok (.ireturn, 1) := de_172 (by decide +kernel)
theorem dX9_found_16 : decode cX9_found 16 = .ok (.aload_n 0, 1) := de_42 (by decide +kernel)
theorem dX9_found_17 : decode cX9_found 17 = .ok (.getfield 71, 3) := de_180 (by decide +kernel)
theorem dX9_found_20 : decode cX9_found 20 = .ok (.iload_n 1, 1) := de_27 (by decide +kernel)
theorem dX9_found_21 : decode cX9_found 21 = .ok (.ineg, 1) := de_116 (by decide +kernel)
theorem dX9_found_22 : decode cX9_found 22 = .ok (.iaload, 1) := de_46 (by decide +kernel)
theorem dX9_found_23 : decode cX9_found 23 = .ok (.ireturn, 1) := de_172 (by decide +kernel)
theorem dX9_tell_0 : decode cX9_tell 0 = .ok (.iload_n 1, 1) := de_27 (by decide +kernel)
theorem dX9_tell_1 : decode cX9_tell 1 = .ok (.ifCond .ge 20, 3) := de_156 (by decide +kernel)
theorem dX9_tell_4 : decode cX9_tell 4 = .ok (.iload_n 1, 1) := de_27 (by decide +kernel)
theorem dX9_tell_5 : decode cX9_tell 5 = .ok (.bipush (-7), 2) := de_16 (by decide +kernel)
theorem dX9_tell_7 : decode cX9_tell 7 = .ok (.if_icmp .lt 14, 3) := de_161 (by decide +kernel)
theorem dX9_tell_10 : decode cX9_tell 10 = .ok (.aload_n 0, 1) := de_42 (by decide +kernel)
theorem dX9_tell_11 : decode cX9_tell 11 = .ok (.getfield 71, 3) := de_180 (by decide +kernel)
theorem dX9_tell_14 : decode cX9_tell 14 = .ok (.iload_n 1, 1) := de_27 (by decide +kernel)
theorem dX9_tell_15 : decode cX9_tell 15 = .ok (.ineg, 1) := de_116 (by decide +kernel)
theorem dX9_tell_16 : decode cX9_tell 16 = .ok (.dup2, 1) := de_92 (by decide +kernel)
theorem dX9_tell_17 : decode cX9_tell 17 = .ok (.iaload, 1) := de_46 (by decide +kernel)
theorem dX9_tell_18 : decode cX9_tell 18 = .ok (.iconst 1, 1) := de_4 (by decide +kernel)
theorem dX9_tell_19 : decode cX9_tell 19 = .ok (.iadd, 1) := de_96 (by decide +kernel)
theorem dX9_tell_20 : decode cX9_tell 20 = .ok (.iastore, 1) := de_79 (by decide +kernel)
theorem dX9_tell_21 : decode cX9_tell 21 = .ok (.iload_n 1, 1) := de_27 (by decide +kernel)
theorem dX9_tell_22 : decode cX9_tell 22 = .ok (.ireturn, 1) := de_172 (by decide +kernel)
theorem dX9_hasJoint_0 : decode cX9_hasJoint 0 = .ok (.iload_n 1, 1) := de_27 (by decide +kernel)
theorem dX9_hasJoint_1 : decode cX9_hasJoint 1 = .ok (.ifCond .lt 21, 3) := de_155 (by decide +kernel)
theorem dX9_hasJoint_4 : decode cX9_hasJoint 4 = .ok (.iload_n 1, 1) := de_27 (by decide +kernel)
theorem dX9_hasJoint_5 : decode cX9_hasJoint 5 = .ok (.aload_n 0, 1) := de_42 (by decide +kernel)
theorem dX9_hasJoint_6 : decode cX9_hasJoint 6 = .ok (.getfield 30, 3) := de_180 (by decide +kernel)
theorem dX9_hasJoint_9 : decode cX9_hasJoint 9 = .ok (.getfield 117, 3) := de_180 (by decide +kernel)
theorem dX9_hasJoint_12 : decode cX9_hasJoint 12 = .ok (.getfield 121, 3) := de_180 (by decide +kernel)
theorem dX9_hasJoint_15 : decode cX9_hasJoint 15 = .ok (.if_icmp .ge 7, 3) := de_162 (by decide +kernel)
theorem dX9_hasJoint_18 : decode cX9_hasJoint 18 = .ok (.iconst 1, 1) := de_4 (by decide +kernel)
theorem dX9_hasJoint_19 : decode cX9_hasJoint 19 = .ok (.goto 4, 3) := de_167 (by decide +kernel)
theorem dX9_hasJoint_22 : decode cX9_hasJoint 22 = .ok (.iconst 0, 1) := de_3 (by decide +kernel)
theorem dX9_hasJoint_23 : decode cX9_hasJoint 23 = .ok (.ireturn, 1) := de_172 (by decide +kernel)
theorem dX9_hasPane_0 : decode cX9_hasPane 0 = .ok (.iload_n 1, 1) := de_27 (by decide +kernel)
theorem dX9_hasPane_1 : decode cX9_hasPane 1 = .ok (.ifCond .lt 18, 3) := de_155 (by decide +kernel)
theorem dX9_hasPane_4 : decode cX9_hasPane 4 = .ok (.iload_n 1, 1) := de_27 (by decide +kernel)
theorem dX9_hasPane_5 : decode cX9_hasPane 5 = .ok (.aload_n 0, 1) := de_42 (by decide +kernel)
theorem dX9_hasPane_6 : decode cX9_hasPane 6 = .ok (.getfield 39, 3) := de_180 (by decide +kernel)
theorem dX9_hasPane_9 : decode cX9_hasPane 9 = .ok (.getfield 89, 3) := de_180 (by decide +kernel)
theorem dX9_hasPane_12 : decode cX9_hasPane 12 = .ok (.if_icmp .ge 7, 3) := de_162 (by decide +kernel)
theorem dX9_hasPane_15 : decode cX9_hasPane 15 = .ok (.iconst 1, 1) := de_4 (by decide +kernel)
theorem dX9_hasPane_16 : decode cX9_hasPane 16 = .ok (.goto 4, 3) := de_167 (by decide +kernel)
theorem dX9_hasPane_19 : decode cX9_hasPane 19 = .ok (.iconst 0, 1) := de_3 (by decide +kernel)
theorem dX9_hasPane_20 : decode cX9_hasPane 20 = .ok (.ireturn, 1) := de_172 (by decide +kernel)
theorem dX9_isPlace_0 : decode cX9_isPlace 0 = .ok (.iload_n 0, 1) := de_26 (by decide +kernel)
theorem dX9_isPlace_1 : decode cX9_isPlace 1 = .ok (.ifCond .lt 12, 3) := de_155 (by decide +kernel)
theorem dX9_isPlace_4 : decode cX9_isPlace 4 = .ok (.iload_n 0, 1) := de_26 (by decide +kernel)
theorem dX9_isPlace_5 : decode cX9_isPlace 5 = .ok (.iconst 4, 1) := de_7 (by decide +kernel)
theorem dX9_isPlace_6 : decode cX9_isPlace 6 = .ok (.if_icmp .ge 7, 3) := de_162 (by decide +kernel)
theorem dX9_isPlace_9 : decode cX9_isPlace 9 = .ok (.iconst 1, 1) := de_4 (by decide +kernel)
theorem dX9_isPlace_10 : decode cX9_isPlace 10 = .ok (.goto 4, 3) := de_167 (by decide +kernel)
theorem dX9_isPlace_13 : decode cX9_isPlace 13 = .ok (.iconst 0, 1) := de_3 (by decide +kernel)
theorem dX9_isPlace_14 : decode cX9_isPlace 14 = .ok (.ireturn, 1) := de_172 (by decide +kernel)
theorem dX9_isKind_0 : decode cX9_isKind 0 = .ok (.iload_n 0, 1) := de_26 (by decide +kernel)
theorem dX9_isKind_1 : decode cX9_isKind 1 = .ok (.ifCond .eq 13, 3) := de_153 (by decide +kernel)
theorem dX9_isKind_4 : decode cX9_isKind 4 = .ok (.iload_n 0, 1) := de_26 (by decide +kernel)
theorem dX9_isKind_5 : decode cX9_isKind 5 = .ok (.iconst 1, 1) := de_4 (by decide +kernel)
theorem dX9_isKind_6 : decode cX9_isKind 6 = .ok (.if_icmp .eq 8, 3) := de_159 (by decide +kernel)
theorem dX9_isKind_9 : decode cX9_isKind 9 = .ok (.iload_n 0, 1) := de_26 (by decide +kernel)
theorem dX9_isKind_10 : decode cX9_isKind 10 = .ok (.iconst 2, 1) := de_5 (by decide +kernel)
theorem dX9_isKind_11 : decode cX9_isKind 11 = .ok (.if_icmp .ne 7, 3) := de_160 (by decide +kernel)
theorem dX9_isKind_14 : decode cX9_isKind 14 = .ok (.iconst 1, 1) := de_4 (by decide +kernel)
theorem dX9_isKind_15 : decode cX9_isKind 15 = .ok (.goto 4, 3) := de_167 (by decide +kernel)
theorem dX9_isKind_18 : decode cX9_isKind 18 = .ok (.iconst 0, 1) := de_3 (by decide +kernel)
theorem dX9_isKind_19 : decode cX9_isKind 19 = .ok (.ireturn, 1) := de_172 (by decide +kernel)
theorem dX9_isSide_0 : decode cX9_isSide 0 = .ok (.iload_n 0, 1) := de_26 (by decide +kernel)
theorem dX9_isSide_1 : decode cX9_isSide 1 = .ok (.iconst 1, 1) := de_4 (by decide +kernel)
theorem dX9_isSide_2 : decode cX9_isSide 2 = .ok (.if_icmp .lt 13, 3) := de_161 (by decide +kernel)
theorem dX9_isSide_5 : decode cX9_isSide 5 = .ok (.iload_n 0, 1) := de_26 (by decide +kernel)
theorem dX9_isSide_6 : decode cX9_isSide 6 = .ok (.bipush 12, 2) := de_16 (by decide +kernel)
theorem dX9_isSide_8 : decode cX9_isSide 8 = .ok (.if_icmp .gt 7, 3) := de_163 (by decide +kernel)
theorem dX9_isSide_11 : decode cX9_isSide 11 = .ok (.iconst 1, 1) := de_4 (by decide +kernel)
theorem dX9_isSide_12 : decode cX9_isSide 12 = .ok (.goto 4, 3) := de_167 (by decide +kernel)
theorem dX9_isSide_15 : decode cX9_isSide 15 = .ok (.iconst 0, 1) := de_3 (by decide +kernel)
theorem dX9_isSide_16 : decode cX9_isSide 16 = .ok (.ireturn, 1) := de_172 (by decide +kernel)
def ckX9_redraw : List (List Cond) := [wsX9_redraw_r1, wsX9_redraw_r2, wsX9_redraw_r3, wsX9_redraw_r4, wsX9_redraw_r5, wsX9_redraw_r6, wsX9_redraw_r7, wsX9_redraw_r8, wsX9_redraw_r9, wsX90, wsX60, wsX40, wsX10, wsX80, wsX70, wsX30]
theorem ckX9_redraw_in : ∀ c ∈ ckX9_redraw, ∀ w ∈ c, w ∈ wsX9_redraw := List.forall_mem_cons.mpr ⟨fun _ h9 => List.mem_cons_of_mem _ (List.mem_append_left _ (List.mem_append_left _ (List.mem_append_left _ (List.mem_append_left _ (List.mem_append_left _ (List.mem_append_left _ (List.mem_append_left _ (List.mem_append_left _ h9)))))))), List.forall_mem_cons.mpr ⟨fun _ h9 => List.mem_cons_of_mem _ (List.mem_append_left _ (List.mem_append_left _ (List.mem_append_left _ (List.mem_append_left _ (List.mem_append_left _ (List.mem_append_left _ (List.mem_append_left _ (List.mem_append_right _ (List.mem_append_left _ h9))))))))), List.forall_mem_cons.mpr ⟨fun _ h9 => List.mem_cons_of_mem _ (List.mem_append_left _ (List.mem_append_left _ (List.mem_append_left _ (List.mem_append_left _ (List.mem_append_left _ (List.mem_append_left _ (List.mem_append_left _ (List.mem_append_right _ (List.mem_append_right _ (List.mem_append_left _ h9)))))))))), List.forall_mem_cons.mpr ⟨fun _ h9 => List.mem_cons_of_mem _ (List.mem_append_left _ (List.mem_append_left _ (List.mem_append_left _ (List.mem_append_left _ (List.mem_append_left _ (List.mem_append_left _ (List.mem_append_left _ (List.mem_append_right _ (List.mem_append_right _ (List.mem_append_right _ (List.mem_append_left _ h9))))))))))), List.forall_mem_cons.mpr ⟨fun _ h9 => List.mem_cons_of_mem _ (List.mem_append_left _ (List.mem_append_left _ (List.mem_append_left _ (List.mem_append_left _ (List.mem_append_left _ (List.mem_append_left _ (List.mem_append_left _ (List.mem_append_right _ (List.mem_append_right _ (List.mem_append_right _ (List.mem_append_right _ (List.mem_append_left _ h9)))))))))))), List.forall_mem_cons.mpr ⟨fun _ h9 => List.mem_cons_of_mem _ (List.mem_append_left _ (List.mem_append_left _ (List.mem_append_left _ (List.mem_append_left _ (List.mem_append_left _ (List.mem_append_left _ (List.mem_append_left _ (List.mem_append_right _ (List.mem_append_right _ (List.mem_append_right _ (List.mem_append_right _ (List.mem_append_right _ (List.mem_append_left _ h9))))))))))))), List.forall_mem_cons.mpr ⟨fun _ h9 => List.mem_cons_of_mem _ (List.mem_append_left _ (List.mem_append_left _ (List.mem_append_left _ (List.mem_append_left _ (List.mem_append_left _ (List.mem_append_left _ (List.mem_append_left _ (List.mem_append_right _ (List.mem_append_right _ (List.mem_append_right _ (List.mem_append_right _ (List.mem_append_right _ (List.mem_append_right _ (List.mem_append_left _ h9)))))))))))))), List.forall_mem_cons.mpr ⟨fun _ h9 => List.mem_cons_of_mem _ (List.mem_append_left _ (List.mem_append_left _ (List.mem_append_left _ (List.mem_append_left _ (List.mem_append_left _ (List.mem_append_left _ (List.mem_append_left _ (List.mem_append_right _ (List.mem_append_right _ (List.mem_append_right _ (List.mem_append_right _ (List.mem_append_right _ (List.mem_append_right _ (List.mem_append_right _ (List.mem_append_left _ h9))))))))))))))), List.forall_mem_cons.mpr ⟨fun _ h9 => List.mem_cons_of_mem _ (List.mem_append_left _ (List.mem_append_left _ (List.mem_append_left _ (List.mem_append_left _ (List.mem_append_left _ (List.mem_append_left _ (List.mem_append_left _ (List.mem_append_right _ (List.mem_append_right _ (List.mem_append_right _ (List.mem_append_right _ (List.mem_append_right _ (List.mem_append_right _ (List.mem_append_right _ (List.mem_append_right _ h9))))))))))))))), List.forall_mem_cons.mpr ⟨fun _ h9 => List.mem_cons_of_mem _ (List.mem_append_left _ (List.mem_append_left _ (List.mem_append_left _ (List.mem_append_left _ (List.mem_append_left _ (List.mem_append_left _ (List.mem_append_right _ h9))))))), List.forall_mem_cons.mpr ⟨fun _ h9 => List.mem_cons_of_mem _ (List.mem_append_left _ (List.mem_append_left _ (List.mem_append_left _ (List.mem_append_left _ (List.mem_append_left _ (List.mem_append_right _ h9)))))), List.forall_mem_cons.mpr ⟨fun _ h9 => List.mem_cons_of_mem _ (List.mem_append_left _ (List.mem_append_left _ (List.mem_append_left _ (List.mem_append_left _ (List.mem_append_right _ h9))))), List.forall_mem_cons.mpr ⟨fun _ h9 => List.mem_cons_of_mem _ (List.mem_append_left _ (List.mem_append_left _ (List.mem_append_left _ (List.mem_append_right _ h9)))), List.forall_mem_cons.mpr ⟨fun _ h9 => List.mem_cons_of_mem _ (List.mem_append_left _ (List.mem_append_left _ (List.mem_append_right _ h9))), List.forall_mem_cons.mpr ⟨fun _ h9 => List.mem_cons_of_mem _ (List.mem_append_left _ (List.mem_append_right _ h9)), List.forall_mem_cons.mpr ⟨fun _ h9 => List.mem_cons_of_mem _ (List.mem_append_right _ h9), List.forall_mem_nil _⟩⟩⟩⟩⟩⟩⟩⟩⟩⟩⟩⟩⟩⟩⟩⟩
set_option maxRecDepth 20000 in
theorem ggX9_redraw_X6_lay : GoodIn wsX9_redraw wsX6_lay := goodIn_k ckX9_redraw_in _ [(0, 9), (0, 10), (0, 11), (0, 12), (0, 13), (0, 14), (0, 15), (0, 16), (0, 17), (0, 18), (0, 19), (0, 20), (0, 21), (0, 22), (0, 23), (1, 0), (1, 1), (1, 2), (1, 3), (1, 4), (1, 5), (1, 6), (1, 7), (1, 8), (1, 9), (1, 10), (1, 11), (1, 12), (1, 13), (1, 14), (1, 15), (1, 16), (1, 17), (1, 18), (1, 19), (1, 20), (1, 21), (1, 22), (1, 23), (2, 0), (2, 1), (2, 2), (2, 3), (2, 4), (2, 5), (2, 6), (2, 7), (2, 8), (2, 9), (2, 10), (2, 11), (2, 12), (2, 13), (2, 14), (2, 15), (2, 16), (2, 17), (2, 18), (2, 19), (2, 20), (2, 21), (2, 22), (2, 23), (3, 0), (3, 1), (3, 2), (3, 3), (3, 4), (3, 5), (3, 6), (3, 7), (3, 8), (3, 9), (3, 10), (3, 11), (3, 12), (3, 13), (3, 14), (3, 15), (3, 16), (3, 17), (3, 18), (3, 19), (3, 20), (3, 21), (3, 22), (3, 23), (4, 0), (4, 1), (4, 2), (4, 3), (4, 4), (4, 5), (4, 6), (4, 7), (4, 8), (4, 9), (4, 10), (4, 11), (4, 12), (4, 13), (4, 14), (4, 15), (4, 16), (4, 17), (4, 18), (4, 19), (4, 20), (4, 21), (4, 22), (4, 23), (5, 0), (5, 1), (5, 2), (5, 3), (5, 4), (5, 5), (10, 0), (10, 1), (11, 0), (11, 1), (11, 2), (11, 3), (12, 0), (12, 1), (12, 2), (12, 3), (12, 4), (12, 5), (12, 6), (13, 0), (13, 1), (13, 2), (13, 3), (13, 4), (13, 5), (13, 6), (13, 7), (13, 8), (13, 9), (13, 10)] rfl (by decide +kernel)
set_option maxRecDepth 20000 in
theorem gX9_redraw_X6_lay : GoodIn wsX9_redraw (wsV RX9 247 RX6 yX6_lay wsX6_lay) := goodIn_app (goodIn_r ([.methodLink RX9 247 yX6_lay, .instanceMethod yX6_lay, .selects RX6 yX6_lay yX6_lay, .initialized RX6] : List Cond) [6, 7, 8, 9] rfl (by decide +kernel)) ggX9_redraw_X6_lay
set_option maxRecDepth 20000 in
theorem ggX9_redraw_X7_find : GoodIn wsX9_redraw wsX7_find := goodIn_k ckX9_redraw_in _ [(5, 10), (5, 11), (5, 12), (5, 13), (5, 14), (5, 15), (5, 16), (5, 17), (5, 18), (5, 19), (5, 9), (5, 20), (5, 21), (5, 22), (5, 23), (6, 0), (6, 1), (6, 2), (6, 3), (6, 4), (6, 5), (6, 6), (6, 7), (6, 8), (2, 4), (6, 9), (4, 1), (3, 16), (3, 14), (4, 17), (6, 10), (6, 11), (6, 12), (6, 13), (2, 6), (3, 15), (6, 14), (6, 15), (6, 16), (0, 15), (6, 17), (1, 10), (1, 11), (1, 12), (6, 18), (6, 19), (6, 20), (6, 21), (14, 0), (14, 1), (14, 2), (14, 3), (14, 4), (14, 5), (14, 6), (13, 0), (13, 1), (13, 2), (13, 3), (13, 4), (13, 5), (13, 6), (13, 7), (13, 8), (13, 9), (13, 10), (11, 0), (11, 1), (11, 2), (11, 3)] rfl (by decide +kernel)
set_option maxRecDepth 20000 in
theorem gX9_redraw_X7_find : GoodIn wsX9_redraw (wsV RX9 250 RX7 yX7_find wsX7_find) := goodIn_app (goodIn_k ckX9_redraw_in ([.methodLink RX9 250 yX7_find, .instanceMethod yX7_find, .selects RX7 yX7_find yX7_find, .initialized RX7] : List Cond) [(5, 6), (5, 7), (5, 8), (5, 9)] rfl (by decide +kernel)) ggX9_redraw_X7_find
set_option maxRecDepth 20000 in
theorem ggX9_redraw_X3_begin : GoodIn wsX9_redraw wsX3_begin := goodIn_k ckX9_redraw_in _ [(7, 2), (7, 3), (7, 4), (7, 5), (7, 6), (7, 7), (7, 8), (7, 9), (7, 10), (7, 1), (7, 11), (7, 12), (7, 13), (7, 14), (7, 15), (7, 16), (7, 17), (5, 9), (7, 18), (5, 16), (7, 19), (7, 20), (7, 21), (7, 22), (5, 13), (5, 11), (7, 23), (6, 5), (8, 0), (8, 1), (8, 2), (8, 3), (14, 0), (14, 1), (14, 2), (14, 3), (14, 4), (14, 5), (14, 6), (15, 0), (15, 1), (15, 2), (15, 3), (15, 4), (15, 5), (15, 6), (15, 7), (15, 8), (15, 9), (15, 10), (15, 11), (15, 12), (13, 0), (13, 1), (13, 2), (13, 3), (13, 4), (13, 5), (13, 6), (13, 7), (13, 8), (13, 9), (13, 10)] rfl (by decide +kernel)
set_option maxRecDepth 20000 in
theorem gX9_redraw_X3_begin : GoodIn wsX9_redraw (wsV RX9 253 RX3 yX3_begin wsX3_begin) := goodIn_app (goodIn_k ckX9_redraw_in ([.methodLink RX9 253 yX3_begin, .instanceMethod yX3_begin, .selects RX3 yX3_begin yX3_begin, .initialized RX3] : List Cond) [(6, 22), (6, 23), (7, 0), (7, 1)] rfl (by decide +kernel)) ggX9_redraw_X3_begin
theorem dX9_redraw_0 : decode cX9_redraw 0 = .ok (.aload_n 0, 1) := de_42 (by decide +kernel)
theorem dX9_redraw_1 : decode cX9_redraw 1 = .ok (.getfield 30, 3) := de_180 (by decide +kernel)
theorem dX9_redraw_4 : decode cX9_redraw 4 = .ok (.aload_n 0, 1) := de_42 (by decide +kernel)
theorem dX9_redraw_5 : decode cX9_redraw 5 = .ok (.getfield 12, 3) := de_180 (by decide +kernel)
theorem dX9_redraw_8 : decode cX9_redraw 8 = .ok (.invokevirtual 247, 3) := de_182 (by decide +kernel)
theorem dX9_redraw_11 : decode cX9_redraw 11 = .ok (.aload_n 0, 1) := de_42 (by decide +kernel)
theorem dX9_redraw_12 : decode cX9_redraw 12 = .ok (.getfield 39, 3) := de_180 (by decide +kernel)
theorem dX9_redraw_15 : decode cX9_redraw 15 = .ok (.invokevirtual 250, 3) := de_182 (by decide +kernel)
theorem dX9_redraw_18 : decode cX9_redraw 18 = .ok (.aload_n 0, 1) := de_42 (by decide +kernel)
theorem dX9_redraw_19 : decode cX9_redraw 19 = .ok (.getfield 46, 3) := de_180 (by decide +kernel)
theorem dX9_redraw_22 : decode cX9_redraw 22 = .ok (.aload_n 0, 1) := de_42 (by decide +kernel)
theorem dX9_redraw_23 : decode cX9_redraw 23 = .ok (.getfield 39, 3) := de_180 (by decide +kernel)
theorem dX9_redraw_26 : decode cX9_redraw 26 = .ok (.invokevirtual 253, 3) := de_182 (by decide +kernel)
theorem dX9_redraw_29 : decode cX9_redraw 29 = .ok (.aload_n 0, 1) := de_42 (by decide +kernel)
theorem dX9_redraw_30 : decode cX9_redraw 30 = .ok (.iconst 0, 1) := de_3 (by decide +kernel)
theorem dX9_redraw_31 : decode cX9_redraw 31 = .ok (.putfield 67, 3) := de_181 (by decide +kernel)
theorem dX9_redraw_34 : decode cX9_redraw 34 = .ok (.return_, 1) := de_177 (by decide +kernel)
def ckX9_layOutBoxes : List (List Cond) := [wsX9_layOutBoxes_r1, wsX9_layOutBoxes_r2, wsX9_layOutBoxes_r3, wsX90, wsX30, wsX00, wsX70, wsX40, wsX80]
theorem ckX9_layOutBoxes_in : ∀ c ∈ ckX9_layOutBoxes, ∀ w ∈ c, w ∈ wsX9_layOutBoxes := List.forall_mem_cons.mpr ⟨fun _ h9 => List.mem_cons_of_mem _ (List.mem_append_left _ (List.mem_append_left _ (List.mem_append_left _ (List.mem_append_left _ (List.mem_append_left _ (List.mem_append_left _ (List.mem_append_left _ h9))))))), List.forall_mem_cons.mpr ⟨fun _ h9 => List.mem_cons_of_mem _ (List.mem_append_left _ (List.mem_append_left _ (List.mem_append_left _ (List.mem_append_left _ (List.mem_append_left _ (List.mem_append_left _ (List.mem_append_right _ (List.mem_append_left _ h9)))))))), List.forall_mem_cons.mpr ⟨fun _ h9 => List.mem_cons_of_mem _ (List.mem_append_left _ (List.mem_append_left _ (List.mem_append_left _ (List.mem_append_left _ (List.mem_append_left _ (List.mem_append_left _ (List.mem_append_right _ (List.mem_append_right _ h9)))))))), List.forall_mem_cons.mpr ⟨fun _ h9 => List.mem_cons_of_mem _ (List.mem_append_left _ (List.mem_append_left _ (List.mem_append_left _ (List.mem_append_left _ (List.mem_append_left _ (List.mem_append_right _ h9)))))), List.forall_mem_cons.mpr ⟨fun _ h9 => List.mem_cons_of_mem _ (List.mem_append_left _ (List.mem_append_left _ (List.mem_append_left _ (List.mem_append_left _ (List.mem_append_right _ h9))))), List.forall_mem_cons.mpr ⟨fun _ h9 => List.mem_cons_of_mem _ (List.mem_append_left _ (List.mem_append_left _ (List.mem_append_left _ (List.mem_append_right _ h9)))), List.forall_mem_cons.mpr ⟨fun _ h9 => List.mem_cons_of_mem _ (List.mem_append_left _ (List.mem_append_left _ (List.mem_append_right _ h9))), List.forall_mem_cons.mpr ⟨fun _ h9 => List.mem_cons_of_mem _ (List.mem_append_left _ (List.mem_append_right _ h9)), List.forall_mem_cons.mpr ⟨fun _ h9 => List.mem_cons_of_mem _ (List.mem_append_right _ h9), List.forall_mem_nil _⟩⟩⟩⟩⟩⟩⟩⟩⟩
set_option maxRecDepth 20000 in
theorem ggX9_layOutBoxes_X0_clear : GoodIn wsX9_layOutBoxes wsX0_clear := goodIn_k ckX9_layOutBoxes_in _ [(0, 10), (0, 11), (5, 0), (5, 1), (5, 2), (5, 3), (5, 4), (5, 5)] rfl (by decide +kernel)
set_option maxRecDepth 20000 in
theorem gX9_layOutBoxes_X0_clear : GoodIn wsX9_layOutBoxes (wsV RX9 257 RX0 yX0_clear wsX0_clear) := goodIn_app (goodIn_r ([.methodLink RX9 257 yX0_clear, .instanceMethod yX0_clear, .selects RX0 yX0_clear yX0_clear, .initialized RX0] : List Cond) [7, 8, 9, 10] rfl (by decide +kernel)) ggX9_layOutBoxes_X0_clear
set_option maxRecDepth 20000 in
theorem ggX9_layOutBoxes_X7_boxWidth : GoodIn wsX9_layOutBoxes wsX7_boxWidth := goodIn_k ckX9_layOutBoxes_in _ [(0, 16), (0, 17), (0, 18), (0, 19), (0, 20), (0, 21), (0, 22), (0, 23), (1, 0), (1, 1), (1, 2), (0, 15), (1, 3), (1, 4), (1, 5), (1, 6), (1, 7), (1, 8), (1, 9), (1, 10), (1, 11), (1, 12), (1, 13), (1, 14), (1, 15), (1, 16), (1, 17), (1, 18), (1, 19), (1, 20), (1, 21), (1, 22), (1, 23), (2, 0), (6, 0), (6, 1), (6, 2), (6, 3), (6, 4), (6, 5), (6, 6), (7, 0), (7, 1), (7, 2), (7, 3), (8, 0), (8, 1), (8, 2), (8, 3), (8, 4), (8, 5), (8, 6), (8, 7), (8, 8), (8, 9), (8, 10)] rfl (by decide +kernel)
set_option maxRecDepth 20000 in
theorem gX9_layOutBoxes_X7_boxWidth : GoodIn wsX9_layOutBoxes (wsV RX9 183 RX7 yX7_boxWidth wsX7_boxWidth) := goodIn_app (goodIn_r ([.methodLink RX9 183 yX7_boxWidth, .instanceMethod yX7_boxWidth, .selects RX7 yX7_boxWidth yX7_boxWidth, .initialized RX7] : List Cond) [13, 14, 15, 16] rfl (by decide +kernel)) ggX9_layOutBoxes_X7_boxWidth
set_option maxRecDepth 20000 in
theorem ggX9_layOutBoxes_X7_boxHeight : GoodIn wsX9_layOutBoxes wsX7_boxHeight := goodIn_k ckX9_layOutBoxes_in _ [(2, 4), (0, 17), (2, 5), (0, 19), (0, 20), (0, 21), (0, 22), (0, 23), (1, 0), (1, 1), (1, 2), (0, 15), (1, 3), (1, 4), (1, 5), (1, 6), (1, 7), (1, 8), (1, 9), (1, 10), (1, 11), (1, 12), (1, 13), (1, 14), (2, 6), (2, 7), (2, 8), (2, 9), (1, 19), (1, 20), (1, 21), (1, 22), (1, 23), (2, 0), (6, 0), (6, 1), (6, 2), (6, 3), (6, 4), (6, 5), (6, 6), (7, 0), (7, 1), (7, 2), (7, 3), (8, 0), (8, 1), (8, 2), (8, 3), (8, 4), (8, 5), (8, 6), (8, 7), (8, 8), (8, 9), (8, 10)] rfl (by decide +kernel)
set_option maxRecDepth 20000 in
theorem gX9_layOutBoxes_X7_boxHeight : GoodIn wsX9_layOutBoxes (wsV RX9 186 RX7 yX7_boxHeight wsX7_boxHeight) := goodIn_app (goodIn_r ([.methodLink RX9 186 yX7_boxHeight, .instanceMethod yX7_boxHeight, .selects RX7 yX7_boxHeight yX7_boxHeight, .initialized RX7] : List Cond) [50, 51, 52, 16] rfl (by decide +kernel)) ggX9_layOutBoxes_X7_boxHeight
set_option maxRecDepth 20000 in
theorem ggX9_layOutBoxes_X0_append : GoodIn wsX9_layOutBoxes wsX0_append := goodIn_k ckX9_layOutBoxes_in _ [(2, 13), (0, 11), (2, 14), (2, 15), (2, 16), (5, 0), (5, 1), (5, 2), (5, 3), (5, 4), (5, 5)] rfl (by decide +kernel)
set_option maxRecDepth 20000 in
theorem gX9_layOutBoxes_X0_append : GoodIn wsX9_layOutBoxes (wsV RX9 260 RX0 yX0_append wsX0_append) := goodIn_app (goodIn_r ([.methodLink RX9 260 yX0_append, .instanceMethod yX0_append, .selects RX0 yX0_append yX0_append, .initialized RX0] : List Cond) [59, 60, 61, 10] rfl (by decide +kernel)) ggX9_layOutBoxes_X0_append
theorem dX9_layOutBoxes_0 : decode cX9_layOutBoxes 0 = .ok (.aload_n 0, 1) := de_42 (by decide +kernel)
theorem dX9_layOutBoxes_1 : decode cX9_layOutBoxes 1 = .ok (.getfield 60, 3) := de_180 (by decide +kernel)
theorem dX9_layOutBoxes_4 : decode cX9_layOutBoxes 4 = .ok (.invokevirtual 257, 3) := de_182 (by decide +kernel)
theorem dX9_layOutBoxes_7 : decode cX9_layOutBoxes 7 = .ok (.iconst 0, 1) := de_3 (by decide +kernel)
theorem dX9_layOutBoxes_8 : decode cX9_layOutBoxes 8 = .ok (.istore_n 2, 1) := de_61 (by decide +kernel)
theorem dX9_layOutBoxes_9 : decode cX9_layOutBoxes 9 = .ok (.iload_n 2, 1) := de_28 (by decide +kernel)
theorem dX9_layOutBoxes_10 : decode cX9_layOutBoxes 10 = .ok (.aload_n 0, 1) := de_42 (by decide +kernel)
theorem dX9_layOutBoxes_11 : decode cX9_layOutBoxes 11 = .ok (.getfield 67, 3) := de_180 (by decide +kernel)
theorem dX9_layOutBoxes_14 : decode cX9_layOutBoxes 14 = .ok (.if_icmp .ge 65, 3) := de_162 (by decide +kernel)
theorem dX9_layOutBoxes_17 : decode cX9_layOutBoxes 17 = .ok (.aload_n 0, 1) := de_42 (by decide +kernel)
theorem dX9_layOutBoxes_18 : decode cX9_layOutBoxes 18 = .ok (.getfield 64, 3) := de_180 (by decide +kernel)
theorem dX9_layOutBoxes_21 : decode cX9_layOutBoxes 21 = .ok (.iload_n 2, 1) := de_28 (by decide +kernel)
theorem dX9_layOutBoxes_22 : decode cX9_layOutBoxes 22 = .ok (.iaload, 1) := de_46 (by decide +kernel)
theorem dX9_layOutBoxes_23 : decode cX9_layOutBoxes 23 = .ok (.istore_n 3, 1) := de_62 (by decide +kernel)
theorem dX9_layOutBoxes_24 : decode cX9_layOutBoxes 24 = .ok (.iload_n 1, 1) := de_27 (by decide +kernel)
theorem dX9_layOutBoxes_25 : decode cX9_layOutBoxes 25 = .ok (.ifCond .eq 20, 3) := de_153 (by decide +kernel)
theorem dX9_layOutBoxes_28 : decode cX9_layOutBoxes 28 = .ok (.aload_n 0, 1) := de_42 (by decide +kernel)
theorem dX9_layOutBoxes_29 : decode cX9_layOutBoxes 29 = .ok (.getfield 46, 3) := de_180 (by decide +kernel)
theorem dX9_layOutBoxes_32 : decode cX9_layOutBoxes 32 = .ok (.getfield 189, 3) := de_180 (by decide +kernel)
theorem dX9_layOutBoxes_35 : decode cX9_layOutBoxes 35 = .ok (.iload_n 3, 1) := de_29 (by decide +kernel)
theorem dX9_layOutBoxes_36 : decode cX9_layOutBoxes 36 = .ok (.iaload, 1) := de_46 (by decide +kernel)
theorem dX9_layOutBoxes_37 : decode cX9_layOutBoxes 37 = .ok (.iconst 2, 1) := de_5 (by decide +kernel)
theorem dX9_layOutBoxes_38 : decode cX9_layOutBoxes 38 = .ok (.if_icmp .eq 7, 3) := de_159 (by decide +kernel)
theorem dX9_layOutBoxes_41 : decode cX9_layOutBoxes 41 = .ok (.iconst 1, 1) := de_4 (by decide +kernel)
theorem dX9_layOutBoxes_42 : decode cX9_layOutBoxes 42 = .ok (.goto 4, 3) := de_167 (by decide +kernel)
theorem dX9_layOutBoxes_45 : decode cX9_layOutBoxes 45 = .ok (.iconst 0, 1) := de_3 (by decide +kernel)
theorem dX9_layOutBoxes_46 : decode cX9_layOutBoxes 46 = .ok (.istore 4, 2) := de_54 (by decide +kernel)
theorem dX9_layOutBoxes_48 : decode cX9_layOutBoxes 48 = .ok (.aload_n 0, 1) := de_42 (by decide +kernel)
theorem dX9_layOutBoxes_49 : decode cX9_layOutBoxes 49 = .ok (.getfield 60, 3) := de_180 (by decide +kernel)
theorem dX9_layOutBoxes_52 : decode cX9_layOutBoxes 52 = .ok (.aload_n 0, 1) := de_42 (by decide +kernel)
theorem dX9_layOutBoxes_53 : decode cX9_layOutBoxes 53 = .ok (.getfield 39, 3) := de_180 (by decide +kernel)
theorem dX9_layOutBoxes_56 : decode cX9_layOutBoxes 56 = .ok (.iload_n 3, 1) := de_29 (by decide +kernel)
theorem dX9_layOutBoxes_57 : decode cX9_layOutBoxes 57 = .ok (.invokevirtual 183, 3) := de_182 (by decide +kernel)
theorem dX9_layOutBoxes_60 : decode cX9_layOutBoxes 60 = .ok (.aload_n 0, 1) := de_42 (by decide +kernel)
theorem dX9_layOutBoxes_61 : decode cX9_layOutBoxes 61 = .ok (.getfield 39, 3) := de_180 (by decide +kernel)
theorem dX9_layOutBoxes_64 : decode cX9_layOutBoxes 64 = .ok (.iload_n 3, 1) := de_29 (by decide +kernel)
theorem dX9_layOutBoxes_65 : decode cX9_layOutBoxes 65 = .ok (.invokevirtual 186, 3) := de_182 (by decide +kernel)
theorem dX9_layOutBoxes_68 : decode cX9_layOutBoxes 68 = .ok (.iload 4, 2) := de_21 (by decide +kernel)
theorem dX9_layOutBoxes_70 : decode cX9_layOutBoxes 70 = .ok (.invokevirtual 260, 3) := de_182 (by decide +kernel)
theorem dX9_layOutBoxes_73 : decode cX9_layOutBoxes 73 = .ok (.iinc 2 1, 3) := de_132 (by decide +kernel)
theorem dX9_layOutBoxes_76 : decode cX9_layOutBoxes 76 = .ok (.goto (-67), 3) := de_167 (by decide +kernel)
theorem dX9_layOutBoxes_79 : decode cX9_layOutBoxes 79 = .ok (.return_, 1) := de_177 (by decide +kernel)
