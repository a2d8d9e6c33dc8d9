set_option maxRecDepth 20000 in
theorem gX9_sheets_X9_isSide : GoodIn wsX9_sheets (va_wsS RX9 78 yX9_isSide wsX9_isSide) := goodIn_app (goodIn_r ([.methodLink RX9 78 yX9_isSide, .static yX9_isSide, .initialized yX9_isSide.cls] : List Cond) [15, 16, 12] rfl (by decide +kernel)) ggX9_sheets_X9_isSide
set_option maxRecDepth 20000 in
theorem ggX9_sheets_X9_layOutBoxes : GoodIn wsX9_sheets wsX9_layOutBoxes := goodIn_r _ [21, 2, 22, 23, 24, 25, 26, 27, 28, 29, 30, 31, 32, 33, 34, 35, 36, 37, 38, 39, 40, 41, 42, 43, 44, 45, 46, 47, 48, 49, 50, 51, 52, 53, 54, 55, 56, 57, 58, 59, 60, 61, 62, 63, 64, 65, 66, 67, 68, 69, 70, 71, 72, 73, 74, 75, 76, 77, 78, 79, 80, 81, 82, 83, 84, 85, 110, 111, 112, 113, 114, 115, 116, 117, 118, 119, 120, 121, 129, 130, 131, 132, 133, 134, 135, 136, 137, 138, 139, 140, 141, 142, 143, 144, 145, 146, 147, 148, 149, 150, 151, 152, 153, 154, 155, 156, 157, 158, 159, 160, 161, 162, 163, 164, 165, 166, 167, 168, 169] rfl (by decide +kernel)
set_option maxRecDepth 20000 in
theorem gX9_sheets_X9_layOutBoxes : GoodIn wsX9_sheets (wsV RX9 229 RX9 yX9_layOutBoxes wsX9_layOutBoxes) := goodIn_app (goodIn_r ([.methodLink RX9 229 yX9_layOutBoxes, .instanceMethod yX9_layOutBoxes, .selects RX9 yX9_layOutBoxes yX9_layOutBoxes, .initialized RX9] : List Cond) [18, 19, 20, 12] rfl (by decide +kernel)) ggX9_sheets_X9_layOutBoxes
set_option maxRecDepth 20000 in
theorem ggX9_sheets_X0_fewestSheets : GoodIn wsX9_sheets wsX0_fewestSheets := goodIn_r _ [89, 32, 90, 91, 92, 93, 94, 30, 95, 96, 65, 43, 66, 97, 98, 99, 100, 83, 84, 85, 101, 102, 103, 104, 105, 42, 44, 106, 107, 108, 109, 142, 143, 144, 145, 146, 147] rfl (by decide +kernel)
set_option maxRecDepth 20000 in
theorem gX9_sheets_X0_fewestSheets : GoodIn wsX9_sheets (wsV RX9 233 RX0 yX0_fewestSheets wsX0_fewestSheets) := goodIn_app (goodIn_r ([.methodLink RX9 233 yX0_fewestSheets, .instanceMethod yX0_fewestSheets, .selects RX0 yX0_fewestSheets yX0_fewestSheets, .initialized RX0] : List Cond) [86, 87, 88, 30] rfl (by decide +kernel)) ggX9_sheets_X0_fewestSheets
theorem dX9_sheets_0 : decode cX9_sheets 0 = .ok (.aload_n 0, 1) := by decide +kernel
theorem dX9_sheets_1 : decode cX9_sheets 1 = .ok (.getfield 12, 3) := by decide +kernel
theorem dX9_sheets_4 : decode cX9_sheets 4 = .ok (.invokevirtual 92, 3) := by decide +kernel
theorem dX9_sheets_7 : decode cX9_sheets 7 = .ok (.ifCond .ne 10, 3) := by decide +kernel
theorem dX9_sheets_10 : decode cX9_sheets 10 = .ok (.aload_n 0, 1) := by decide +kernel
theorem dX9_sheets_11 : decode cX9_sheets 11 = .ok (.bipush (-4), 2) := by decide +kernel
theorem dX9_sheets_13 : decode cX9_sheets 13 = .ok (.invokevirtual 74, 3) := by decide +kernel
theorem dX9_sheets_16 : decode cX9_sheets 16 = .ok (.ireturn, 1) := by decide +kernel
theorem dX9_sheets_17 : decode cX9_sheets 17 = .ok (.iload_n 1, 1) := by decide +kernel
theorem dX9_sheets_18 : decode cX9_sheets 18 = .ok (.invokestatic 78, 3) := by decide +kernel
theorem dX9_sheets_21 : decode cX9_sheets 21 = .ok (.ifCond .eq 10, 3) := by decide +kernel
theorem dX9_sheets_24 : decode cX9_sheets 24 = .ok (.iload_n 2, 1) := by decide +kernel
theorem dX9_sheets_25 : decode cX9_sheets 25 = .ok (.invokestatic 78, 3) := by decide +kernel
theorem dX9_sheets_28 : decode cX9_sheets 28 = .ok (.ifCond .ne 9, 3) := by decide +kernel
theorem dX9_sheets_31 : decode cX9_sheets 31 = .ok (.aload_n 0, 1) := by decide +kernel
theorem dX9_sheets_32 : decode cX9_sheets 32 = .ok (.iconst (-1), 1) := by decide +kernel
theorem dX9_sheets_33 : decode cX9_sheets 33 = .ok (.invokevirtual 74, 3) := by decide +kernel
theorem dX9_sheets_36 : decode cX9_sheets 36 = .ok (.ireturn, 1) := by decide +kernel
theorem dX9_sheets_37 : decode cX9_sheets 37 = .ok (.aload_n 0, 1) := by decide +kernel
theorem dX9_sheets_38 : decode cX9_sheets 38 = .ok (.iload_n 3, 1) := by decide +kernel
theorem dX9_sheets_39 : decode cX9_sheets 39 = .ok (.invokevirtual 229, 3) := by decide +kernel
theorem dX9_sheets_42 : decode cX9_sheets 42 = .ok (.aload_n 0, 1) := by decide +kernel
theorem dX9_sheets_43 : decode cX9_sheets 43 = .ok (.getfield 60, 3) := by decide +kernel
theorem dX9_sheets_46 : decode cX9_sheets 46 = .ok (.iload_n 1, 1) := by decide +kernel
theorem dX9_sheets_47 : decode cX9_sheets 47 = .ok (.iload_n 2, 1) := by decide +kernel
theorem dX9_sheets_48 : decode cX9_sheets 48 = .ok (.invokevirtual 233, 3) := by decide +kernel
theorem dX9_sheets_51 : decode cX9_sheets 51 = .ok (.istore 4, 2) := by decide +kernel
theorem dX9_sheets_53 : decode cX9_sheets 53 = .ok (.iload 4, 2) := by decide +kernel
theorem dX9_sheets_55 : decode cX9_sheets 55 = .ok (.ifCond .ge 12, 3) := by decide +kernel
theorem dX9_sheets_58 : decode cX9_sheets 58 = .ok (.aload_n 0, 1) := by decide +kernel
theorem dX9_sheets_59 : decode cX9_sheets 59 = .ok (.bipush (-7), 2) := by decide +kernel
theorem dX9_sheets_61 : decode cX9_sheets 61 = .ok (.invokevirtual 74, 3) := by decide +kernel
theorem dX9_sheets_64 : decode cX9_sheets 64 = .ok (.goto 5, 3) := by decide +kernel
theorem dX9_sheets_67 : decode cX9_sheets 67 = .ok (.iload 4, 2) := by decide +kernel
theorem dX9_sheets_69 : decode cX9_sheets 69 = .ok (.ireturn, 1) := by decide +kernel
set_option maxRecDepth 20000 in
theorem ggX9_keep_X1_isThere : GoodIn wsX9_keep wsX1_isThere := goodIn_r _ [7, 8, 44, 45, 46, 47, 48, 49, 50] rfl (by decide +kernel)
set_option maxRecDepth 20000 in
theorem gX9_keep_X1_isThere : GoodIn wsX9_keep (wsV RX9 92 RX1 yX1_isThere wsX1_isThere) := goodIn_app (goodIn_r ([.methodLink RX9 92 yX1_isThere, .instanceMethod yX1_isThere, .selects RX1 yX1_isThere yX1_isThere, .initialized RX1] : List Cond) [3, 4, 5, 6] rfl (by decide +kernel)) ggX9_keep_X1_isThere
set_option maxRecDepth 20000 in
theorem ggX9_keep_X9_tell : GoodIn wsX9_keep wsX9_tell := goodIn_r _ [13, 14, 32, 33, 34, 35, 36, 37, 38, 39, 40, 41, 42, 43] rfl (by decide +kernel)
set_option maxRecDepth 20000 in
theorem gX9_keep_X9_tell : GoodIn wsX9_keep (wsV RX9 74 RX9 yX9_tell wsX9_tell) := goodIn_app (goodIn_r ([.methodLink RX9 74 yX9_tell, .instanceMethod yX9_tell, .selects RX9 yX9_tell yX9_tell, .initialized RX9] : List Cond) [9, 10, 11, 12] rfl (by decide +kernel)) ggX9_keep_X9_tell
set_option maxRecDepth 20000 in
theorem ggX9_keep_X9_isPlace : GoodIn wsX9_keep wsX9_isPlace := goodIn_r _ [17] rfl (by decide +kernel)
set_option maxRecDepth 20000 in
theorem gX9_keep_X9_isPlace : GoodIn wsX9_keep (va_wsS RX9 236 yX9_isPlace wsX9_isPlace) := goodIn_app (goodIn_r ([.methodLink RX9 236 yX9_isPlace, .static yX9_isPlace, .initialized yX9_isPlace.cls] : List Cond) [15, 16, 12] rfl (by decide +kernel)) ggX9_keep_X9_isPlace
set_option maxRecDepth 20000 in
theorem ggX9_keep_X1_copy : GoodIn wsX9_keep wsX1_copy := goodIn_r _ [21, 8, 22, 23, 24, 25, 26, 27, 28, 29, 30, 31, 44, 45, 46, 47, 48, 49, 50] rfl (by decide +kernel)
set_option maxRecDepth 20000 in
theorem gX9_keep_X1_copy : GoodIn wsX9_keep (wsV RX9 239 RX1 yX1_copy wsX1_copy) := goodIn_app (goodIn_r ([.methodLink RX9 239 yX1_copy, .instanceMethod yX1_copy, .selects RX1 yX1_copy yX1_copy, .initialized RX1] : List Cond) [18, 19, 20, 6] rfl (by decide +kernel)) ggX9_keep_X1_copy
theorem dX9_keep_0 : decode cX9_keep 0 = .ok (.aload_n 0, 1) := by decide +kernel
theorem dX9_keep_1 : decode cX9_keep 1 = .ok (.getfield 12, 3) := by decide +kernel
theorem dX9_keep_4 : decode cX9_keep 4 = .ok (.invokevirtual 92, 3) := by decide +kernel
theorem dX9_keep_7 : decode cX9_keep 7 = .ok (.ifCond .ne 10, 3) := by decide +kernel
theorem dX9_keep_10 : decode cX9_keep 10 = .ok (.aload_n 0, 1) := by decide +kernel
theorem dX9_keep_11 : decode cX9_keep 11 = .ok (.bipush (-4), 2) := by decide +kernel
theorem dX9_keep_13 : decode cX9_keep 13 = .ok (.invokevirtual 74, 3) := by decide +kernel
theorem dX9_keep_16 : decode cX9_keep 16 = .ok (.ireturn, 1) := by decide +kernel
theorem dX9_keep_17 : decode cX9_keep 17 = .ok (.iload_n 1, 1) := by decide +kernel
theorem dX9_keep_18 : decode cX9_keep 18 = .ok (.invokestatic 236, 3) := by decide +kernel
theorem dX9_keep_21 : decode cX9_keep 21 = .ok (.ifCond .ne 9, 3) := by decide +kernel
theorem dX9_keep_24 : decode cX9_keep 24 = .ok (.aload_n 0, 1) := by decide +kernel
theorem dX9_keep_25 : decode cX9_keep 25 = .ok (.iconst (-1), 1) := by decide +kernel
theorem dX9_keep_26 : decode cX9_keep 26 = .ok (.invokevirtual 74, 3) := by decide +kernel
theorem dX9_keep_29 : decode cX9_keep 29 = .ok (.ireturn, 1) := by decide +kernel
theorem dX9_keep_30 : decode cX9_keep 30 = .ok (.aload_n 0, 1) := by decide +kernel
theorem dX9_keep_31 : decode cX9_keep 31 = .ok (.getfield 16, 3) := by decide +kernel
theorem dX9_keep_34 : decode cX9_keep 34 = .ok (.iload_n 1, 1) := by decide +kernel
theorem dX9_keep_35 : decode cX9_keep 35 = .ok (.aaload, 1) := by decide +kernel
theorem dX9_keep_36 : decode cX9_keep 36 = .ok (.aload_n 0, 1) := by decide +kernel
theorem dX9_keep_37 : decode cX9_keep 37 = .ok (.getfield 12, 3) := by decide +kernel
theorem dX9_keep_40 : decode cX9_keep 40 = .ok (.invokevirtual 239, 3) := by decide +kernel
theorem dX9_keep_43 : decode cX9_keep 43 = .ok (.iconst 1, 1) := by decide +kernel
theorem dX9_keep_44 : decode cX9_keep 44 = .ok (.ireturn, 1) := by decide +kernel
set_option maxRecDepth 20000 in
theorem ggX9_back_X9_isPlace : GoodIn wsX9_back wsX9_isPlace := goodIn_r _ [8] rfl (by decide +kernel)
set_option maxRecDepth 20000 in
theorem gX9_back_X9_isPlace : GoodIn wsX9_back (va_wsS RX9 236 yX9_isPlace wsX9_isPlace) := goodIn_app (goodIn_r ([.methodLink RX9 236 yX9_isPlace, .static yX9_isPlace, .initialized yX9_isPlace.cls] : List Cond) [5, 6, 7] rfl (by decide +kernel)) ggX9_back_X9_isPlace
set_option maxRecDepth 20000 in
theorem ggX9_back_X9_tell : GoodIn wsX9_back wsX9_tell := goodIn_r _ [12, 13, 231, 232, 233, 234, 235, 236, 237, 238, 239, 240, 241, 242] rfl (by decide +kernel)
set_option maxRecDepth 20000 in
theorem gX9_back_X9_tell : GoodIn wsX9_back (wsV RX9 74 RX9 yX9_tell wsX9_tell) := goodIn_app (goodIn_r ([.methodLink RX9 74 yX9_tell, .instanceMethod yX9_tell, .selects RX9 yX9_tell yX9_tell, .initialized RX9] : List Cond) [9, 10, 11, 7] rfl (by decide +kernel)) ggX9_back_X9_tell
set_option maxRecDepth 20000 in
theorem ggX9_back_X1_isThere : GoodIn wsX9_back wsX1_isThere := goodIn_r _ [18, 19, 250, 251, 252, 253, 254, 255, 256] rfl (by decide +kernel)
set_option maxRecDepth 20000 in
theorem gX9_back_X1_isThere : GoodIn wsX9_back (wsV RX9 92 RX1 yX1_isThere wsX1_isThere) := goodIn_app (goodIn_r ([.methodLink RX9 92 yX1_isThere, .instanceMethod yX1_isThere, .selects RX1 yX1_isThere yX1_isThere, .initialized RX1] : List Cond) [14, 15, 16, 17] rfl (by decide +kernel)) ggX9_back_X1_isThere
set_option maxRecDepth 20000 in
theorem ggX9_back_X1_copy : GoodIn wsX9_back wsX1_copy := goodIn_r _ [23, 19, 24, 25, 26, 27, 28, 29, 30, 31, 32, 33, 250, 251, 252, 253, 254, 255, 256] rfl (by decide +kernel)
set_option maxRecDepth 20000 in
theorem gX9_back_X1_copy : GoodIn wsX9_back (wsV RX9 239 RX1 yX1_copy wsX1_copy) := goodIn_app (goodIn_r ([.methodLink RX9 239 yX1_copy, .instanceMethod yX1_copy, .selects RX1 yX1_copy yX1_copy, .initialized RX1] : List Cond) [20, 21, 22, 17] rfl (by decide +kernel)) ggX9_back_X1_copy
set_option maxRecDepth 20000 in
theorem ggX9_back_X9_redraw : GoodIn wsX9_back wsX9_redraw := goodIn_r _ [37, 38, 2, 3, 39, 40, 41, 42, 43, 44, 45, 46, 47, 48, 49, 50, 51, 52, 53, 54, 55, 56, 57, 58, 59, 60, 61, 62, 63, 7, 64, 65, 66, 67, 68, 69, 70, 71, 72, 73, 74, 75, 76, 77, 78, 79, 80, 81, 82, 83, 84, 85, 86, 87, 88, 89, 90, 91, 92, 93, 94, 95, 96, 97, 98, 99, 100, 101, 102, 103, 104, 105, 106, 107, 108, 109, 110, 111, 112, 113, 114, 115, 116, 117, 118, 119, 120, 121, 122, 123, 124, 125, 126, 127, 128, 129, 130, 131, 132, 133, 134, 135, 136, 137, 138, 139, 140, 141, 142, 143, 144, 145, 146, 147, 148, 149, 150, 151, 152, 153, 154, 155, 156, 157, 158, 159, 160, 161, 162, 163, 164, 165, 166, 167, 168, 169, 170, 171, 172, 173, 174, 175, 176, 177, 178, 179, 180, 181, 182, 183, 184, 185, 186, 187, 188, 189, 190, 191, 192, 193, 194, 195, 196, 197, 198, 199, 200, 201, 202, 203, 204, 205, 206, 207, 208, 209, 210, 211, 212, 213, 214, 215, 216, 217, 218, 219, 220, 221, 222, 223, 224, 225, 226, 227, 228, 229, 230, 231, 232, 233, 234, 235, 236, 237, 238, 239, 240, 241, 242, 257, 258, 259, 260, 261, 262, 250, 251, 252, 253, 254, 255, 256, 263, 264, 265, 266, 267, 268, 269, 270, 271, 272, 273, 243, 244, 245, 246, 247, 248, 249, 274, 275, 276, 277, 278, 279, 280, 281, 282, 283, 284, 285, 286] rfl (by decide +kernel)
set_option maxRecDepth 20000 in
theorem gX9_back_X9_redraw : GoodIn wsX9_back (wsV RX9 86 RX9 yX9_redraw wsX9_redraw) := goodIn_app (goodIn_r ([.methodLink RX9 86 yX9_redraw, .instanceMethod yX9_redraw, .selects RX9 yX9_redraw yX9_redraw, .initialized RX9] : List Cond) [34, 35, 36, 7] rfl (by decide +kernel)) ggX9_back_X9_redraw
theorem dX9_back_0 : decode cX9_back 0 = .ok (.iload_n 1, 1) := by decide +kernel
theorem dX9_back_1 : decode cX9_back 1 = .ok (.invokestatic 236, 3) := by decide +kernel
theorem dX9_back_4 : decode cX9_back 4 = .ok (.ifCond .ne 9, 3) := by decide +kernel
theorem dX9_back_7 : decode cX9_back 7 = .ok (.aload_n 0, 1) := by decide +kernel
theorem dX9_back_8 : decode cX9_back 8 = .ok (.iconst (-1), 1) := by decide +kernel
theorem dX9_back_9 : decode cX9_back 9 = .ok (.invokevirtual 74, 3) := by decide +kernel
theorem dX9_back_12 : decode cX9_back 12 = .ok (.ireturn, 1) := by decide +kernel
theorem dX9_back_13 : decode cX9_back 13 = .ok (.aload_n 0, 1) := by decide +kernel
theorem dX9_back_14 : decode cX9_back 14 = .ok (.getfield 16, 3) := by decide +kernel
theorem dX9_back_17 : decode cX9_back 17 = .ok (.iload_n 1, 1) := by decide +kernel
theorem dX9_back_18 : decode cX9_back 18 = .ok (.aaload, 1) := by decide +kernel
theorem dX9_back_19 : decode cX9_back 19 = .ok (.invokevirtual 92, 3) := by decide +kernel
theorem dX9_back_22 : decode cX9_back 22 = .ok (.ifCond .ne 10, 3) := by decide +kernel
theorem dX9_back_25 : decode cX9_back 25 = .ok (.aload_n 0, 1) := by decide +kernel
theorem dX9_back_26 : decode cX9_back 26 = .ok (.bipush (-4), 2) := by decide +kernel
theorem dX9_back_28 : decode cX9_back 28 = .ok (.invokevirtual 74, 3) := by decide +kernel
theorem dX9_back_31 : decode cX9_back 31 = .ok (.ireturn, 1) := by decide +kernel
theorem dX9_back_32 : decode cX9_back 32 = .ok (.aload_n 0, 1) := by decide +kernel
theorem dX9_back_33 : decode cX9_back 33 = .ok (.getfield 12, 3) := by decide +kernel
theorem dX9_back_36 : decode cX9_back 36 = .ok (.aload_n 0, 1) := by decide +kernel
theorem dX9_back_37 : decode cX9_back 37 = .ok (.getfield 16, 3) := by decide +kernel
theorem dX9_back_40 : decode cX9_back 40 = .ok (.iload_n 1, 1) := by decide +kernel
theorem dX9_back_41 : decode cX9_back 41 = .ok (.aaload, 1) := by decide +kernel
theorem dX9_back_42 : decode cX9_back 42 = .ok (.invokevirtual 239, 3) := by decide +kernel
theorem dX9_back_45 : decode cX9_back 45 = .ok (.aload_n 0, 1) := by decide +kernel
theorem dX9_back_46 : decode cX9_back 46 = .ok (.invokevirtual 86, 3) := by decide +kernel
theorem dX9_back_49 : decode cX9_back 49 = .ok (.aload_n 0, 1) := by decide +kernel
theorem dX9_back_50 : decode cX9_back 50 = .ok (.getfield 39, 3) := by decide +kernel
theorem dX9_back_53 : decode cX9_back 53 = .ok (.getfield 89, 3) := by decide +kernel
theorem dX9_back_56 : decode cX9_back 56 = .ok (.ireturn, 1) := by decide +kernel
set_option maxRecDepth 20000 in
theorem ggX9_alike_X9_isPlace : GoodIn wsX9_alike wsX9_isPlace := goodIn_r _ [7] rfl (by decide +kernel)
set_option maxRecDepth 20000 in
theorem gX9_alike_X9_isPlace : GoodIn wsX9_alike (va_wsS RX9 236 yX9_isPlace wsX9_isPlace) := goodIn_app (goodIn_r ([.methodLink RX9 236 yX9_isPlace, .static yX9_isPlace, .initialized yX9_isPlace.cls] : List Cond) [4, 5, 6] rfl (by decide +kernel)) ggX9_alike_X9_isPlace
set_option maxRecDepth 20000 in
theorem ggX9_alike_X9_tell : GoodIn wsX9_alike wsX9_tell := goodIn_r _ [11, 12, 179, 180, 181, 182, 183, 184, 185, 186, 187, 188, 189, 190] rfl (by decide +kernel)
set_option maxRecDepth 20000 in
theorem gX9_alike_X9_tell : GoodIn wsX9_alike (wsV RX9 74 RX9 yX9_tell wsX9_tell) := goodIn_app (goodIn_r ([.methodLink RX9 74 yX9_tell, .instanceMethod yX9_tell, .selects RX9 yX9_tell yX9_tell, .initialized RX9] : List Cond) [8, 9, 10, 6] rfl (by decide +kernel)) ggX9_alike_X9_tell
set_option maxRecDepth 20000 in
theorem ggX9_alike_X1_isThere : GoodIn wsX9_alike wsX1_isThere := goodIn_r _ [17, 18, 191, 192, 193, 194, 195, 196, 197] rfl (by decide +kernel)
set_option maxRecDepth 20000 in
theorem gX9_alike_X1_isThere : GoodIn wsX9_alike (wsV RX9 92 RX1 yX1_isThere wsX1_isThere) := goodIn_app (goodIn_r ([.methodLink RX9 92 yX1_isThere, .instanceMethod yX1_isThere, .selects RX1 yX1_isThere yX1_isThere, .initialized RX1] : List Cond) [13, 14, 15, 16] rfl (by decide +kernel)) ggX9_alike_X1_isThere
set_option maxRecDepth 20000 in
theorem ggX9_alike_X5_turnings : GoodIn wsX9_alike wsX5_turnings := goodIn_r _ [23, 24, 25, 26, 27, 28, 29, 30, 31, 32, 33, 34, 35, 36, 37, 38, 39, 40, 41, 42, 43, 44, 45, 46, 47, 48, 49, 6, 50, 51, 52, 53, 54, 55, 56, 57, 58, 59, 60, 61, 62, 63, 64, 65, 66, 67, 68, 69, 70, 71, 72, 73, 74, 75, 76, 77, 78, 79, 80, 81, 82, 83, 84, 85, 86, 87, 88, 89, 90, 91, 92, 93, 94, 95, 96, 97, 98, 99, 100, 101, 102, 103, 104, 105, 106, 107, 108, 109, 110, 111, 112, 113, 114, 115, 116, 117, 118, 119, 120, 121, 122, 123, 124, 125, 126, 127, 128, 129, 130, 131, 132, 133, 134, 135, 136, 137, 138, 139, 140, 141, 142, 143, 144, 145, 146, 147, 148, 149, 22, 150, 151, 152, 153, 154, 155, 156, 157, 158, 159, 160, 161, 162, 163, 164, 165, 166, 167, 168, 169, 170, 171, 172, 173, 174, 175, 176, 177, 178, 198, 199, 200, 191, 192, 193, 194, 195, 196, 197, 201, 202, 203, 204, 205, 206, 207, 208, 209, 210, 211, 212, 213, 214, 215, 216, 217] rfl (by decide +kernel)
set_option maxRecDepth 20000 in
theorem gX9_alike_X5_turnings : GoodIn wsX9_alike (wsV RX9 243 RX5 yX5_turnings wsX5_turnings) := goodIn_app (goodIn_r ([.methodLink RX9 243 yX5_turnings, .instanceMethod yX5_turnings, .selects RX5 yX5_turnings yX5_turnings, .initialized RX5] : List Cond) [19, 20, 21, 22] rfl (by decide +kernel)) ggX9_alike_X5_turnings
theorem dX9_alike_0 : decode cX9_alike 0 = .ok (.iload_n 1, 1) := by decide +kernel
theorem dX9_alike_1 : decode cX9_alike 1 = .ok (.invokestatic 236, 3) := by decide +kernel
theorem dX9_alike_4 : decode cX9_alike 4 = .ok (.ifCond .ne 9, 3) := by decide +kernel
theorem dX9_alike_7 : decode cX9_alike 7 = .ok (.aload_n 0, 1) := by decide +kernel
theorem dX9_alike_8 : decode cX9_alike 8 = .ok (.iconst (-1), 1) := by decide +kernel
theorem dX9_alike_9 : decode cX9_alike 9 = .ok (.invokevirtual 74, 3) := by decide +kernel
theorem dX9_alike_12 : decode cX9_alike 12 = .ok (.ireturn, 1) := by decide +kernel
theorem dX9_alike_13 : decode cX9_alike 13 = .ok (.aload_n 0, 1) := by decide +kernel
theorem dX9_alike_14 : decode cX9_alike 14 = .ok (.getfield 12, 3) := by decide +kernel
theorem dX9_alike_17 : decode cX9_alike 17 = .ok (.invokevirtual 92, 3) := by decide +kernel
theorem dX9_alike_20 : decode cX9_alike 20 = .ok (.ifCond .eq 15, 3) := by decide +kernel
theorem dX9_alike_23 : decode cX9_alike 23 = .ok (.aload_n 0, 1) := by decide +kernel
theorem dX9_alike_24 : decode cX9_alike 24 = .ok (.getfield 16, 3) := by decide +kernel
theorem dX9_alike_27 : decode cX9_alike 27 = .ok (.iload_n 1, 1) := by decide +kernel
theorem dX9_alike_28 : decode cX9_alike 28 = .ok (.aaload, 1) := by decide +kernel
theorem dX9_alike_29 : decode cX9_alike 29 = .ok (.invokevirtual 92, 3) := by decide +kernel
theorem dX9_alike_32 : decode cX9_alike 32 = .ok (.ifCond .ne 10, 3) := by decide +kernel
theorem dX9_alike_35 : decode cX9_alike 35 = .ok (.aload_n 0, 1) := by decide +kernel
theorem dX9_alike_36 : decode cX9_alike 36 = .ok (.bipush (-4), 2) := by decide +kernel
theorem dX9_alike_38 : decode cX9_alike 38 = .ok (.invokevirtual 74, 3) := by decide +kernel
theorem dX9_alike_41 : decode cX9_alike 41 = .ok (.ireturn, 1) := by decide +kernel
theorem dX9_alike_42 : decode cX9_alike 42 = .ok (.aload_n 0, 1) := by decide +kernel
theorem dX9_alike_43 : decode cX9_alike 43 = .ok (.getfield 53, 3) := by decide +kernel
theorem dX9_alike_46 : decode cX9_alike 46 = .ok (.aload_n 0, 1) := by decide +kernel
theorem dX9_alike_47 : decode cX9_alike 47 = .ok (.getfield 12, 3) := by decide +kernel
theorem dX9_alike_50 : decode cX9_alike 50 = .ok (.aload_n 0, 1) := by decide +kernel
theorem dX9_alike_51 : decode cX9_alike 51 = .ok (.getfield 16, 3) := by decide +kernel
theorem dX9_alike_54 : decode cX9_alike 54 = .ok (.iload_n 1, 1) := by decide +kernel
theorem dX9_alike_55 : decode cX9_alike 55 = .ok (.aaload, 1) := by decide +kernel
theorem dX9_alike_56 : decode cX9_alike 56 = .ok (.invokevirtual 243, 3) := by decide +kernel
theorem dX9_alike_59 : decode cX9_alike 59 = .ok (.ireturn, 1) := by decide +kernel
set_option maxRecDepth 20000 in
theorem ggX9_rack_X9_isPlace : GoodIn wsX9_rack wsX9_isPlace := goodIn_r _ [10] rfl (by decide +kernel)
set_option maxRecDepth 20000 in
theorem gX9_rack_X9_isPlace : GoodIn wsX9_rack (va_wsS RX9 236 yX9_isPlace wsX9_isPlace) := goodIn_app (goodIn_r ([.methodLink RX9 236 yX9_isPlace, .static yX9_isPlace, .initialized yX9_isPlace.cls] : List Cond) [7, 8, 9] rfl (by decide +kernel)) ggX9_rack_X9_isPlace
set_option maxRecDepth 20000 in
theorem ggX9_rack_X9_tell : GoodIn wsX9_rack wsX9_tell := goodIn_r _ [14, 15, 28, 29, 30, 31, 32, 33, 34, 35, 36, 37, 38, 39] rfl (by decide +kernel)
set_option maxRecDepth 20000 in
theorem gX9_rack_X9_tell : GoodIn wsX9_rack (wsV RX9 74 RX9 yX9_tell wsX9_tell) := goodIn_app (goodIn_r ([.methodLink RX9 74 yX9_tell, .instanceMethod yX9_tell, .selects RX9 yX9_tell yX9_tell, .initialized RX9] : List Cond) [11, 12, 13, 9] rfl (by decide +kernel)) ggX9_rack_X9_tell
set_option maxRecDepth 20000 in
theorem ggX9_rack_X1_isThere : GoodIn wsX9_rack wsX1_isThere := goodIn_r _ [20, 21, 53, 54, 55, 56, 57, 58, 59] rfl (by decide +kernel)
set_option maxRecDepth 20000 in
theorem gX9_rack_X1_isThere : GoodIn wsX9_rack (wsV RX9 92 RX1 yX1_isThere wsX1_isThere) := goodIn_app (goodIn_r ([.methodLink RX9 92 yX1_isThere, .instanceMethod yX1_isThere, .selects RX1 yX1_isThere yX1_isThere, .initialized RX1] : List Cond) [16, 17, 18, 19] rfl (by decide +kernel)) ggX9_rack_X1_isThere
set_option maxRecDepth 20000 in
theorem ggX9_rack_X9_hasPane : GoodIn wsX9_rack wsX9_hasPane := goodIn_r _ [25, 26, 27, 28, 29, 30, 31, 32, 33, 34, 35, 36, 37, 38, 39, 60, 61, 62, 63, 64, 65, 66] rfl (by decide +kernel)
set_option maxRecDepth 20000 in
theorem gX9_rack_X9_hasPane : GoodIn wsX9_rack (wsV RX9 168 RX9 yX9_hasPane wsX9_hasPane) := goodIn_app (goodIn_r ([.methodLink RX9 168 yX9_hasPane, .instanceMethod yX9_hasPane, .selects RX9 yX9_hasPane yX9_hasPane, .initialized RX9] : List Cond) [22, 23, 24, 9] rfl (by decide +kernel)) ggX9_rack_X9_hasPane
theorem dX9_rack_0 : decode cX9_rack 0 = .ok (.iload_n 1, 1) := by decide +kernel
theorem dX9_rack_1 : decode cX9_rack 1 = .ok (.invokestatic 236, 3) := by decide +kernel
theorem dX9_rack_4 : decode cX9_rack 4 = .ok (.ifCond .ne 9, 3) := by decide +kernel
theorem dX9_rack_7 : decode cX9_rack 7 = .ok (.aload_n 0, 1) := by decide +kernel
theorem dX9_rack_8 : decode cX9_rack 8 = .ok (.iconst (-1), 1) := by decide +kernel
theorem dX9_rack_9 : decode cX9_rack 9 = .ok (.invokevirtual 74, 3) := by decide +kernel
theorem dX9_rack_12 : decode cX9_rack 12 = .ok (.ireturn, 1) := by decide +kernel
theorem dX9_rack_13 : decode cX9_rack 13 = .ok (.iload_n 2, 1) := by decide +kernel
theorem dX9_rack_14 : decode cX9_rack 14 = .ok (.iconst (-1), 1) := by decide +kernel
theorem dX9_rack_15 : decode cX9_rack 15 = .ok (.if_icmp .ne 12, 3) := by decide +kernel
theorem dX9_rack_18 : decode cX9_rack 18 = .ok (.aload_n 0, 1) := by decide +kernel
theorem dX9_rack_19 : decode cX9_rack 19 = .ok (.getfield 20, 3) := by decide +kernel
theorem dX9_rack_22 : decode cX9_rack 22 = .ok (.iload_n 1, 1) := by decide +kernel
theorem dX9_rack_23 : decode cX9_rack 23 = .ok (.iconst (-1), 1) := by decide +kernel
theorem dX9_rack_24 : decode cX9_rack 24 = .ok (.iastore, 1) := by decide +kernel
theorem dX9_rack_25 : decode cX9_rack 25 = .ok (.iconst 1, 1) := by decide +kernel
theorem dX9_rack_26 : decode cX9_rack 26 = .ok (.ireturn, 1) := by decide +kernel
theorem dX9_rack_27 : decode cX9_rack 27 = .ok (.aload_n 0, 1) := by decide +kernel
theorem dX9_rack_28 : decode cX9_rack 28 = .ok (.getfield 12, 3) := by decide +kernel
theorem dX9_rack_31 : decode cX9_rack 31 = .ok (.invokevirtual 92, 3) := by decide +kernel
theorem dX9_rack_34 : decode cX9_rack 34 = .ok (.ifCond .ne 10, 3) := by decide +kernel
theorem dX9_rack_37 : decode cX9_rack 37 = .ok (.aload_n 0, 1) := by decide +kernel
theorem dX9_rack_38 : decode cX9_rack 38 = .ok (.bipush (-4), 2) := by decide +kernel
theorem dX9_rack_40 : decode cX9_rack 40 = .ok (.invokevirtual 74, 3) := by decide +kernel
theorem dX9_rack_43 : decode cX9_rack 43 = .ok (.ireturn, 1) := by decide +kernel
theorem dX9_rack_44 : decode cX9_rack 44 = .ok (.aload_n 0, 1) := by decide +kernel
theorem dX9_rack_45 : decode cX9_rack 45 = .ok (.iload_n 2, 1) := by decide +kernel
theorem dX9_rack_46 : decode cX9_rack 46 = .ok (.invokevirtual 168, 3) := by decide +kernel
theorem dX9_rack_49 : decode cX9_rack 49 = .ok (.ifCond .ne 9, 3) := by decide +kernel
theorem dX9_rack_52 : decode cX9_rack 52 = .ok (.aload_n 0, 1) := by decide +kernel
theorem dX9_rack_53 : decode cX9_rack 53 = .ok (.iconst (-1), 1) := by decide +kernel
theorem dX9_rack_54 : decode cX9_rack 54 = .ok (.invokevirtual 74, 3) := by decide +kernel
theorem dX9_rack_57 : decode cX9_rack 57 = .ok (.ireturn, 1) := by decide +kernel
theorem dX9_rack_58 : decode cX9_rack 58 = .ok (.aload_n 0, 1) := by decide +kernel
theorem dX9_rack_59 : decode cX9_rack 59 = .ok (.getfield 20, 3) := by decide +kernel
theorem dX9_rack_62 : decode cX9_rack 62 = .ok (.iload_n 1, 1) := by decide +kernel
theorem dX9_rack_63 : decode cX9_rack 63 = .ok (.aload_n 0, 1) := by decide +kernel
theorem dX9_rack_64 : decode cX9_rack 64 = .ok (.getfield 46, 3) := by decide +kernel
theorem dX9_rack_67 : decode cX9_rack 67 = .ok (.getfield 189, 3) := by decide +kernel
theorem dX9_rack_70 : decode cX9_rack 70 = .ok (.iload_n 2, 1) := by decide +kernel
theorem dX9_rack_71 : decode cX9_rack 71 = .ok (.iaload, 1) := by decide +kernel
theorem dX9_rack_72 : decode cX9_rack 72 = .ok (.iastore, 1) := by decide +kernel
theorem dX9_rack_73 : decode cX9_rack 73 = .ok (.aload_n 0, 1) := by decide +kernel
theorem dX9_rack_74 : decode cX9_rack 74 = .ok (.getfield 24, 3) := by decide +kernel
theorem dX9_rack_77 : decode cX9_rack 77 = .ok (.iload_n 1, 1) := by decide +kernel
theorem dX9_rack_78 : decode cX9_rack 78 = .ok (.aload_n 0, 1) := by decide +kernel
theorem dX9_rack_79 : decode cX9_rack 79 = .ok (.getfield 46, 3) := by decide +kernel
theorem dX9_rack_82 : decode cX9_rack 82 = .ok (.getfield 192, 3) := by decide +kernel
theorem dX9_rack_85 : decode cX9_rack 85 = .ok (.iload_n 2, 1) := by decide +kernel
theorem dX9_rack_86 : decode cX9_rack 86 = .ok (.iaload, 1) := by decide +kernel
theorem dX9_rack_87 : decode cX9_rack 87 = .ok (.iastore, 1) := by decide +kernel
theorem dX9_rack_88 : decode cX9_rack 88 = .ok (.iconst 1, 1) := by decide +kernel
theorem dX9_rack_89 : decode cX9_rack 89 = .ok (.ireturn, 1) := by decide +kernel
set_option maxRecDepth 20000 in
theorem ggX9_as_X9_isPlace : GoodIn wsX9_as wsX9_isPlace := goodIn_r _ [6] rfl (by decide +kernel)
set_option maxRecDepth 20000 in
theorem gX9_as_X9_isPlace : GoodIn wsX9_as (va_wsS RX9 236 yX9_isPlace wsX9_isPlace) := goodIn_app (goodIn_r ([.methodLink RX9 236 yX9_isPlace, .static yX9_isPlace, .initialized yX9_isPlace.cls] : List Cond) [3, 4, 5] rfl (by decide +kernel)) ggX9_as_X9_isPlace
set_option maxRecDepth 20000 in
theorem ggX9_as_X9_isKind : GoodIn wsX9_as wsX9_isKind := goodIn_r _ [9] rfl (by decide +kernel)
set_option maxRecDepth 20000 in
theorem gX9_as_X9_isKind : GoodIn wsX9_as (va_wsS RX9 212 yX9_isKind wsX9_isKind) := goodIn_app (goodIn_r ([.methodLink RX9 212 yX9_isKind, .static yX9_isKind, .initialized yX9_isKind.cls] : List Cond) [7, 8, 5] rfl (by decide +kernel)) ggX9_as_X9_isKind
set_option maxRecDepth 20000 in
theorem ggX9_as_X9_tell : GoodIn wsX9_as wsX9_tell := goodIn_r _ [13, 14, 15, 16, 17, 18, 19, 20, 21, 22, 23, 24, 25, 26] rfl (by decide +kernel)
set_option maxRecDepth 20000 in
theorem gX9_as_X9_tell : GoodIn wsX9_as (wsV RX9 74 RX9 yX9_tell wsX9_tell) := goodIn_app (goodIn_r ([.methodLink RX9 74 yX9_tell, .instanceMethod yX9_tell, .selects RX9 yX9_tell yX9_tell, .initialized RX9] : List Cond) [10, 11, 12, 5] rfl (by decide +kernel)) ggX9_as_X9_tell
theorem dX9_as_0 : decode cX9_as 0 = .ok (.iload_n 1, 1) := by decide +kernel
theorem dX9_as_1 : decode cX9_as 1 = .ok (.invokestatic 236, 3) := by decide +kernel
theorem dX9_as_4 : decode cX9_as 4 = .ok (.ifCond .eq 10, 3) := by decide +kernel
theorem dX9_as_7 : decode cX9_as 7 = .ok (.iload_n 2, 1) := by decide +kernel
theorem dX9_as_8 : decode cX9_as 8 = .ok (.invokestatic 212, 3) := by decide +kernel
theorem dX9_as_11 : decode cX9_as 11 = .ok (.ifCond .ne 9, 3) := by decide +kernel
theorem dX9_as_14 : decode cX9_as 14 = .ok (.aload_n 0, 1) := by decide +kernel
theorem dX9_as_15 : decode cX9_as 15 = .ok (.iconst (-1), 1) := by decide +kernel
theorem dX9_as_16 : decode cX9_as 16 = .ok (.invokevirtual 74, 3) := by decide +kernel
theorem dX9_as_19 : decode cX9_as 19 = .ok (.ireturn, 1) := by decide +kernel
theorem dX9_as_20 : decode cX9_as 20 = .ok (.aload_n 0, 1) := by decide +kernel
theorem dX9_as_21 : decode cX9_as 21 = .ok (.getfield 20, 3) := by decide +kernel
theorem dX9_as_24 : decode cX9_as 24 = .ok (.iload_n 1, 1) := by decide +kernel
theorem dX9_as_25 : decode cX9_as 25 = .ok (.iaload, 1) := by decide +kernel
theorem dX9_as_26 : decode cX9_as 26 = .ok (.iconst (-1), 1) := by decide +kernel
theorem dX9_as_27 : decode cX9_as 27 = .ok (.if_icmp .ne 10, 3) := by decide +kernel
theorem dX9_as_30 : decode cX9_as 30 = .ok (.aload_n 0, 1) := by decide +kernel
theorem dX9_as_31 : decode cX9_as 31 = .ok (.bipush (-4), 2) := by decide +kernel
theorem dX9_as_33 : decode cX9_as 33 = .ok (.invokevirtual 74, 3) := by decide +kernel
theorem dX9_as_36 : decode cX9_as 36 = .ok (.ireturn, 1) := by decide +kernel
theorem dX9_as_37 : decode cX9_as 37 = .ok (.aload_n 0, 1) := by decide +kernel
theorem dX9_as_38 : decode cX9_as 38 = .ok (.getfield 20, 3) := by decide +kernel
theorem dX9_as_41 : decode cX9_as 41 = .ok (.iload_n 1, 1) := by decide +kernel
theorem dX9_as_42 : decode cX9_as 42 = .ok (.iaload, 1) := by decide +kernel
theorem dX9_as_43 : decode cX9_as 43 = .ok (.iload_n 2, 1) := by decide +kernel
theorem dX9_as_44 : decode cX9_as 44 = .ok (.if_icmp .ge 10, 3) := by decide +kernel
theorem dX9_as_47 : decode cX9_as 47 = .ok (.aload_n 0, 1) := by decide +kernel
theorem dX9_as_48 : decode cX9_as 48 = .ok (.bipush (-5), 2) := by decide +kernel
theorem dX9_as_50 : decode cX9_as 50 = .ok (.invokevirtual 74, 3) := by decide +kernel
theorem dX9_as_53 : decode cX9_as 53 = .ok (.ireturn, 1) := by decide +kernel
theorem dX9_as_54 : decode cX9_as 54 = .ok (.aload_n 0, 1) := by decide +kernel
theorem dX9_as_55 : decode cX9_as 55 = .ok (.getfield 24, 3) := by decide +kernel
theorem dX9_as_58 : decode cX9_as 58 = .ok (.iload_n 1, 1) := by decide +kernel
theorem dX9_as_59 : decode cX9_as 59 = .ok (.iaload, 1) := by decide +kernel
theorem dX9_as_60 : decode cX9_as 60 = .ok (.ireturn, 1) := by decide +kernel
set_option maxRecDepth 20000 in
theorem ggX9_found_X9_tell : GoodIn wsX9_found wsX9_tell := goodIn_r _ [6, 1, 7, 8, 9, 10, 11, 12, 13, 14, 15, 16, 17, 18] rfl (by decide +kernel)
set_option maxRecDepth 20000 in
theorem gX9_found_X9_tell : GoodIn wsX9_found (wsV RX9 74 RX9 yX9_tell wsX9_tell) := goodIn_app (goodIn_r ([.methodLink RX9 74 yX9_tell, .instanceMethod yX9_tell, .selects RX9 yX9_tell yX9_tell, .initialized RX9] : List Cond) [2, 3, 4, 5] rfl (by decide +kernel)) ggX9_found_X9_tell
theorem dX9_found_0 : decode cX9_found 0 = .ok (.iload_n 1, 1) := by decide +kernel
theorem dX9_found_1 : decode cX9_found 1 = .ok (.ifCond .ge 9, 3) := by decide +kernel
theorem dX9_found_4 : decode cX9_found 4 = .ok (.iload_n 1, 1) := by decide +kernel
theorem dX9_found_5 : decode cX9_found 5 = .ok (.bipush (-7), 2) := by decide +kernel
theorem dX9_found_7 : decode cX9_found 7 = .ok (.if_icmp .ge 9, 3) := by decide +kernel
theorem dX9_found_10 : decode cX9_found 10 = .ok (.aload_n 0, 1) := by decide +kernel
theorem dX9_found_11 : decode cX9_found 11 = .ok (.iconst (-1), 1) := by decide +kernel
theorem dX9_found_12 : decode cX9_found 12 = .ok (.invokevirtual 74, 3) := by decide +kernel
theorem dX9_found_15 : decode cX9_found 15 = .ok (.ireturn, 1) := by decide +kernel
theorem dX9_found_16 : decode cX9_found 16 = .ok (.aload_n 0, 1) := by decide +kernel
theorem dX9_found_17 : decode cX9_found 17 = .ok (.getfield 71, 3) := by decide +kernel
theorem dX9_found_20 : decode cX9_found 20 = .ok (.iload_n 1, 1) := by decide +kernel
theorem dX9_found_21 : decode cX9_found 21 = .ok (.ineg, 1) := by decide +kernel
theorem dX9_found_22 : decode cX9_found 22 = .ok (.iaload, 1) := by decide +kernel
theorem dX9_found_23 : decode cX9_found 23 = .ok (.ireturn, 1) := by decide +kernel
theorem dX9_tell_0 : decode cX9_tell 0 = .ok (.iload_n 1, 1) := by decide +kernel
theorem dX9_tell_1 : decode cX9_tell 1 = .ok (.ifCond .ge 20, 3) := by decide +kernel
theorem dX9_tell_4 : decode cX9_tell 4 = .ok (.iload_n 1, 1) := by decide +kernel
theorem dX9_tell_5 : decode cX9_tell 5 = .ok (.bipush (-7), 2) := by decide +kernel
theorem dX9_tell_7 : decode cX9_tell 7 = .ok (.if_icmp .lt 14, 3) := by decide +kernel
theorem dX9_tell_10 : decode cX9_tell 10 = .ok (.aload_n 0, 1) := by decide +kernel
theorem dX9_tell_11 : decode cX9_tell 11 = .ok (.getfield 71, 3) := by decide +kernel
theorem dX9_tell_14 : decode cX9_tell 14 = .ok (.iload_n 1, 1) := by decide +kernel
theorem dX9_tell_15 : decode cX9_tell 15 = .ok (.ineg, 1) := by decide +kernel
theorem dX9_tell_16 : decode cX9_tell 16 = .ok (.dup2, 1) := by decide +kernel
theorem dX9_tell_17 : decode cX9_tell 17 = .ok (.iaload, 1) := by decide +kernel
theorem dX9_tell_18 : decode cX9_tell 18 = .ok (.iconst 1, 1) := by decide +kernel
theorem dX9_tell_19 : decode cX9_tell 19 = .ok (.iadd, 1) := by decide +kernel
theorem dX9_tell_20 : decode cX9_tell 20 = .ok (.iastore, 1) := by decide +kernel
theorem dX9_tell_21 : decode cX9_tell 21 = .ok (.iload_n 1, 1) := by decide +kernel
theorem dX9_tell_22 : decode cX9_tell 22 = .ok (.ireturn, 1) := by decide +kernel
theorem dX9_hasJoint_0 : decode cX9_hasJoint 0 = .ok (.iload_n 1, 1) := by decide +kernel
theorem dX9_hasJoint_1 : decode cX9_hasJoint 1 = .ok (.ifCond .lt 21, 3) := by decide +kernel
theorem dX9_hasJoint_4 : decode cX9_hasJoint 4 = .ok (.iload_n 1, 1) := by decide +kernel
theorem dX9_hasJoint_5 : decode cX9_hasJoint 5 = .ok (.aload_n 0, 1) := by decide +kernel
theorem dX9_hasJoint_6 : decode cX9_hasJoint 6 = .ok (.getfield 30, 3) := by decide +kernel
theorem dX9_hasJoint_9 : decode cX9_hasJoint 9 = .ok (.getfield 117, 3) := by decide +kernel
theorem dX9_hasJoint_12 : decode cX9_hasJoint 12 = .ok (.getfield 121, 3) := by decide +kernel
theorem dX9_hasJoint_15 : decode cX9_hasJoint 15 = .ok (.if_icmp .ge 7, 3) := by decide +kernel
theorem dX9_hasJoint_18 : decode cX9_hasJoint 18 = .ok (.iconst 1, 1) := by decide +kernel
theorem dX9_hasJoint_19 : decode cX9_hasJoint 19 = .ok (.goto 4, 3) := by decide +kernel
theorem dX9_hasJoint_22 : decode cX9_hasJoint 22 = .ok (.iconst 0, 1) := by decide +kernel
theorem dX9_hasJoint_23 : decode cX9_hasJoint 23 = .ok (.ireturn, 1) := by decide +kernel
theorem dX9_hasPane_0 : decode cX9_hasPane 0 = .ok (.iload_n 1, 1) := by decide +kernel
theorem dX9_hasPane_1 : decode cX9_hasPane 1 = .ok (.ifCond .lt 18, 3) := by decide +kernel
theorem dX9_hasPane_4 : decode cX9_hasPane 4 = .ok (.iload_n 1, 1) := by decide +kernel
theorem dX9_hasPane_5 : decode cX9_hasPane 5 = .ok (.aload_n 0, 1) := by decide +kernel
theorem dX9_hasPane_6 : decode cX9_hasPane 6 = .ok (.getfield 39, 3) := by decide +kernel
theorem dX9_hasPane_9 : decode cX9_hasPane 9 = .ok (.getfield 89, 3) := by decide +kernel
theorem dX9_hasPane_12 : decode cX9_hasPane 12 = .ok (.if_icmp .ge 7, 3) := by decide +kernel
theorem dX9_hasPane_15 : decode cX9_hasPane 15 = .ok (.iconst 1, 1) := by decide +kernel
theorem dX9_hasPane_16 : decode cX9_hasPane 16 = .ok (.goto 4, 3) := by decide +kernel
theorem dX9_hasPane_19 : decode cX9_hasPane 19 = .ok (.iconst 0, 1) := by decide +kernel
theorem dX9_hasPane_20 : decode cX9_hasPane 20 = .ok (.ireturn, 1) := by decide +kernel
theorem dX9_isPlace_0 : decode cX9_isPlace 0 = .ok (.iload_n 0, 1) := by decide +kernel
theorem dX9_isPlace_1 : decode cX9_isPlace 1 = .ok (.ifCond .lt 12, 3) := by decide +kernel
theorem dX9_isPlace_4 : decode cX9_isPlace 4 = .ok (.iload_n 0, 1) := by decide +kernel
theorem dX9_isPlace_5 : decode cX9_isPlace 5 = .ok (.iconst 4, 1) := by decide +kernel
theorem dX9_isPlace_6 : decode cX9_isPlace 6 = .ok (.if_icmp .ge 7, 3) := by decide +kernel
theorem dX9_isPlace_9 : decode cX9_isPlace 9 = .ok (.iconst 1, 1) := by decide +kernel
theorem dX9_isPlace_10 : decode cX9_isPlace 10 = .ok (.goto 4, 3) := by decide +kernel
theorem dX9_isPlace_13 : decode cX9_isPlace 13 = .ok (.iconst 0, 1) := by decide +kernel
theorem dX9_isPlace_14 : decode cX9_isPlace 14 = .ok (.ireturn, 1) := by decide +kernel
theorem dX9_isKind_0 : decode cX9_isKind 0 = .ok (.iload_n 0, 1) := by decide +kernel
theorem dX9_isKind_1 : decode cX9_isKind 1 = .ok (.ifCond .eq 13, 3) := by decide +kernel
theorem dX9_isKind_4 : decode cX9_isKind 4 = .ok (.iload_n 0, 1) := by decide +kernel
theorem dX9_isKind_5 : decode cX9_isKind 5 = .ok (.iconst 1, 1) := by decide +kernel
theorem dX9_isKind_6 : decode cX9_isKind 6 = .ok (.if_icmp .eq 8, 3) := by decide +kernel
theorem dX9_isKind_9 : decode cX9_isKind 9 = .ok (.iload_n 0, 1) := by decide +kernel
theorem dX9_isKind_10 : decode cX9_isKind 10 = .ok (.iconst 2, 1) := by decide +kernel
theorem dX9_isKind_11 : decode cX9_isKind 11 = .ok (.if_icmp .ne 7, 3) := by decide +kernel
theorem dX9_isKind_14 : decode cX9_isKind 14 = .ok (.iconst 1, 1) := by decide +kernel
theorem dX9_isKind_15 : decode cX9_isKind 15 = .ok (.goto 4, 3) := by decide +kernel
theorem dX9_isKind_18 : decode cX9_isKind 18 = .ok (.iconst 0, 1) := by decide +kernel
theorem dX9_isKind_19 : decode cX9_isKind 19 = .ok (.ireturn, 1) := by decide +kernel
theorem dX9_isSide_0 : decode cX9_isSide 0 = .ok (.iload_n 0, 1) := by decide +kernel
theorem dX9_isSide_1 : decode cX9_isSide 1 = .ok (.iconst 1, 1) := by decide +kernel
theorem dX9_isSide_2 : decode cX9_isSide 2 = .ok (.if_icmp .lt 13, 3) := by decide +kernel
theorem dX9_isSide_5 : decode cX9_isSide 5 = .ok (.iload_n 0, 1) := by decide +kernel
theorem dX9_isSide_6 : decode cX9_isSide 6 = .ok (.bipush 12, 2) := by decide +kernel
theorem dX9_isSide_8 : decode cX9_isSide 8 = .ok (.if_icmp .gt 7, 3) := by decide +kernel
theorem dX9_isSide_11 : decode cX9_isSide 11 = .ok (.iconst 1, 1) := by decide +kernel
theorem dX9_isSide_12 : decode cX9_isSide 12 = .ok (.goto 4, 3) := by decide +kernel
theorem dX9_isSide_15 : decode cX9_isSide 15 = .ok (.iconst 0, 1) := by decide +kernel
theorem dX9_isSide_16 : decode cX9_isSide 16 = .ok (.ireturn, 1) := by decide +kernel
set_option maxRecDepth 20000 in
theorem ggX9_redraw_X6_lay : GoodIn wsX9_redraw wsX6_lay := goodIn_r _ [10, 11, 12, 13, 14, 15, 16, 17, 18, 19, 20, 21, 22, 23, 24, 25, 26, 27, 28, 29, 30, 31, 32, 33, 34, 35, 36, 37, 38, 39, 40, 41, 42, 43, 44, 45, 46, 47, 48, 49, 50, 51, 52, 53, 54, 55, 56, 57, 58, 59, 60, 61, 62, 63, 64, 65, 66, 67, 68, 69, 70, 71, 72, 73, 74, 75, 76, 77, 78, 79, 80, 81, 82, 83, 84, 85, 86, 87, 88, 89, 90, 91, 92, 93, 94, 95, 96, 97, 98, 99, 100, 101, 102, 103, 104, 105, 106, 107, 108, 109, 110, 111, 112, 113, 114, 115, 116, 117, 118, 119, 120, 121, 122, 123, 124, 125, 126, 209, 210, 211, 212, 213, 214, 215, 216, 217, 218, 219, 220, 221, 222, 223, 224, 225, 226, 227, 228, 229, 230, 231, 232] rfl (by decide +kernel)
set_option maxRecDepth 20000 in
theorem gX9_redraw_X6_lay : GoodIn wsX9_redraw (wsV RX9 247 RX6 yX6_lay wsX6_lay) := goodIn_app (goodIn_r ([.methodLink RX9 247 yX6_lay, .instanceMethod yX6_lay, .selects RX6 yX6_lay yX6_lay, .initialized RX6] : List Cond) [6, 7, 8, 9] rfl (by decide +kernel)) ggX9_redraw_X6_lay
set_option maxRecDepth 20000 in
theorem ggX9_redraw_X7_find : GoodIn wsX9_redraw wsX7_find := goodIn_r _ [131, 132, 133, 134, 135, 136, 137, 138, 139, 140, 130, 141, 142, 143, 144, 145, 146, 147, 148, 149, 150, 151, 152, 153, 53, 154, 98, 89, 87, 114, 155, 156, 157, 158, 55, 88, 159, 160, 161, 16, 162, 35, 36, 37, 163, 164, 165, 166, 233, 234, 235, 236, 237, 238, 239, 222, 223, 224, 225, 226, 227, 228, 229, 230, 231, 232, 211, 212, 213, 214] rfl (by decide +kernel)
set_option maxRecDepth 20000 in
theorem gX9_redraw_X7_find : GoodIn wsX9_redraw (wsV RX9 250 RX7 yX7_find wsX7_find) := goodIn_app (goodIn_r ([.methodLink RX9 250 yX7_find, .instanceMethod yX7_find, .selects RX7 yX7_find yX7_find, .initialized RX7] : List Cond) [127, 128, 129, 130] rfl (by decide +kernel)) ggX9_redraw_X7_find
set_option maxRecDepth 20000 in
theorem ggX9_redraw_X3_begin : GoodIn wsX9_redraw wsX3_begin := goodIn_r _ [171, 172, 173, 174, 175, 176, 177, 178, 179, 170, 180, 181, 182, 183, 184, 185, 186, 130, 187, 137, 188, 189, 190, 191, 134, 132, 192, 150, 193, 194, 195, 196, 233, 234, 235, 236, 237, 238, 239, 240, 241, 242, 243, 244, 245, 246, 247, 248, 249, 250, 251, 252, 222, 223, 224, 225, 226, 227, 228, 229, 230, 231, 232] rfl (by decide +kernel)
set_option maxRecDepth 20000 in
theorem gX9_redraw_X3_begin : GoodIn wsX9_redraw (wsV RX9 253 RX3 yX3_begin wsX3_begin) := goodIn_app (goodIn_r ([.methodLink RX9 253 yX3_begin, .instanceMethod yX3_begin, .selects RX3 yX3_begin yX3_begin, .initialized RX3] : List Cond) [167, 168, 169, 170] rfl (by decide +kernel)) ggX9_redraw_X3_begin
theorem dX9_redraw_0 : decode cX9_redraw 0 = .ok (.aload_n 0, 1) := by decide +kernel
theorem dX9_redraw_1 : decode cX9_redraw 1 = .ok (.getfield 30, 3) := by decide +kernel
theorem dX9_redraw_4 : decode cX9_redraw 4 = .ok (.aload_n 0, 1) := by decide +kernel
theorem dX9_redraw_5 : decode cX9_redraw 5 = .ok (.getfield 12, 3) := by decide +kernel
theorem dX9_redraw_8 : decode cX9_redraw 8 = .ok (.invokevirtual 247, 3) := by decide +kernel
theorem dX9_redraw_11 : decode cX9_redraw 11 = .ok (.aload_n 0, 1) := by decide +kernel
theorem dX9_redraw_12 : decode cX9_redraw 12 = .ok (.getfield 39, 3) := by decide +kernel
theorem dX9_redraw_15 : decode cX9_redraw 15 = .ok (.invokevirtual 250, 3) := by decide +kernel
theorem dX9_redraw_18 : decode cX9_redraw 18 = .ok (.aload_n 0, 1) := by decide +kernel
theorem dX9_redraw_19 : decode cX9_redraw 19 = .ok (.getfield 46, 3) := by decide +kernel
theorem dX9_redraw_22 : decode cX9_redraw 22 = .ok (.aload_n 0, 1) := by decide +kernel
theorem dX9_redraw_23 : decode cX9_redraw 23 = .ok (.getfield 39, 3) := by decide +kernel
theorem dX9_redraw_26 : decode cX9_redraw 26 = .ok (.invokevirtual 253, 3) := by decide +kernel
theorem dX9_redraw_29 : decode cX9_redraw 29 = .ok (.aload_n 0, 1) := by decide +kernel
theorem dX9_redraw_30 : decode cX9_redraw 30 = .ok (.iconst 0, 1) := by decide +kernel
theorem dX9_redraw_31 : decode cX9_redraw 31 = .ok (.putfield 67, 3) := by decide +kernel
theorem dX9_redraw_34 : decode cX9_redraw 34 = .ok (.return_, 1) := by decide +kernel
set_option maxRecDepth 20000 in
theorem ggX9_layOutBoxes_X0_clear : GoodIn wsX9_layOutBoxes wsX0_clear := goodIn_r _ [11, 12, 91, 92, 93, 94, 95, 96] rfl (by decide +kernel)
set_option maxRecDepth 20000 in
theorem gX9_layOutBoxes_X0_clear : GoodIn wsX9_layOutBoxes (wsV RX9 257 RX0 yX0_clear wsX0_clear) := goodIn_app (goodIn_r ([.methodLink RX9 257 yX0_clear, .instanceMethod yX0_clear, .selects RX0 yX0_clear yX0_clear, .initialized RX0] : List Cond) [7, 8, 9, 10] rfl (by decide +kernel)) ggX9_layOutBoxes_X0_clear
set_option maxRecDepth 20000 in
theorem ggX9_layOutBoxes_X7_boxWidth : GoodIn wsX9_layOutBoxes wsX7_boxWidth := goodIn_r _ [17, 18, 19, 20, 21, 22, 23, 24, 25, 26, 27, 16, 28, 29, 30, 31, 32, 33, 34, 35, 36, 37, 38, 39, 40, 41, 42, 43, 44, 45, 46, 47, 48, 49, 97, 98, 99, 100, 101, 102, 103, 104, 105, 106, 107, 108, 109, 110, 111, 112, 113, 114, 115, 116, 117, 118] rfl (by decide +kernel)
set_option maxRecDepth 20000 in
theorem gX9_layOutBoxes_X7_boxWidth : GoodIn wsX9_layOutBoxes (wsV RX9 183 RX7 yX7_boxWidth wsX7_boxWidth) := goodIn_app (goodIn_r ([.methodLink RX9 183 yX7_boxWidth, .instanceMethod yX7_boxWidth, .selects RX7 yX7_boxWidth yX7_boxWidth, .initialized RX7] : List Cond) [13, 14, 15, 16] rfl (by decide +kernel)) ggX9_layOutBoxes_X7_boxWidth
set_option maxRecDepth 20000 in
theorem ggX9_layOutBoxes_X7_boxHeight : GoodIn wsX9_layOutBoxes wsX7_boxHeight := goodIn_r _ [53, 18, 54, 20, 21, 22, 23, 24, 25, 26, 27, 16, 28, 29, 30, 31, 32, 33, 34, 35, 36, 37, 38, 39, 55, 56, 57, 58, 44, 45, 46, 47, 48, 49, 97, 98, 99, 100, 101, 102, 103, 104, 105, 106, 107, 108, 109, 110, 111, 112, 113, 114, 115, 116, 117, 118] rfl (by decide +kernel)
set_option maxRecDepth 20000 in
theorem gX9_layOutBoxes_X7_boxHeight : GoodIn wsX9_layOutBoxes (wsV RX9 186 RX7 yX7_boxHeight wsX7_boxHeight) := goodIn_app (goodIn_r ([.methodLink RX9 186 yX7_boxHeight, .instanceMethod yX7_boxHeight, .selects RX7 yX7_boxHeight yX7_boxHeight, .initialized RX7] : List Cond) [50, 51, 52, 16] rfl (by decide +kernel)) ggX9_layOutBoxes_X7_boxHeight
set_option maxRecDepth 20000 in
theorem ggX9_layOutBoxes_X0_append : GoodIn wsX9_layOutBoxes wsX0_append := goodIn_r _ [62, 12, 63, 64, 65, 91, 92, 93, 94, 95, 96] rfl (by decide +kernel)
set_option maxRecDepth 20000 in
theorem gX9_layOutBoxes_X0_append : GoodIn wsX9_layOutBoxes (wsV RX9 260 RX0 yX0_append wsX0_append) := goodIn_app (goodIn_r ([.methodLink RX9 260 yX0_append, .instanceMethod yX0_append, .selects RX0 yX0_append yX0_append, .initialized RX0] : List Cond) [59, 60, 61, 10] rfl (by decide +kernel)) ggX9_layOutBoxes_X0_append
theorem dX9_layOutBoxes_0 : decode cX9_layOutBoxes 0 = .ok (.aload_n 0, 1) := by decide +kernel
theorem dX9_layOutBoxes_1 : decode cX9_layOutBoxes 1 = .ok (.getfield 60, 3) := by decide +kernel
theorem dX9_layOutBoxes_4 : decode cX9_layOutBoxes 4 = .ok (.invokevirtual 257, 3) := by decide +kernel
theorem dX9_layOutBoxes_7 : decode cX9_layOutBoxes 7 = .ok (.iconst 0, 1) := by decide +kernel
theorem dX9_layOutBoxes_8 : decode cX9_layOutBoxes 8 = .ok (.istore_n 2, 1) := by decide +kernel
theorem dX9_layOutBoxes_9 : decode cX9_layOutBoxes 9 = .ok (.iload_n 2, 1) := by decide +kernel
theorem dX9_layOutBoxes_10 : decode cX9_layOutBoxes 10 = .ok (.aload_n 0, 1) := by decide +kernel
theorem dX9_layOutBoxes_11 : decode cX9_layOutBoxes 11 = .ok (.getfield 67, 3) := by decide +kernel
theorem dX9_layOutBoxes_14 : decode cX9_layOutBoxes 14 = .ok (.if_icmp .ge 65, 3) := by decide +kernel
theorem dX9_layOutBoxes_17 : decode cX9_layOutBoxes 17 = .ok (.aload_n 0, 1) := by decide +kernel
theorem dX9_layOutBoxes_18 : decode cX9_layOutBoxes 18 = .ok (.getfield 64, 3) := by decide +kernel
theorem dX9_layOutBoxes_21 : decode cX9_layOutBoxes 21 = .ok (.iload_n 2, 1) := by decide +kernel
theorem dX9_layOutBoxes_22 : decode cX9_layOutBoxes 22 = .ok (.iaload, 1) := by decide +kernel
theorem dX9_layOutBoxes_23 : decode cX9_layOutBoxes 23 = .ok (.istore_n 3, 1) := by decide +kernel
theorem dX9_layOutBoxes_24 : decode cX9_layOutBoxes 24 = .ok (.iload_n 1, 1) := by decide +kernel
theorem dX9_layOutBoxes_25 : decode cX9_layOutBoxes 25 = .ok (.ifCond .eq 20, 3) := by decide +kernel
theorem dX9_layOutBoxes_28 : decode cX9_layOutBoxes 28 = .ok (.aload_n 0, 1) := by decide +kernel
theorem dX9_layOutBoxes_29 : decode cX9_layOutBoxes 29 = .ok (.getfield 46, 3) := by decide +kernel
theorem dX9_layOutBoxes_32 : decode cX9_layOutBoxes 32 = .ok (.getfield 189, 3) := by decide +kernel
theorem dX9_layOutBoxes_35 : decode cX9_layOutBoxes 35 = .ok (.iload_n 3, 1) := by decide +kernel
theorem dX9_layOutBoxes_36 : decode cX9_layOutBoxes 36 = .ok (.iaload, 1) := by decide +kernel
theorem dX9_layOutBoxes_37 : decode cX9_layOutBoxes 37 = .ok (.iconst 2, 1) := by decide +kernel
theorem dX9_layOutBoxes_38 : decode cX9_layOutBoxes 38 = .ok (.if_icmp .eq 7, 3) := by decide +kernel
theorem dX9_layOutBoxes_41 : decode cX9_layOutBoxes 41 = .ok (.iconst 1, 1) := by decide +kernel
theorem dX9_layOutBoxes_42 : decode cX9_layOutBoxes 42 = .ok (.goto 4, 3) := by decide +kernel
theorem dX9_layOutBoxes_45 : decode cX9_layOutBoxes 45 = .ok (.iconst 0, 1) := by decide +kernel
theorem dX9_layOutBoxes_46 : decode cX9_layOutBoxes 46 = .ok (.istore 4, 2) := by decide +kernel
theorem dX9_layOutBoxes_48 : decode cX9_layOutBoxes 48 = .ok (.aload_n 0, 1) := by decide +kernel
theorem dX9_layOutBoxes_49 : decode cX9_layOutBoxes 49 = .ok (.getfield 60, 3) := by decide +kernel
theorem dX9_layOutBoxes_52 : decode cX9_layOutBoxes 52 = .ok (.aload_n 0, 1) := by decide +kernel
theorem dX9_layOutBoxes_53 : decode cX9_layOutBoxes 53 = .ok (.getfield 39, 3) := by decide +kernel
theorem dX9_layOutBoxes_56 : decode cX9_layOutBoxes 56 = .ok (.iload_n 3, 1) := by decide +kernel
theorem dX9_layOutBoxes_57 : decode cX9_layOutBoxes 57 = .ok (.invokevirtual 183, 3) := by decide +kernel
theorem dX9_layOutBoxes_60 : decode cX9_layOutBoxes 60 = .ok (.aload_n 0, 1) := by decide +kernel
theorem dX9_layOutBoxes_61 : decode cX9_layOutBoxes 61 = .ok (.getfield 39, 3) := by decide +kernel
theorem dX9_layOutBoxes_64 : decode cX9_layOutBoxes 64 = .ok (.iload_n 3, 1) := by decide +kernel
theorem dX9_layOutBoxes_65 : decode cX9_layOutBoxes 65 = .ok (.invokevirtual 186, 3) := by decide +kernel
theorem dX9_layOutBoxes_68 : decode cX9_layOutBoxes 68 = .ok (.iload 4, 2) := by decide +kernel
theorem dX9_layOutBoxes_70 : decode cX9_layOutBoxes 70 = .ok (.invokevirtual 260, 3) := by decide +kernel
theorem dX9_layOutBoxes_73 : decode cX9_layOutBoxes 73 = .ok (.iinc 2 1, 3) := by decide +kernel
theorem dX9_layOutBoxes_76 : decode cX9_layOutBoxes 76 = .ok (.goto (-67), 3) := by decide +kernel
theorem dX9_layOutBoxes_79 : decode cX9_layOutBoxes 79 = .ok (.return_, 1) := by decide +kernel
