theorem dX2_init_0 : decode cX2_init 0 = .ok (.aload_n 0, 1) := by decide +kernel
theorem dX2_init_1 : decode cX2_init 1 = .ok (.invokespecial 1, 3) := by decide +kernel
theorem dX2_init_4 : decode cX2_init 4 = .ok (.aload_n 0, 1) := by decide +kernel
theorem dX2_init_5 : decode cX2_init 5 = .ok (.bipush 32, 2) := by decide +kernel
theorem dX2_init_7 : decode cX2_init 7 = .ok (.newarray .long, 2) := by decide +kernel
theorem dX2_init_9 : decode cX2_init 9 = .ok (.putfield 9, 3) := by decide +kernel
theorem dX2_init_12 : decode cX2_init 12 = .ok (.return_, 1) := by decide +kernel
theorem dX2_clear_0 : decode cX2_clear 0 = .ok (.aload_n 0, 1) := by decide +kernel
theorem dX2_clear_1 : decode cX2_clear 1 = .ok (.lconst 0, 1) := by decide +kernel
theorem dX2_clear_2 : decode cX2_clear 2 = .ok (.putfield 13, 3) := by decide +kernel
theorem dX2_clear_5 : decode cX2_clear 5 = .ok (.aload_n 0, 1) := by decide +kernel
theorem dX2_clear_6 : decode cX2_clear 6 = .ok (.iconst 0, 1) := by decide +kernel
theorem dX2_clear_7 : decode cX2_clear 7 = .ok (.putfield 17, 3) := by decide +kernel
theorem dX2_clear_10 : decode cX2_clear 10 = .ok (.iconst 0, 1) := by decide +kernel
theorem dX2_clear_11 : decode cX2_clear 11 = .ok (.istore_n 1, 1) := by decide +kernel
theorem dX2_clear_12 : decode cX2_clear 12 = .ok (.iload_n 1, 1) := by decide +kernel
theorem dX2_clear_13 : decode cX2_clear 13 = .ok (.bipush 32, 2) := by decide +kernel
theorem dX2_clear_15 : decode cX2_clear 15 = .ok (.if_icmp .ge 16, 3) := by decide +kernel
theorem dX2_clear_18 : decode cX2_clear 18 = .ok (.aload_n 0, 1) := by decide +kernel
theorem dX2_clear_19 : decode cX2_clear 19 = .ok (.getfield 9, 3) := by decide +kernel
theorem dX2_clear_22 : decode cX2_clear 22 = .ok (.iload_n 1, 1) := by decide +kernel
theorem dX2_clear_23 : decode cX2_clear 23 = .ok (.lconst 0, 1) := by decide +kernel
theorem dX2_clear_24 : decode cX2_clear 24 = .ok (.lastore, 1) := by decide +kernel
theorem dX2_clear_25 : decode cX2_clear 25 = .ok (.iinc 1 1, 3) := by decide +kernel
theorem dX2_clear_28 : decode cX2_clear 28 = .ok (.goto (-16), 3) := by decide +kernel
theorem dX2_clear_31 : decode cX2_clear 31 = .ok (.return_, 1) := by decide +kernel
set_option maxRecDepth 20000 in
theorem ggX2_plus_J9_floorDiv_f86c9 : GoodIn wsX2_plus wsJ9_floorDiv_f86c9 := goodIn_r _ [7] rfl (by decide +kernel)
set_option maxRecDepth 20000 in
theorem gX2_plus_J9_floorDiv_f86c9 : GoodIn wsX2_plus (va_wsS RX2 21 yJ9_floorDiv_f86c9 wsJ9_floorDiv_f86c9) := goodIn_app (goodIn_r ([.methodLink RX2 21 yJ9_floorDiv_f86c9, .static yJ9_floorDiv_f86c9, .initialized yJ9_floorDiv_f86c9.cls] : List Cond) [4, 5, 6] rfl (by decide +kernel)) ggX2_plus_J9_floorDiv_f86c9
set_option maxRecDepth 20000 in
theorem ggX2_plus_J9_floorMod_f86c9 : GoodIn wsX2_plus wsJ9_floorMod_f86c9 := goodIn_r _ [10] rfl (by decide +kernel)
set_option maxRecDepth 20000 in
theorem gX2_plus_J9_floorMod_f86c9 : GoodIn wsX2_plus (va_wsS RX2 27 yJ9_floorMod_f86c9 wsJ9_floorMod_f86c9) := goodIn_app (goodIn_r ([.methodLink RX2 27 yJ9_floorMod_f86c9, .static yJ9_floorMod_f86c9, .initialized yJ9_floorMod_f86c9.cls] : List Cond) [8, 9, 6] rfl (by decide +kernel)) ggX2_plus_J9_floorMod_f86c9
theorem dX2_plus_0 : decode cX2_plus 0 = .ok (.lload_n 3, 1) := by decide +kernel
theorem dX2_plus_1 : decode cX2_plus 1 = .ok (.lconst 1, 1) := by decide +kernel
theorem dX2_plus_2 : decode cX2_plus 2 = .ok (.lcmp, 1) := by decide +kernel
theorem dX2_plus_3 : decode cX2_plus 3 = .ok (.ifCond .ge 4, 3) := by decide +kernel
theorem dX2_plus_6 : decode cX2_plus 6 = .ok (.return_, 1) := by decide +kernel
theorem dX2_plus_7 : decode cX2_plus 7 = .ok (.aload_n 0, 1) := by decide +kernel
theorem dX2_plus_8 : decode cX2_plus 8 = .ok (.dup, 1) := by decide +kernel
theorem dX2_plus_9 : decode cX2_plus 9 = .ok (.getfield 13, 3) := by decide +kernel
theorem dX2_plus_12 : decode cX2_plus 12 = .ok (.lload_n 1, 1) := by decide +kernel
theorem dX2_plus_13 : decode cX2_plus 13 = .ok (.lload_n 3, 1) := by decide +kernel
theorem dX2_plus_14 : decode cX2_plus 14 = .ok (.invokestatic 21, 3) := by decide +kernel
theorem dX2_plus_17 : decode cX2_plus 17 = .ok (.ladd, 1) := by decide +kernel
theorem dX2_plus_18 : decode cX2_plus 18 = .ok (.putfield 13, 3) := by decide +kernel
theorem dX2_plus_21 : decode cX2_plus 21 = .ok (.lload_n 1, 1) := by decide +kernel
theorem dX2_plus_22 : decode cX2_plus 22 = .ok (.lload_n 3, 1) := by decide +kernel
theorem dX2_plus_23 : decode cX2_plus 23 = .ok (.invokestatic 27, 3) := by decide +kernel
theorem dX2_plus_26 : decode cX2_plus 26 = .ok (.lstore 5, 2) := by decide +kernel
theorem dX2_plus_28 : decode cX2_plus 28 = .ok (.iconst 0, 1) := by decide +kernel
theorem dX2_plus_29 : decode cX2_plus 29 = .ok (.istore 7, 2) := by decide +kernel
theorem dX2_plus_31 : decode cX2_plus 31 = .ok (.iload 7, 2) := by decide +kernel
theorem dX2_plus_33 : decode cX2_plus 33 = .ok (.bipush 32, 2) := by decide +kernel
theorem dX2_plus_35 : decode cX2_plus 35 = .ok (.if_icmp .ge 36, 3) := by decide +kernel
theorem dX2_plus_38 : decode cX2_plus 38 = .ok (.lload 5, 2) := by decide +kernel
theorem dX2_plus_40 : decode cX2_plus 40 = .ok (.bipush 30, 2) := by decide +kernel
theorem dX2_plus_42 : decode cX2_plus 42 = .ok (.lshl, 1) := by decide +kernel
theorem dX2_plus_43 : decode cX2_plus 43 = .ok (.lstore 8, 2) := by decide +kernel
theorem dX2_plus_45 : decode cX2_plus 45 = .ok (.aload_n 0, 1) := by decide +kernel
theorem dX2_plus_46 : decode cX2_plus 46 = .ok (.getfield 9, 3) := by decide +kernel
theorem dX2_plus_49 : decode cX2_plus 49 = .ok (.iload 7, 2) := by decide +kernel
theorem dX2_plus_51 : decode cX2_plus 51 = .ok (.dup2, 1) := by decide +kernel
theorem dX2_plus_52 : decode cX2_plus 52 = .ok (.laload, 1) := by decide +kernel
theorem dX2_plus_53 : decode cX2_plus 53 = .ok (.lload 8, 2) := by decide +kernel
theorem dX2_plus_55 : decode cX2_plus 55 = .ok (.lload_n 3, 1) := by decide +kernel
theorem dX2_plus_56 : decode cX2_plus 56 = .ok (.ldiv, 1) := by decide +kernel
theorem dX2_plus_57 : decode cX2_plus 57 = .ok (.ladd, 1) := by decide +kernel
theorem dX2_plus_58 : decode cX2_plus 58 = .ok (.lastore, 1) := by decide +kernel
theorem dX2_plus_59 : decode cX2_plus 59 = .ok (.lload 8, 2) := by decide +kernel
theorem dX2_plus_61 : decode cX2_plus 61 = .ok (.lload_n 3, 1) := by decide +kernel
theorem dX2_plus_62 : decode cX2_plus 62 = .ok (.lrem, 1) := by decide +kernel
theorem dX2_plus_63 : decode cX2_plus 63 = .ok (.lstore 5, 2) := by decide +kernel
theorem dX2_plus_65 : decode cX2_plus 65 = .ok (.iinc 7 1, 3) := by decide +kernel
theorem dX2_plus_68 : decode cX2_plus 68 = .ok (.goto (-37), 3) := by decide +kernel
theorem dX2_plus_71 : decode cX2_plus 71 = .ok (.aload_n 0, 1) := by decide +kernel
theorem dX2_plus_72 : decode cX2_plus 72 = .ok (.dup, 1) := by decide +kernel
theorem dX2_plus_73 : decode cX2_plus 73 = .ok (.getfield 17, 3) := by decide +kernel
theorem dX2_plus_76 : decode cX2_plus 76 = .ok (.iconst 1, 1) := by decide +kernel
theorem dX2_plus_77 : decode cX2_plus 77 = .ok (.iadd, 1) := by decide +kernel
theorem dX2_plus_78 : decode cX2_plus 78 = .ok (.putfield 17, 3) := by decide +kernel
theorem dX2_plus_81 : decode cX2_plus 81 = .ok (.return_, 1) := by decide +kernel
theorem dX2_wholePart_0 : decode cX2_wholePart 0 = .ok (.aload_n 0, 1) := by decide +kernel
theorem dX2_wholePart_1 : decode cX2_wholePart 1 = .ok (.getfield 17, 3) := by decide +kernel
theorem dX2_wholePart_4 : decode cX2_wholePart 4 = .ok (.i2l, 1) := by decide +kernel
theorem dX2_wholePart_5 : decode cX2_wholePart 5 = .ok (.lstore_n 1, 1) := by decide +kernel
theorem dX2_wholePart_6 : decode cX2_wholePart 6 = .ok (.bipush 31, 2) := by decide +kernel
theorem dX2_wholePart_8 : decode cX2_wholePart 8 = .ok (.istore_n 3, 1) := by decide +kernel
theorem dX2_wholePart_9 : decode cX2_wholePart 9 = .ok (.iload_n 3, 1) := by decide +kernel
theorem dX2_wholePart_10 : decode cX2_wholePart 10 = .ok (.ifCond .lt 21, 3) := by decide +kernel
theorem dX2_wholePart_13 : decode cX2_wholePart 13 = .ok (.aload_n 0, 1) := by decide +kernel
theorem dX2_wholePart_14 : decode cX2_wholePart 14 = .ok (.getfield 9, 3) := by decide +kernel
theorem dX2_wholePart_17 : decode cX2_wholePart 17 = .ok (.iload_n 3, 1) := by decide +kernel
theorem dX2_wholePart_18 : decode cX2_wholePart 18 = .ok (.laload, 1) := by decide +kernel
theorem dX2_wholePart_19 : decode cX2_wholePart 19 = .ok (.lload_n 1, 1) := by decide +kernel
theorem dX2_wholePart_20 : decode cX2_wholePart 20 = .ok (.ladd, 1) := by decide +kernel
theorem dX2_wholePart_21 : decode cX2_wholePart 21 = .ok (.bipush 30, 2) := by decide +kernel
theorem dX2_wholePart_23 : decode cX2_wholePart 23 = .ok (.lshr, 1) := by decide +kernel
theorem dX2_wholePart_24 : decode cX2_wholePart 24 = .ok (.lstore_n 1, 1) := by decide +kernel
theorem dX2_wholePart_25 : decode cX2_wholePart 25 = .ok (.iinc 3 (-1), 3) := by decide +kernel
theorem dX2_wholePart_28 : decode cX2_wholePart 28 = .ok (.goto (-19), 3) := by decide +kernel
theorem dX2_wholePart_31 : decode cX2_wholePart 31 = .ok (.aload_n 0, 1) := by decide +kernel
theorem dX2_wholePart_32 : decode cX2_wholePart 32 = .ok (.getfield 13, 3) := by decide +kernel
theorem dX2_wholePart_35 : decode cX2_wholePart 35 = .ok (.lload_n 1, 1) := by decide +kernel
theorem dX2_wholePart_36 : decode cX2_wholePart 36 = .ok (.ladd, 1) := by decide +kernel
theorem dX2_wholePart_37 : decode cX2_wholePart 37 = .ok (.lreturn, 1) := by decide +kernel
