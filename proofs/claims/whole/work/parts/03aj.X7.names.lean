set_option maxRecDepth 20000 in
theorem ggX7_init_X2_init : GoodIn wsX7_init wsX2_init := goodIn_r _ [18, 19, 2, 3, 20, 21, 31, 32, 33] rfl (by decide +kernel)
set_option maxRecDepth 20000 in
theorem gX7_init_X2_init : GoodIn wsX7_init (wsX2_init) := ggX7_init_X2_init
theorem dX7_init_0 : decode cX7_init 0 = .ok (.aload_n 0, 1) := by decide +kernel
theorem dX7_init_1 : decode cX7_init 1 = .ok (.invokespecial 3, 3) := by decide +kernel
theorem dX7_init_4 : decode cX7_init 4 = .ok (.aload_n 0, 1) := by decide +kernel
theorem dX7_init_5 : decode cX7_init 5 = .ok (.aload_n 1, 1) := by decide +kernel
theorem dX7_init_6 : decode cX7_init 6 = .ok (.getfield 9, 3) := by decide +kernel
theorem dX7_init_9 : decode cX7_init 9 = .ok (.putfield 15, 3) := by decide +kernel
theorem dX7_init_12 : decode cX7_init 12 = .ok (.aload_n 0, 1) := by decide +kernel
theorem dX7_init_13 : decode cX7_init 13 = .ok (.aload_n 1, 1) := by decide +kernel
theorem dX7_init_14 : decode cX7_init 14 = .ok (.getfield 18, 3) := by decide +kernel
theorem dX7_init_17 : decode cX7_init 17 = .ok (.putfield 22, 3) := by decide +kernel
theorem dX7_init_20 : decode cX7_init 20 = .ok (.aload_n 0, 1) := by decide +kernel
theorem dX7_init_21 : decode cX7_init 21 = .ok (.sipush 768, 3) := by decide +kernel
theorem dX7_init_24 : decode cX7_init 24 = .ok (.newarray .int, 2) := by decide +kernel
theorem dX7_init_26 : decode cX7_init 26 = .ok (.putfield 23, 3) := by decide +kernel
theorem dX7_init_29 : decode cX7_init 29 = .ok (.aload_n 0, 1) := by decide +kernel
theorem dX7_init_30 : decode cX7_init 30 = .ok (.sipush 768, 3) := by decide +kernel
theorem dX7_init_33 : decode cX7_init 33 = .ok (.newarray .int, 2) := by decide +kernel
theorem dX7_init_35 : decode cX7_init 35 = .ok (.putfield 27, 3) := by decide +kernel
theorem dX7_init_38 : decode cX7_init 38 = .ok (.aload_n 0, 1) := by decide +kernel
theorem dX7_init_39 : decode cX7_init 39 = .ok (.sipush 129, 3) := by decide +kernel
theorem dX7_init_42 : decode cX7_init 42 = .ok (.newarray .int, 2) := by decide +kernel
theorem dX7_init_44 : decode cX7_init 44 = .ok (.putfield 30, 3) := by decide +kernel
theorem dX7_init_47 : decode cX7_init 47 = .ok (.aload_n 0, 1) := by decide +kernel
theorem dX7_init_48 : decode cX7_init 48 = .ok (.new 33, 3) := by decide +kernel
theorem dX7_init_51 : decode cX7_init 51 = .ok (.dup, 1) := by decide +kernel
theorem dX7_init_52 : decode cX7_init 52 = .ok (.invokespecial 35, 3) := by decide +kernel
theorem dX7_init_55 : decode cX7_init 55 = .ok (.putfield 36, 3) := by decide +kernel
theorem dX7_init_58 : decode cX7_init 58 = .ok (.return_, 1) := by decide +kernel
set_option maxRecDepth 20000 in
theorem ggX7_find_X7_stepWithOutside : GoodIn wsX7_find wsX7_stepWithOutside := goodIn_r _ [11, 1, 12, 13, 14, 15, 48, 49, 50, 51, 52, 53, 54, 55, 56, 57, 58, 59, 60, 61, 62, 63, 64, 65, 66, 67, 68, 69] rfl (by decide +kernel)
set_option maxRecDepth 20000 in
theorem gX7_find_X7_stepWithOutside : GoodIn wsX7_find (wsV RX7 50 RX7 yX7_stepWithOutside wsX7_stepWithOutside) := goodIn_app (goodIn_r ([.methodLink RX7 50 yX7_stepWithOutside, .instanceMethod yX7_stepWithOutside, .selects RX7 yX7_stepWithOutside yX7_stepWithOutside, .initialized RX7] : List Cond) [7, 8, 9, 10] rfl (by decide +kernel)) ggX7_find_X7_stepWithOutside
set_option maxRecDepth 20000 in
theorem ggX7_find_X7_follow : GoodIn wsX7_find wsX7_follow := goodIn_r _ [19, 1, 2, 3, 20, 21, 22, 23, 24, 25, 26, 27, 28, 29, 30, 31, 32, 33, 34, 35, 36, 37, 38, 39, 40, 41, 42, 43, 44, 45, 46, 47, 48, 49, 50, 51, 52, 53, 54, 55, 56, 57, 58, 59, 60, 61, 62, 63, 64, 65, 66, 67, 68, 69] rfl (by decide +kernel)
set_option maxRecDepth 20000 in
theorem gX7_find_X7_follow : GoodIn wsX7_find (wsV RX7 54 RX7 yX7_follow wsX7_follow) := goodIn_app (goodIn_r ([.methodLink RX7 54 yX7_follow, .instanceMethod yX7_follow, .selects RX7 yX7_follow yX7_follow, .initialized RX7] : List Cond) [16, 17, 18, 10] rfl (by decide +kernel)) ggX7_find_X7_follow
theorem dX7_find_0 : decode cX7_find 0 = .ok (.iconst 0, 1) := by decide +kernel
theorem dX7_find_1 : decode cX7_find 1 = .ok (.istore_n 1, 1) := by decide +kernel
theorem dX7_find_2 : decode cX7_find 2 = .ok (.iload_n 1, 1) := by decide +kernel
theorem dX7_find_3 : decode cX7_find 3 = .ok (.aload_n 0, 1) := by decide +kernel
theorem dX7_find_4 : decode cX7_find 4 = .ok (.getfield 22, 3) := by decide +kernel
theorem dX7_find_7 : decode cX7_find 7 = .ok (.getfield 40, 3) := by decide +kernel
theorem dX7_find_10 : decode cX7_find 10 = .ok (.if_icmp .ge 33, 3) := by decide +kernel
theorem dX7_find_13 : decode cX7_find 13 = .ok (.aload_n 0, 1) := by decide +kernel
theorem dX7_find_14 : decode cX7_find 14 = .ok (.getfield 23, 3) := by decide +kernel
theorem dX7_find_17 : decode cX7_find 17 = .ok (.iload_n 1, 1) := by decide +kernel
theorem dX7_find_18 : decode cX7_find 18 = .ok (.aload_n 0, 1) := by decide +kernel
theorem dX7_find_19 : decode cX7_find 19 = .ok (.getfield 22, 3) := by decide +kernel
theorem dX7_find_22 : decode cX7_find 22 = .ok (.getfield 46, 3) := by decide +kernel
theorem dX7_find_25 : decode cX7_find 25 = .ok (.iload_n 1, 1) := by decide +kernel
theorem dX7_find_26 : decode cX7_find 26 = .ok (.baload, 1) := by decide +kernel
theorem dX7_find_27 : decode cX7_find 27 = .ok (.ifCond .eq 8, 3) := by decide +kernel
theorem dX7_find_30 : decode cX7_find 30 = .ok (.bipush (-2), 2) := by decide +kernel
theorem dX7_find_32 : decode cX7_find 32 = .ok (.goto 4, 3) := by decide +kernel
theorem dX7_find_35 : decode cX7_find 35 = .ok (.iconst (-1), 1) := by decide +kernel
theorem dX7_find_36 : decode cX7_find 36 = .ok (.iastore, 1) := by decide +kernel
theorem dX7_find_37 : decode cX7_find 37 = .ok (.iinc 1 1, 3) := by decide +kernel
theorem dX7_find_40 : decode cX7_find 40 = .ok (.goto (-38), 3) := by decide +kernel
theorem dX7_find_43 : decode cX7_find 43 = .ok (.aload_n 0, 1) := by decide +kernel
theorem dX7_find_44 : decode cX7_find 44 = .ok (.aload_n 0, 1) := by decide +kernel
theorem dX7_find_45 : decode cX7_find 45 = .ok (.invokevirtual 50, 3) := by decide +kernel
theorem dX7_find_48 : decode cX7_find 48 = .ok (.iconst (-1), 1) := by decide +kernel
theorem dX7_find_49 : decode cX7_find 49 = .ok (.iconst 0, 1) := by decide +kernel
theorem dX7_find_50 : decode cX7_find 50 = .ok (.invokevirtual 54, 3) := by decide +kernel
theorem dX7_find_53 : decode cX7_find 53 = .ok (.pop, 1) := by decide +kernel
theorem dX7_find_54 : decode cX7_find 54 = .ok (.aload_n 0, 1) := by decide +kernel
theorem dX7_find_55 : decode cX7_find 55 = .ok (.iconst 0, 1) := by decide +kernel
theorem dX7_find_56 : decode cX7_find 56 = .ok (.putfield 58, 3) := by decide +kernel
theorem dX7_find_59 : decode cX7_find 59 = .ok (.aload_n 0, 1) := by decide +kernel
theorem dX7_find_60 : decode cX7_find 60 = .ok (.getfield 30, 3) := by decide +kernel
theorem dX7_find_63 : decode cX7_find 63 = .ok (.iconst 0, 1) := by decide +kernel
theorem dX7_find_64 : decode cX7_find 64 = .ok (.iconst 0, 1) := by decide +kernel
theorem dX7_find_65 : decode cX7_find 65 = .ok (.iastore, 1) := by decide +kernel
theorem dX7_find_66 : decode cX7_find 66 = .ok (.iconst 0, 1) := by decide +kernel
theorem dX7_find_67 : decode cX7_find 67 = .ok (.istore_n 1, 1) := by decide +kernel
theorem dX7_find_68 : decode cX7_find 68 = .ok (.iload_n 1, 1) := by decide +kernel
theorem dX7_find_69 : decode cX7_find 69 = .ok (.aload_n 0, 1) := by decide +kernel
theorem dX7_find_70 : decode cX7_find 70 = .ok (.getfield 22, 3) := by decide +kernel
theorem dX7_find_73 : decode cX7_find 73 = .ok (.getfield 40, 3) := by decide +kernel
theorem dX7_find_76 : decode cX7_find 76 = .ok (.if_icmp .ge 69, 3) := by decide +kernel
theorem dX7_find_79 : decode cX7_find 79 = .ok (.aload_n 0, 1) := by decide +kernel
theorem dX7_find_80 : decode cX7_find 80 = .ok (.getfield 58, 3) := by decide +kernel
theorem dX7_find_83 : decode cX7_find 83 = .ok (.sipush 128, 3) := by decide +kernel
theorem dX7_find_86 : decode cX7_find 86 = .ok (.if_icmp .ge 59, 3) := by decide +kernel
theorem dX7_find_89 : decode cX7_find 89 = .ok (.aload_n 0, 1) := by decide +kernel
theorem dX7_find_90 : decode cX7_find 90 = .ok (.getfield 23, 3) := by decide +kernel
theorem dX7_find_93 : decode cX7_find 93 = .ok (.iload_n 1, 1) := by decide +kernel
theorem dX7_find_94 : decode cX7_find 94 = .ok (.iaload, 1) := by decide +kernel
theorem dX7_find_95 : decode cX7_find 95 = .ok (.bipush (-2), 2) := by decide +kernel
theorem dX7_find_97 : decode cX7_find 97 = .ok (.if_icmp .ne 42, 3) := by decide +kernel
theorem dX7_find_100 : decode cX7_find 100 = .ok (.aload_n 0, 1) := by decide +kernel
theorem dX7_find_101 : decode cX7_find 101 = .ok (.getfield 30, 3) := by decide +kernel
theorem dX7_find_104 : decode cX7_find 104 = .ok (.aload_n 0, 1) := by decide +kernel
theorem dX7_find_105 : decode cX7_find 105 = .ok (.getfield 58, 3) := by decide +kernel
theorem dX7_find_108 : decode cX7_find 108 = .ok (.iconst 1, 1) := by decide +kernel
theorem dX7_find_109 : decode cX7_find 109 = .ok (.iadd, 1) := by decide +kernel
theorem dX7_find_110 : decode cX7_find 110 = .ok (.aload_n 0, 1) := by decide +kernel
theorem dX7_find_111 : decode cX7_find 111 = .ok (.iload_n 1, 1) := by decide +kernel
theorem dX7_find_112 : decode cX7_find 112 = .ok (.aload_n 0, 1) := by decide +kernel
theorem dX7_find_113 : decode cX7_find 113 = .ok (.getfield 58, 3) := by decide +kernel
theorem dX7_find_116 : decode cX7_find 116 = .ok (.aload_n 0, 1) := by decide +kernel
theorem dX7_find_117 : decode cX7_find 117 = .ok (.getfield 30, 3) := by decide +kernel
theorem dX7_find_120 : decode cX7_find 120 = .ok (.aload_n 0, 1) := by decide +kernel
theorem dX7_find_121 : decode cX7_find 121 = .ok (.getfield 58, 3) := by decide +kernel
theorem dX7_find_124 : decode cX7_find 124 = .ok (.iaload, 1) := by decide +kernel
theorem dX7_find_125 : decode cX7_find 125 = .ok (.invokevirtual 54, 3) := by decide +kernel
theorem dX7_find_128 : decode cX7_find 128 = .ok (.iastore, 1) := by decide +kernel
theorem dX7_find_129 : decode cX7_find 129 = .ok (.aload_n 0, 1) := by decide +kernel
theorem dX7_find_130 : decode cX7_find 130 = .ok (.dup, 1) := by decide +kernel
theorem dX7_find_131 : decode cX7_find 131 = .ok (.getfield 58, 3) := by decide +kernel
theorem dX7_find_134 : decode cX7_find 134 = .ok (.iconst 1, 1) := by decide +kernel
theorem dX7_find_135 : decode cX7_find 135 = .ok (.iadd, 1) := by decide +kernel
theorem dX7_find_136 : decode cX7_find 136 = .ok (.putfield 58, 3) := by decide +kernel
theorem dX7_find_139 : decode cX7_find 139 = .ok (.iinc 1 1, 3) := by decide +kernel
theorem dX7_find_142 : decode cX7_find 142 = .ok (.goto (-74), 3) := by decide +kernel
theorem dX7_find_145 : decode cX7_find 145 = .ok (.return_, 1) := by decide +kernel
theorem dX7_stepWithOutside_0 : decode cX7_stepWithOutside 0 = .ok (.iconst 0, 1) := by decide +kernel
theorem dX7_stepWithOutside_1 : decode cX7_stepWithOutside 1 = .ok (.istore_n 1, 1) := by decide +kernel
theorem dX7_stepWithOutside_2 : decode cX7_stepWithOutside 2 = .ok (.aload_n 0, 1) := by decide +kernel
theorem dX7_stepWithOutside_3 : decode cX7_stepWithOutside 3 = .ok (.getfield 22, 3) := by decide +kernel
theorem dX7_stepWithOutside_6 : decode cX7_stepWithOutside 6 = .ok (.getfield 61, 3) := by decide +kernel
theorem dX7_stepWithOutside_9 : decode cX7_stepWithOutside 9 = .ok (.iconst 0, 1) := by decide +kernel
theorem dX7_stepWithOutside_10 : decode cX7_stepWithOutside 10 = .ok (.iaload, 1) := by decide +kernel
theorem dX7_stepWithOutside_11 : decode cX7_stepWithOutside 11 = .ok (.istore_n 2, 1) := by decide +kernel
theorem dX7_stepWithOutside_12 : decode cX7_stepWithOutside 12 = .ok (.iload_n 2, 1) := by decide +kernel
theorem dX7_stepWithOutside_13 : decode cX7_stepWithOutside 13 = .ok (.aload_n 0, 1) := by decide +kernel
theorem dX7_stepWithOutside_14 : decode cX7_stepWithOutside 14 = .ok (.getfield 22, 3) := by decide +kernel
theorem dX7_stepWithOutside_17 : decode cX7_stepWithOutside 17 = .ok (.getfield 61, 3) := by decide +kernel
theorem dX7_stepWithOutside_20 : decode cX7_stepWithOutside 20 = .ok (.iconst 1, 1) := by decide +kernel
theorem dX7_stepWithOutside_21 : decode cX7_stepWithOutside 21 = .ok (.iaload, 1) := by decide +kernel
theorem dX7_stepWithOutside_22 : decode cX7_stepWithOutside 22 = .ok (.if_icmp .ge 31, 3) := by decide +kernel
theorem dX7_stepWithOutside_25 : decode cX7_stepWithOutside 25 = .ok (.aload_n 0, 1) := by decide +kernel
theorem dX7_stepWithOutside_26 : decode cX7_stepWithOutside 26 = .ok (.getfield 15, 3) := by decide +kernel
theorem dX7_stepWithOutside_29 : decode cX7_stepWithOutside 29 = .ok (.getfield 64, 3) := by decide +kernel
theorem dX7_stepWithOutside_32 : decode cX7_stepWithOutside 32 = .ok (.aload_n 0, 1) := by decide +kernel
theorem dX7_stepWithOutside_33 : decode cX7_stepWithOutside 33 = .ok (.getfield 22, 3) := by decide +kernel
theorem dX7_stepWithOutside_36 : decode cX7_stepWithOutside 36 = .ok (.getfield 69, 3) := by decide +kernel
theorem dX7_stepWithOutside_39 : decode cX7_stepWithOutside 39 = .ok (.iload_n 2, 1) := by decide +kernel
theorem dX7_stepWithOutside_40 : decode cX7_stepWithOutside 40 = .ok (.iaload, 1) := by decide +kernel
theorem dX7_stepWithOutside_41 : decode cX7_stepWithOutside 41 = .ok (.iaload, 1) := by decide +kernel
theorem dX7_stepWithOutside_42 : decode cX7_stepWithOutside 42 = .ok (.ifCond .ne 5, 3) := by decide +kernel
theorem dX7_stepWithOutside_45 : decode cX7_stepWithOutside 45 = .ok (.iload_n 2, 1) := by decide +kernel
theorem dX7_stepWithOutside_46 : decode cX7_stepWithOutside 46 = .ok (.istore_n 1, 1) := by decide +kernel
theorem dX7_stepWithOutside_47 : decode cX7_stepWithOutside 47 = .ok (.iinc 2 1, 3) := by decide +kernel
theorem dX7_stepWithOutside_50 : decode cX7_stepWithOutside 50 = .ok (.goto (-38), 3) := by decide +kernel
theorem dX7_stepWithOutside_53 : decode cX7_stepWithOutside 53 = .ok (.iload_n 1, 1) := by decide +kernel
theorem dX7_stepWithOutside_54 : decode cX7_stepWithOutside 54 = .ok (.ireturn, 1) := by decide +kernel
set_option maxRecDepth 20000 in
theorem ggX7_follow_X8_after : GoodIn wsX7_follow wsX8_after := goodIn_r _ [9, 10, 11, 12, 13, 14, 15, 16, 8, 17, 18, 19, 20, 21, 22, 23, 24, 25, 26, 27, 28, 29, 30, 31, 39, 40, 41, 42, 43, 44, 45, 46, 47, 48, 49, 50, 51, 52, 53] rfl (by decide +kernel)
set_option maxRecDepth 20000 in
theorem gX7_follow_X8_after : GoodIn wsX7_follow (wsV RX7 72 RX8 yX8_after wsX8_after) := goodIn_app (goodIn_r ([.methodLink RX7 72 yX8_after, .instanceMethod yX8_after, .selects RX8 yX8_after yX8_after, .initialized RX8] : List Cond) [5, 6, 7, 8] rfl (by decide +kernel)) ggX7_follow_X8_after
theorem dX7_follow_0 : decode cX7_follow 0 = .ok (.iload_n 3, 1) := by decide +kernel
theorem dX7_follow_1 : decode cX7_follow 1 = .ok (.istore 4, 2) := by decide +kernel
theorem dX7_follow_3 : decode cX7_follow 3 = .ok (.iload_n 1, 1) := by decide +kernel
theorem dX7_follow_4 : decode cX7_follow 4 = .ok (.istore 5, 2) := by decide +kernel
theorem dX7_follow_6 : decode cX7_follow 6 = .ok (.iconst 0, 1) := by decide +kernel
theorem dX7_follow_7 : decode cX7_follow 7 = .ok (.istore 6, 2) := by decide +kernel
theorem dX7_follow_9 : decode cX7_follow 9 = .ok (.iload 6, 2) := by decide +kernel
theorem dX7_follow_11 : decode cX7_follow 11 = .ok (.aload_n 0, 1) := by decide +kernel
theorem dX7_follow_12 : decode cX7_follow 12 = .ok (.getfield 22, 3) := by decide +kernel
theorem dX7_follow_15 : decode cX7_follow 15 = .ok (.getfield 40, 3) := by decide +kernel
theorem dX7_follow_18 : decode cX7_follow 18 = .ok (.if_icmp .ge 60, 3) := by decide +kernel
theorem dX7_follow_21 : decode cX7_follow 21 = .ok (.aload_n 0, 1) := by decide +kernel
theorem dX7_follow_22 : decode cX7_follow 22 = .ok (.getfield 23, 3) := by decide +kernel
theorem dX7_follow_25 : decode cX7_follow 25 = .ok (.iload 5, 2) := by decide +kernel
theorem dX7_follow_27 : decode cX7_follow 27 = .ok (.iaload, 1) := by decide +kernel
theorem dX7_follow_28 : decode cX7_follow 28 = .ok (.bipush (-2), 2) := by decide +kernel
theorem dX7_follow_30 : decode cX7_follow 30 = .ok (.if_icmp .ne 48, 3) := by decide +kernel
theorem dX7_follow_33 : decode cX7_follow 33 = .ok (.aload_n 0, 1) := by decide +kernel
theorem dX7_follow_34 : decode cX7_follow 34 = .ok (.getfield 23, 3) := by decide +kernel
theorem dX7_follow_37 : decode cX7_follow 37 = .ok (.iload 5, 2) := by decide +kernel
theorem dX7_follow_39 : decode cX7_follow 39 = .ok (.iload_n 2, 1) := by decide +kernel
theorem dX7_follow_40 : decode cX7_follow 40 = .ok (.iastore, 1) := by decide +kernel
theorem dX7_follow_41 : decode cX7_follow 41 = .ok (.iload 4, 2) := by decide +kernel
theorem dX7_follow_43 : decode cX7_follow 43 = .ok (.sipush 768, 3) := by decide +kernel
theorem dX7_follow_46 : decode cX7_follow 46 = .ok (.if_icmp .ge 15, 3) := by decide +kernel
theorem dX7_follow_49 : decode cX7_follow 49 = .ok (.aload_n 0, 1) := by decide +kernel
theorem dX7_follow_50 : decode cX7_follow 50 = .ok (.getfield 27, 3) := by decide +kernel
theorem dX7_follow_53 : decode cX7_follow 53 = .ok (.iload 4, 2) := by decide +kernel
theorem dX7_follow_55 : decode cX7_follow 55 = .ok (.iload 5, 2) := by decide +kernel
theorem dX7_follow_57 : decode cX7_follow 57 = .ok (.iastore, 1) := by decide +kernel
theorem dX7_follow_58 : decode cX7_follow 58 = .ok (.iinc 4 1, 3) := by decide +kernel
theorem dX7_follow_61 : decode cX7_follow 61 = .ok (.aload_n 0, 1) := by decide +kernel
theorem dX7_follow_62 : decode cX7_follow 62 = .ok (.getfield 22, 3) := by decide +kernel
theorem dX7_follow_65 : decode cX7_follow 65 = .ok (.iload 5, 2) := by decide +kernel
theorem dX7_follow_67 : decode cX7_follow 67 = .ok (.invokevirtual 72, 3) := by decide +kernel
theorem dX7_follow_70 : decode cX7_follow 70 = .ok (.istore 5, 2) := by decide +kernel
theorem dX7_follow_72 : decode cX7_follow 72 = .ok (.iinc 6 1, 3) := by decide +kernel
theorem dX7_follow_75 : decode cX7_follow 75 = .ok (.goto (-66), 3) := by decide +kernel
theorem dX7_follow_78 : decode cX7_follow 78 = .ok (.iload 4, 2) := by decide +kernel
theorem dX7_follow_80 : decode cX7_follow 80 = .ok (.ireturn, 1) := by decide +kernel
theorem dX7_corners_0 : decode cX7_corners 0 = .ok (.aload_n 0, 1) := by decide +kernel
theorem dX7_corners_1 : decode cX7_corners 1 = .ok (.getfield 30, 3) := by decide +kernel
theorem dX7_corners_4 : decode cX7_corners 4 = .ok (.iload_n 1, 1) := by decide +kernel
theorem dX7_corners_5 : decode cX7_corners 5 = .ok (.iconst 1, 1) := by decide +kernel
theorem dX7_corners_6 : decode cX7_corners 6 = .ok (.iadd, 1) := by decide +kernel
theorem dX7_corners_7 : decode cX7_corners 7 = .ok (.iaload, 1) := by decide +kernel
theorem dX7_corners_8 : decode cX7_corners 8 = .ok (.aload_n 0, 1) := by decide +kernel
theorem dX7_corners_9 : decode cX7_corners 9 = .ok (.getfield 30, 3) := by decide +kernel
theorem dX7_corners_12 : decode cX7_corners 12 = .ok (.iload_n 1, 1) := by decide +kernel
theorem dX7_corners_13 : decode cX7_corners 13 = .ok (.iaload, 1) := by decide +kernel
theorem dX7_corners_14 : decode cX7_corners 14 = .ok (.isub, 1) := by decide +kernel
theorem dX7_corners_15 : decode cX7_corners 15 = .ok (.ireturn, 1) := by decide +kernel
theorem dX7_jointAtCorner_0 : decode cX7_jointAtCorner 0 = .ok (.aload_n 0, 1) := by decide +kernel
theorem dX7_jointAtCorner_1 : decode cX7_jointAtCorner 1 = .ok (.getfield 22, 3) := by decide +kernel
theorem dX7_jointAtCorner_4 : decode cX7_jointAtCorner 4 = .ok (.getfield 76, 3) := by decide +kernel
theorem dX7_jointAtCorner_7 : decode cX7_jointAtCorner 7 = .ok (.aload_n 0, 1) := by decide +kernel
theorem dX7_jointAtCorner_8 : decode cX7_jointAtCorner 8 = .ok (.getfield 27, 3) := by decide +kernel
theorem dX7_jointAtCorner_11 : decode cX7_jointAtCorner 11 = .ok (.aload_n 0, 1) := by decide +kernel
theorem dX7_jointAtCorner_12 : decode cX7_jointAtCorner 12 = .ok (.getfield 30, 3) := by decide +kernel
theorem dX7_jointAtCorner_15 : decode cX7_jointAtCorner 15 = .ok (.iload_n 1, 1) := by decide +kernel
theorem dX7_jointAtCorner_16 : decode cX7_jointAtCorner 16 = .ok (.iaload, 1) := by decide +kernel
theorem dX7_jointAtCorner_17 : decode cX7_jointAtCorner 17 = .ok (.iload_n 2, 1) := by decide +kernel
theorem dX7_jointAtCorner_18 : decode cX7_jointAtCorner 18 = .ok (.iadd, 1) := by decide +kernel
theorem dX7_jointAtCorner_19 : decode cX7_jointAtCorner 19 = .ok (.iaload, 1) := by decide +kernel
theorem dX7_jointAtCorner_20 : decode cX7_jointAtCorner 20 = .ok (.iaload, 1) := by decide +kernel
theorem dX7_jointAtCorner_21 : decode cX7_jointAtCorner 21 = .ok (.ireturn, 1) := by decide +kernel
theorem dX7_beyond_0 : decode cX7_beyond 0 = .ok (.aload_n 0, 1) := by decide +kernel
theorem dX7_beyond_1 : decode cX7_beyond 1 = .ok (.getfield 23, 3) := by decide +kernel
theorem dX7_beyond_4 : decode cX7_beyond 4 = .ok (.aload_n 0, 1) := by decide +kernel
theorem dX7_beyond_5 : decode cX7_beyond 5 = .ok (.getfield 22, 3) := by decide +kernel
theorem dX7_beyond_8 : decode cX7_beyond 8 = .ok (.getfield 79, 3) := by decide +kernel
theorem dX7_beyond_11 : decode cX7_beyond 11 = .ok (.aload_n 0, 1) := by decide +kernel
theorem dX7_beyond_12 : decode cX7_beyond 12 = .ok (.getfield 27, 3) := by decide +kernel
theorem dX7_beyond_15 : decode cX7_beyond 15 = .ok (.aload_n 0, 1) := by decide +kernel
theorem dX7_beyond_16 : decode cX7_beyond 16 = .ok (.getfield 30, 3) := by decide +kernel
theorem dX7_beyond_19 : decode cX7_beyond 19 = .ok (.iload_n 1, 1) := by decide +kernel
theorem dX7_beyond_20 : decode cX7_beyond 20 = .ok (.iaload, 1) := by decide +kernel
theorem dX7_beyond_21 : decode cX7_beyond 21 = .ok (.iload_n 2, 1) := by decide +kernel
theorem dX7_beyond_22 : decode cX7_beyond 22 = .ok (.iadd, 1) := by decide +kernel
theorem dX7_beyond_23 : decode cX7_beyond 23 = .ok (.iaload, 1) := by decide +kernel
theorem dX7_beyond_24 : decode cX7_beyond 24 = .ok (.iaload, 1) := by decide +kernel
theorem dX7_beyond_25 : decode cX7_beyond 25 = .ok (.iaload, 1) := by decide +kernel
theorem dX7_beyond_26 : decode cX7_beyond 26 = .ok (.ireturn, 1) := by decide +kernel
set_option maxRecDepth 20000 in
theorem ggX7_boxLeft_X7_corners : GoodIn wsX7_boxLeft wsX7_corners := goodIn_r _ [12, 13, 24, 25, 26, 27, 28, 29, 30] rfl (by decide +kernel)
set_option maxRecDepth 20000 in
theorem gX7_boxLeft_X7_corners : GoodIn wsX7_boxLeft (wsV RX7 82 RX7 yX7_corners wsX7_corners) := goodIn_app (goodIn_r ([.methodLink RX7 82 yX7_corners, .instanceMethod yX7_corners, .selects RX7 yX7_corners yX7_corners, .initialized RX7] : List Cond) [8, 9, 10, 11] rfl (by decide +kernel)) ggX7_boxLeft_X7_corners
set_option maxRecDepth 20000 in
theorem ggX7_boxLeft_X7_jointAtCorner : GoodIn wsX7_boxLeft wsX7_jointAtCorner := goodIn_r _ [17, 18, 19, 20, 13, 24, 25, 26, 27, 28, 29, 30, 35, 36, 37, 38, 39, 40, 41, 42, 43, 44, 45] rfl (by decide +kernel)
set_option maxRecDepth 20000 in
theorem gX7_boxLeft_X7_jointAtCorner : GoodIn wsX7_boxLeft (wsV RX7 85 RX7 yX7_jointAtCorner wsX7_jointAtCorner) := goodIn_app (goodIn_r ([.methodLink RX7 85 yX7_jointAtCorner, .instanceMethod yX7_jointAtCorner, .selects RX7 yX7_jointAtCorner yX7_jointAtCorner, .initialized RX7] : List Cond) [14, 15, 16, 11] rfl (by decide +kernel)) ggX7_boxLeft_X7_jointAtCorner
set_option maxRecDepth 20000 in
theorem ggX7_boxLeft_X7_wholeBelow : GoodIn wsX7_boxLeft wsX7_wholeBelow := goodIn_r _ [23] rfl (by decide +kernel)
set_option maxRecDepth 20000 in
theorem gX7_boxLeft_X7_wholeBelow : GoodIn wsX7_boxLeft (va_wsS RX7 92 yX7_wholeBelow wsX7_wholeBelow) := goodIn_app (goodIn_r ([.methodLink RX7 92 yX7_wholeBelow, .static yX7_wholeBelow, .initialized yX7_wholeBelow.cls] : List Cond) [21, 22, 11] rfl (by decide +kernel)) ggX7_boxLeft_X7_wholeBelow
theorem dX7_boxLeft_0 : decode cX7_boxLeft 0 = .ok (.bipush 12, 2) := by decide +kernel
theorem dX7_boxLeft_2 : decode cX7_boxLeft 2 = .ok (.istore_n 2, 1) := by decide +kernel
theorem dX7_boxLeft_3 : decode cX7_boxLeft 3 = .ok (.iconst 0, 1) := by decide +kernel
theorem dX7_boxLeft_4 : decode cX7_boxLeft 4 = .ok (.istore_n 3, 1) := by decide +kernel
theorem dX7_boxLeft_5 : decode cX7_boxLeft 5 = .ok (.iload_n 3, 1) := by decide +kernel
theorem dX7_boxLeft_6 : decode cX7_boxLeft 6 = .ok (.aload_n 0, 1) := by decide +kernel
theorem dX7_boxLeft_7 : decode cX7_boxLeft 7 = .ok (.iload_n 1, 1) := by decide +kernel
theorem dX7_boxLeft_8 : decode cX7_boxLeft 8 = .ok (.invokevirtual 82, 3) := by decide +kernel
theorem dX7_boxLeft_11 : decode cX7_boxLeft 11 = .ok (.if_icmp .ge 45, 3) := by decide +kernel
theorem dX7_boxLeft_14 : decode cX7_boxLeft 14 = .ok (.aload_n 0, 1) := by decide +kernel
theorem dX7_boxLeft_15 : decode cX7_boxLeft 15 = .ok (.iload_n 1, 1) := by decide +kernel
theorem dX7_boxLeft_16 : decode cX7_boxLeft 16 = .ok (.iload_n 3, 1) := by decide +kernel
theorem dX7_boxLeft_17 : decode cX7_boxLeft 17 = .ok (.invokevirtual 85, 3) := by decide +kernel
theorem dX7_boxLeft_20 : decode cX7_boxLeft 20 = .ok (.istore 4, 2) := by decide +kernel
theorem dX7_boxLeft_22 : decode cX7_boxLeft 22 = .ok (.iload_n 2, 1) := by decide +kernel
theorem dX7_boxLeft_23 : decode cX7_boxLeft 23 = .ok (.aload_n 0, 1) := by decide +kernel
theorem dX7_boxLeft_24 : decode cX7_boxLeft 24 = .ok (.getfield 15, 3) := by decide +kernel
theorem dX7_boxLeft_27 : decode cX7_boxLeft 27 = .ok (.getfield 64, 3) := by decide +kernel
theorem dX7_boxLeft_30 : decode cX7_boxLeft 30 = .ok (.iload 4, 2) := by decide +kernel
theorem dX7_boxLeft_32 : decode cX7_boxLeft 32 = .ok (.iaload, 1) := by decide +kernel
theorem dX7_boxLeft_33 : decode cX7_boxLeft 33 = .ok (.aload_n 0, 1) := by decide +kernel
theorem dX7_boxLeft_34 : decode cX7_boxLeft 34 = .ok (.getfield 15, 3) := by decide +kernel
theorem dX7_boxLeft_37 : decode cX7_boxLeft 37 = .ok (.getfield 89, 3) := by decide +kernel
theorem dX7_boxLeft_40 : decode cX7_boxLeft 40 = .ok (.iload 4, 2) := by decide +kernel
theorem dX7_boxLeft_42 : decode cX7_boxLeft 42 = .ok (.iaload, 1) := by decide +kernel
theorem dX7_boxLeft_43 : decode cX7_boxLeft 43 = .ok (.invokestatic 92, 3) := by decide +kernel
theorem dX7_boxLeft_46 : decode cX7_boxLeft 46 = .ok (.invokestatic 95, 3) := by decide +kernel
theorem dX7_boxLeft_49 : decode cX7_boxLeft 49 = .ok (.istore_n 2, 1) := by decide +kernel
theorem dX7_boxLeft_50 : decode cX7_boxLeft 50 = .ok (.iinc 3 1, 3) := by decide +kernel
theorem dX7_boxLeft_53 : decode cX7_boxLeft 53 = .ok (.goto (-48), 3) := by decide +kernel
theorem dX7_boxLeft_56 : decode cX7_boxLeft 56 = .ok (.iload_n 2, 1) := by decide +kernel
theorem dX7_boxLeft_57 : decode cX7_boxLeft 57 = .ok (.ireturn, 1) := by decide +kernel
set_option maxRecDepth 20000 in
theorem ggX7_boxBottom_X7_corners : GoodIn wsX7_boxBottom wsX7_corners := goodIn_r _ [12, 13, 24, 25, 26, 27, 28, 29, 30] rfl (by decide +kernel)
set_option maxRecDepth 20000 in
theorem gX7_boxBottom_X7_corners : GoodIn wsX7_boxBottom (wsV RX7 82 RX7 yX7_corners wsX7_corners) := goodIn_app (goodIn_r ([.methodLink RX7 82 yX7_corners, .instanceMethod yX7_corners, .selects RX7 yX7_corners yX7_corners, .initialized RX7] : List Cond) [8, 9, 10, 11] rfl (by decide +kernel)) ggX7_boxBottom_X7_corners
set_option maxRecDepth 20000 in
theorem ggX7_boxBottom_X7_jointAtCorner : GoodIn wsX7_boxBottom wsX7_jointAtCorner := goodIn_r _ [17, 18, 19, 20, 13, 24, 25, 26, 27, 28, 29, 30, 35, 36, 37, 38, 39, 40, 41, 42, 43, 44, 45] rfl (by decide +kernel)
set_option maxRecDepth 20000 in
theorem gX7_boxBottom_X7_jointAtCorner : GoodIn wsX7_boxBottom (wsV RX7 85 RX7 yX7_jointAtCorner wsX7_jointAtCorner) := goodIn_app (goodIn_r ([.methodLink RX7 85 yX7_jointAtCorner, .instanceMethod yX7_jointAtCorner, .selects RX7 yX7_jointAtCorner yX7_jointAtCorner, .initialized RX7] : List Cond) [14, 15, 16, 11] rfl (by decide +kernel)) ggX7_boxBottom_X7_jointAtCorner
set_option maxRecDepth 20000 in
theorem ggX7_boxBottom_X7_wholeBelow : GoodIn wsX7_boxBottom wsX7_wholeBelow := goodIn_r _ [23] rfl (by decide +kernel)
set_option maxRecDepth 20000 in
theorem gX7_boxBottom_X7_wholeBelow : GoodIn wsX7_boxBottom (va_wsS RX7 92 yX7_wholeBelow wsX7_wholeBelow) := goodIn_app (goodIn_r ([.methodLink RX7 92 yX7_wholeBelow, .static yX7_wholeBelow, .initialized yX7_wholeBelow.cls] : List Cond) [21, 22, 11] rfl (by decide +kernel)) ggX7_boxBottom_X7_wholeBelow
theorem dX7_boxBottom_0 : decode cX7_boxBottom 0 = .ok (.bipush 12, 2) := by decide +kernel
theorem dX7_boxBottom_2 : decode cX7_boxBottom 2 = .ok (.istore_n 2, 1) := by decide +kernel
theorem dX7_boxBottom_3 : decode cX7_boxBottom 3 = .ok (.iconst 0, 1) := by decide +kernel
theorem dX7_boxBottom_4 : decode cX7_boxBottom 4 = .ok (.istore_n 3, 1) := by decide +kernel
theorem dX7_boxBottom_5 : decode cX7_boxBottom 5 = .ok (.iload_n 3, 1) := by decide +kernel
theorem dX7_boxBottom_6 : decode cX7_boxBottom 6 = .ok (.aload_n 0, 1) := by decide +kernel
theorem dX7_boxBottom_7 : decode cX7_boxBottom 7 = .ok (.iload_n 1, 1) := by decide +kernel
theorem dX7_boxBottom_8 : decode cX7_boxBottom 8 = .ok (.invokevirtual 82, 3) := by decide +kernel
theorem dX7_boxBottom_11 : decode cX7_boxBottom 11 = .ok (.if_icmp .ge 45, 3) := by decide +kernel
theorem dX7_boxBottom_14 : decode cX7_boxBottom 14 = .ok (.aload_n 0, 1) := by decide +kernel
theorem dX7_boxBottom_15 : decode cX7_boxBottom 15 = .ok (.iload_n 1, 1) := by decide +kernel
theorem dX7_boxBottom_16 : decode cX7_boxBottom 16 = .ok (.iload_n 3, 1) := by decide +kernel
theorem dX7_boxBottom_17 : decode cX7_boxBottom 17 = .ok (.invokevirtual 85, 3) := by decide +kernel
theorem dX7_boxBottom_20 : decode cX7_boxBottom 20 = .ok (.istore 4, 2) := by decide +kernel
theorem dX7_boxBottom_22 : decode cX7_boxBottom 22 = .ok (.iload_n 2, 1) := by decide +kernel
theorem dX7_boxBottom_23 : decode cX7_boxBottom 23 = .ok (.aload_n 0, 1) := by decide +kernel
theorem dX7_boxBottom_24 : decode cX7_boxBottom 24 = .ok (.getfield 15, 3) := by decide +kernel
theorem dX7_boxBottom_27 : decode cX7_boxBottom 27 = .ok (.getfield 100, 3) := by decide +kernel
theorem dX7_boxBottom_30 : decode cX7_boxBottom 30 = .ok (.iload 4, 2) := by decide +kernel
theorem dX7_boxBottom_32 : decode cX7_boxBottom 32 = .ok (.iaload, 1) := by decide +kernel
theorem dX7_boxBottom_33 : decode cX7_boxBottom 33 = .ok (.aload_n 0, 1) := by decide +kernel
theorem dX7_boxBottom_34 : decode cX7_boxBottom 34 = .ok (.getfield 15, 3) := by decide +kernel
theorem dX7_boxBottom_37 : decode cX7_boxBottom 37 = .ok (.getfield 89, 3) := by decide +kernel
theorem dX7_boxBottom_40 : decode cX7_boxBottom 40 = .ok (.iload 4, 2) := by decide +kernel
theorem dX7_boxBottom_42 : decode cX7_boxBottom 42 = .ok (.iaload, 1) := by decide +kernel
theorem dX7_boxBottom_43 : decode cX7_boxBottom 43 = .ok (.invokestatic 92, 3) := by decide +kernel
theorem dX7_boxBottom_46 : decode cX7_boxBottom 46 = .ok (.invokestatic 95, 3) := by decide +kernel
theorem dX7_boxBottom_49 : decode cX7_boxBottom 49 = .ok (.istore_n 2, 1) := by decide +kernel
theorem dX7_boxBottom_50 : decode cX7_boxBottom 50 = .ok (.iinc 3 1, 3) := by decide +kernel
theorem dX7_boxBottom_53 : decode cX7_boxBottom 53 = .ok (.goto (-48), 3) := by decide +kernel
theorem dX7_boxBottom_56 : decode cX7_boxBottom 56 = .ok (.iload_n 2, 1) := by decide +kernel
theorem dX7_boxBottom_57 : decode cX7_boxBottom 57 = .ok (.ireturn, 1) := by decide +kernel
set_option maxRecDepth 20000 in
theorem ggX7_boxWidth_X7_corners : GoodIn wsX7_boxWidth wsX7_corners := goodIn_r _ [12, 13, 34, 35, 36, 37, 38, 39, 40] rfl (by decide +kernel)
set_option maxRecDepth 20000 in
theorem gX7_boxWidth_X7_corners : GoodIn wsX7_boxWidth (wsV RX7 82 RX7 yX7_corners wsX7_corners) := goodIn_app (goodIn_r ([.methodLink RX7 82 yX7_corners, .instanceMethod yX7_corners, .selects RX7 yX7_corners yX7_corners, .initialized RX7] : List Cond) [8, 9, 10, 11] rfl (by decide +kernel)) ggX7_boxWidth_X7_corners
set_option maxRecDepth 20000 in
theorem ggX7_boxWidth_X7_jointAtCorner : GoodIn wsX7_boxWidth wsX7_jointAtCorner := goodIn_r _ [17, 18, 19, 20, 13, 34, 35, 36, 37, 38, 39, 40, 45, 46, 47, 48, 49, 50, 51, 52, 53, 54, 55] rfl (by decide +kernel)
set_option maxRecDepth 20000 in
theorem gX7_boxWidth_X7_jointAtCorner : GoodIn wsX7_boxWidth (wsV RX7 85 RX7 yX7_jointAtCorner wsX7_jointAtCorner) := goodIn_app (goodIn_r ([.methodLink RX7 85 yX7_jointAtCorner, .instanceMethod yX7_jointAtCorner, .selects RX7 yX7_jointAtCorner yX7_jointAtCorner, .initialized RX7] : List Cond) [14, 15, 16, 11] rfl (by decide +kernel)) ggX7_boxWidth_X7_jointAtCorner
set_option maxRecDepth 20000 in
theorem ggX7_boxWidth_X7_wholeAbove : GoodIn wsX7_boxWidth wsX7_wholeAbove := goodIn_r _ [23] rfl (by decide +kernel)
set_option maxRecDepth 20000 in
theorem gX7_boxWidth_X7_wholeAbove : GoodIn wsX7_boxWidth (va_wsS RX7 103 yX7_wholeAbove wsX7_wholeAbove) := goodIn_app (goodIn_r ([.methodLink RX7 103 yX7_wholeAbove, .static yX7_wholeAbove, .initialized yX7_wholeAbove.cls] : List Cond) [21, 22, 11] rfl (by decide +kernel)) ggX7_boxWidth_X7_wholeAbove
set_option maxRecDepth 20000 in
theorem ggX7_boxWidth_X7_boxLeft : GoodIn wsX7_boxWidth wsX7_boxLeft := goodIn_r _ [27, 1, 2, 3, 28, 29, 6, 30, 8, 9, 10, 11, 12, 13, 14, 15, 16, 17, 18, 19, 20, 31, 32, 33, 34, 35, 36, 37, 38, 39, 40, 41, 42, 43, 44, 45, 46, 47, 48, 49, 50, 51, 52, 53, 54, 55] rfl (by decide +kernel)
set_option maxRecDepth 20000 in
theorem gX7_boxWidth_X7_boxLeft : GoodIn wsX7_boxWidth (wsV RX7 109 RX7 yX7_boxLeft wsX7_boxLeft) := goodIn_app (goodIn_r ([.methodLink RX7 109 yX7_boxLeft, .instanceMethod yX7_boxLeft, .selects RX7 yX7_boxLeft yX7_boxLeft, .initialized RX7] : List Cond) [24, 25, 26, 11] rfl (by decide +kernel)) ggX7_boxWidth_X7_boxLeft
theorem dX7_boxWidth_0 : decode cX7_boxWidth 0 = .ok (.iconst 0, 1) := by decide +kernel
theorem dX7_boxWidth_1 : decode cX7_boxWidth 1 = .ok (.istore_n 2, 1) := by decide +kernel
theorem dX7_boxWidth_2 : decode cX7_boxWidth 2 = .ok (.iconst 0, 1) := by decide +kernel
theorem dX7_boxWidth_3 : decode cX7_boxWidth 3 = .ok (.istore_n 3, 1) := by decide +kernel
theorem dX7_boxWidth_4 : decode cX7_boxWidth 4 = .ok (.iload_n 3, 1) := by decide +kernel
theorem dX7_boxWidth_5 : decode cX7_boxWidth 5 = .ok (.aload_n 0, 1) := by decide +kernel
theorem dX7_boxWidth_6 : decode cX7_boxWidth 6 = .ok (.iload_n 1, 1) := by decide +kernel
theorem dX7_boxWidth_7 : decode cX7_boxWidth 7 = .ok (.invokevirtual 82, 3) := by decide +kernel
theorem dX7_boxWidth_10 : decode cX7_boxWidth 10 = .ok (.if_icmp .ge 45, 3) := by decide +kernel
theorem dX7_boxWidth_13 : decode cX7_boxWidth 13 = .ok (.aload_n 0, 1) := by decide +kernel
theorem dX7_boxWidth_14 : decode cX7_boxWidth 14 = .ok (.iload_n 1, 1) := by decide +kernel
theorem dX7_boxWidth_15 : decode cX7_boxWidth 15 = .ok (.iload_n 3, 1) := by decide +kernel
theorem dX7_boxWidth_16 : decode cX7_boxWidth 16 = .ok (.invokevirtual 85, 3) := by decide +kernel
theorem dX7_boxWidth_19 : decode cX7_boxWidth 19 = .ok (.istore 4, 2) := by decide +kernel
theorem dX7_boxWidth_21 : decode cX7_boxWidth 21 = .ok (.iload_n 2, 1) := by decide +kernel
theorem dX7_boxWidth_22 : decode cX7_boxWidth 22 = .ok (.aload_n 0, 1) := by decide +kernel
theorem dX7_boxWidth_23 : decode cX7_boxWidth 23 = .ok (.getfield 15, 3) := by decide +kernel
theorem dX7_boxWidth_26 : decode cX7_boxWidth 26 = .ok (.getfield 64, 3) := by decide +kernel
theorem dX7_boxWidth_29 : decode cX7_boxWidth 29 = .ok (.iload 4, 2) := by decide +kernel
theorem dX7_boxWidth_31 : decode cX7_boxWidth 31 = .ok (.iaload, 1) := by decide +kernel
theorem dX7_boxWidth_32 : decode cX7_boxWidth 32 = .ok (.aload_n 0, 1) := by decide +kernel
theorem dX7_boxWidth_33 : decode cX7_boxWidth 33 = .ok (.getfield 15, 3) := by decide +kernel
theorem dX7_boxWidth_36 : decode cX7_boxWidth 36 = .ok (.getfield 89, 3) := by decide +kernel
theorem dX7_boxWidth_39 : decode cX7_boxWidth 39 = .ok (.iload 4, 2) := by decide +kernel
theorem dX7_boxWidth_41 : decode cX7_boxWidth 41 = .ok (.iaload, 1) := by decide +kernel
theorem dX7_boxWidth_42 : decode cX7_boxWidth 42 = .ok (.invokestatic 103, 3) := by decide +kernel
theorem dX7_boxWidth_45 : decode cX7_boxWidth 45 = .ok (.invokestatic 106, 3) := by decide +kernel
theorem dX7_boxWidth_48 : decode cX7_boxWidth 48 = .ok (.istore_n 2, 1) := by decide +kernel
theorem dX7_boxWidth_49 : decode cX7_boxWidth 49 = .ok (.iinc 3 1, 3) := by decide +kernel
theorem dX7_boxWidth_52 : decode cX7_boxWidth 52 = .ok (.goto (-48), 3) := by decide +kernel
theorem dX7_boxWidth_55 : decode cX7_boxWidth 55 = .ok (.iload_n 2, 1) := by decide +kernel
theorem dX7_boxWidth_56 : decode cX7_boxWidth 56 = .ok (.aload_n 0, 1) := by decide +kernel
theorem dX7_boxWidth_57 : decode cX7_boxWidth 57 = .ok (.iload_n 1, 1) := by decide +kernel
theorem dX7_boxWidth_58 : decode cX7_boxWidth 58 = .ok (.invokevirtual 109, 3) := by decide +kernel
theorem dX7_boxWidth_61 : decode cX7_boxWidth 61 = .ok (.isub, 1) := by decide +kernel
theorem dX7_boxWidth_62 : decode cX7_boxWidth 62 = .ok (.ireturn, 1) := by decide +kernel
set_option maxRecDepth 20000 in
theorem ggX7_boxHeight_X7_corners : GoodIn wsX7_boxHeight wsX7_corners := goodIn_r _ [12, 13, 34, 35, 36, 37, 38, 39, 40] rfl (by decide +kernel)
set_option maxRecDepth 20000 in
theorem gX7_boxHeight_X7_corners : GoodIn wsX7_boxHeight (wsV RX7 82 RX7 yX7_corners wsX7_corners) := goodIn_app (goodIn_r ([.methodLink RX7 82 yX7_corners, .instanceMethod yX7_corners, .selects RX7 yX7_corners yX7_corners, .initialized RX7] : List Cond) [8, 9, 10, 11] rfl (by decide +kernel)) ggX7_boxHeight_X7_corners
set_option maxRecDepth 20000 in
theorem ggX7_boxHeight_X7_jointAtCorner : GoodIn wsX7_boxHeight wsX7_jointAtCorner := goodIn_r _ [17, 18, 19, 20, 13, 34, 35, 36, 37, 38, 39, 40, 45, 46, 47, 48, 49, 50, 51, 52, 53, 54, 55] rfl (by decide +kernel)
set_option maxRecDepth 20000 in
theorem gX7_boxHeight_X7_jointAtCorner : GoodIn wsX7_boxHeight (wsV RX7 85 RX7 yX7_jointAtCorner wsX7_jointAtCorner) := goodIn_app (goodIn_r ([.methodLink RX7 85 yX7_jointAtCorner, .instanceMethod yX7_jointAtCorner, .selects RX7 yX7_jointAtCorner yX7_jointAtCorner, .initialized RX7] : List Cond) [14, 15, 16, 11] rfl (by decide +kernel)) ggX7_boxHeight_X7_jointAtCorner
set_option maxRecDepth 20000 in
theorem ggX7_boxHeight_X7_wholeAbove : GoodIn wsX7_boxHeight wsX7_wholeAbove := goodIn_r _ [23] rfl (by decide +kernel)
set_option maxRecDepth 20000 in
theorem gX7_boxHeight_X7_wholeAbove : GoodIn wsX7_boxHeight (va_wsS RX7 103 yX7_wholeAbove wsX7_wholeAbove) := goodIn_app (goodIn_r ([.methodLink RX7 103 yX7_wholeAbove, .static yX7_wholeAbove, .initialized yX7_wholeAbove.cls] : List Cond) [21, 22, 11] rfl (by decide +kernel)) ggX7_boxHeight_X7_wholeAbove
set_option maxRecDepth 20000 in
theorem ggX7_boxHeight_X7_boxBottom : GoodIn wsX7_boxHeight wsX7_boxBottom := goodIn_r _ [27, 1, 2, 3, 28, 29, 6, 30, 8, 9, 10, 11, 12, 13, 14, 15, 16, 17, 18, 19, 20, 31, 32, 33, 34, 35, 36, 37, 38, 39, 40, 41, 42, 43, 44, 45, 46, 47, 48, 49, 50, 51, 52, 53, 54, 55] rfl (by decide +kernel)
set_option maxRecDepth 20000 in
theorem gX7_boxHeight_X7_boxBottom : GoodIn wsX7_boxHeight (wsV RX7 112 RX7 yX7_boxBottom wsX7_boxBottom) := goodIn_app (goodIn_r ([.methodLink RX7 112 yX7_boxBottom, .instanceMethod yX7_boxBottom, .selects RX7 yX7_boxBottom yX7_boxBottom, .initialized RX7] : List Cond) [24, 25, 26, 11] rfl (by decide +kernel)) ggX7_boxHeight_X7_boxBottom
theorem dX7_boxHeight_0 : decode cX7_boxHeight 0 = .ok (.iconst 0, 1) := by decide +kernel
theorem dX7_boxHeight_1 : decode cX7_boxHeight 1 = .ok (.istore_n 2, 1) := by decide +kernel
theorem dX7_boxHeight_2 : decode cX7_boxHeight 2 = .ok (.iconst 0, 1) := by decide +kernel
theorem dX7_boxHeight_3 : decode cX7_boxHeight 3 = .ok (.istore_n 3, 1) := by decide +kernel
theorem dX7_boxHeight_4 : decode cX7_boxHeight 4 = .ok (.iload_n 3, 1) := by decide +kernel
theorem dX7_boxHeight_5 : decode cX7_boxHeight 5 = .ok (.aload_n 0, 1) := by decide +kernel
theorem dX7_boxHeight_6 : decode cX7_boxHeight 6 = .ok (.iload_n 1, 1) := by decide +kernel
theorem dX7_boxHeight_7 : decode cX7_boxHeight 7 = .ok (.invokevirtual 82, 3) := by decide +kernel
theorem dX7_boxHeight_10 : decode cX7_boxHeight 10 = .ok (.if_icmp .ge 45, 3) := by decide +kernel
theorem dX7_boxHeight_13 : decode cX7_boxHeight 13 = .ok (.aload_n 0, 1) := by decide +kernel
theorem dX7_boxHeight_14 : decode cX7_boxHeight 14 = .ok (.iload_n 1, 1) := by decide +kernel
theorem dX7_boxHeight_15 : decode cX7_boxHeight 15 = .ok (.iload_n 3, 1) := by decide +kernel
theorem dX7_boxHeight_16 : decode cX7_boxHeight 16 = .ok (.invokevirtual 85, 3) := by decide +kernel
theorem dX7_boxHeight_19 : decode cX7_boxHeight 19 = .ok (.istore 4, 2) := by decide +kernel
theorem dX7_boxHeight_21 : decode cX7_boxHeight 21 = .ok (.iload_n 2, 1) := by decide +kernel
theorem dX7_boxHeight_22 : decode cX7_boxHeight 22 = .ok (.aload_n 0, 1) := by decide +kernel
theorem dX7_boxHeight_23 : decode cX7_boxHeight 23 = .ok (.getfield 15, 3) := by decide +kernel
theorem dX7_boxHeight_26 : decode cX7_boxHeight 26 = .ok (.getfield 100, 3) := by decide +kernel
theorem dX7_boxHeight_29 : decode cX7_boxHeight 29 = .ok (.iload 4, 2) := by decide +kernel
theorem dX7_boxHeight_31 : decode cX7_boxHeight 31 = .ok (.iaload, 1) := by decide +kernel
theorem dX7_boxHeight_32 : decode cX7_boxHeight 32 = .ok (.aload_n 0, 1) := by decide +kernel
theorem dX7_boxHeight_33 : decode cX7_boxHeight 33 = .ok (.getfield 15, 3) := by decide +kernel
theorem dX7_boxHeight_36 : decode cX7_boxHeight 36 = .ok (.getfield 89, 3) := by decide +kernel
theorem dX7_boxHeight_39 : decode cX7_boxHeight 39 = .ok (.iload 4, 2) := by decide +kernel
theorem dX7_boxHeight_41 : decode cX7_boxHeight 41 = .ok (.iaload, 1) := by decide +kernel
theorem dX7_boxHeight_42 : decode cX7_boxHeight 42 = .ok (.invokestatic 103, 3) := by decide +kernel
theorem dX7_boxHeight_45 : decode cX7_boxHeight 45 = .ok (.invokestatic 106, 3) := by decide +kernel
theorem dX7_boxHeight_48 : decode cX7_boxHeight 48 = .ok (.istore_n 2, 1) := by decide +kernel
theorem dX7_boxHeight_49 : decode cX7_boxHeight 49 = .ok (.iinc 3 1, 3) := by decide +kernel
theorem dX7_boxHeight_52 : decode cX7_boxHeight 52 = .ok (.goto (-48), 3) := by decide +kernel
theorem dX7_boxHeight_55 : decode cX7_boxHeight 55 = .ok (.iload_n 2, 1) := by decide +kernel
theorem dX7_boxHeight_56 : decode cX7_boxHeight 56 = .ok (.aload_n 0, 1) := by decide +kernel
theorem dX7_boxHeight_57 : decode cX7_boxHeight 57 = .ok (.iload_n 1, 1) := by decide +kernel
theorem dX7_boxHeight_58 : decode cX7_boxHeight 58 = .ok (.invokevirtual 112, 3) := by decide +kernel
theorem dX7_boxHeight_61 : decode cX7_boxHeight 61 = .ok (.isub, 1) := by decide +kernel
theorem dX7_boxHeight_62 : decode cX7_boxHeight 62 = .ok (.ireturn, 1) := by decide +kernel
theorem dX7_wholeBelow_0 : decode cX7_wholeBelow 0 = .ok (.iload_n 1, 1) := by decide +kernel
theorem dX7_wholeBelow_1 : decode cX7_wholeBelow 1 = .ok (.iconst 1, 1) := by decide +kernel
theorem dX7_wholeBelow_2 : decode cX7_wholeBelow 2 = .ok (.if_icmp .ge 7, 3) := by decide +kernel
theorem dX7_wholeBelow_5 : decode cX7_wholeBelow 5 = .ok (.iload_n 0, 1) := by decide +kernel
theorem dX7_wholeBelow_6 : decode cX7_wholeBelow 6 = .ok (.goto 6, 3) := by decide +kernel
theorem dX7_wholeBelow_9 : decode cX7_wholeBelow 9 = .ok (.iload_n 0, 1) := by decide +kernel
theorem dX7_wholeBelow_10 : decode cX7_wholeBelow 10 = .ok (.iload_n 1, 1) := by decide +kernel
theorem dX7_wholeBelow_11 : decode cX7_wholeBelow 11 = .ok (.idiv, 1) := by decide +kernel
theorem dX7_wholeBelow_12 : decode cX7_wholeBelow 12 = .ok (.ireturn, 1) := by decide +kernel
theorem dX7_wholeAbove_0 : decode cX7_wholeAbove 0 = .ok (.iload_n 1, 1) := by decide +kernel
theorem dX7_wholeAbove_1 : decode cX7_wholeAbove 1 = .ok (.iconst 1, 1) := by decide +kernel
theorem dX7_wholeAbove_2 : decode cX7_wholeAbove 2 = .ok (.if_icmp .ge 7, 3) := by decide +kernel
theorem dX7_wholeAbove_5 : decode cX7_wholeAbove 5 = .ok (.iload_n 0, 1) := by decide +kernel
theorem dX7_wholeAbove_6 : decode cX7_wholeAbove 6 = .ok (.goto 10, 3) := by decide +kernel
theorem dX7_wholeAbove_9 : decode cX7_wholeAbove 9 = .ok (.iload_n 0, 1) := by decide +kernel
theorem dX7_wholeAbove_10 : decode cX7_wholeAbove 10 = .ok (.iload_n 1, 1) := by decide +kernel
theorem dX7_wholeAbove_11 : decode cX7_wholeAbove 11 = .ok (.iadd, 1) := by decide +kernel
theorem dX7_wholeAbove_12 : decode cX7_wholeAbove 12 = .ok (.iconst 1, 1) := by decide +kernel
theorem dX7_wholeAbove_13 : decode cX7_wholeAbove 13 = .ok (.isub, 1) := by decide +kernel
theorem dX7_wholeAbove_14 : decode cX7_wholeAbove 14 = .ok (.iload_n 1, 1) := by decide +kernel
theorem dX7_wholeAbove_15 : decode cX7_wholeAbove 15 = .ok (.idiv, 1) := by decide +kernel
theorem dX7_wholeAbove_16 : decode cX7_wholeAbove 16 = .ok (.ireturn, 1) := by decide +kernel
set_option maxRecDepth 20000 in
theorem ggX7_touches_X7_corners : GoodIn wsX7_touches wsX7_corners := goodIn_r _ [5, 6, 15, 16, 17, 18, 19, 20, 21] rfl (by decide +kernel)
set_option maxRecDepth 20000 in
theorem gX7_touches_X7_corners : GoodIn wsX7_touches (wsV RX7 82 RX7 yX7_corners wsX7_corners) := goodIn_app (goodIn_r ([.methodLink RX7 82 yX7_corners, .instanceMethod yX7_corners, .selects RX7 yX7_corners yX7_corners, .initialized RX7] : List Cond) [1, 2, 3, 4] rfl (by decide +kernel)) ggX7_touches_X7_corners
set_option maxRecDepth 20000 in
theorem ggX7_touches_X7_beyond : GoodIn wsX7_touches wsX7_beyond := goodIn_r _ [10, 11, 12, 13, 14, 6, 15, 16, 17, 18, 19, 20, 21, 22, 23, 24, 25, 26, 27, 28, 29, 30, 31, 32] rfl (by decide +kernel)
set_option maxRecDepth 20000 in
theorem gX7_touches_X7_beyond : GoodIn wsX7_touches (wsV RX7 115 RX7 yX7_beyond wsX7_beyond) := goodIn_app (goodIn_r ([.methodLink RX7 115 yX7_beyond, .instanceMethod yX7_beyond, .selects RX7 yX7_beyond yX7_beyond, .initialized RX7] : List Cond) [7, 8, 9, 4] rfl (by decide +kernel)) ggX7_touches_X7_beyond
theorem dX7_touches_0 : decode cX7_touches 0 = .ok (.iconst 0, 1) := by decide +kernel
theorem dX7_touches_1 : decode cX7_touches 1 = .ok (.istore_n 3, 1) := by decide +kernel
theorem dX7_touches_2 : decode cX7_touches 2 = .ok (.iconst 0, 1) := by decide +kernel
theorem dX7_touches_3 : decode cX7_touches 3 = .ok (.istore 4, 2) := by decide +kernel
theorem dX7_touches_5 : decode cX7_touches 5 = .ok (.iload 4, 2) := by decide +kernel
theorem dX7_touches_7 : decode cX7_touches 7 = .ok (.aload_n 0, 1) := by decide +kernel
theorem dX7_touches_8 : decode cX7_touches 8 = .ok (.iload_n 1, 1) := by decide +kernel
theorem dX7_touches_9 : decode cX7_touches 9 = .ok (.invokevirtual 82, 3) := by decide +kernel
theorem dX7_touches_12 : decode cX7_touches 12 = .ok (.if_icmp .ge 23, 3) := by decide +kernel
theorem dX7_touches_15 : decode cX7_touches 15 = .ok (.aload_n 0, 1) := by decide +kernel
theorem dX7_touches_16 : decode cX7_touches 16 = .ok (.iload_n 1, 1) := by decide +kernel
theorem dX7_touches_17 : decode cX7_touches 17 = .ok (.iload 4, 2) := by decide +kernel
theorem dX7_touches_19 : decode cX7_touches 19 = .ok (.invokevirtual 115, 3) := by decide +kernel
theorem dX7_touches_22 : decode cX7_touches 22 = .ok (.iload_n 2, 1) := by decide +kernel
theorem dX7_touches_23 : decode cX7_touches 23 = .ok (.if_icmp .ne 6, 3) := by decide +kernel
theorem dX7_touches_26 : decode cX7_touches 26 = .ok (.iinc 3 1, 3) := by decide +kernel
theorem dX7_touches_29 : decode cX7_touches 29 = .ok (.iinc 4 1, 3) := by decide +kernel
theorem dX7_touches_32 : decode cX7_touches 32 = .ok (.goto (-27), 3) := by decide +kernel
theorem dX7_touches_35 : decode cX7_touches 35 = .ok (.iload_n 1, 1) := by decide +kernel
theorem dX7_touches_36 : decode cX7_touches 36 = .ok (.iload_n 2, 1) := by decide +kernel
theorem dX7_touches_37 : decode cX7_touches 37 = .ok (.if_icmp .ne 9, 3) := by decide +kernel
theorem dX7_touches_40 : decode cX7_touches 40 = .ok (.iload_n 3, 1) := by decide +kernel
theorem dX7_touches_41 : decode cX7_touches 41 = .ok (.iconst 2, 1) := by decide +kernel
theorem dX7_touches_42 : decode cX7_touches 42 = .ok (.idiv, 1) := by decide +kernel
theorem dX7_touches_43 : decode cX7_touches 43 = .ok (.goto 4, 3) := by decide +kernel
theorem dX7_touches_46 : decode cX7_touches 46 = .ok (.iload_n 3, 1) := by decide +kernel
theorem dX7_touches_47 : decode cX7_touches 47 = .ok (.ireturn, 1) := by decide +kernel
set_option maxRecDepth 20000 in
theorem ggX7_touchesOthers_X7_corners : GoodIn wsX7_touchesOthers wsX7_corners := goodIn_r _ [5, 6, 15, 16, 17, 18, 19, 20, 21] rfl (by decide +kernel)
set_option maxRecDepth 20000 in
theorem gX7_touchesOthers_X7_corners : GoodIn wsX7_touchesOthers (wsV RX7 82 RX7 yX7_corners wsX7_corners) := goodIn_app (goodIn_r ([.methodLink RX7 82 yX7_corners, .instanceMethod yX7_corners, .selects RX7 yX7_corners yX7_corners, .initialized RX7] : List Cond) [1, 2, 3, 4] rfl (by decide +kernel)) ggX7_touchesOthers_X7_corners
set_option maxRecDepth 20000 in
theorem ggX7_touchesOthers_X7_beyond : GoodIn wsX7_touchesOthers wsX7_beyond := goodIn_r _ [10, 11, 12, 13, 14, 6, 15, 16, 17, 18, 19, 20, 21, 22, 23, 24, 25, 26, 27, 28, 29, 30, 31, 32] rfl (by decide +kernel)
set_option maxRecDepth 20000 in
theorem gX7_touchesOthers_X7_beyond : GoodIn wsX7_touchesOthers (wsV RX7 115 RX7 yX7_beyond wsX7_beyond) := goodIn_app (goodIn_r ([.methodLink RX7 115 yX7_beyond, .instanceMethod yX7_beyond, .selects RX7 yX7_beyond yX7_beyond, .initialized RX7] : List Cond) [7, 8, 9, 4] rfl (by decide +kernel)) ggX7_touchesOthers_X7_beyond
theorem dX7_touchesOthers_0 : decode cX7_touchesOthers 0 = .ok (.iconst 0, 1) := by decide +kernel
theorem dX7_touchesOthers_1 : decode cX7_touchesOthers 1 = .ok (.istore_n 2, 1) := by decide +kernel
theorem dX7_touchesOthers_2 : decode cX7_touchesOthers 2 = .ok (.iconst 0, 1) := by decide +kernel
theorem dX7_touchesOthers_3 : decode cX7_touchesOthers 3 = .ok (.istore_n 3, 1) := by decide +kernel
theorem dX7_touchesOthers_4 : decode cX7_touchesOthers 4 = .ok (.iload_n 3, 1) := by decide +kernel
theorem dX7_touchesOthers_5 : decode cX7_touchesOthers 5 = .ok (.aload_n 0, 1) := by decide +kernel
theorem dX7_touchesOthers_6 : decode cX7_touchesOthers 6 = .ok (.iload_n 1, 1) := by decide +kernel
theorem dX7_touchesOthers_7 : decode cX7_touchesOthers 7 = .ok (.invokevirtual 82, 3) := by decide +kernel
theorem dX7_touchesOthers_10 : decode cX7_touchesOthers 10 = .ok (.if_icmp .ge 31, 3) := by decide +kernel
theorem dX7_touchesOthers_13 : decode cX7_touchesOthers 13 = .ok (.aload_n 0, 1) := by decide +kernel
theorem dX7_touchesOthers_14 : decode cX7_touchesOthers 14 = .ok (.iload_n 1, 1) := by decide +kernel
theorem dX7_touchesOthers_15 : decode cX7_touchesOthers 15 = .ok (.iload_n 3, 1) := by decide +kernel
theorem dX7_touchesOthers_16 : decode cX7_touchesOthers 16 = .ok (.invokevirtual 115, 3) := by decide +kernel
theorem dX7_touchesOthers_19 : decode cX7_touchesOthers 19 = .ok (.istore 4, 2) := by decide +kernel
theorem dX7_touchesOthers_21 : decode cX7_touchesOthers 21 = .ok (.iload 4, 2) := by decide +kernel
theorem dX7_touchesOthers_23 : decode cX7_touchesOthers 23 = .ok (.ifCond .lt 12, 3) := by decide +kernel
theorem dX7_touchesOthers_26 : decode cX7_touchesOthers 26 = .ok (.iload 4, 2) := by decide +kernel
theorem dX7_touchesOthers_28 : decode cX7_touchesOthers 28 = .ok (.iload_n 1, 1) := by decide +kernel
theorem dX7_touchesOthers_29 : decode cX7_touchesOthers 29 = .ok (.if_icmp .eq 6, 3) := by decide +kernel
theorem dX7_touchesOthers_32 : decode cX7_touchesOthers 32 = .ok (.iinc 2 1, 3) := by decide +kernel
theorem dX7_touchesOthers_35 : decode cX7_touchesOthers 35 = .ok (.iinc 3 1, 3) := by decide +kernel
theorem dX7_touchesOthers_38 : decode cX7_touchesOthers 38 = .ok (.goto (-34), 3) := by decide +kernel
theorem dX7_touchesOthers_41 : decode cX7_touchesOthers 41 = .ok (.iload_n 2, 1) := by decide +kernel
theorem dX7_touchesOthers_42 : decode cX7_touchesOthers 42 = .ok (.ireturn, 1) := by decide +kernel
set_option maxRecDepth 20000 in
theorem ggX7_millionths_X2_clear : GoodIn wsX7_millionths wsX2_clear := goodIn_r _ [16, 17, 18, 19, 57, 58, 59] rfl (by decide +kernel)
set_option maxRecDepth 20000 in
theorem gX7_millionths_X2_clear : GoodIn wsX7_millionths (wsV RX7 118 RX2 yX2_clear wsX2_clear) := goodIn_app (goodIn_r ([.methodLink RX7 118 yX2_clear, .instanceMethod yX2_clear, .selects RX2 yX2_clear yX2_clear, .initialized RX2] : List Cond) [12, 13, 14, 15] rfl (by decide +kernel)) ggX7_millionths_X2_clear
set_option maxRecDepth 20000 in
theorem ggX7_millionths_X2_plus : GoodIn wsX7_millionths wsX2_plus := goodIn_r _ [23, 17, 19, 18, 24, 25, 26, 27, 28, 29, 30, 57, 58, 59] rfl (by decide +kernel)
set_option maxRecDepth 20000 in
theorem gX7_millionths_X2_plus : GoodIn wsX7_millionths (wsV RX7 123 RX2 yX2_plus wsX2_plus) := goodIn_app (goodIn_r ([.methodLink RX7 123 yX2_plus, .instanceMethod yX2_plus, .selects RX2 yX2_plus yX2_plus, .initialized RX2] : List Cond) [20, 21, 22, 15] rfl (by decide +kernel)) ggX7_millionths_X2_plus
set_option maxRecDepth 20000 in
theorem ggX7_millionths_X2_wholePart : GoodIn wsX7_millionths wsX2_wholePart := goodIn_r _ [34, 18, 19, 17, 57, 58, 59] rfl (by decide +kernel)
set_option maxRecDepth 20000 in
theorem gX7_millionths_X2_wholePart : GoodIn wsX7_millionths (wsV RX7 127 RX2 yX2_wholePart wsX2_wholePart) := goodIn_app (goodIn_r ([.methodLink RX7 127 yX2_wholePart, .instanceMethod yX2_wholePart, .selects RX2 yX2_wholePart yX2_wholePart, .initialized RX2] : List Cond) [31, 32, 33, 15] rfl (by decide +kernel)) ggX7_millionths_X2_wholePart
theorem dX7_millionths_0 : decode cX7_millionths 0 = .ok (.aload_n 0, 1) := by decide +kernel
theorem dX7_millionths_1 : decode cX7_millionths 1 = .ok (.getfield 36, 3) := by decide +kernel
theorem dX7_millionths_4 : decode cX7_millionths 4 = .ok (.invokevirtual 118, 3) := by decide +kernel
theorem dX7_millionths_7 : decode cX7_millionths 7 = .ok (.aload_n 0, 1) := by decide +kernel
theorem dX7_millionths_8 : decode cX7_millionths 8 = .ok (.getfield 30, 3) := by decide +kernel
theorem dX7_millionths_11 : decode cX7_millionths 11 = .ok (.iload_n 1, 1) := by decide +kernel
theorem dX7_millionths_12 : decode cX7_millionths 12 = .ok (.iaload, 1) := by decide +kernel
theorem dX7_millionths_13 : decode cX7_millionths 13 = .ok (.istore_n 2, 1) := by decide +kernel
theorem dX7_millionths_14 : decode cX7_millionths 14 = .ok (.iload_n 2, 1) := by decide +kernel
theorem dX7_millionths_15 : decode cX7_millionths 15 = .ok (.aload_n 0, 1) := by decide +kernel
theorem dX7_millionths_16 : decode cX7_millionths 16 = .ok (.getfield 30, 3) := by decide +kernel
theorem dX7_millionths_19 : decode cX7_millionths 19 = .ok (.iload_n 1, 1) := by decide +kernel
theorem dX7_millionths_20 : decode cX7_millionths 20 = .ok (.iconst 1, 1) := by decide +kernel
theorem dX7_millionths_21 : decode cX7_millionths 21 = .ok (.iadd, 1) := by decide +kernel
theorem dX7_millionths_22 : decode cX7_millionths 22 = .ok (.iaload, 1) := by decide +kernel
theorem dX7_millionths_23 : decode cX7_millionths 23 = .ok (.if_icmp .ge 122, 3) := by decide +kernel
theorem dX7_millionths_26 : decode cX7_millionths 26 = .ok (.aload_n 0, 1) := by decide +kernel
theorem dX7_millionths_27 : decode cX7_millionths 27 = .ok (.getfield 22, 3) := by decide +kernel
theorem dX7_millionths_30 : decode cX7_millionths 30 = .ok (.getfield 76, 3) := by decide +kernel
theorem dX7_millionths_33 : decode cX7_millionths 33 = .ok (.aload_n 0, 1) := by decide +kernel
theorem dX7_millionths_34 : decode cX7_millionths 34 = .ok (.getfield 27, 3) := by decide +kernel
theorem dX7_millionths_37 : decode cX7_millionths 37 = .ok (.iload_n 2, 1) := by decide +kernel
theorem dX7_millionths_38 : decode cX7_millionths 38 = .ok (.iaload, 1) := by decide +kernel
theorem dX7_millionths_39 : decode cX7_millionths 39 = .ok (.iaload, 1) := by decide +kernel
theorem dX7_millionths_40 : decode cX7_millionths 40 = .ok (.istore_n 3, 1) := by decide +kernel
theorem dX7_millionths_41 : decode cX7_millionths 41 = .ok (.aload_n 0, 1) := by decide +kernel
theorem dX7_millionths_42 : decode cX7_millionths 42 = .ok (.getfield 22, 3) := by decide +kernel
theorem dX7_millionths_45 : decode cX7_millionths 45 = .ok (.getfield 69, 3) := by decide +kernel
theorem dX7_millionths_48 : decode cX7_millionths 48 = .ok (.aload_n 0, 1) := by decide +kernel
theorem dX7_millionths_49 : decode cX7_millionths 49 = .ok (.getfield 27, 3) := by decide +kernel
theorem dX7_millionths_52 : decode cX7_millionths 52 = .ok (.iload_n 2, 1) := by decide +kernel
theorem dX7_millionths_53 : decode cX7_millionths 53 = .ok (.iaload, 1) := by decide +kernel
theorem dX7_millionths_54 : decode cX7_millionths 54 = .ok (.iaload, 1) := by decide +kernel
theorem dX7_millionths_55 : decode cX7_millionths 55 = .ok (.istore 4, 2) := by decide +kernel
theorem dX7_millionths_57 : decode cX7_millionths 57 = .ok (.aload_n 0, 1) := by decide +kernel
theorem dX7_millionths_58 : decode cX7_millionths 58 = .ok (.getfield 15, 3) := by decide +kernel
theorem dX7_millionths_61 : decode cX7_millionths 61 = .ok (.getfield 64, 3) := by decide +kernel
theorem dX7_millionths_64 : decode cX7_millionths 64 = .ok (.iload_n 3, 1) := by decide +kernel
theorem dX7_millionths_65 : decode cX7_millionths 65 = .ok (.iaload, 1) := by decide +kernel
theorem dX7_millionths_66 : decode cX7_millionths 66 = .ok (.i2l, 1) := by decide +kernel
theorem dX7_millionths_67 : decode cX7_millionths 67 = .ok (.aload_n 0, 1) := by decide +kernel
theorem dX7_millionths_68 : decode cX7_millionths 68 = .ok (.getfield 15, 3) := by decide +kernel
theorem dX7_millionths_71 : decode cX7_millionths 71 = .ok (.getfield 100, 3) := by decide +kernel
theorem dX7_millionths_74 : decode cX7_millionths 74 = .ok (.iload 4, 2) := by decide +kernel
theorem dX7_millionths_76 : decode cX7_millionths 76 = .ok (.iaload, 1) := by decide +kernel
theorem dX7_millionths_77 : decode cX7_millionths 77 = .ok (.i2l, 1) := by decide +kernel
theorem dX7_millionths_78 : decode cX7_millionths 78 = .ok (.lmul, 1) := by decide +kernel
theorem dX7_millionths_79 : decode cX7_millionths 79 = .ok (.aload_n 0, 1) := by decide +kernel
theorem dX7_millionths_80 : decode cX7_millionths 80 = .ok (.getfield 15, 3) := by decide +kernel
theorem dX7_millionths_83 : decode cX7_millionths 83 = .ok (.getfield 64, 3) := by decide +kernel
theorem dX7_millionths_86 : decode cX7_millionths 86 = .ok (.iload 4, 2) := by decide +kernel
theorem dX7_millionths_88 : decode cX7_millionths 88 = .ok (.iaload, 1) := by decide +kernel
theorem dX7_millionths_89 : decode cX7_millionths 89 = .ok (.i2l, 1) := by decide +kernel
theorem dX7_millionths_90 : decode cX7_millionths 90 = .ok (.aload_n 0, 1) := by decide +kernel
theorem dX7_millionths_91 : decode cX7_millionths 91 = .ok (.getfield 15, 3) := by decide +kernel
theorem dX7_millionths_94 : decode cX7_millionths 94 = .ok (.getfield 100, 3) := by decide +kernel
theorem dX7_millionths_97 : decode cX7_millionths 97 = .ok (.iload_n 3, 1) := by decide +kernel
theorem dX7_millionths_98 : decode cX7_millionths 98 = .ok (.iaload, 1) := by decide +kernel
theorem dX7_millionths_99 : decode cX7_millionths 99 = .ok (.i2l, 1) := by decide +kernel
theorem dX7_millionths_100 : decode cX7_millionths 100 = .ok (.lmul, 1) := by decide +kernel
theorem dX7_millionths_101 : decode cX7_millionths 101 = .ok (.lsub, 1) := by decide +kernel
theorem dX7_millionths_102 : decode cX7_millionths 102 = .ok (.lstore 5, 2) := by decide +kernel
theorem dX7_millionths_104 : decode cX7_millionths 104 = .ok (.aload_n 0, 1) := by decide +kernel
theorem dX7_millionths_105 : decode cX7_millionths 105 = .ok (.getfield 36, 3) := by decide +kernel
theorem dX7_millionths_108 : decode cX7_millionths 108 = .ok (.ldc2_w 121, 3) := by decide +kernel
theorem dX7_millionths_111 : decode cX7_millionths 111 = .ok (.lload 5, 2) := by decide +kernel
theorem dX7_millionths_113 : decode cX7_millionths 113 = .ok (.lmul, 1) := by decide +kernel
theorem dX7_millionths_114 : decode cX7_millionths 114 = .ok (.aload_n 0, 1) := by decide +kernel
theorem dX7_millionths_115 : decode cX7_millionths 115 = .ok (.getfield 15, 3) := by decide +kernel
theorem dX7_millionths_118 : decode cX7_millionths 118 = .ok (.getfield 89, 3) := by decide +kernel
theorem dX7_millionths_121 : decode cX7_millionths 121 = .ok (.iload_n 3, 1) := by decide +kernel
theorem dX7_millionths_122 : decode cX7_millionths 122 = .ok (.iaload, 1) := by decide +kernel
theorem dX7_millionths_123 : decode cX7_millionths 123 = .ok (.i2l, 1) := by decide +kernel
theorem dX7_millionths_124 : decode cX7_millionths 124 = .ok (.aload_n 0, 1) := by decide +kernel
theorem dX7_millionths_125 : decode cX7_millionths 125 = .ok (.getfield 15, 3) := by decide +kernel
theorem dX7_millionths_128 : decode cX7_millionths 128 = .ok (.getfield 89, 3) := by decide +kernel
theorem dX7_millionths_131 : decode cX7_millionths 131 = .ok (.iload 4, 2) := by decide +kernel
theorem dX7_millionths_133 : decode cX7_millionths 133 = .ok (.iaload, 1) := by decide +kernel
theorem dX7_millionths_134 : decode cX7_millionths 134 = .ok (.i2l, 1) := by decide +kernel
theorem dX7_millionths_135 : decode cX7_millionths 135 = .ok (.lmul, 1) := by decide +kernel
theorem dX7_millionths_136 : decode cX7_millionths 136 = .ok (.invokevirtual 123, 3) := by decide +kernel
theorem dX7_millionths_139 : decode cX7_millionths 139 = .ok (.iinc 2 1, 3) := by decide +kernel
theorem dX7_millionths_142 : decode cX7_millionths 142 = .ok (.goto (-128), 3) := by decide +kernel
theorem dX7_millionths_145 : decode cX7_millionths 145 = .ok (.aload_n 0, 1) := by decide +kernel
theorem dX7_millionths_146 : decode cX7_millionths 146 = .ok (.getfield 36, 3) := by decide +kernel
theorem dX7_millionths_149 : decode cX7_millionths 149 = .ok (.invokevirtual 127, 3) := by decide +kernel
theorem dX7_millionths_152 : decode cX7_millionths 152 = .ok (.lreturn, 1) := by decide +kernel
set_option maxRecDepth 20000 in
theorem ggX7_around_X4_ask : GoodIn wsX7_around wsX4_ask := goodIn_r _ [10, 11, 12, 13, 68, 69, 70, 71] rfl (by decide +kernel)
set_option maxRecDepth 20000 in
theorem gX7_around_X4_ask : GoodIn wsX7_around (wsV RX7 131 RX4 yX4_ask wsX4_ask) := goodIn_app (goodIn_r ([.methodLink RX7 131 yX4_ask, .instanceMethod yX4_ask, .selects RX4 yX4_ask yX4_ask, .initialized RX4] : List Cond) [6, 7, 8, 9] rfl (by decide +kernel)) ggX7_around_X4_ask
set_option maxRecDepth 20000 in
theorem ggX7_around_X7_isOn : GoodIn wsX7_around wsX7_isOn := goodIn_r _ [18, 2, 19, 20, 21, 22, 23, 24, 25, 26, 27, 1, 28, 29, 30, 9, 31, 11, 12, 13, 32, 33, 34, 35, 50, 51, 52, 53, 54, 55, 56, 57, 58, 59, 60, 61, 62, 63, 64, 65, 66, 67, 68, 69, 70, 71] rfl (by decide +kernel)
set_option maxRecDepth 20000 in
theorem gX7_around_X7_isOn : GoodIn wsX7_around (wsV RX7 135 RX7 yX7_isOn wsX7_isOn) := goodIn_app (goodIn_r ([.methodLink RX7 135 yX7_isOn, .instanceMethod yX7_isOn, .selects RX7 yX7_isOn yX7_isOn, .initialized RX7] : List Cond) [14, 15, 16, 17] rfl (by decide +kernel)) ggX7_around_X7_isOn
set_option maxRecDepth 20000 in
theorem ggX7_around_X7_isInside : GoodIn wsX7_around wsX7_isInside := goodIn_r _ [39, 40, 41, 42, 43, 44, 17, 45, 2, 19, 20, 21, 22, 23, 24, 25, 26, 27, 1, 46, 47, 48, 9, 49, 12, 13, 28, 29, 30, 31, 11, 50, 51, 52, 53, 54, 55, 56, 57, 58, 59, 60, 61, 62, 63, 64, 65, 66, 67, 68, 69, 70, 71] rfl (by decide +kernel)
set_option maxRecDepth 20000 in
theorem gX7_around_X7_isInside : GoodIn wsX7_around (wsV RX7 139 RX7 yX7_isInside wsX7_isInside) := goodIn_app (goodIn_r ([.methodLink RX7 139 yX7_isInside, .instanceMethod yX7_isInside, .selects RX7 yX7_isInside yX7_isInside, .initialized RX7] : List Cond) [36, 37, 38, 17] rfl (by decide +kernel)) ggX7_around_X7_isInside
theorem dX7_around_0 : decode cX7_around 0 = .ok (.aload_n 0, 1) := by decide +kernel
theorem dX7_around_1 : decode cX7_around 1 = .ok (.getfield 15, 3) := by decide +kernel
theorem dX7_around_4 : decode cX7_around 4 = .ok (.iload_n 1, 1) := by decide +kernel
theorem dX7_around_5 : decode cX7_around 5 = .ok (.iload_n 2, 1) := by decide +kernel
theorem dX7_around_6 : decode cX7_around 6 = .ok (.iload_n 3, 1) := by decide +kernel
theorem dX7_around_7 : decode cX7_around 7 = .ok (.invokevirtual 131, 3) := by decide +kernel
theorem dX7_around_10 : decode cX7_around 10 = .ok (.iconst 0, 1) := by decide +kernel
theorem dX7_around_11 : decode cX7_around 11 = .ok (.istore 4, 2) := by decide +kernel
theorem dX7_around_13 : decode cX7_around 13 = .ok (.iload 4, 2) := by decide +kernel
theorem dX7_around_15 : decode cX7_around 15 = .ok (.aload_n 0, 1) := by decide +kernel
theorem dX7_around_16 : decode cX7_around 16 = .ok (.getfield 22, 3) := by decide +kernel
theorem dX7_around_19 : decode cX7_around 19 = .ok (.getfield 40, 3) := by decide +kernel
theorem dX7_around_22 : decode cX7_around 22 = .ok (.if_icmp .ge 33, 3) := by decide +kernel
theorem dX7_around_25 : decode cX7_around 25 = .ok (.aload_n 0, 1) := by decide +kernel
theorem dX7_around_26 : decode cX7_around 26 = .ok (.getfield 22, 3) := by decide +kernel
theorem dX7_around_29 : decode cX7_around 29 = .ok (.getfield 46, 3) := by decide +kernel
theorem dX7_around_32 : decode cX7_around 32 = .ok (.iload 4, 2) := by decide +kernel
theorem dX7_around_34 : decode cX7_around 34 = .ok (.baload, 1) := by decide +kernel
theorem dX7_around_35 : decode cX7_around 35 = .ok (.ifCond .eq 14, 3) := by decide +kernel
theorem dX7_around_38 : decode cX7_around 38 = .ok (.aload_n 0, 1) := by decide +kernel
theorem dX7_around_39 : decode cX7_around 39 = .ok (.iload 4, 2) := by decide +kernel
theorem dX7_around_41 : decode cX7_around 41 = .ok (.invokevirtual 135, 3) := by decide +kernel
theorem dX7_around_44 : decode cX7_around 44 = .ok (.ifCond .eq 5, 3) := by decide +kernel
theorem dX7_around_47 : decode cX7_around 47 = .ok (.iconst (-1), 1) := by decide +kernel
theorem dX7_around_48 : decode cX7_around 48 = .ok (.ireturn, 1) := by decide +kernel
theorem dX7_around_49 : decode cX7_around 49 = .ok (.iinc 4 1, 3) := by decide +kernel
theorem dX7_around_52 : decode cX7_around 52 = .ok (.goto (-39), 3) := by decide +kernel
theorem dX7_around_55 : decode cX7_around 55 = .ok (.iconst 0, 1) := by decide +kernel
theorem dX7_around_56 : decode cX7_around 56 = .ok (.istore 4, 2) := by decide +kernel
theorem dX7_around_58 : decode cX7_around 58 = .ok (.iload 4, 2) := by decide +kernel
theorem dX7_around_60 : decode cX7_around 60 = .ok (.aload_n 0, 1) := by decide +kernel
theorem dX7_around_61 : decode cX7_around 61 = .ok (.getfield 58, 3) := by decide +kernel
theorem dX7_around_64 : decode cX7_around 64 = .ok (.if_icmp .ge 21, 3) := by decide +kernel
theorem dX7_around_67 : decode cX7_around 67 = .ok (.aload_n 0, 1) := by decide +kernel
theorem dX7_around_68 : decode cX7_around 68 = .ok (.iload 4, 2) := by decide +kernel
theorem dX7_around_70 : decode cX7_around 70 = .ok (.invokevirtual 139, 3) := by decide +kernel
theorem dX7_around_73 : decode cX7_around 73 = .ok (.ifCond .eq 6, 3) := by decide +kernel
theorem dX7_around_76 : decode cX7_around 76 = .ok (.iload 4, 2) := by decide +kernel
theorem dX7_around_78 : decode cX7_around 78 = .ok (.ireturn, 1) := by decide +kernel
theorem dX7_around_79 : decode cX7_around 79 = .ok (.iinc 4 1, 3) := by decide +kernel
theorem dX7_around_82 : decode cX7_around 82 = .ok (.goto (-24), 3) := by decide +kernel
theorem dX7_around_85 : decode cX7_around 85 = .ok (.iconst (-1), 1) := by decide +kernel
theorem dX7_around_86 : decode cX7_around 86 = .ok (.ireturn, 1) := by decide +kernel
set_option maxRecDepth 20000 in
theorem ggX7_isOn_X4_side : GoodIn wsX7_isOn wsX4_side := goodIn_r _ [16, 17, 18, 19, 42, 43, 44, 45] rfl (by decide +kernel)
set_option maxRecDepth 20000 in
theorem gX7_isOn_X4_side : GoodIn wsX7_isOn (wsV RX7 142 RX4 yX4_side wsX4_side) := goodIn_app (goodIn_r ([.methodLink RX7 142 yX4_side, .instanceMethod yX4_side, .selects RX4 yX4_side yX4_side, .initialized RX4] : List Cond) [12, 13, 14, 15] rfl (by decide +kernel)) ggX7_isOn_X4_side
set_option maxRecDepth 20000 in
theorem ggX7_isOn_X4_order : GoodIn wsX7_isOn wsX4_order := goodIn_r _ [23, 18, 19, 17, 42, 43, 44, 45] rfl (by decide +kernel)
set_option maxRecDepth 20000 in
theorem gX7_isOn_X4_order : GoodIn wsX7_isOn (wsV RX7 146 RX4 yX4_order wsX4_order) := goodIn_app (goodIn_r ([.methodLink RX7 146 yX4_order, .instanceMethod yX4_order, .selects RX4 yX4_order yX4_order, .initialized RX4] : List Cond) [20, 21, 22, 15] rfl (by decide +kernel)) ggX7_isOn_X4_order
theorem dX7_isOn_0 : decode cX7_isOn 0 = .ok (.aload_n 0, 1) := by decide +kernel
theorem dX7_isOn_1 : decode cX7_isOn 1 = .ok (.getfield 22, 3) := by decide +kernel
theorem dX7_isOn_4 : decode cX7_isOn 4 = .ok (.getfield 76, 3) := by decide +kernel
theorem dX7_isOn_7 : decode cX7_isOn 7 = .ok (.iload_n 1, 1) := by decide +kernel
theorem dX7_isOn_8 : decode cX7_isOn 8 = .ok (.iaload, 1) := by decide +kernel
theorem dX7_isOn_9 : decode cX7_isOn 9 = .ok (.aload_n 0, 1) := by decide +kernel
theorem dX7_isOn_10 : decode cX7_isOn 10 = .ok (.getfield 22, 3) := by decide +kernel
theorem dX7_isOn_13 : decode cX7_isOn 13 = .ok (.getfield 69, 3) := by decide +kernel
theorem dX7_isOn_16 : decode cX7_isOn 16 = .ok (.iload_n 1, 1) := by decide +kernel
theorem dX7_isOn_17 : decode cX7_isOn 17 = .ok (.iaload, 1) := by decide +kernel
theorem dX7_isOn_18 : decode cX7_isOn 18 = .ok (.invokestatic 95, 3) := by decide +kernel
theorem dX7_isOn_21 : decode cX7_isOn 21 = .ok (.istore_n 2, 1) := by decide +kernel
theorem dX7_isOn_22 : decode cX7_isOn 22 = .ok (.aload_n 0, 1) := by decide +kernel
theorem dX7_isOn_23 : decode cX7_isOn 23 = .ok (.getfield 22, 3) := by decide +kernel
theorem dX7_isOn_26 : decode cX7_isOn 26 = .ok (.getfield 76, 3) := by decide +kernel
theorem dX7_isOn_29 : decode cX7_isOn 29 = .ok (.iload_n 1, 1) := by decide +kernel
theorem dX7_isOn_30 : decode cX7_isOn 30 = .ok (.iaload, 1) := by decide +kernel
theorem dX7_isOn_31 : decode cX7_isOn 31 = .ok (.aload_n 0, 1) := by decide +kernel
theorem dX7_isOn_32 : decode cX7_isOn 32 = .ok (.getfield 22, 3) := by decide +kernel
theorem dX7_isOn_35 : decode cX7_isOn 35 = .ok (.getfield 69, 3) := by decide +kernel
theorem dX7_isOn_38 : decode cX7_isOn 38 = .ok (.iload_n 1, 1) := by decide +kernel
theorem dX7_isOn_39 : decode cX7_isOn 39 = .ok (.iaload, 1) := by decide +kernel
theorem dX7_isOn_40 : decode cX7_isOn 40 = .ok (.invokestatic 106, 3) := by decide +kernel
theorem dX7_isOn_43 : decode cX7_isOn 43 = .ok (.istore_n 3, 1) := by decide +kernel
theorem dX7_isOn_44 : decode cX7_isOn 44 = .ok (.aload_n 0, 1) := by decide +kernel
theorem dX7_isOn_45 : decode cX7_isOn 45 = .ok (.getfield 15, 3) := by decide +kernel
theorem dX7_isOn_48 : decode cX7_isOn 48 = .ok (.iload_n 2, 1) := by decide +kernel
theorem dX7_isOn_49 : decode cX7_isOn 49 = .ok (.iload_n 3, 1) := by decide +kernel
theorem dX7_isOn_50 : decode cX7_isOn 50 = .ok (.sipush 128, 3) := by decide +kernel
theorem dX7_isOn_53 : decode cX7_isOn 53 = .ok (.invokevirtual 142, 3) := by decide +kernel
theorem dX7_isOn_56 : decode cX7_isOn 56 = .ok (.lconst 0, 1) := by decide +kernel
theorem dX7_isOn_57 : decode cX7_isOn 57 = .ok (.lcmp, 1) := by decide +kernel
theorem dX7_isOn_58 : decode cX7_isOn 58 = .ok (.ifCond .ne 35, 3) := by decide +kernel
theorem dX7_isOn_61 : decode cX7_isOn 61 = .ok (.aload_n 0, 1) := by decide +kernel
theorem dX7_isOn_62 : decode cX7_isOn 62 = .ok (.getfield 15, 3) := by decide +kernel
theorem dX7_isOn_65 : decode cX7_isOn 65 = .ok (.iload_n 2, 1) := by decide +kernel
theorem dX7_isOn_66 : decode cX7_isOn 66 = .ok (.sipush 128, 3) := by decide +kernel
theorem dX7_isOn_69 : decode cX7_isOn 69 = .ok (.invokevirtual 146, 3) := by decide +kernel
theorem dX7_isOn_72 : decode cX7_isOn 72 = .ok (.ifCond .gt 21, 3) := by decide +kernel
theorem dX7_isOn_75 : decode cX7_isOn 75 = .ok (.aload_n 0, 1) := by decide +kernel
theorem dX7_isOn_76 : decode cX7_isOn 76 = .ok (.getfield 15, 3) := by decide +kernel
theorem dX7_isOn_79 : decode cX7_isOn 79 = .ok (.sipush 128, 3) := by decide +kernel
theorem dX7_isOn_82 : decode cX7_isOn 82 = .ok (.iload_n 3, 1) := by decide +kernel
theorem dX7_isOn_83 : decode cX7_isOn 83 = .ok (.invokevirtual 146, 3) := by decide +kernel
theorem dX7_isOn_86 : decode cX7_isOn 86 = .ok (.ifCond .gt 7, 3) := by decide +kernel
theorem dX7_isOn_89 : decode cX7_isOn 89 = .ok (.iconst 1, 1) := by decide +kernel
theorem dX7_isOn_90 : decode cX7_isOn 90 = .ok (.goto 4, 3) := by decide +kernel
theorem dX7_isOn_93 : decode cX7_isOn 93 = .ok (.iconst 0, 1) := by decide +kernel
theorem dX7_isOn_94 : decode cX7_isOn 94 = .ok (.ireturn, 1) := by decide +kernel
set_option maxRecDepth 20000 in
theorem ggX7_isInside_X7_isCrossed : GoodIn wsX7_isInside wsX7_isCrossed := goodIn_r _ [7, 8, 9, 10, 11, 12, 13, 14, 15, 16, 17, 18, 19, 20, 21, 22, 23, 24, 25, 26, 27, 28, 29, 30, 31, 32, 33, 34, 35, 36, 37, 38, 39, 40, 41, 42, 43, 44, 45, 46, 47, 48, 49, 50, 51, 52] rfl (by decide +kernel)
set_option maxRecDepth 20000 in
theorem gX7_isInside_X7_isCrossed : GoodIn wsX7_isInside (wsV RX7 149 RX7 yX7_isCrossed wsX7_isCrossed) := goodIn_app (goodIn_r ([.methodLink RX7 149 yX7_isCrossed, .instanceMethod yX7_isCrossed, .selects RX7 yX7_isCrossed yX7_isCrossed, .initialized RX7] : List Cond) [3, 4, 5, 6] rfl (by decide +kernel)) ggX7_isInside_X7_isCrossed
theorem dX7_isInside_0 : decode cX7_isInside 0 = .ok (.iconst 0, 1) := by decide +kernel
theorem dX7_isInside_1 : decode cX7_isInside 1 = .ok (.istore_n 2, 1) := by decide +kernel
theorem dX7_isInside_2 : decode cX7_isInside 2 = .ok (.aload_n 0, 1) := by decide +kernel
theorem dX7_isInside_3 : decode cX7_isInside 3 = .ok (.getfield 30, 3) := by decide +kernel
theorem dX7_isInside_6 : decode cX7_isInside 6 = .ok (.iload_n 1, 1) := by decide +kernel
theorem dX7_isInside_7 : decode cX7_isInside 7 = .ok (.iaload, 1) := by decide +kernel
theorem dX7_isInside_8 : decode cX7_isInside 8 = .ok (.istore_n 3, 1) := by decide +kernel
theorem dX7_isInside_9 : decode cX7_isInside 9 = .ok (.iload_n 3, 1) := by decide +kernel
theorem dX7_isInside_10 : decode cX7_isInside 10 = .ok (.aload_n 0, 1) := by decide +kernel
theorem dX7_isInside_11 : decode cX7_isInside 11 = .ok (.getfield 30, 3) := by decide +kernel
theorem dX7_isInside_14 : decode cX7_isInside 14 = .ok (.iload_n 1, 1) := by decide +kernel
theorem dX7_isInside_15 : decode cX7_isInside 15 = .ok (.iconst 1, 1) := by decide +kernel
theorem dX7_isInside_16 : decode cX7_isInside 16 = .ok (.iadd, 1) := by decide +kernel
theorem dX7_isInside_17 : decode cX7_isInside 17 = .ok (.iaload, 1) := by decide +kernel
theorem dX7_isInside_18 : decode cX7_isInside 18 = .ok (.if_icmp .ge 32, 3) := by decide +kernel
theorem dX7_isInside_21 : decode cX7_isInside 21 = .ok (.aload_n 0, 1) := by decide +kernel
theorem dX7_isInside_22 : decode cX7_isInside 22 = .ok (.aload_n 0, 1) := by decide +kernel
theorem dX7_isInside_23 : decode cX7_isInside 23 = .ok (.getfield 27, 3) := by decide +kernel
theorem dX7_isInside_26 : decode cX7_isInside 26 = .ok (.iload_n 3, 1) := by decide +kernel
theorem dX7_isInside_27 : decode cX7_isInside 27 = .ok (.iaload, 1) := by decide +kernel
theorem dX7_isInside_28 : decode cX7_isInside 28 = .ok (.invokevirtual 149, 3) := by decide +kernel
theorem dX7_isInside_31 : decode cX7_isInside 31 = .ok (.ifCond .eq 13, 3) := by decide +kernel
theorem dX7_isInside_34 : decode cX7_isInside 34 = .ok (.iload_n 2, 1) := by decide +kernel
theorem dX7_isInside_35 : decode cX7_isInside 35 = .ok (.ifCond .ne 7, 3) := by decide +kernel
theorem dX7_isInside_38 : decode cX7_isInside 38 = .ok (.iconst 1, 1) := by decide +kernel
theorem dX7_isInside_39 : decode cX7_isInside 39 = .ok (.goto 4, 3) := by decide +kernel
theorem dX7_isInside_42 : decode cX7_isInside 42 = .ok (.iconst 0, 1) := by decide +kernel
theorem dX7_isInside_43 : decode cX7_isInside 43 = .ok (.istore_n 2, 1) := by decide +kernel
theorem dX7_isInside_44 : decode cX7_isInside 44 = .ok (.iinc 3 1, 3) := by decide +kernel
theorem dX7_isInside_47 : decode cX7_isInside 47 = .ok (.goto (-38), 3) := by decide +kernel
theorem dX7_isInside_50 : decode cX7_isInside 50 = .ok (.iload_n 2, 1) := by decide +kernel
theorem dX7_isInside_51 : decode cX7_isInside 51 = .ok (.ireturn, 1) := by decide +kernel
set_option maxRecDepth 20000 in
theorem ggX7_isCrossed_X4_heightOrder : GoodIn wsX7_isCrossed wsX4_heightOrder := goodIn_r _ [16, 17, 18, 42, 43, 44, 45] rfl (by decide +kernel)
set_option maxRecDepth 20000 in
theorem gX7_isCrossed_X4_heightOrder : GoodIn wsX7_isCrossed (wsV RX7 152 RX4 yX4_heightOrder wsX4_heightOrder) := goodIn_app (goodIn_r ([.methodLink RX7 152 yX4_heightOrder, .instanceMethod yX4_heightOrder, .selects RX4 yX4_heightOrder yX4_heightOrder, .initialized RX4] : List Cond) [12, 13, 14, 15] rfl (by decide +kernel)) ggX7_isCrossed_X4_heightOrder
set_option maxRecDepth 20000 in
theorem ggX7_isCrossed_X4_side : GoodIn wsX7_isCrossed wsX4_side := goodIn_r _ [22, 23, 17, 18, 42, 43, 44, 45] rfl (by decide +kernel)
set_option maxRecDepth 20000 in
theorem gX7_isCrossed_X4_side : GoodIn wsX7_isCrossed (wsV RX7 142 RX4 yX4_side wsX4_side) := goodIn_app (goodIn_r ([.methodLink RX7 142 yX4_side, .instanceMethod yX4_side, .selects RX4 yX4_side yX4_side, .initialized RX4] : List Cond) [19, 20, 21, 15] rfl (by decide +kernel)) ggX7_isCrossed_X4_side
theorem dX7_isCrossed_0 : decode cX7_isCrossed 0 = .ok (.aload_n 0, 1) := by decide +kernel
theorem dX7_isCrossed_1 : decode cX7_isCrossed 1 = .ok (.getfield 22, 3) := by decide +kernel
theorem dX7_isCrossed_4 : decode cX7_isCrossed 4 = .ok (.getfield 76, 3) := by decide +kernel
theorem dX7_isCrossed_7 : decode cX7_isCrossed 7 = .ok (.iload_n 1, 1) := by decide +kernel
theorem dX7_isCrossed_8 : decode cX7_isCrossed 8 = .ok (.iaload, 1) := by decide +kernel
theorem dX7_isCrossed_9 : decode cX7_isCrossed 9 = .ok (.aload_n 0, 1) := by decide +kernel
theorem dX7_isCrossed_10 : decode cX7_isCrossed 10 = .ok (.getfield 22, 3) := by decide +kernel
theorem dX7_isCrossed_13 : decode cX7_isCrossed 13 = .ok (.getfield 69, 3) := by decide +kernel
theorem dX7_isCrossed_16 : decode cX7_isCrossed 16 = .ok (.iload_n 1, 1) := by decide +kernel
theorem dX7_isCrossed_17 : decode cX7_isCrossed 17 = .ok (.iaload, 1) := by decide +kernel
theorem dX7_isCrossed_18 : decode cX7_isCrossed 18 = .ok (.invokestatic 95, 3) := by decide +kernel
theorem dX7_isCrossed_21 : decode cX7_isCrossed 21 = .ok (.istore_n 2, 1) := by decide +kernel
theorem dX7_isCrossed_22 : decode cX7_isCrossed 22 = .ok (.aload_n 0, 1) := by decide +kernel
theorem dX7_isCrossed_23 : decode cX7_isCrossed 23 = .ok (.getfield 22, 3) := by decide +kernel
theorem dX7_isCrossed_26 : decode cX7_isCrossed 26 = .ok (.getfield 76, 3) := by decide +kernel
theorem dX7_isCrossed_29 : decode cX7_isCrossed 29 = .ok (.iload_n 1, 1) := by decide +kernel
theorem dX7_isCrossed_30 : decode cX7_isCrossed 30 = .ok (.iaload, 1) := by decide +kernel
theorem dX7_isCrossed_31 : decode cX7_isCrossed 31 = .ok (.aload_n 0, 1) := by decide +kernel
theorem dX7_isCrossed_32 : decode cX7_isCrossed 32 = .ok (.getfield 22, 3) := by decide +kernel
theorem dX7_isCrossed_35 : decode cX7_isCrossed 35 = .ok (.getfield 69, 3) := by decide +kernel
theorem dX7_isCrossed_38 : decode cX7_isCrossed 38 = .ok (.iload_n 1, 1) := by decide +kernel
theorem dX7_isCrossed_39 : decode cX7_isCrossed 39 = .ok (.iaload, 1) := by decide +kernel
theorem dX7_isCrossed_40 : decode cX7_isCrossed 40 = .ok (.invokestatic 106, 3) := by decide +kernel
theorem dX7_isCrossed_43 : decode cX7_isCrossed 43 = .ok (.istore_n 3, 1) := by decide +kernel
theorem dX7_isCrossed_44 : decode cX7_isCrossed 44 = .ok (.aload_n 0, 1) := by decide +kernel
theorem dX7_isCrossed_45 : decode cX7_isCrossed 45 = .ok (.getfield 15, 3) := by decide +kernel
theorem dX7_isCrossed_48 : decode cX7_isCrossed 48 = .ok (.iload_n 2, 1) := by decide +kernel
theorem dX7_isCrossed_49 : decode cX7_isCrossed 49 = .ok (.sipush 128, 3) := by decide +kernel
theorem dX7_isCrossed_52 : decode cX7_isCrossed 52 = .ok (.invokevirtual 152, 3) := by decide +kernel
theorem dX7_isCrossed_55 : decode cX7_isCrossed 55 = .ok (.ifCond .gt 38, 3) := by decide +kernel
theorem dX7_isCrossed_58 : decode cX7_isCrossed 58 = .ok (.aload_n 0, 1) := by decide +kernel
theorem dX7_isCrossed_59 : decode cX7_isCrossed 59 = .ok (.getfield 15, 3) := by decide +kernel
theorem dX7_isCrossed_62 : decode cX7_isCrossed 62 = .ok (.sipush 128, 3) := by decide +kernel
theorem dX7_isCrossed_65 : decode cX7_isCrossed 65 = .ok (.iload_n 3, 1) := by decide +kernel
theorem dX7_isCrossed_66 : decode cX7_isCrossed 66 = .ok (.invokevirtual 152, 3) := by decide +kernel
theorem dX7_isCrossed_69 : decode cX7_isCrossed 69 = .ok (.ifCond .ge 24, 3) := by decide +kernel
theorem dX7_isCrossed_72 : decode cX7_isCrossed 72 = .ok (.aload_n 0, 1) := by decide +kernel
theorem dX7_isCrossed_73 : decode cX7_isCrossed 73 = .ok (.getfield 15, 3) := by decide +kernel
theorem dX7_isCrossed_76 : decode cX7_isCrossed 76 = .ok (.iload_n 2, 1) := by decide +kernel
theorem dX7_isCrossed_77 : decode cX7_isCrossed 77 = .ok (.iload_n 3, 1) := by decide +kernel
theorem dX7_isCrossed_78 : decode cX7_isCrossed 78 = .ok (.sipush 128, 3) := by decide +kernel
theorem dX7_isCrossed_81 : decode cX7_isCrossed 81 = .ok (.invokevirtual 142, 3) := by decide +kernel
theorem dX7_isCrossed_84 : decode cX7_isCrossed 84 = .ok (.lconst 0, 1) := by decide +kernel
theorem dX7_isCrossed_85 : decode cX7_isCrossed 85 = .ok (.lcmp, 1) := by decide +kernel
theorem dX7_isCrossed_86 : decode cX7_isCrossed 86 = .ok (.ifCond .le 7, 3) := by decide +kernel
theorem dX7_isCrossed_89 : decode cX7_isCrossed 89 = .ok (.iconst 1, 1) := by decide +kernel
theorem dX7_isCrossed_90 : decode cX7_isCrossed 90 = .ok (.goto 4, 3) := by decide +kernel
theorem dX7_isCrossed_93 : decode cX7_isCrossed 93 = .ok (.iconst 0, 1) := by decide +kernel
theorem dX7_isCrossed_94 : decode cX7_isCrossed 94 = .ok (.ireturn, 1) := by decide +kernel
