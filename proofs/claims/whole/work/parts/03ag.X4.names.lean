theorem dX4_init_0 : decode cX4_init 0 = .ok (.aload_n 0, 1) := by decide +kernel
theorem dX4_init_1 : decode cX4_init 1 = .ok (.invokespecial 3, 3) := by decide +kernel
theorem dX4_init_4 : decode cX4_init 4 = .ok (.aload_n 0, 1) := by decide +kernel
theorem dX4_init_5 : decode cX4_init 5 = .ok (.sipush 129, 3) := by decide +kernel
theorem dX4_init_8 : decode cX4_init 8 = .ok (.newarray .int, 2) := by decide +kernel
theorem dX4_init_10 : decode cX4_init 10 = .ok (.putfield 9, 3) := by decide +kernel
theorem dX4_init_13 : decode cX4_init 13 = .ok (.aload_n 0, 1) := by decide +kernel
theorem dX4_init_14 : decode cX4_init 14 = .ok (.sipush 129, 3) := by decide +kernel
theorem dX4_init_17 : decode cX4_init 17 = .ok (.newarray .int, 2) := by decide +kernel
theorem dX4_init_19 : decode cX4_init 19 = .ok (.putfield 15, 3) := by decide +kernel
theorem dX4_init_22 : decode cX4_init 22 = .ok (.aload_n 0, 1) := by decide +kernel
theorem dX4_init_23 : decode cX4_init 23 = .ok (.sipush 129, 3) := by decide +kernel
theorem dX4_init_26 : decode cX4_init 26 = .ok (.newarray .int, 2) := by decide +kernel
theorem dX4_init_28 : decode cX4_init 28 = .ok (.putfield 18, 3) := by decide +kernel
theorem dX4_init_31 : decode cX4_init 31 = .ok (.return_, 1) := by decide +kernel
set_option maxRecDepth 20000 in
theorem ggX4_gather_X4_insert : GoodIn wsX4_gather wsX4_insert := goodIn_r _ [11, 1, 12, 13, 14, 15, 16, 17, 10, 18, 19, 20, 21, 22, 23, 24, 25, 26, 27, 28, 29, 34, 35, 36, 37] rfl (by decide +kernel)
set_option maxRecDepth 20000 in
theorem gX4_gather_X4_insert : GoodIn wsX4_gather (wsV RX4 32 RX4 yX4_insert wsX4_insert) := goodIn_app (goodIn_r ([.methodLink RX4 32 yX4_insert, .instanceMethod yX4_insert, .selects RX4 yX4_insert yX4_insert, .initialized RX4] : List Cond) [7, 8, 9, 10] rfl (by decide +kernel)) ggX4_gather_X4_insert
set_option maxRecDepth 20000 in
theorem ggX4_gather_X4_insertCrossing : GoodIn wsX4_gather wsX4_insertCrossing := goodIn_r _ [33, 5, 3, 6, 4, 7, 8, 9, 10, 11, 1, 12, 13, 14, 15, 16, 17, 18, 19, 20, 21, 22, 23, 24, 25, 26, 27, 28, 29, 38, 39, 40, 41, 42, 43, 44, 34, 35, 36, 37] rfl (by decide +kernel)
set_option maxRecDepth 20000 in
theorem gX4_gather_X4_insertCrossing : GoodIn wsX4_gather (wsV RX4 42 RX4 yX4_insertCrossing wsX4_insertCrossing) := goodIn_app (goodIn_r ([.methodLink RX4 42 yX4_insertCrossing, .instanceMethod yX4_insertCrossing, .selects RX4 yX4_insertCrossing yX4_insertCrossing, .initialized RX4] : List Cond) [30, 31, 32, 10] rfl (by decide +kernel)) ggX4_gather_X4_insertCrossing
theorem dX4_gather_0 : decode cX4_gather 0 = .ok (.aload_n 0, 1) := by decide +kernel
theorem dX4_gather_1 : decode cX4_gather 1 = .ok (.iconst 0, 1) := by decide +kernel
theorem dX4_gather_2 : decode cX4_gather 2 = .ok (.putfield 21, 3) := by decide +kernel
theorem dX4_gather_5 : decode cX4_gather 5 = .ok (.iconst 0, 1) := by decide +kernel
theorem dX4_gather_6 : decode cX4_gather 6 = .ok (.istore_n 2, 1) := by decide +kernel
theorem dX4_gather_7 : decode cX4_gather 7 = .ok (.iload_n 2, 1) := by decide +kernel
theorem dX4_gather_8 : decode cX4_gather 8 = .ok (.aload_n 1, 1) := by decide +kernel
theorem dX4_gather_9 : decode cX4_gather 9 = .ok (.getfield 25, 3) := by decide +kernel
theorem dX4_gather_12 : decode cX4_gather 12 = .ok (.if_icmp .ge 43, 3) := by decide +kernel
theorem dX4_gather_15 : decode cX4_gather 15 = .ok (.aload_n 0, 1) := by decide +kernel
theorem dX4_gather_16 : decode cX4_gather 16 = .ok (.aload_n 1, 1) := by decide +kernel
theorem dX4_gather_17 : decode cX4_gather 17 = .ok (.getfield 30, 3) := by decide +kernel
theorem dX4_gather_20 : decode cX4_gather 20 = .ok (.iload_n 2, 1) := by decide +kernel
theorem dX4_gather_21 : decode cX4_gather 21 = .ok (.iaload, 1) := by decide +kernel
theorem dX4_gather_22 : decode cX4_gather 22 = .ok (.aload_n 1, 1) := by decide +kernel
theorem dX4_gather_23 : decode cX4_gather 23 = .ok (.getfield 31, 3) := by decide +kernel
theorem dX4_gather_26 : decode cX4_gather 26 = .ok (.iload_n 2, 1) := by decide +kernel
theorem dX4_gather_27 : decode cX4_gather 27 = .ok (.iaload, 1) := by decide +kernel
theorem dX4_gather_28 : decode cX4_gather 28 = .ok (.iconst 1, 1) := by decide +kernel
theorem dX4_gather_29 : decode cX4_gather 29 = .ok (.invokevirtual 32, 3) := by decide +kernel
theorem dX4_gather_32 : decode cX4_gather 32 = .ok (.aload_n 0, 1) := by decide +kernel
theorem dX4_gather_33 : decode cX4_gather 33 = .ok (.aload_n 1, 1) := by decide +kernel
theorem dX4_gather_34 : decode cX4_gather 34 = .ok (.getfield 36, 3) := by decide +kernel
theorem dX4_gather_37 : decode cX4_gather 37 = .ok (.iload_n 2, 1) := by decide +kernel
theorem dX4_gather_38 : decode cX4_gather 38 = .ok (.iaload, 1) := by decide +kernel
theorem dX4_gather_39 : decode cX4_gather 39 = .ok (.aload_n 1, 1) := by decide +kernel
theorem dX4_gather_40 : decode cX4_gather 40 = .ok (.getfield 39, 3) := by decide +kernel
theorem dX4_gather_43 : decode cX4_gather 43 = .ok (.iload_n 2, 1) := by decide +kernel
theorem dX4_gather_44 : decode cX4_gather 44 = .ok (.iaload, 1) := by decide +kernel
theorem dX4_gather_45 : decode cX4_gather 45 = .ok (.iconst 1, 1) := by decide +kernel
theorem dX4_gather_46 : decode cX4_gather 46 = .ok (.invokevirtual 32, 3) := by decide +kernel
theorem dX4_gather_49 : decode cX4_gather 49 = .ok (.iinc 2 1, 3) := by decide +kernel
theorem dX4_gather_52 : decode cX4_gather 52 = .ok (.goto (-45), 3) := by decide +kernel
theorem dX4_gather_55 : decode cX4_gather 55 = .ok (.iconst 0, 1) := by decide +kernel
theorem dX4_gather_56 : decode cX4_gather 56 = .ok (.istore_n 2, 1) := by decide +kernel
theorem dX4_gather_57 : decode cX4_gather 57 = .ok (.iload_n 2, 1) := by decide +kernel
theorem dX4_gather_58 : decode cX4_gather 58 = .ok (.aload_n 1, 1) := by decide +kernel
theorem dX4_gather_59 : decode cX4_gather 59 = .ok (.getfield 25, 3) := by decide +kernel
theorem dX4_gather_62 : decode cX4_gather 62 = .ok (.if_icmp .ge 29, 3) := by decide +kernel
theorem dX4_gather_65 : decode cX4_gather 65 = .ok (.iconst 0, 1) := by decide +kernel
theorem dX4_gather_66 : decode cX4_gather 66 = .ok (.istore_n 3, 1) := by decide +kernel
theorem dX4_gather_67 : decode cX4_gather 67 = .ok (.iload_n 3, 1) := by decide +kernel
theorem dX4_gather_68 : decode cX4_gather 68 = .ok (.iload_n 2, 1) := by decide +kernel
theorem dX4_gather_69 : decode cX4_gather 69 = .ok (.if_icmp .ge 16, 3) := by decide +kernel
theorem dX4_gather_72 : decode cX4_gather 72 = .ok (.aload_n 0, 1) := by decide +kernel
theorem dX4_gather_73 : decode cX4_gather 73 = .ok (.aload_n 1, 1) := by decide +kernel
theorem dX4_gather_74 : decode cX4_gather 74 = .ok (.iload_n 2, 1) := by decide +kernel
theorem dX4_gather_75 : decode cX4_gather 75 = .ok (.iload_n 3, 1) := by decide +kernel
theorem dX4_gather_76 : decode cX4_gather 76 = .ok (.invokevirtual 42, 3) := by decide +kernel
theorem dX4_gather_79 : decode cX4_gather 79 = .ok (.iinc 3 1, 3) := by decide +kernel
theorem dX4_gather_82 : decode cX4_gather 82 = .ok (.goto (-15), 3) := by decide +kernel
theorem dX4_gather_85 : decode cX4_gather 85 = .ok (.iinc 2 1, 3) := by decide +kernel
theorem dX4_gather_88 : decode cX4_gather 88 = .ok (.goto (-31), 3) := by decide +kernel
theorem dX4_gather_91 : decode cX4_gather 91 = .ok (.return_, 1) := by decide +kernel
set_option maxRecDepth 20000 in
theorem ggX4_insertCrossing_X4_insert : GoodIn wsX4_insertCrossing wsX4_insert := goodIn_r _ [9, 10, 11, 12, 13, 14, 15, 16, 8, 17, 18, 19, 20, 21, 22, 23, 24, 25, 26, 27, 28, 36, 37, 38, 39] rfl (by decide +kernel)
set_option maxRecDepth 20000 in
theorem gX4_insertCrossing_X4_insert : GoodIn wsX4_insertCrossing (wsV RX4 32 RX4 yX4_insert wsX4_insert) := goodIn_app (goodIn_r ([.methodLink RX4 32 yX4_insert, .instanceMethod yX4_insert, .selects RX4 yX4_insert yX4_insert, .initialized RX4] : List Cond) [5, 6, 7, 8] rfl (by decide +kernel)) ggX4_insertCrossing_X4_insert
theorem dX4_insertCrossing_0 : decode cX4_insertCrossing 0 = .ok (.aload_n 1, 1) := by decide +kernel
theorem dX4_insertCrossing_1 : decode cX4_insertCrossing 1 = .ok (.getfield 36, 3) := by decide +kernel
theorem dX4_insertCrossing_4 : decode cX4_insertCrossing 4 = .ok (.iload_n 2, 1) := by decide +kernel
theorem dX4_insertCrossing_5 : decode cX4_insertCrossing 5 = .ok (.iaload, 1) := by decide +kernel
theorem dX4_insertCrossing_6 : decode cX4_insertCrossing 6 = .ok (.aload_n 1, 1) := by decide +kernel
theorem dX4_insertCrossing_7 : decode cX4_insertCrossing 7 = .ok (.getfield 30, 3) := by decide +kernel
theorem dX4_insertCrossing_10 : decode cX4_insertCrossing 10 = .ok (.iload_n 2, 1) := by decide +kernel
theorem dX4_insertCrossing_11 : decode cX4_insertCrossing 11 = .ok (.iaload, 1) := by decide +kernel
theorem dX4_insertCrossing_12 : decode cX4_insertCrossing 12 = .ok (.isub, 1) := by decide +kernel
theorem dX4_insertCrossing_13 : decode cX4_insertCrossing 13 = .ok (.istore 4, 2) := by decide +kernel
theorem dX4_insertCrossing_15 : decode cX4_insertCrossing 15 = .ok (.aload_n 1, 1) := by decide +kernel
theorem dX4_insertCrossing_16 : decode cX4_insertCrossing 16 = .ok (.getfield 39, 3) := by decide +kernel
theorem dX4_insertCrossing_19 : decode cX4_insertCrossing 19 = .ok (.iload_n 2, 1) := by decide +kernel
theorem dX4_insertCrossing_20 : decode cX4_insertCrossing 20 = .ok (.iaload, 1) := by decide +kernel
theorem dX4_insertCrossing_21 : decode cX4_insertCrossing 21 = .ok (.aload_n 1, 1) := by decide +kernel
theorem dX4_insertCrossing_22 : decode cX4_insertCrossing 22 = .ok (.getfield 31, 3) := by decide +kernel
theorem dX4_insertCrossing_25 : decode cX4_insertCrossing 25 = .ok (.iload_n 2, 1) := by decide +kernel
theorem dX4_insertCrossing_26 : decode cX4_insertCrossing 26 = .ok (.iaload, 1) := by decide +kernel
theorem dX4_insertCrossing_27 : decode cX4_insertCrossing 27 = .ok (.isub, 1) := by decide +kernel
theorem dX4_insertCrossing_28 : decode cX4_insertCrossing 28 = .ok (.istore 5, 2) := by decide +kernel
theorem dX4_insertCrossing_30 : decode cX4_insertCrossing 30 = .ok (.aload_n 1, 1) := by decide +kernel
theorem dX4_insertCrossing_31 : decode cX4_insertCrossing 31 = .ok (.getfield 36, 3) := by decide +kernel
theorem dX4_insertCrossing_34 : decode cX4_insertCrossing 34 = .ok (.iload_n 3, 1) := by decide +kernel
theorem dX4_insertCrossing_35 : decode cX4_insertCrossing 35 = .ok (.iaload, 1) := by decide +kernel
theorem dX4_insertCrossing_36 : decode cX4_insertCrossing 36 = .ok (.aload_n 1, 1) := by decide +kernel
theorem dX4_insertCrossing_37 : decode cX4_insertCrossing 37 = .ok (.getfield 30, 3) := by decide +kernel
theorem dX4_insertCrossing_40 : decode cX4_insertCrossing 40 = .ok (.iload_n 3, 1) := by decide +kernel
theorem dX4_insertCrossing_41 : decode cX4_insertCrossing 41 = .ok (.iaload, 1) := by decide +kernel
theorem dX4_insertCrossing_42 : decode cX4_insertCrossing 42 = .ok (.isub, 1) := by decide +kernel
theorem dX4_insertCrossing_43 : decode cX4_insertCrossing 43 = .ok (.istore 6, 2) := by decide +kernel
theorem dX4_insertCrossing_45 : decode cX4_insertCrossing 45 = .ok (.aload_n 1, 1) := by decide +kernel
theorem dX4_insertCrossing_46 : decode cX4_insertCrossing 46 = .ok (.getfield 39, 3) := by decide +kernel
theorem dX4_insertCrossing_49 : decode cX4_insertCrossing 49 = .ok (.iload_n 3, 1) := by decide +kernel
theorem dX4_insertCrossing_50 : decode cX4_insertCrossing 50 = .ok (.iaload, 1) := by decide +kernel
theorem dX4_insertCrossing_51 : decode cX4_insertCrossing 51 = .ok (.aload_n 1, 1) := by decide +kernel
theorem dX4_insertCrossing_52 : decode cX4_insertCrossing 52 = .ok (.getfield 31, 3) := by decide +kernel
theorem dX4_insertCrossing_55 : decode cX4_insertCrossing 55 = .ok (.iload_n 3, 1) := by decide +kernel
theorem dX4_insertCrossing_56 : decode cX4_insertCrossing 56 = .ok (.iaload, 1) := by decide +kernel
theorem dX4_insertCrossing_57 : decode cX4_insertCrossing 57 = .ok (.isub, 1) := by decide +kernel
theorem dX4_insertCrossing_58 : decode cX4_insertCrossing 58 = .ok (.istore 7, 2) := by decide +kernel
theorem dX4_insertCrossing_60 : decode cX4_insertCrossing 60 = .ok (.iload 4, 2) := by decide +kernel
theorem dX4_insertCrossing_62 : decode cX4_insertCrossing 62 = .ok (.iload 7, 2) := by decide +kernel
theorem dX4_insertCrossing_64 : decode cX4_insertCrossing 64 = .ok (.imul, 1) := by decide +kernel
theorem dX4_insertCrossing_65 : decode cX4_insertCrossing 65 = .ok (.iload 5, 2) := by decide +kernel
theorem dX4_insertCrossing_67 : decode cX4_insertCrossing 67 = .ok (.iload 6, 2) := by decide +kernel
theorem dX4_insertCrossing_69 : decode cX4_insertCrossing 69 = .ok (.imul, 1) := by decide +kernel
theorem dX4_insertCrossing_70 : decode cX4_insertCrossing 70 = .ok (.isub, 1) := by decide +kernel
theorem dX4_insertCrossing_71 : decode cX4_insertCrossing 71 = .ok (.istore 8, 2) := by decide +kernel
theorem dX4_insertCrossing_73 : decode cX4_insertCrossing 73 = .ok (.iload 8, 2) := by decide +kernel
theorem dX4_insertCrossing_75 : decode cX4_insertCrossing 75 = .ok (.ifCond .ne 4, 3) := by decide +kernel
theorem dX4_insertCrossing_78 : decode cX4_insertCrossing 78 = .ok (.return_, 1) := by decide +kernel
theorem dX4_insertCrossing_79 : decode cX4_insertCrossing 79 = .ok (.iload 8, 2) := by decide +kernel
theorem dX4_insertCrossing_81 : decode cX4_insertCrossing 81 = .ok (.ifCond .ge 7, 3) := by decide +kernel
theorem dX4_insertCrossing_84 : decode cX4_insertCrossing 84 = .ok (.iconst (-1), 1) := by decide +kernel
theorem dX4_insertCrossing_85 : decode cX4_insertCrossing 85 = .ok (.goto 4, 3) := by decide +kernel
theorem dX4_insertCrossing_88 : decode cX4_insertCrossing 88 = .ok (.iconst 1, 1) := by decide +kernel
theorem dX4_insertCrossing_89 : decode cX4_insertCrossing 89 = .ok (.istore 9, 2) := by decide +kernel
theorem dX4_insertCrossing_91 : decode cX4_insertCrossing 91 = .ok (.aload_n 1, 1) := by decide +kernel
theorem dX4_insertCrossing_92 : decode cX4_insertCrossing 92 = .ok (.getfield 30, 3) := by decide +kernel
theorem dX4_insertCrossing_95 : decode cX4_insertCrossing 95 = .ok (.iload_n 3, 1) := by decide +kernel
theorem dX4_insertCrossing_96 : decode cX4_insertCrossing 96 = .ok (.iaload, 1) := by decide +kernel
theorem dX4_insertCrossing_97 : decode cX4_insertCrossing 97 = .ok (.aload_n 1, 1) := by decide +kernel
theorem dX4_insertCrossing_98 : decode cX4_insertCrossing 98 = .ok (.getfield 30, 3) := by decide +kernel
theorem dX4_insertCrossing_101 : decode cX4_insertCrossing 101 = .ok (.iload_n 2, 1) := by decide +kernel
theorem dX4_insertCrossing_102 : decode cX4_insertCrossing 102 = .ok (.iaload, 1) := by decide +kernel
theorem dX4_insertCrossing_103 : decode cX4_insertCrossing 103 = .ok (.isub, 1) := by decide +kernel
theorem dX4_insertCrossing_104 : decode cX4_insertCrossing 104 = .ok (.istore 10, 2) := by decide +kernel
theorem dX4_insertCrossing_106 : decode cX4_insertCrossing 106 = .ok (.aload_n 1, 1) := by decide +kernel
theorem dX4_insertCrossing_107 : decode cX4_insertCrossing 107 = .ok (.getfield 31, 3) := by decide +kernel
theorem dX4_insertCrossing_110 : decode cX4_insertCrossing 110 = .ok (.iload_n 3, 1) := by decide +kernel
theorem dX4_insertCrossing_111 : decode cX4_insertCrossing 111 = .ok (.iaload, 1) := by decide +kernel
theorem dX4_insertCrossing_112 : decode cX4_insertCrossing 112 = .ok (.aload_n 1, 1) := by decide +kernel
theorem dX4_insertCrossing_113 : decode cX4_insertCrossing 113 = .ok (.getfield 31, 3) := by decide +kernel
theorem dX4_insertCrossing_116 : decode cX4_insertCrossing 116 = .ok (.iload_n 2, 1) := by decide +kernel
theorem dX4_insertCrossing_117 : decode cX4_insertCrossing 117 = .ok (.iaload, 1) := by decide +kernel
theorem dX4_insertCrossing_118 : decode cX4_insertCrossing 118 = .ok (.isub, 1) := by decide +kernel
theorem dX4_insertCrossing_119 : decode cX4_insertCrossing 119 = .ok (.istore 11, 2) := by decide +kernel
theorem dX4_insertCrossing_121 : decode cX4_insertCrossing 121 = .ok (.iload 9, 2) := by decide +kernel
theorem dX4_insertCrossing_123 : decode cX4_insertCrossing 123 = .ok (.iload 10, 2) := by decide +kernel
theorem dX4_insertCrossing_125 : decode cX4_insertCrossing 125 = .ok (.iload 7, 2) := by decide +kernel
theorem dX4_insertCrossing_127 : decode cX4_insertCrossing 127 = .ok (.imul, 1) := by decide +kernel
theorem dX4_insertCrossing_128 : decode cX4_insertCrossing 128 = .ok (.iload 11, 2) := by decide +kernel
theorem dX4_insertCrossing_130 : decode cX4_insertCrossing 130 = .ok (.iload 6, 2) := by decide +kernel
theorem dX4_insertCrossing_132 : decode cX4_insertCrossing 132 = .ok (.imul, 1) := by decide +kernel
theorem dX4_insertCrossing_133 : decode cX4_insertCrossing 133 = .ok (.isub, 1) := by decide +kernel
theorem dX4_insertCrossing_134 : decode cX4_insertCrossing 134 = .ok (.imul, 1) := by decide +kernel
theorem dX4_insertCrossing_135 : decode cX4_insertCrossing 135 = .ok (.istore 12, 2) := by decide +kernel
theorem dX4_insertCrossing_137 : decode cX4_insertCrossing 137 = .ok (.iload 9, 2) := by decide +kernel
theorem dX4_insertCrossing_139 : decode cX4_insertCrossing 139 = .ok (.iload 10, 2) := by decide +kernel
theorem dX4_insertCrossing_141 : decode cX4_insertCrossing 141 = .ok (.iload 5, 2) := by decide +kernel
theorem dX4_insertCrossing_143 : decode cX4_insertCrossing 143 = .ok (.imul, 1) := by decide +kernel
theorem dX4_insertCrossing_144 : decode cX4_insertCrossing 144 = .ok (.iload 11, 2) := by decide +kernel
theorem dX4_insertCrossing_146 : decode cX4_insertCrossing 146 = .ok (.iload 4, 2) := by decide +kernel
theorem dX4_insertCrossing_148 : decode cX4_insertCrossing 148 = .ok (.imul, 1) := by decide +kernel
theorem dX4_insertCrossing_149 : decode cX4_insertCrossing 149 = .ok (.isub, 1) := by decide +kernel
theorem dX4_insertCrossing_150 : decode cX4_insertCrossing 150 = .ok (.imul, 1) := by decide +kernel
theorem dX4_insertCrossing_151 : decode cX4_insertCrossing 151 = .ok (.istore 13, 2) := by decide +kernel
theorem dX4_insertCrossing_153 : decode cX4_insertCrossing 153 = .ok (.iload 9, 2) := by decide +kernel
theorem dX4_insertCrossing_155 : decode cX4_insertCrossing 155 = .ok (.iload 8, 2) := by decide +kernel
theorem dX4_insertCrossing_157 : decode cX4_insertCrossing 157 = .ok (.imul, 1) := by decide +kernel
theorem dX4_insertCrossing_158 : decode cX4_insertCrossing 158 = .ok (.istore 8, 2) := by decide +kernel
theorem dX4_insertCrossing_160 : decode cX4_insertCrossing 160 = .ok (.iload 12, 2) := by decide +kernel
theorem dX4_insertCrossing_162 : decode cX4_insertCrossing 162 = .ok (.ifCond .lt 22, 3) := by decide +kernel
theorem dX4_insertCrossing_165 : decode cX4_insertCrossing 165 = .ok (.iload 12, 2) := by decide +kernel
theorem dX4_insertCrossing_167 : decode cX4_insertCrossing 167 = .ok (.iload 8, 2) := by decide +kernel
theorem dX4_insertCrossing_169 : decode cX4_insertCrossing 169 = .ok (.if_icmp .gt 15, 3) := by decide +kernel
theorem dX4_insertCrossing_172 : decode cX4_insertCrossing 172 = .ok (.iload 13, 2) := by decide +kernel
theorem dX4_insertCrossing_174 : decode cX4_insertCrossing 174 = .ok (.ifCond .lt 10, 3) := by decide +kernel
theorem dX4_insertCrossing_177 : decode cX4_insertCrossing 177 = .ok (.iload 13, 2) := by decide +kernel
theorem dX4_insertCrossing_179 : decode cX4_insertCrossing 179 = .ok (.iload 8, 2) := by decide +kernel
theorem dX4_insertCrossing_181 : decode cX4_insertCrossing 181 = .ok (.if_icmp .le 4, 3) := by decide +kernel
theorem dX4_insertCrossing_184 : decode cX4_insertCrossing 184 = .ok (.return_, 1) := by decide +kernel
theorem dX4_insertCrossing_185 : decode cX4_insertCrossing 185 = .ok (.aload_n 0, 1) := by decide +kernel
theorem dX4_insertCrossing_186 : decode cX4_insertCrossing 186 = .ok (.aload_n 1, 1) := by decide +kernel
theorem dX4_insertCrossing_187 : decode cX4_insertCrossing 187 = .ok (.getfield 30, 3) := by decide +kernel
theorem dX4_insertCrossing_190 : decode cX4_insertCrossing 190 = .ok (.iload_n 2, 1) := by decide +kernel
theorem dX4_insertCrossing_191 : decode cX4_insertCrossing 191 = .ok (.iaload, 1) := by decide +kernel
theorem dX4_insertCrossing_192 : decode cX4_insertCrossing 192 = .ok (.iload 8, 2) := by decide +kernel
theorem dX4_insertCrossing_194 : decode cX4_insertCrossing 194 = .ok (.imul, 1) := by decide +kernel
theorem dX4_insertCrossing_195 : decode cX4_insertCrossing 195 = .ok (.iload 12, 2) := by decide +kernel
theorem dX4_insertCrossing_197 : decode cX4_insertCrossing 197 = .ok (.iload 4, 2) := by decide +kernel
theorem dX4_insertCrossing_199 : decode cX4_insertCrossing 199 = .ok (.imul, 1) := by decide +kernel
theorem dX4_insertCrossing_200 : decode cX4_insertCrossing 200 = .ok (.iadd, 1) := by decide +kernel
theorem dX4_insertCrossing_201 : decode cX4_insertCrossing 201 = .ok (.aload_n 1, 1) := by decide +kernel
theorem dX4_insertCrossing_202 : decode cX4_insertCrossing 202 = .ok (.getfield 31, 3) := by decide +kernel
theorem dX4_insertCrossing_205 : decode cX4_insertCrossing 205 = .ok (.iload_n 2, 1) := by decide +kernel
theorem dX4_insertCrossing_206 : decode cX4_insertCrossing 206 = .ok (.iaload, 1) := by decide +kernel
theorem dX4_insertCrossing_207 : decode cX4_insertCrossing 207 = .ok (.iload 8, 2) := by decide +kernel
theorem dX4_insertCrossing_209 : decode cX4_insertCrossing 209 = .ok (.imul, 1) := by decide +kernel
theorem dX4_insertCrossing_210 : decode cX4_insertCrossing 210 = .ok (.iload 12, 2) := by decide +kernel
theorem dX4_insertCrossing_212 : decode cX4_insertCrossing 212 = .ok (.iload 5, 2) := by decide +kernel
theorem dX4_insertCrossing_214 : decode cX4_insertCrossing 214 = .ok (.imul, 1) := by decide +kernel
theorem dX4_insertCrossing_215 : decode cX4_insertCrossing 215 = .ok (.iadd, 1) := by decide +kernel
theorem dX4_insertCrossing_216 : decode cX4_insertCrossing 216 = .ok (.iload 8, 2) := by decide +kernel
theorem dX4_insertCrossing_218 : decode cX4_insertCrossing 218 = .ok (.invokevirtual 32, 3) := by decide +kernel
theorem dX4_insertCrossing_221 : decode cX4_insertCrossing 221 = .ok (.return_, 1) := by decide +kernel
set_option maxRecDepth 20000 in
theorem ggX4_insert_X9_greatestCommon : GoodIn wsX4_insert wsX9_greatestCommon := goodIn_r _ [4] rfl (by decide +kernel)
set_option maxRecDepth 20000 in
theorem gX4_insert_X9_greatestCommon_n46 : GoodIn wsX4_insert (wsX9_greatestCommon) := ggX4_insert_X9_greatestCommon
set_option maxRecDepth 20000 in
theorem ggX4_insert_X4_ask : GoodIn wsX4_insert wsX4_ask := goodIn_r _ [9, 10, 11, 12, 21, 22, 23, 24] rfl (by decide +kernel)
set_option maxRecDepth 20000 in
theorem gX4_insert_X4_ask : GoodIn wsX4_insert (wsV RX4 50 RX4 yX4_ask wsX4_ask) := goodIn_app (goodIn_r ([.methodLink RX4 50 yX4_ask, .instanceMethod yX4_ask, .selects RX4 yX4_ask yX4_ask, .initialized RX4] : List Cond) [5, 6, 7, 8] rfl (by decide +kernel)) ggX4_insert_X4_ask
set_option maxRecDepth 20000 in
theorem ggX4_insert_X4_order : GoodIn wsX4_insert wsX4_order := goodIn_r _ [16, 11, 12, 10, 21, 22, 23, 24] rfl (by decide +kernel)
set_option maxRecDepth 20000 in
theorem gX4_insert_X4_order : GoodIn wsX4_insert (wsV RX4 53 RX4 yX4_order wsX4_order) := goodIn_app (goodIn_r ([.methodLink RX4 53 yX4_order, .instanceMethod yX4_order, .selects RX4 yX4_order yX4_order, .initialized RX4] : List Cond) [13, 14, 15, 8] rfl (by decide +kernel)) ggX4_insert_X4_order
set_option maxRecDepth 20000 in
theorem ggX4_insert_X4_take : GoodIn wsX4_insert wsX4_take := goodIn_r _ [20, 10, 11, 12, 21, 22, 23, 24] rfl (by decide +kernel)
set_option maxRecDepth 20000 in
theorem gX4_insert_X4_take : GoodIn wsX4_insert (wsV RX4 56 RX4 yX4_take wsX4_take) := goodIn_app (goodIn_r ([.methodLink RX4 56 yX4_take, .instanceMethod yX4_take, .selects RX4 yX4_take yX4_take, .initialized RX4] : List Cond) [17, 18, 19, 8] rfl (by decide +kernel)) ggX4_insert_X4_take
theorem dX4_insert_0 : decode cX4_insert 0 = .ok (.iload_n 1, 1) := by decide +kernel
theorem dX4_insert_1 : decode cX4_insert 1 = .ok (.iload_n 2, 1) := by decide +kernel
theorem dX4_insert_2 : decode cX4_insert 2 = .ok (.invokestatic 46, 3) := by decide +kernel
theorem dX4_insert_5 : decode cX4_insert 5 = .ok (.iload_n 3, 1) := by decide +kernel
theorem dX4_insert_6 : decode cX4_insert 6 = .ok (.invokestatic 46, 3) := by decide +kernel
theorem dX4_insert_9 : decode cX4_insert 9 = .ok (.istore 4, 2) := by decide +kernel
theorem dX4_insert_11 : decode cX4_insert 11 = .ok (.iload 4, 2) := by decide +kernel
theorem dX4_insert_13 : decode cX4_insert 13 = .ok (.iconst 1, 1) := by decide +kernel
theorem dX4_insert_14 : decode cX4_insert 14 = .ok (.if_icmp .ge 4, 3) := by decide +kernel
theorem dX4_insert_17 : decode cX4_insert 17 = .ok (.return_, 1) := by decide +kernel
theorem dX4_insert_18 : decode cX4_insert 18 = .ok (.aload_n 0, 1) := by decide +kernel
theorem dX4_insert_19 : decode cX4_insert 19 = .ok (.iload_n 1, 1) := by decide +kernel
theorem dX4_insert_20 : decode cX4_insert 20 = .ok (.iload 4, 2) := by decide +kernel
theorem dX4_insert_22 : decode cX4_insert 22 = .ok (.idiv, 1) := by decide +kernel
theorem dX4_insert_23 : decode cX4_insert 23 = .ok (.iload_n 2, 1) := by decide +kernel
theorem dX4_insert_24 : decode cX4_insert 24 = .ok (.iload 4, 2) := by decide +kernel
theorem dX4_insert_26 : decode cX4_insert 26 = .ok (.idiv, 1) := by decide +kernel
theorem dX4_insert_27 : decode cX4_insert 27 = .ok (.iload_n 3, 1) := by decide +kernel
theorem dX4_insert_28 : decode cX4_insert 28 = .ok (.iload 4, 2) := by decide +kernel
theorem dX4_insert_30 : decode cX4_insert 30 = .ok (.idiv, 1) := by decide +kernel
theorem dX4_insert_31 : decode cX4_insert 31 = .ok (.invokevirtual 50, 3) := by decide +kernel
theorem dX4_insert_34 : decode cX4_insert 34 = .ok (.iconst 0, 1) := by decide +kernel
theorem dX4_insert_35 : decode cX4_insert 35 = .ok (.istore 5, 2) := by decide +kernel
theorem dX4_insert_37 : decode cX4_insert 37 = .ok (.iload 5, 2) := by decide +kernel
theorem dX4_insert_39 : decode cX4_insert 39 = .ok (.aload_n 0, 1) := by decide +kernel
theorem dX4_insert_40 : decode cX4_insert 40 = .ok (.getfield 21, 3) := by decide +kernel
theorem dX4_insert_43 : decode cX4_insert 43 = .ok (.if_icmp .ge 21, 3) := by decide +kernel
theorem dX4_insert_46 : decode cX4_insert 46 = .ok (.aload_n 0, 1) := by decide +kernel
theorem dX4_insert_47 : decode cX4_insert 47 = .ok (.iload 5, 2) := by decide +kernel
theorem dX4_insert_49 : decode cX4_insert 49 = .ok (.sipush 128, 3) := by decide +kernel
theorem dX4_insert_52 : decode cX4_insert 52 = .ok (.invokevirtual 53, 3) := by decide +kernel
theorem dX4_insert_55 : decode cX4_insert 55 = .ok (.ifCond .ge 9, 3) := by decide +kernel
theorem dX4_insert_58 : decode cX4_insert 58 = .ok (.iinc 5 1, 3) := by decide +kernel
theorem dX4_insert_61 : decode cX4_insert 61 = .ok (.goto (-24), 3) := by decide +kernel
theorem dX4_insert_64 : decode cX4_insert 64 = .ok (.iload 5, 2) := by decide +kernel
theorem dX4_insert_66 : decode cX4_insert 66 = .ok (.aload_n 0, 1) := by decide +kernel
theorem dX4_insert_67 : decode cX4_insert 67 = .ok (.getfield 21, 3) := by decide +kernel
theorem dX4_insert_70 : decode cX4_insert 70 = .ok (.if_icmp .ge 19, 3) := by decide +kernel
theorem dX4_insert_73 : decode cX4_insert 73 = .ok (.aload_n 0, 1) := by decide +kernel
theorem dX4_insert_74 : decode cX4_insert 74 = .ok (.iload 5, 2) := by decide +kernel
theorem dX4_insert_76 : decode cX4_insert 76 = .ok (.sipush 128, 3) := by decide +kernel
theorem dX4_insert_79 : decode cX4_insert 79 = .ok (.invokevirtual 53, 3) := by decide +kernel
theorem dX4_insert_82 : decode cX4_insert 82 = .ok (.ifCond .ne 7, 3) := by decide +kernel
theorem dX4_insert_85 : decode cX4_insert 85 = .ok (.iconst 1, 1) := by decide +kernel
theorem dX4_insert_86 : decode cX4_insert 86 = .ok (.goto 4, 3) := by decide +kernel
theorem dX4_insert_89 : decode cX4_insert 89 = .ok (.iconst 0, 1) := by decide +kernel
theorem dX4_insert_90 : decode cX4_insert 90 = .ok (.istore 6, 2) := by decide +kernel
theorem dX4_insert_92 : decode cX4_insert 92 = .ok (.iload 6, 2) := by decide +kernel
theorem dX4_insert_94 : decode cX4_insert 94 = .ok (.ifCond .ne 13, 3) := by decide +kernel
theorem dX4_insert_97 : decode cX4_insert 97 = .ok (.aload_n 0, 1) := by decide +kernel
theorem dX4_insert_98 : decode cX4_insert 98 = .ok (.getfield 21, 3) := by decide +kernel
theorem dX4_insert_101 : decode cX4_insert 101 = .ok (.sipush 128, 3) := by decide +kernel
theorem dX4_insert_104 : decode cX4_insert 104 = .ok (.if_icmp .lt 4, 3) := by decide +kernel
theorem dX4_insert_107 : decode cX4_insert 107 = .ok (.return_, 1) := by decide +kernel
theorem dX4_insert_108 : decode cX4_insert 108 = .ok (.aload_n 0, 1) := by decide +kernel
theorem dX4_insert_109 : decode cX4_insert 109 = .ok (.getfield 21, 3) := by decide +kernel
theorem dX4_insert_112 : decode cX4_insert 112 = .ok (.istore 7, 2) := by decide +kernel
theorem dX4_insert_114 : decode cX4_insert 114 = .ok (.iload 7, 2) := by decide +kernel
theorem dX4_insert_116 : decode cX4_insert 116 = .ok (.iload 5, 2) := by decide +kernel
theorem dX4_insert_118 : decode cX4_insert 118 = .ok (.if_icmp .le 19, 3) := by decide +kernel
theorem dX4_insert_121 : decode cX4_insert 121 = .ok (.aload_n 0, 1) := by decide +kernel
theorem dX4_insert_122 : decode cX4_insert 122 = .ok (.iload 7, 2) := by decide +kernel
theorem dX4_insert_124 : decode cX4_insert 124 = .ok (.iload 7, 2) := by decide +kernel
theorem dX4_insert_126 : decode cX4_insert 126 = .ok (.iconst 1, 1) := by decide +kernel
theorem dX4_insert_127 : decode cX4_insert 127 = .ok (.isub, 1) := by decide +kernel
theorem dX4_insert_128 : decode cX4_insert 128 = .ok (.invokevirtual 56, 3) := by decide +kernel
theorem dX4_insert_131 : decode cX4_insert 131 = .ok (.iinc 7 (-1), 3) := by decide +kernel
theorem dX4_insert_134 : decode cX4_insert 134 = .ok (.goto (-20), 3) := by decide +kernel
theorem dX4_insert_137 : decode cX4_insert 137 = .ok (.aload_n 0, 1) := by decide +kernel
theorem dX4_insert_138 : decode cX4_insert 138 = .ok (.iload 5, 2) := by decide +kernel
theorem dX4_insert_140 : decode cX4_insert 140 = .ok (.sipush 128, 3) := by decide +kernel
theorem dX4_insert_143 : decode cX4_insert 143 = .ok (.invokevirtual 56, 3) := by decide +kernel
theorem dX4_insert_146 : decode cX4_insert 146 = .ok (.aload_n 0, 1) := by decide +kernel
theorem dX4_insert_147 : decode cX4_insert 147 = .ok (.dup, 1) := by decide +kernel
theorem dX4_insert_148 : decode cX4_insert 148 = .ok (.getfield 21, 3) := by decide +kernel
theorem dX4_insert_151 : decode cX4_insert 151 = .ok (.iconst 1, 1) := by decide +kernel
theorem dX4_insert_152 : decode cX4_insert 152 = .ok (.iadd, 1) := by decide +kernel
theorem dX4_insert_153 : decode cX4_insert 153 = .ok (.putfield 21, 3) := by decide +kernel
theorem dX4_insert_156 : decode cX4_insert 156 = .ok (.return_, 1) := by decide +kernel
theorem dX4_ask_0 : decode cX4_ask 0 = .ok (.aload_n 0, 1) := by decide +kernel
theorem dX4_ask_1 : decode cX4_ask 1 = .ok (.getfield 9, 3) := by decide +kernel
theorem dX4_ask_4 : decode cX4_ask 4 = .ok (.sipush 128, 3) := by decide +kernel
theorem dX4_ask_7 : decode cX4_ask 7 = .ok (.iload_n 1, 1) := by decide +kernel
theorem dX4_ask_8 : decode cX4_ask 8 = .ok (.iastore, 1) := by decide +kernel
theorem dX4_ask_9 : decode cX4_ask 9 = .ok (.aload_n 0, 1) := by decide +kernel
theorem dX4_ask_10 : decode cX4_ask 10 = .ok (.getfield 15, 3) := by decide +kernel
theorem dX4_ask_13 : decode cX4_ask 13 = .ok (.sipush 128, 3) := by decide +kernel
theorem dX4_ask_16 : decode cX4_ask 16 = .ok (.iload_n 2, 1) := by decide +kernel
theorem dX4_ask_17 : decode cX4_ask 17 = .ok (.iastore, 1) := by decide +kernel
theorem dX4_ask_18 : decode cX4_ask 18 = .ok (.aload_n 0, 1) := by decide +kernel
theorem dX4_ask_19 : decode cX4_ask 19 = .ok (.getfield 18, 3) := by decide +kernel
theorem dX4_ask_22 : decode cX4_ask 22 = .ok (.sipush 128, 3) := by decide +kernel
theorem dX4_ask_25 : decode cX4_ask 25 = .ok (.iload_n 3, 1) := by decide +kernel
theorem dX4_ask_26 : decode cX4_ask 26 = .ok (.iastore, 1) := by decide +kernel
theorem dX4_ask_27 : decode cX4_ask 27 = .ok (.return_, 1) := by decide +kernel
theorem dX4_take_0 : decode cX4_take 0 = .ok (.aload_n 0, 1) := by decide +kernel
theorem dX4_take_1 : decode cX4_take 1 = .ok (.getfield 9, 3) := by decide +kernel
theorem dX4_take_4 : decode cX4_take 4 = .ok (.iload_n 1, 1) := by decide +kernel
theorem dX4_take_5 : decode cX4_take 5 = .ok (.aload_n 0, 1) := by decide +kernel
theorem dX4_take_6 : decode cX4_take 6 = .ok (.getfield 9, 3) := by decide +kernel
theorem dX4_take_9 : decode cX4_take 9 = .ok (.iload_n 2, 1) := by decide +kernel
theorem dX4_take_10 : decode cX4_take 10 = .ok (.iaload, 1) := by decide +kernel
theorem dX4_take_11 : decode cX4_take 11 = .ok (.iastore, 1) := by decide +kernel
theorem dX4_take_12 : decode cX4_take 12 = .ok (.aload_n 0, 1) := by decide +kernel
theorem dX4_take_13 : decode cX4_take 13 = .ok (.getfield 15, 3) := by decide +kernel
theorem dX4_take_16 : decode cX4_take 16 = .ok (.iload_n 1, 1) := by decide +kernel
theorem dX4_take_17 : decode cX4_take 17 = .ok (.aload_n 0, 1) := by decide +kernel
theorem dX4_take_18 : decode cX4_take 18 = .ok (.getfield 15, 3) := by decide +kernel
theorem dX4_take_21 : decode cX4_take 21 = .ok (.iload_n 2, 1) := by decide +kernel
theorem dX4_take_22 : decode cX4_take 22 = .ok (.iaload, 1) := by decide +kernel
theorem dX4_take_23 : decode cX4_take 23 = .ok (.iastore, 1) := by decide +kernel
theorem dX4_take_24 : decode cX4_take 24 = .ok (.aload_n 0, 1) := by decide +kernel
theorem dX4_take_25 : decode cX4_take 25 = .ok (.getfield 18, 3) := by decide +kernel
theorem dX4_take_28 : decode cX4_take 28 = .ok (.iload_n 1, 1) := by decide +kernel
theorem dX4_take_29 : decode cX4_take 29 = .ok (.aload_n 0, 1) := by decide +kernel
theorem dX4_take_30 : decode cX4_take 30 = .ok (.getfield 18, 3) := by decide +kernel
theorem dX4_take_33 : decode cX4_take 33 = .ok (.iload_n 2, 1) := by decide +kernel
theorem dX4_take_34 : decode cX4_take 34 = .ok (.iaload, 1) := by decide +kernel
theorem dX4_take_35 : decode cX4_take 35 = .ok (.iastore, 1) := by decide +kernel
theorem dX4_take_36 : decode cX4_take 36 = .ok (.return_, 1) := by decide +kernel
theorem dX4_order_0 : decode cX4_order 0 = .ok (.aload_n 0, 1) := by decide +kernel
theorem dX4_order_1 : decode cX4_order 1 = .ok (.getfield 15, 3) := by decide +kernel
theorem dX4_order_4 : decode cX4_order 4 = .ok (.iload_n 1, 1) := by decide +kernel
theorem dX4_order_5 : decode cX4_order 5 = .ok (.iaload, 1) := by decide +kernel
theorem dX4_order_6 : decode cX4_order 6 = .ok (.aload_n 0, 1) := by decide +kernel
theorem dX4_order_7 : decode cX4_order 7 = .ok (.getfield 18, 3) := by decide +kernel
theorem dX4_order_10 : decode cX4_order 10 = .ok (.iload_n 2, 1) := by decide +kernel
theorem dX4_order_11 : decode cX4_order 11 = .ok (.iaload, 1) := by decide +kernel
theorem dX4_order_12 : decode cX4_order 12 = .ok (.imul, 1) := by decide +kernel
theorem dX4_order_13 : decode cX4_order 13 = .ok (.aload_n 0, 1) := by decide +kernel
theorem dX4_order_14 : decode cX4_order 14 = .ok (.getfield 15, 3) := by decide +kernel
theorem dX4_order_17 : decode cX4_order 17 = .ok (.iload_n 2, 1) := by decide +kernel
theorem dX4_order_18 : decode cX4_order 18 = .ok (.iaload, 1) := by decide +kernel
theorem dX4_order_19 : decode cX4_order 19 = .ok (.aload_n 0, 1) := by decide +kernel
theorem dX4_order_20 : decode cX4_order 20 = .ok (.getfield 18, 3) := by decide +kernel
theorem dX4_order_23 : decode cX4_order 23 = .ok (.iload_n 1, 1) := by decide +kernel
theorem dX4_order_24 : decode cX4_order 24 = .ok (.iaload, 1) := by decide +kernel
theorem dX4_order_25 : decode cX4_order 25 = .ok (.imul, 1) := by decide +kernel
theorem dX4_order_26 : decode cX4_order 26 = .ok (.isub, 1) := by decide +kernel
theorem dX4_order_27 : decode cX4_order 27 = .ok (.istore_n 3, 1) := by decide +kernel
theorem dX4_order_28 : decode cX4_order 28 = .ok (.aload_n 0, 1) := by decide +kernel
theorem dX4_order_29 : decode cX4_order 29 = .ok (.getfield 9, 3) := by decide +kernel
theorem dX4_order_32 : decode cX4_order 32 = .ok (.iload_n 1, 1) := by decide +kernel
theorem dX4_order_33 : decode cX4_order 33 = .ok (.iaload, 1) := by decide +kernel
theorem dX4_order_34 : decode cX4_order 34 = .ok (.aload_n 0, 1) := by decide +kernel
theorem dX4_order_35 : decode cX4_order 35 = .ok (.getfield 18, 3) := by decide +kernel
theorem dX4_order_38 : decode cX4_order 38 = .ok (.iload_n 2, 1) := by decide +kernel
theorem dX4_order_39 : decode cX4_order 39 = .ok (.iaload, 1) := by decide +kernel
theorem dX4_order_40 : decode cX4_order 40 = .ok (.imul, 1) := by decide +kernel
theorem dX4_order_41 : decode cX4_order 41 = .ok (.aload_n 0, 1) := by decide +kernel
theorem dX4_order_42 : decode cX4_order 42 = .ok (.getfield 9, 3) := by decide +kernel
theorem dX4_order_45 : decode cX4_order 45 = .ok (.iload_n 2, 1) := by decide +kernel
theorem dX4_order_46 : decode cX4_order 46 = .ok (.iaload, 1) := by decide +kernel
theorem dX4_order_47 : decode cX4_order 47 = .ok (.aload_n 0, 1) := by decide +kernel
theorem dX4_order_48 : decode cX4_order 48 = .ok (.getfield 18, 3) := by decide +kernel
theorem dX4_order_51 : decode cX4_order 51 = .ok (.iload_n 1, 1) := by decide +kernel
theorem dX4_order_52 : decode cX4_order 52 = .ok (.iaload, 1) := by decide +kernel
theorem dX4_order_53 : decode cX4_order 53 = .ok (.imul, 1) := by decide +kernel
theorem dX4_order_54 : decode cX4_order 54 = .ok (.isub, 1) := by decide +kernel
theorem dX4_order_55 : decode cX4_order 55 = .ok (.istore 4, 2) := by decide +kernel
theorem dX4_order_57 : decode cX4_order 57 = .ok (.iload_n 3, 1) := by decide +kernel
theorem dX4_order_58 : decode cX4_order 58 = .ok (.ifCond .eq 7, 3) := by decide +kernel
theorem dX4_order_61 : decode cX4_order 61 = .ok (.iload_n 3, 1) := by decide +kernel
theorem dX4_order_62 : decode cX4_order 62 = .ok (.goto 5, 3) := by decide +kernel
theorem dX4_order_65 : decode cX4_order 65 = .ok (.iload 4, 2) := by decide +kernel
theorem dX4_order_67 : decode cX4_order 67 = .ok (.ireturn, 1) := by decide +kernel
theorem dX4_heightOrder_0 : decode cX4_heightOrder 0 = .ok (.aload_n 0, 1) := by decide +kernel
theorem dX4_heightOrder_1 : decode cX4_heightOrder 1 = .ok (.getfield 15, 3) := by decide +kernel
theorem dX4_heightOrder_4 : decode cX4_heightOrder 4 = .ok (.iload_n 1, 1) := by decide +kernel
theorem dX4_heightOrder_5 : decode cX4_heightOrder 5 = .ok (.iaload, 1) := by decide +kernel
theorem dX4_heightOrder_6 : decode cX4_heightOrder 6 = .ok (.aload_n 0, 1) := by decide +kernel
theorem dX4_heightOrder_7 : decode cX4_heightOrder 7 = .ok (.getfield 18, 3) := by decide +kernel
theorem dX4_heightOrder_10 : decode cX4_heightOrder 10 = .ok (.iload_n 2, 1) := by decide +kernel
theorem dX4_heightOrder_11 : decode cX4_heightOrder 11 = .ok (.iaload, 1) := by decide +kernel
theorem dX4_heightOrder_12 : decode cX4_heightOrder 12 = .ok (.imul, 1) := by decide +kernel
theorem dX4_heightOrder_13 : decode cX4_heightOrder 13 = .ok (.aload_n 0, 1) := by decide +kernel
theorem dX4_heightOrder_14 : decode cX4_heightOrder 14 = .ok (.getfield 15, 3) := by decide +kernel
theorem dX4_heightOrder_17 : decode cX4_heightOrder 17 = .ok (.iload_n 2, 1) := by decide +kernel
theorem dX4_heightOrder_18 : decode cX4_heightOrder 18 = .ok (.iaload, 1) := by decide +kernel
theorem dX4_heightOrder_19 : decode cX4_heightOrder 19 = .ok (.aload_n 0, 1) := by decide +kernel
theorem dX4_heightOrder_20 : decode cX4_heightOrder 20 = .ok (.getfield 18, 3) := by decide +kernel
theorem dX4_heightOrder_23 : decode cX4_heightOrder 23 = .ok (.iload_n 1, 1) := by decide +kernel
theorem dX4_heightOrder_24 : decode cX4_heightOrder 24 = .ok (.iaload, 1) := by decide +kernel
theorem dX4_heightOrder_25 : decode cX4_heightOrder 25 = .ok (.imul, 1) := by decide +kernel
theorem dX4_heightOrder_26 : decode cX4_heightOrder 26 = .ok (.isub, 1) := by decide +kernel
theorem dX4_heightOrder_27 : decode cX4_heightOrder 27 = .ok (.ireturn, 1) := by decide +kernel
theorem dX4_indexOf_0 : decode cX4_indexOf 0 = .ok (.iconst 0, 1) := by decide +kernel
theorem dX4_indexOf_1 : decode cX4_indexOf 1 = .ok (.istore 4, 2) := by decide +kernel
theorem dX4_indexOf_3 : decode cX4_indexOf 3 = .ok (.iload 4, 2) := by decide +kernel
theorem dX4_indexOf_5 : decode cX4_indexOf 5 = .ok (.aload_n 0, 1) := by decide +kernel
theorem dX4_indexOf_6 : decode cX4_indexOf 6 = .ok (.getfield 21, 3) := by decide +kernel
theorem dX4_indexOf_9 : decode cX4_indexOf 9 = .ok (.if_icmp .ge 45, 3) := by decide +kernel
theorem dX4_indexOf_12 : decode cX4_indexOf 12 = .ok (.aload_n 0, 1) := by decide +kernel
theorem dX4_indexOf_13 : decode cX4_indexOf 13 = .ok (.getfield 9, 3) := by decide +kernel
theorem dX4_indexOf_16 : decode cX4_indexOf 16 = .ok (.iload 4, 2) := by decide +kernel
theorem dX4_indexOf_18 : decode cX4_indexOf 18 = .ok (.iaload, 1) := by decide +kernel
theorem dX4_indexOf_19 : decode cX4_indexOf 19 = .ok (.iload_n 1, 1) := by decide +kernel
theorem dX4_indexOf_20 : decode cX4_indexOf 20 = .ok (.if_icmp .ne 28, 3) := by decide +kernel
theorem dX4_indexOf_23 : decode cX4_indexOf 23 = .ok (.aload_n 0, 1) := by decide +kernel
theorem dX4_indexOf_24 : decode cX4_indexOf 24 = .ok (.getfield 15, 3) := by decide +kernel
theorem dX4_indexOf_27 : decode cX4_indexOf 27 = .ok (.iload 4, 2) := by decide +kernel
theorem dX4_indexOf_29 : decode cX4_indexOf 29 = .ok (.iaload, 1) := by decide +kernel
theorem dX4_indexOf_30 : decode cX4_indexOf 30 = .ok (.iload_n 2, 1) := by decide +kernel
theorem dX4_indexOf_31 : decode cX4_indexOf 31 = .ok (.if_icmp .ne 17, 3) := by decide +kernel
theorem dX4_indexOf_34 : decode cX4_indexOf 34 = .ok (.aload_n 0, 1) := by decide +kernel
theorem dX4_indexOf_35 : decode cX4_indexOf 35 = .ok (.getfield 18, 3) := by decide +kernel
theorem dX4_indexOf_38 : decode cX4_indexOf 38 = .ok (.iload 4, 2) := by decide +kernel
theorem dX4_indexOf_40 : decode cX4_indexOf 40 = .ok (.iaload, 1) := by decide +kernel
theorem dX4_indexOf_41 : decode cX4_indexOf 41 = .ok (.iload_n 3, 1) := by decide +kernel
theorem dX4_indexOf_42 : decode cX4_indexOf 42 = .ok (.if_icmp .ne 6, 3) := by decide +kernel
theorem dX4_indexOf_45 : decode cX4_indexOf 45 = .ok (.iload 4, 2) := by decide +kernel
theorem dX4_indexOf_47 : decode cX4_indexOf 47 = .ok (.ireturn, 1) := by decide +kernel
theorem dX4_indexOf_48 : decode cX4_indexOf 48 = .ok (.iinc 4 1, 3) := by decide +kernel
theorem dX4_indexOf_51 : decode cX4_indexOf 51 = .ok (.goto (-48), 3) := by decide +kernel
theorem dX4_indexOf_54 : decode cX4_indexOf 54 = .ok (.iconst (-1), 1) := by decide +kernel
theorem dX4_indexOf_55 : decode cX4_indexOf 55 = .ok (.ireturn, 1) := by decide +kernel
set_option maxRecDepth 20000 in
theorem ggX4_liesOn_X4_isBetween : GoodIn wsX4_liesOn wsX4_isBetween := goodIn_r _ [11, 12, 13, 14, 15, 16, 17, 18] rfl (by decide +kernel)
set_option maxRecDepth 20000 in
theorem gX4_liesOn_X4_isBetween : GoodIn wsX4_liesOn (va_wsS RX4 60 yX4_isBetween wsX4_isBetween) := goodIn_app (goodIn_r ([.methodLink RX4 60 yX4_isBetween, .static yX4_isBetween, .initialized yX4_isBetween.cls] : List Cond) [8, 9, 10] rfl (by decide +kernel)) ggX4_liesOn_X4_isBetween
theorem dX4_liesOn_0 : decode cX4_liesOn 0 = .ok (.aload_n 2, 1) := by decide +kernel
theorem dX4_liesOn_1 : decode cX4_liesOn 1 = .ok (.getfield 30, 3) := by decide +kernel
theorem dX4_liesOn_4 : decode cX4_liesOn 4 = .ok (.iload_n 3, 1) := by decide +kernel
theorem dX4_liesOn_5 : decode cX4_liesOn 5 = .ok (.iaload, 1) := by decide +kernel
theorem dX4_liesOn_6 : decode cX4_liesOn 6 = .ok (.aload_n 0, 1) := by decide +kernel
theorem dX4_liesOn_7 : decode cX4_liesOn 7 = .ok (.getfield 18, 3) := by decide +kernel
theorem dX4_liesOn_10 : decode cX4_liesOn 10 = .ok (.iload_n 1, 1) := by decide +kernel
theorem dX4_liesOn_11 : decode cX4_liesOn 11 = .ok (.iaload, 1) := by decide +kernel
theorem dX4_liesOn_12 : decode cX4_liesOn 12 = .ok (.imul, 1) := by decide +kernel
theorem dX4_liesOn_13 : decode cX4_liesOn 13 = .ok (.istore 4, 2) := by decide +kernel
theorem dX4_liesOn_15 : decode cX4_liesOn 15 = .ok (.aload_n 2, 1) := by decide +kernel
theorem dX4_liesOn_16 : decode cX4_liesOn 16 = .ok (.getfield 31, 3) := by decide +kernel
theorem dX4_liesOn_19 : decode cX4_liesOn 19 = .ok (.iload_n 3, 1) := by decide +kernel
theorem dX4_liesOn_20 : decode cX4_liesOn 20 = .ok (.iaload, 1) := by decide +kernel
theorem dX4_liesOn_21 : decode cX4_liesOn 21 = .ok (.aload_n 0, 1) := by decide +kernel
theorem dX4_liesOn_22 : decode cX4_liesOn 22 = .ok (.getfield 18, 3) := by decide +kernel
theorem dX4_liesOn_25 : decode cX4_liesOn 25 = .ok (.iload_n 1, 1) := by decide +kernel
theorem dX4_liesOn_26 : decode cX4_liesOn 26 = .ok (.iaload, 1) := by decide +kernel
theorem dX4_liesOn_27 : decode cX4_liesOn 27 = .ok (.imul, 1) := by decide +kernel
theorem dX4_liesOn_28 : decode cX4_liesOn 28 = .ok (.istore 5, 2) := by decide +kernel
theorem dX4_liesOn_30 : decode cX4_liesOn 30 = .ok (.aload_n 2, 1) := by decide +kernel
theorem dX4_liesOn_31 : decode cX4_liesOn 31 = .ok (.getfield 36, 3) := by decide +kernel
theorem dX4_liesOn_34 : decode cX4_liesOn 34 = .ok (.iload_n 3, 1) := by decide +kernel
theorem dX4_liesOn_35 : decode cX4_liesOn 35 = .ok (.iaload, 1) := by decide +kernel
theorem dX4_liesOn_36 : decode cX4_liesOn 36 = .ok (.aload_n 0, 1) := by decide +kernel
theorem dX4_liesOn_37 : decode cX4_liesOn 37 = .ok (.getfield 18, 3) := by decide +kernel
theorem dX4_liesOn_40 : decode cX4_liesOn 40 = .ok (.iload_n 1, 1) := by decide +kernel
theorem dX4_liesOn_41 : decode cX4_liesOn 41 = .ok (.iaload, 1) := by decide +kernel
theorem dX4_liesOn_42 : decode cX4_liesOn 42 = .ok (.imul, 1) := by decide +kernel
theorem dX4_liesOn_43 : decode cX4_liesOn 43 = .ok (.istore 6, 2) := by decide +kernel
theorem dX4_liesOn_45 : decode cX4_liesOn 45 = .ok (.aload_n 2, 1) := by decide +kernel
theorem dX4_liesOn_46 : decode cX4_liesOn 46 = .ok (.getfield 39, 3) := by decide +kernel
theorem dX4_liesOn_49 : decode cX4_liesOn 49 = .ok (.iload_n 3, 1) := by decide +kernel
theorem dX4_liesOn_50 : decode cX4_liesOn 50 = .ok (.iaload, 1) := by decide +kernel
theorem dX4_liesOn_51 : decode cX4_liesOn 51 = .ok (.aload_n 0, 1) := by decide +kernel
theorem dX4_liesOn_52 : decode cX4_liesOn 52 = .ok (.getfield 18, 3) := by decide +kernel
theorem dX4_liesOn_55 : decode cX4_liesOn 55 = .ok (.iload_n 1, 1) := by decide +kernel
theorem dX4_liesOn_56 : decode cX4_liesOn 56 = .ok (.iaload, 1) := by decide +kernel
theorem dX4_liesOn_57 : decode cX4_liesOn 57 = .ok (.imul, 1) := by decide +kernel
theorem dX4_liesOn_58 : decode cX4_liesOn 58 = .ok (.istore 7, 2) := by decide +kernel
theorem dX4_liesOn_60 : decode cX4_liesOn 60 = .ok (.aload_n 2, 1) := by decide +kernel
theorem dX4_liesOn_61 : decode cX4_liesOn 61 = .ok (.getfield 36, 3) := by decide +kernel
theorem dX4_liesOn_64 : decode cX4_liesOn 64 = .ok (.iload_n 3, 1) := by decide +kernel
theorem dX4_liesOn_65 : decode cX4_liesOn 65 = .ok (.iaload, 1) := by decide +kernel
theorem dX4_liesOn_66 : decode cX4_liesOn 66 = .ok (.aload_n 2, 1) := by decide +kernel
theorem dX4_liesOn_67 : decode cX4_liesOn 67 = .ok (.getfield 30, 3) := by decide +kernel
theorem dX4_liesOn_70 : decode cX4_liesOn 70 = .ok (.iload_n 3, 1) := by decide +kernel
theorem dX4_liesOn_71 : decode cX4_liesOn 71 = .ok (.iaload, 1) := by decide +kernel
theorem dX4_liesOn_72 : decode cX4_liesOn 72 = .ok (.isub, 1) := by decide +kernel
theorem dX4_liesOn_73 : decode cX4_liesOn 73 = .ok (.istore 8, 2) := by decide +kernel
theorem dX4_liesOn_75 : decode cX4_liesOn 75 = .ok (.aload_n 2, 1) := by decide +kernel
theorem dX4_liesOn_76 : decode cX4_liesOn 76 = .ok (.getfield 39, 3) := by decide +kernel
theorem dX4_liesOn_79 : decode cX4_liesOn 79 = .ok (.iload_n 3, 1) := by decide +kernel
theorem dX4_liesOn_80 : decode cX4_liesOn 80 = .ok (.iaload, 1) := by decide +kernel
theorem dX4_liesOn_81 : decode cX4_liesOn 81 = .ok (.aload_n 2, 1) := by decide +kernel
theorem dX4_liesOn_82 : decode cX4_liesOn 82 = .ok (.getfield 31, 3) := by decide +kernel
theorem dX4_liesOn_85 : decode cX4_liesOn 85 = .ok (.iload_n 3, 1) := by decide +kernel
theorem dX4_liesOn_86 : decode cX4_liesOn 86 = .ok (.iaload, 1) := by decide +kernel
theorem dX4_liesOn_87 : decode cX4_liesOn 87 = .ok (.isub, 1) := by decide +kernel
theorem dX4_liesOn_88 : decode cX4_liesOn 88 = .ok (.istore 9, 2) := by decide +kernel
theorem dX4_liesOn_90 : decode cX4_liesOn 90 = .ok (.iload 8, 2) := by decide +kernel
theorem dX4_liesOn_92 : decode cX4_liesOn 92 = .ok (.aload_n 0, 1) := by decide +kernel
theorem dX4_liesOn_93 : decode cX4_liesOn 93 = .ok (.getfield 15, 3) := by decide +kernel
theorem dX4_liesOn_96 : decode cX4_liesOn 96 = .ok (.iload_n 1, 1) := by decide +kernel
theorem dX4_liesOn_97 : decode cX4_liesOn 97 = .ok (.iaload, 1) := by decide +kernel
theorem dX4_liesOn_98 : decode cX4_liesOn 98 = .ok (.iload 5, 2) := by decide +kernel
theorem dX4_liesOn_100 : decode cX4_liesOn 100 = .ok (.isub, 1) := by decide +kernel
theorem dX4_liesOn_101 : decode cX4_liesOn 101 = .ok (.imul, 1) := by decide +kernel
theorem dX4_liesOn_102 : decode cX4_liesOn 102 = .ok (.iload 9, 2) := by decide +kernel
theorem dX4_liesOn_104 : decode cX4_liesOn 104 = .ok (.aload_n 0, 1) := by decide +kernel
theorem dX4_liesOn_105 : decode cX4_liesOn 105 = .ok (.getfield 9, 3) := by decide +kernel
theorem dX4_liesOn_108 : decode cX4_liesOn 108 = .ok (.iload_n 1, 1) := by decide +kernel
theorem dX4_liesOn_109 : decode cX4_liesOn 109 = .ok (.iaload, 1) := by decide +kernel
theorem dX4_liesOn_110 : decode cX4_liesOn 110 = .ok (.iload 4, 2) := by decide +kernel
theorem dX4_liesOn_112 : decode cX4_liesOn 112 = .ok (.isub, 1) := by decide +kernel
theorem dX4_liesOn_113 : decode cX4_liesOn 113 = .ok (.imul, 1) := by decide +kernel
theorem dX4_liesOn_114 : decode cX4_liesOn 114 = .ok (.if_icmp .ne 39, 3) := by decide +kernel
theorem dX4_liesOn_117 : decode cX4_liesOn 117 = .ok (.aload_n 0, 1) := by decide +kernel
theorem dX4_liesOn_118 : decode cX4_liesOn 118 = .ok (.getfield 9, 3) := by decide +kernel
theorem dX4_liesOn_121 : decode cX4_liesOn 121 = .ok (.iload_n 1, 1) := by decide +kernel
theorem dX4_liesOn_122 : decode cX4_liesOn 122 = .ok (.iaload, 1) := by decide +kernel
theorem dX4_liesOn_123 : decode cX4_liesOn 123 = .ok (.iload 4, 2) := by decide +kernel
theorem dX4_liesOn_125 : decode cX4_liesOn 125 = .ok (.iload 6, 2) := by decide +kernel
theorem dX4_liesOn_127 : decode cX4_liesOn 127 = .ok (.invokestatic 60, 3) := by decide +kernel
theorem dX4_liesOn_130 : decode cX4_liesOn 130 = .ok (.ifCond .eq 23, 3) := by decide +kernel
theorem dX4_liesOn_133 : decode cX4_liesOn 133 = .ok (.aload_n 0, 1) := by decide +kernel
theorem dX4_liesOn_134 : decode cX4_liesOn 134 = .ok (.getfield 15, 3) := by decide +kernel
theorem dX4_liesOn_137 : decode cX4_liesOn 137 = .ok (.iload_n 1, 1) := by decide +kernel
theorem dX4_liesOn_138 : decode cX4_liesOn 138 = .ok (.iaload, 1) := by decide +kernel
theorem dX4_liesOn_139 : decode cX4_liesOn 139 = .ok (.iload 5, 2) := by decide +kernel
theorem dX4_liesOn_141 : decode cX4_liesOn 141 = .ok (.iload 7, 2) := by decide +kernel
theorem dX4_liesOn_143 : decode cX4_liesOn 143 = .ok (.invokestatic 60, 3) := by decide +kernel
theorem dX4_liesOn_146 : decode cX4_liesOn 146 = .ok (.ifCond .eq 7, 3) := by decide +kernel
theorem dX4_liesOn_149 : decode cX4_liesOn 149 = .ok (.iconst 1, 1) := by decide +kernel
theorem dX4_liesOn_150 : decode cX4_liesOn 150 = .ok (.goto 4, 3) := by decide +kernel
theorem dX4_liesOn_153 : decode cX4_liesOn 153 = .ok (.iconst 0, 1) := by decide +kernel
theorem dX4_liesOn_154 : decode cX4_liesOn 154 = .ok (.ireturn, 1) := by decide +kernel
theorem dX4_isBetween_0 : decode cX4_isBetween 0 = .ok (.iload_n 0, 1) := by decide +kernel
theorem dX4_isBetween_1 : decode cX4_isBetween 1 = .ok (.iload_n 1, 1) := by decide +kernel
theorem dX4_isBetween_2 : decode cX4_isBetween 2 = .ok (.iload_n 2, 1) := by decide +kernel
theorem dX4_isBetween_3 : decode cX4_isBetween 3 = .ok (.invokestatic 64, 3) := by decide +kernel
theorem dX4_isBetween_6 : decode cX4_isBetween 6 = .ok (.if_icmp .lt 16, 3) := by decide +kernel
theorem dX4_isBetween_9 : decode cX4_isBetween 9 = .ok (.iload_n 0, 1) := by decide +kernel
theorem dX4_isBetween_10 : decode cX4_isBetween 10 = .ok (.iload_n 1, 1) := by decide +kernel
theorem dX4_isBetween_11 : decode cX4_isBetween 11 = .ok (.iload_n 2, 1) := by decide +kernel
theorem dX4_isBetween_12 : decode cX4_isBetween 12 = .ok (.invokestatic 69, 3) := by decide +kernel
theorem dX4_isBetween_15 : decode cX4_isBetween 15 = .ok (.if_icmp .gt 7, 3) := by decide +kernel
theorem dX4_isBetween_18 : decode cX4_isBetween 18 = .ok (.iconst 1, 1) := by decide +kernel
theorem dX4_isBetween_19 : decode cX4_isBetween 19 = .ok (.goto 4, 3) := by decide +kernel
theorem dX4_isBetween_22 : decode cX4_isBetween 22 = .ok (.iconst 0, 1) := by decide +kernel
theorem dX4_isBetween_23 : decode cX4_isBetween 23 = .ok (.ireturn, 1) := by decide +kernel
theorem dX4_side_0 : decode cX4_side 0 = .ok (.aload_n 0, 1) := by decide +kernel
theorem dX4_side_1 : decode cX4_side 1 = .ok (.getfield 9, 3) := by decide +kernel
theorem dX4_side_4 : decode cX4_side 4 = .ok (.iload_n 1, 1) := by decide +kernel
theorem dX4_side_5 : decode cX4_side 5 = .ok (.iaload, 1) := by decide +kernel
theorem dX4_side_6 : decode cX4_side 6 = .ok (.i2l, 1) := by decide +kernel
theorem dX4_side_7 : decode cX4_side 7 = .ok (.aload_n 0, 1) := by decide +kernel
theorem dX4_side_8 : decode cX4_side 8 = .ok (.getfield 15, 3) := by decide +kernel
theorem dX4_side_11 : decode cX4_side 11 = .ok (.iload_n 2, 1) := by decide +kernel
theorem dX4_side_12 : decode cX4_side 12 = .ok (.iaload, 1) := by decide +kernel
theorem dX4_side_13 : decode cX4_side 13 = .ok (.aload_n 0, 1) := by decide +kernel
theorem dX4_side_14 : decode cX4_side 14 = .ok (.getfield 18, 3) := by decide +kernel
theorem dX4_side_17 : decode cX4_side 17 = .ok (.iload_n 3, 1) := by decide +kernel
theorem dX4_side_18 : decode cX4_side 18 = .ok (.iaload, 1) := by decide +kernel
theorem dX4_side_19 : decode cX4_side 19 = .ok (.imul, 1) := by decide +kernel
theorem dX4_side_20 : decode cX4_side 20 = .ok (.aload_n 0, 1) := by decide +kernel
theorem dX4_side_21 : decode cX4_side 21 = .ok (.getfield 15, 3) := by decide +kernel
theorem dX4_side_24 : decode cX4_side 24 = .ok (.iload_n 3, 1) := by decide +kernel
theorem dX4_side_25 : decode cX4_side 25 = .ok (.iaload, 1) := by decide +kernel
theorem dX4_side_26 : decode cX4_side 26 = .ok (.aload_n 0, 1) := by decide +kernel
theorem dX4_side_27 : decode cX4_side 27 = .ok (.getfield 18, 3) := by decide +kernel
theorem dX4_side_30 : decode cX4_side 30 = .ok (.iload_n 2, 1) := by decide +kernel
theorem dX4_side_31 : decode cX4_side 31 = .ok (.iaload, 1) := by decide +kernel
theorem dX4_side_32 : decode cX4_side 32 = .ok (.imul, 1) := by decide +kernel
theorem dX4_side_33 : decode cX4_side 33 = .ok (.isub, 1) := by decide +kernel
theorem dX4_side_34 : decode cX4_side 34 = .ok (.i2l, 1) := by decide +kernel
theorem dX4_side_35 : decode cX4_side 35 = .ok (.lmul, 1) := by decide +kernel
theorem dX4_side_36 : decode cX4_side 36 = .ok (.aload_n 0, 1) := by decide +kernel
theorem dX4_side_37 : decode cX4_side 37 = .ok (.getfield 15, 3) := by decide +kernel
theorem dX4_side_40 : decode cX4_side 40 = .ok (.iload_n 1, 1) := by decide +kernel
theorem dX4_side_41 : decode cX4_side 41 = .ok (.iaload, 1) := by decide +kernel
theorem dX4_side_42 : decode cX4_side 42 = .ok (.i2l, 1) := by decide +kernel
theorem dX4_side_43 : decode cX4_side 43 = .ok (.aload_n 0, 1) := by decide +kernel
theorem dX4_side_44 : decode cX4_side 44 = .ok (.getfield 9, 3) := by decide +kernel
theorem dX4_side_47 : decode cX4_side 47 = .ok (.iload_n 2, 1) := by decide +kernel
theorem dX4_side_48 : decode cX4_side 48 = .ok (.iaload, 1) := by decide +kernel
theorem dX4_side_49 : decode cX4_side 49 = .ok (.aload_n 0, 1) := by decide +kernel
theorem dX4_side_50 : decode cX4_side 50 = .ok (.getfield 18, 3) := by decide +kernel
theorem dX4_side_53 : decode cX4_side 53 = .ok (.iload_n 3, 1) := by decide +kernel
theorem dX4_side_54 : decode cX4_side 54 = .ok (.iaload, 1) := by decide +kernel
theorem dX4_side_55 : decode cX4_side 55 = .ok (.imul, 1) := by decide +kernel
theorem dX4_side_56 : decode cX4_side 56 = .ok (.aload_n 0, 1) := by decide +kernel
theorem dX4_side_57 : decode cX4_side 57 = .ok (.getfield 9, 3) := by decide +kernel
theorem dX4_side_60 : decode cX4_side 60 = .ok (.iload_n 3, 1) := by decide +kernel
theorem dX4_side_61 : decode cX4_side 61 = .ok (.iaload, 1) := by decide +kernel
theorem dX4_side_62 : decode cX4_side 62 = .ok (.aload_n 0, 1) := by decide +kernel
theorem dX4_side_63 : decode cX4_side 63 = .ok (.getfield 18, 3) := by decide +kernel
theorem dX4_side_66 : decode cX4_side 66 = .ok (.iload_n 2, 1) := by decide +kernel
theorem dX4_side_67 : decode cX4_side 67 = .ok (.iaload, 1) := by decide +kernel
theorem dX4_side_68 : decode cX4_side 68 = .ok (.imul, 1) := by decide +kernel
theorem dX4_side_69 : decode cX4_side 69 = .ok (.isub, 1) := by decide +kernel
theorem dX4_side_70 : decode cX4_side 70 = .ok (.i2l, 1) := by decide +kernel
theorem dX4_side_71 : decode cX4_side 71 = .ok (.lmul, 1) := by decide +kernel
theorem dX4_side_72 : decode cX4_side 72 = .ok (.lsub, 1) := by decide +kernel
theorem dX4_side_73 : decode cX4_side 73 = .ok (.aload_n 0, 1) := by decide +kernel
theorem dX4_side_74 : decode cX4_side 74 = .ok (.getfield 18, 3) := by decide +kernel
theorem dX4_side_77 : decode cX4_side 77 = .ok (.iload_n 1, 1) := by decide +kernel
theorem dX4_side_78 : decode cX4_side 78 = .ok (.iaload, 1) := by decide +kernel
theorem dX4_side_79 : decode cX4_side 79 = .ok (.i2l, 1) := by decide +kernel
theorem dX4_side_80 : decode cX4_side 80 = .ok (.aload_n 0, 1) := by decide +kernel
theorem dX4_side_81 : decode cX4_side 81 = .ok (.getfield 9, 3) := by decide +kernel
theorem dX4_side_84 : decode cX4_side 84 = .ok (.iload_n 2, 1) := by decide +kernel
theorem dX4_side_85 : decode cX4_side 85 = .ok (.iaload, 1) := by decide +kernel
theorem dX4_side_86 : decode cX4_side 86 = .ok (.aload_n 0, 1) := by decide +kernel
theorem dX4_side_87 : decode cX4_side 87 = .ok (.getfield 15, 3) := by decide +kernel
theorem dX4_side_90 : decode cX4_side 90 = .ok (.iload_n 3, 1) := by decide +kernel
theorem dX4_side_91 : decode cX4_side 91 = .ok (.iaload, 1) := by decide +kernel
theorem dX4_side_92 : decode cX4_side 92 = .ok (.imul, 1) := by decide +kernel
theorem dX4_side_93 : decode cX4_side 93 = .ok (.aload_n 0, 1) := by decide +kernel
theorem dX4_side_94 : decode cX4_side 94 = .ok (.getfield 9, 3) := by decide +kernel
theorem dX4_side_97 : decode cX4_side 97 = .ok (.iload_n 3, 1) := by decide +kernel
theorem dX4_side_98 : decode cX4_side 98 = .ok (.iaload, 1) := by decide +kernel
theorem dX4_side_99 : decode cX4_side 99 = .ok (.aload_n 0, 1) := by decide +kernel
theorem dX4_side_100 : decode cX4_side 100 = .ok (.getfield 15, 3) := by decide +kernel
theorem dX4_side_103 : decode cX4_side 103 = .ok (.iload_n 2, 1) := by decide +kernel
theorem dX4_side_104 : decode cX4_side 104 = .ok (.iaload, 1) := by decide +kernel
theorem dX4_side_105 : decode cX4_side 105 = .ok (.imul, 1) := by decide +kernel
theorem dX4_side_106 : decode cX4_side 106 = .ok (.isub, 1) := by decide +kernel
theorem dX4_side_107 : decode cX4_side 107 = .ok (.i2l, 1) := by decide +kernel
theorem dX4_side_108 : decode cX4_side 108 = .ok (.lmul, 1) := by decide +kernel
theorem dX4_side_109 : decode cX4_side 109 = .ok (.ladd, 1) := by decide +kernel
theorem dX4_side_110 : decode cX4_side 110 = .ok (.lreturn, 1) := by decide +kernel
set_option maxRecDepth 20000 in
theorem ggX4_above_X9_greatestCommon : GoodIn wsX4_above wsX9_greatestCommon := goodIn_r _ [3] rfl (by decide +kernel)
set_option maxRecDepth 20000 in
theorem gX4_above_X9_greatestCommon_n46 : GoodIn wsX4_above (wsX9_greatestCommon) := ggX4_above_X9_greatestCommon
theorem dX4_above_0 : decode cX4_above 0 = .ok (.iload_n 1, 1) := by decide +kernel
theorem dX4_above_1 : decode cX4_above 1 = .ok (.iload_n 2, 1) := by decide +kernel
theorem dX4_above_2 : decode cX4_above 2 = .ok (.invokestatic 46, 3) := by decide +kernel
theorem dX4_above_5 : decode cX4_above 5 = .ok (.istore_n 3, 1) := by decide +kernel
theorem dX4_above_6 : decode cX4_above 6 = .ok (.iload_n 3, 1) := by decide +kernel
theorem dX4_above_7 : decode cX4_above 7 = .ok (.iconst 1, 1) := by decide +kernel
theorem dX4_above_8 : decode cX4_above 8 = .ok (.if_icmp .ge 7, 3) := by decide +kernel
theorem dX4_above_11 : decode cX4_above 11 = .ok (.iload_n 1, 1) := by decide +kernel
theorem dX4_above_12 : decode cX4_above 12 = .ok (.goto 6, 3) := by decide +kernel
theorem dX4_above_15 : decode cX4_above 15 = .ok (.iload_n 1, 1) := by decide +kernel
theorem dX4_above_16 : decode cX4_above 16 = .ok (.iload_n 3, 1) := by decide +kernel
theorem dX4_above_17 : decode cX4_above 17 = .ok (.idiv, 1) := by decide +kernel
theorem dX4_above_18 : decode cX4_above 18 = .ok (.ireturn, 1) := by decide +kernel
set_option maxRecDepth 20000 in
theorem ggX4_below_X9_greatestCommon : GoodIn wsX4_below wsX9_greatestCommon := goodIn_r _ [3] rfl (by decide +kernel)
set_option maxRecDepth 20000 in
theorem gX4_below_X9_greatestCommon_n46 : GoodIn wsX4_below (wsX9_greatestCommon) := ggX4_below_X9_greatestCommon
theorem dX4_below_0 : decode cX4_below 0 = .ok (.iload_n 1, 1) := by decide +kernel
theorem dX4_below_1 : decode cX4_below 1 = .ok (.iload_n 2, 1) := by decide +kernel
theorem dX4_below_2 : decode cX4_below 2 = .ok (.invokestatic 46, 3) := by decide +kernel
theorem dX4_below_5 : decode cX4_below 5 = .ok (.istore_n 3, 1) := by decide +kernel
theorem dX4_below_6 : decode cX4_below 6 = .ok (.iload_n 3, 1) := by decide +kernel
theorem dX4_below_7 : decode cX4_below 7 = .ok (.iconst 1, 1) := by decide +kernel
theorem dX4_below_8 : decode cX4_below 8 = .ok (.if_icmp .ge 7, 3) := by decide +kernel
theorem dX4_below_11 : decode cX4_below 11 = .ok (.iload_n 2, 1) := by decide +kernel
theorem dX4_below_12 : decode cX4_below 12 = .ok (.goto 6, 3) := by decide +kernel
theorem dX4_below_15 : decode cX4_below 15 = .ok (.iload_n 2, 1) := by decide +kernel
theorem dX4_below_16 : decode cX4_below 16 = .ok (.iload_n 3, 1) := by decide +kernel
theorem dX4_below_17 : decode cX4_below 17 = .ok (.idiv, 1) := by decide +kernel
theorem dX4_below_18 : decode cX4_below 18 = .ok (.ireturn, 1) := by decide +kernel
