theorem dX3_init_0 : decode cX3_init 0 = .ok (.aload_n 0, 1) := by decide +kernel
theorem dX3_init_1 : decode cX3_init 1 = .ok (.invokespecial 3, 3) := by decide +kernel
theorem dX3_init_4 : decode cX3_init 4 = .ok (.aload_n 0, 1) := by decide +kernel
theorem dX3_init_5 : decode cX3_init 5 = .ok (.sipush 128, 3) := by decide +kernel
theorem dX3_init_8 : decode cX3_init 8 = .ok (.newarray .int, 2) := by decide +kernel
theorem dX3_init_10 : decode cX3_init 10 = .ok (.putfield 9, 3) := by decide +kernel
theorem dX3_init_13 : decode cX3_init 13 = .ok (.aload_n 0, 1) := by decide +kernel
theorem dX3_init_14 : decode cX3_init 14 = .ok (.sipush 128, 3) := by decide +kernel
theorem dX3_init_17 : decode cX3_init 17 = .ok (.newarray .int, 2) := by decide +kernel
theorem dX3_init_19 : decode cX3_init 19 = .ok (.putfield 15, 3) := by decide +kernel
theorem dX3_init_22 : decode cX3_init 22 = .ok (.aload_n 0, 1) := by decide +kernel
theorem dX3_init_23 : decode cX3_init 23 = .ok (.sipush 128, 3) := by decide +kernel
theorem dX3_init_26 : decode cX3_init 26 = .ok (.newarray .int, 2) := by decide +kernel
theorem dX3_init_28 : decode cX3_init 28 = .ok (.putfield 18, 3) := by decide +kernel
theorem dX3_init_31 : decode cX3_init 31 = .ok (.aload_n 0, 1) := by decide +kernel
theorem dX3_init_32 : decode cX3_init 32 = .ok (.sipush 128, 3) := by decide +kernel
theorem dX3_init_35 : decode cX3_init 35 = .ok (.newarray .long, 2) := by decide +kernel
theorem dX3_init_37 : decode cX3_init 37 = .ok (.putfield 21, 3) := by decide +kernel
theorem dX3_init_40 : decode cX3_init 40 = .ok (.aload_n 0, 1) := by decide +kernel
theorem dX3_init_41 : decode cX3_init 41 = .ok (.sipush 128, 3) := by decide +kernel
theorem dX3_init_44 : decode cX3_init 44 = .ok (.newarray .long, 2) := by decide +kernel
theorem dX3_init_46 : decode cX3_init 46 = .ok (.putfield 25, 3) := by decide +kernel
theorem dX3_init_49 : decode cX3_init 49 = .ok (.aload_n 0, 1) := by decide +kernel
theorem dX3_init_50 : decode cX3_init 50 = .ok (.bipush 8, 2) := by decide +kernel
theorem dX3_init_52 : decode cX3_init 52 = .ok (.newarray .long, 2) := by decide +kernel
theorem dX3_init_54 : decode cX3_init 54 = .ok (.putfield 28, 3) := by decide +kernel
theorem dX3_init_57 : decode cX3_init 57 = .ok (.aload_n 0, 1) := by decide +kernel
theorem dX3_init_58 : decode cX3_init 58 = .ok (.bipush 8, 2) := by decide +kernel
theorem dX3_init_60 : decode cX3_init 60 = .ok (.newarray .long, 2) := by decide +kernel
theorem dX3_init_62 : decode cX3_init 62 = .ok (.putfield 31, 3) := by decide +kernel
theorem dX3_init_65 : decode cX3_init 65 = .ok (.aload_n 0, 1) := by decide +kernel
theorem dX3_init_66 : decode cX3_init 66 = .ok (.sipush 128, 3) := by decide +kernel
theorem dX3_init_69 : decode cX3_init 69 = .ok (.newarray .int, 2) := by decide +kernel
theorem dX3_init_71 : decode cX3_init 71 = .ok (.putfield 34, 3) := by decide +kernel
theorem dX3_init_74 : decode cX3_init 74 = .ok (.aload_n 0, 1) := by decide +kernel
theorem dX3_init_75 : decode cX3_init 75 = .ok (.sipush 128, 3) := by decide +kernel
theorem dX3_init_78 : decode cX3_init 78 = .ok (.newarray .int, 2) := by decide +kernel
theorem dX3_init_80 : decode cX3_init 80 = .ok (.putfield 37, 3) := by decide +kernel
theorem dX3_init_83 : decode cX3_init 83 = .ok (.aload_n 0, 1) := by decide +kernel
theorem dX3_init_84 : decode cX3_init 84 = .ok (.sipush 128, 3) := by decide +kernel
theorem dX3_init_87 : decode cX3_init 87 = .ok (.newarray .int, 2) := by decide +kernel
theorem dX3_init_89 : decode cX3_init 89 = .ok (.putfield 40, 3) := by decide +kernel
theorem dX3_init_92 : decode cX3_init 92 = .ok (.aload_n 0, 1) := by decide +kernel
theorem dX3_init_93 : decode cX3_init 93 = .ok (.sipush 128, 3) := by decide +kernel
theorem dX3_init_96 : decode cX3_init 96 = .ok (.newarray .boolean, 2) := by decide +kernel
theorem dX3_init_98 : decode cX3_init 98 = .ok (.putfield 43, 3) := by decide +kernel
theorem dX3_init_101 : decode cX3_init 101 = .ok (.aload_n 0, 1) := by decide +kernel
theorem dX3_init_102 : decode cX3_init 102 = .ok (.sipush 128, 3) := by decide +kernel
theorem dX3_init_105 : decode cX3_init 105 = .ok (.newarray .boolean, 2) := by decide +kernel
theorem dX3_init_107 : decode cX3_init 107 = .ok (.putfield 47, 3) := by decide +kernel
theorem dX3_init_110 : decode cX3_init 110 = .ok (.return_, 1) := by decide +kernel
set_option maxRecDepth 20000 in
theorem ggX3_begin_X3_put : GoodIn wsX3_begin wsX3_put := goodIn_r _ [10, 11, 12, 13, 39, 40, 41, 42, 43, 44, 45, 46, 47, 48, 49, 50, 51] rfl (by decide +kernel)
set_option maxRecDepth 20000 in
theorem gX3_begin_X3_put : GoodIn wsX3_begin (wsV RX3 57 RX3 yX3_put wsX3_put) := goodIn_app (goodIn_r ([.methodLink RX3 57 yX3_put, .instanceMethod yX3_put, .selects RX3 yX3_put yX3_put, .initialized RX3] : List Cond) [6, 7, 8, 9] rfl (by decide +kernel)) ggX3_begin_X3_put
set_option maxRecDepth 20000 in
theorem ggX3_begin_X7_corners : GoodIn wsX3_begin wsX7_corners := goodIn_r _ [18, 19, 32, 33, 34, 35, 36, 37, 38] rfl (by decide +kernel)
set_option maxRecDepth 20000 in
theorem gX3_begin_X7_corners : GoodIn wsX3_begin (wsV RX3 61 RX7 yX7_corners wsX7_corners) := goodIn_app (goodIn_r ([.methodLink RX3 61 yX7_corners, .instanceMethod yX7_corners, .selects RX7 yX7_corners yX7_corners, .initialized RX7] : List Cond) [14, 15, 16, 17] rfl (by decide +kernel)) ggX3_begin_X7_corners
set_option maxRecDepth 20000 in
theorem ggX3_begin_X7_beyond : GoodIn wsX3_begin wsX7_beyond := goodIn_r _ [23, 24, 25, 26, 27, 19, 32, 33, 34, 35, 36, 37, 38, 52, 53, 54, 55, 56, 57, 58, 59, 60, 61, 62] rfl (by decide +kernel)
set_option maxRecDepth 20000 in
theorem gX3_begin_X7_beyond : GoodIn wsX3_begin (wsV RX3 65 RX7 yX7_beyond wsX7_beyond) := goodIn_app (goodIn_r ([.methodLink RX3 65 yX7_beyond, .instanceMethod yX7_beyond, .selects RX7 yX7_beyond yX7_beyond, .initialized RX7] : List Cond) [20, 21, 22, 17] rfl (by decide +kernel)) ggX3_begin_X7_beyond
set_option maxRecDepth 20000 in
theorem ggX3_begin_X3_markNear : GoodIn wsX3_begin wsX3_markNear := goodIn_r _ [31, 3, 4, 39, 40, 41, 42, 43, 44, 45, 46, 47, 48, 49, 50, 51] rfl (by decide +kernel)
set_option maxRecDepth 20000 in
theorem gX3_begin_X3_markNear : GoodIn wsX3_begin (wsV RX3 69 RX3 yX3_markNear wsX3_markNear) := goodIn_app (goodIn_r ([.methodLink RX3 69 yX3_markNear, .instanceMethod yX3_markNear, .selects RX3 yX3_markNear yX3_markNear, .initialized RX3] : List Cond) [28, 29, 30, 9] rfl (by decide +kernel)) ggX3_begin_X3_markNear
theorem dX3_begin_0 : decode cX3_begin 0 = .ok (.aload_n 0, 1) := by decide +kernel
theorem dX3_begin_1 : decode cX3_begin 1 = .ok (.aload_n 1, 1) := by decide +kernel
theorem dX3_begin_2 : decode cX3_begin 2 = .ok (.getfield 50, 3) := by decide +kernel
theorem dX3_begin_5 : decode cX3_begin 5 = .ok (.putfield 56, 3) := by decide +kernel
theorem dX3_begin_8 : decode cX3_begin 8 = .ok (.iconst 0, 1) := by decide +kernel
theorem dX3_begin_9 : decode cX3_begin 9 = .ok (.istore_n 2, 1) := by decide +kernel
theorem dX3_begin_10 : decode cX3_begin 10 = .ok (.iload_n 2, 1) := by decide +kernel
theorem dX3_begin_11 : decode cX3_begin 11 = .ok (.aload_n 0, 1) := by decide +kernel
theorem dX3_begin_12 : decode cX3_begin 12 = .ok (.getfield 56, 3) := by decide +kernel
theorem dX3_begin_15 : decode cX3_begin 15 = .ok (.if_icmp .ge 60, 3) := by decide +kernel
theorem dX3_begin_18 : decode cX3_begin 18 = .ok (.aload_n 0, 1) := by decide +kernel
theorem dX3_begin_19 : decode cX3_begin 19 = .ok (.iload_n 2, 1) := by decide +kernel
theorem dX3_begin_20 : decode cX3_begin 20 = .ok (.iconst 0, 1) := by decide +kernel
theorem dX3_begin_21 : decode cX3_begin 21 = .ok (.sipush 255, 3) := by decide +kernel
theorem dX3_begin_24 : decode cX3_begin 24 = .ok (.invokevirtual 57, 3) := by decide +kernel
theorem dX3_begin_27 : decode cX3_begin 27 = .ok (.aload_n 0, 1) := by decide +kernel
theorem dX3_begin_28 : decode cX3_begin 28 = .ok (.getfield 21, 3) := by decide +kernel
theorem dX3_begin_31 : decode cX3_begin 31 = .ok (.iload_n 2, 1) := by decide +kernel
theorem dX3_begin_32 : decode cX3_begin 32 = .ok (.lconst 0, 1) := by decide +kernel
theorem dX3_begin_33 : decode cX3_begin 33 = .ok (.lastore, 1) := by decide +kernel
theorem dX3_begin_34 : decode cX3_begin 34 = .ok (.aload_n 0, 1) := by decide +kernel
theorem dX3_begin_35 : decode cX3_begin 35 = .ok (.getfield 25, 3) := by decide +kernel
theorem dX3_begin_38 : decode cX3_begin 38 = .ok (.iload_n 2, 1) := by decide +kernel
theorem dX3_begin_39 : decode cX3_begin 39 = .ok (.lconst 0, 1) := by decide +kernel
theorem dX3_begin_40 : decode cX3_begin 40 = .ok (.lastore, 1) := by decide +kernel
theorem dX3_begin_41 : decode cX3_begin 41 = .ok (.iconst 0, 1) := by decide +kernel
theorem dX3_begin_42 : decode cX3_begin 42 = .ok (.istore_n 3, 1) := by decide +kernel
theorem dX3_begin_43 : decode cX3_begin 43 = .ok (.iload_n 3, 1) := by decide +kernel
theorem dX3_begin_44 : decode cX3_begin 44 = .ok (.aload_n 1, 1) := by decide +kernel
theorem dX3_begin_45 : decode cX3_begin 45 = .ok (.iload_n 2, 1) := by decide +kernel
theorem dX3_begin_46 : decode cX3_begin 46 = .ok (.invokevirtual 61, 3) := by decide +kernel
theorem dX3_begin_49 : decode cX3_begin 49 = .ok (.if_icmp .ge 20, 3) := by decide +kernel
theorem dX3_begin_52 : decode cX3_begin 52 = .ok (.aload_n 0, 1) := by decide +kernel
theorem dX3_begin_53 : decode cX3_begin 53 = .ok (.iload_n 2, 1) := by decide +kernel
theorem dX3_begin_54 : decode cX3_begin 54 = .ok (.aload_n 1, 1) := by decide +kernel
theorem dX3_begin_55 : decode cX3_begin 55 = .ok (.iload_n 2, 1) := by decide +kernel
theorem dX3_begin_56 : decode cX3_begin 56 = .ok (.iload_n 3, 1) := by decide +kernel
theorem dX3_begin_57 : decode cX3_begin 57 = .ok (.invokevirtual 65, 3) := by decide +kernel
theorem dX3_begin_60 : decode cX3_begin 60 = .ok (.invokevirtual 69, 3) := by decide +kernel
theorem dX3_begin_63 : decode cX3_begin 63 = .ok (.iinc 3 1, 3) := by decide +kernel
theorem dX3_begin_66 : decode cX3_begin 66 = .ok (.goto (-23), 3) := by decide +kernel
theorem dX3_begin_69 : decode cX3_begin 69 = .ok (.iinc 2 1, 3) := by decide +kernel
theorem dX3_begin_72 : decode cX3_begin 72 = .ok (.goto (-62), 3) := by decide +kernel
theorem dX3_begin_75 : decode cX3_begin 75 = .ok (.iconst 0, 1) := by decide +kernel
theorem dX3_begin_76 : decode cX3_begin 76 = .ok (.istore_n 2, 1) := by decide +kernel
theorem dX3_begin_77 : decode cX3_begin 77 = .ok (.iload_n 2, 1) := by decide +kernel
theorem dX3_begin_78 : decode cX3_begin 78 = .ok (.sipush 128, 3) := by decide +kernel
theorem dX3_begin_81 : decode cX3_begin 81 = .ok (.if_icmp .ge 16, 3) := by decide +kernel
theorem dX3_begin_84 : decode cX3_begin 84 = .ok (.aload_n 0, 1) := by decide +kernel
theorem dX3_begin_85 : decode cX3_begin 85 = .ok (.getfield 47, 3) := by decide +kernel
theorem dX3_begin_88 : decode cX3_begin 88 = .ok (.iload_n 2, 1) := by decide +kernel
theorem dX3_begin_89 : decode cX3_begin 89 = .ok (.iconst 0, 1) := by decide +kernel
theorem dX3_begin_90 : decode cX3_begin 90 = .ok (.bastore, 1) := by decide +kernel
theorem dX3_begin_91 : decode cX3_begin 91 = .ok (.iinc 2 1, 3) := by decide +kernel
theorem dX3_begin_94 : decode cX3_begin 94 = .ok (.goto (-17), 3) := by decide +kernel
theorem dX3_begin_97 : decode cX3_begin 97 = .ok (.return_, 1) := by decide +kernel
theorem dX3_markNear_0 : decode cX3_markNear 0 = .ok (.iload_n 2, 1) := by decide +kernel
theorem dX3_markNear_1 : decode cX3_markNear 1 = .ok (.ifCond .lt 8, 3) := by decide +kernel
theorem dX3_markNear_4 : decode cX3_markNear 4 = .ok (.iload_n 2, 1) := by decide +kernel
theorem dX3_markNear_5 : decode cX3_markNear 5 = .ok (.iload_n 1, 1) := by decide +kernel
theorem dX3_markNear_6 : decode cX3_markNear 6 = .ok (.if_icmp .ne 4, 3) := by decide +kernel
theorem dX3_markNear_9 : decode cX3_markNear 9 = .ok (.return_, 1) := by decide +kernel
theorem dX3_markNear_10 : decode cX3_markNear 10 = .ok (.iload_n 2, 1) := by decide +kernel
theorem dX3_markNear_11 : decode cX3_markNear 11 = .ok (.bipush 64, 2) := by decide +kernel
theorem dX3_markNear_13 : decode cX3_markNear 13 = .ok (.if_icmp .ge 18, 3) := by decide +kernel
theorem dX3_markNear_16 : decode cX3_markNear 16 = .ok (.aload_n 0, 1) := by decide +kernel
theorem dX3_markNear_17 : decode cX3_markNear 17 = .ok (.getfield 21, 3) := by decide +kernel
theorem dX3_markNear_20 : decode cX3_markNear 20 = .ok (.iload_n 1, 1) := by decide +kernel
theorem dX3_markNear_21 : decode cX3_markNear 21 = .ok (.dup2, 1) := by decide +kernel
theorem dX3_markNear_22 : decode cX3_markNear 22 = .ok (.laload, 1) := by decide +kernel
theorem dX3_markNear_23 : decode cX3_markNear 23 = .ok (.lconst 1, 1) := by decide +kernel
theorem dX3_markNear_24 : decode cX3_markNear 24 = .ok (.iload_n 2, 1) := by decide +kernel
theorem dX3_markNear_25 : decode cX3_markNear 25 = .ok (.lshl, 1) := by decide +kernel
theorem dX3_markNear_26 : decode cX3_markNear 26 = .ok (.lor, 1) := by decide +kernel
theorem dX3_markNear_27 : decode cX3_markNear 27 = .ok (.lastore, 1) := by decide +kernel
theorem dX3_markNear_28 : decode cX3_markNear 28 = .ok (.goto 18, 3) := by decide +kernel
theorem dX3_markNear_31 : decode cX3_markNear 31 = .ok (.aload_n 0, 1) := by decide +kernel
theorem dX3_markNear_32 : decode cX3_markNear 32 = .ok (.getfield 25, 3) := by decide +kernel
theorem dX3_markNear_35 : decode cX3_markNear 35 = .ok (.iload_n 1, 1) := by decide +kernel
theorem dX3_markNear_36 : decode cX3_markNear 36 = .ok (.dup2, 1) := by decide +kernel
theorem dX3_markNear_37 : decode cX3_markNear 37 = .ok (.laload, 1) := by decide +kernel
theorem dX3_markNear_38 : decode cX3_markNear 38 = .ok (.lconst 1, 1) := by decide +kernel
theorem dX3_markNear_39 : decode cX3_markNear 39 = .ok (.iload_n 2, 1) := by decide +kernel
theorem dX3_markNear_40 : decode cX3_markNear 40 = .ok (.bipush 64, 2) := by decide +kernel
theorem dX3_markNear_42 : decode cX3_markNear 42 = .ok (.isub, 1) := by decide +kernel
theorem dX3_markNear_43 : decode cX3_markNear 43 = .ok (.lshl, 1) := by decide +kernel
theorem dX3_markNear_44 : decode cX3_markNear 44 = .ok (.lor, 1) := by decide +kernel
theorem dX3_markNear_45 : decode cX3_markNear 45 = .ok (.lastore, 1) := by decide +kernel
theorem dX3_markNear_46 : decode cX3_markNear 46 = .ok (.return_, 1) := by decide +kernel
theorem dX3_put_0 : decode cX3_put 0 = .ok (.aload_n 0, 1) := by decide +kernel
theorem dX3_put_1 : decode cX3_put 1 = .ok (.getfield 9, 3) := by decide +kernel
theorem dX3_put_4 : decode cX3_put 4 = .ok (.iload_n 1, 1) := by decide +kernel
theorem dX3_put_5 : decode cX3_put 5 = .ok (.iload_n 2, 1) := by decide +kernel
theorem dX3_put_6 : decode cX3_put 6 = .ok (.iastore, 1) := by decide +kernel
theorem dX3_put_7 : decode cX3_put 7 = .ok (.aload_n 0, 1) := by decide +kernel
theorem dX3_put_8 : decode cX3_put 8 = .ok (.getfield 15, 3) := by decide +kernel
theorem dX3_put_11 : decode cX3_put 11 = .ok (.iload_n 1, 1) := by decide +kernel
theorem dX3_put_12 : decode cX3_put 12 = .ok (.iload_n 2, 1) := by decide +kernel
theorem dX3_put_13 : decode cX3_put 13 = .ok (.ifCond .ne 9, 3) := by decide +kernel
theorem dX3_put_16 : decode cX3_put 16 = .ok (.sipush 255, 3) := by decide +kernel
theorem dX3_put_19 : decode cX3_put 19 = .ok (.goto 8, 3) := by decide +kernel
theorem dX3_put_22 : decode cX3_put 22 = .ok (.iload_n 3, 1) := by decide +kernel
theorem dX3_put_23 : decode cX3_put 23 = .ok (.sipush 255, 3) := by decide +kernel
theorem dX3_put_26 : decode cX3_put 26 = .ok (.iand, 1) := by decide +kernel
theorem dX3_put_27 : decode cX3_put 27 = .ok (.iastore, 1) := by decide +kernel
theorem dX3_put_28 : decode cX3_put 28 = .ok (.aload_n 0, 1) := by decide +kernel
theorem dX3_put_29 : decode cX3_put 29 = .ok (.getfield 18, 3) := by decide +kernel
theorem dX3_put_32 : decode cX3_put 32 = .ok (.iload_n 1, 1) := by decide +kernel
theorem dX3_put_33 : decode cX3_put 33 = .ok (.bipush 8, 2) := by decide +kernel
theorem dX3_put_35 : decode cX3_put 35 = .ok (.iastore, 1) := by decide +kernel
theorem dX3_put_36 : decode cX3_put 36 = .ok (.return_, 1) := by decide +kernel
set_option maxRecDepth 20000 in
theorem ggX3_colourAll_X3_search : GoodIn wsX3_colourAll wsX3_search := goodIn_r _ [9, 10, 11, 12, 13, 14, 8, 15, 1, 2, 16, 17, 18, 19, 20, 21, 22, 23, 24, 25, 26, 27, 28, 29, 30, 31, 32, 4, 33, 34, 35, 36, 37, 38, 39, 40, 41, 42, 43, 44, 45, 46, 47, 48, 49, 50] rfl (by decide +kernel)
set_option maxRecDepth 20000 in
theorem gX3_colourAll_X3_search : GoodIn wsX3_colourAll (wsV RX3 73 RX3 yX3_search wsX3_search) := goodIn_app (goodIn_r ([.methodLink RX3 73 yX3_search, .instanceMethod yX3_search, .selects RX3 yX3_search yX3_search, .initialized RX3] : List Cond) [5, 6, 7, 8] rfl (by decide +kernel)) ggX3_colourAll_X3_search
theorem dX3_colourAll_0 : decode cX3_colourAll 0 = .ok (.iconst 0, 1) := by decide +kernel
theorem dX3_colourAll_1 : decode cX3_colourAll 1 = .ok (.istore_n 2, 1) := by decide +kernel
theorem dX3_colourAll_2 : decode cX3_colourAll 2 = .ok (.iload_n 2, 1) := by decide +kernel
theorem dX3_colourAll_3 : decode cX3_colourAll 3 = .ok (.aload_n 0, 1) := by decide +kernel
theorem dX3_colourAll_4 : decode cX3_colourAll 4 = .ok (.getfield 56, 3) := by decide +kernel
theorem dX3_colourAll_7 : decode cX3_colourAll 7 = .ok (.if_icmp .ge 16, 3) := by decide +kernel
theorem dX3_colourAll_10 : decode cX3_colourAll 10 = .ok (.aload_n 0, 1) := by decide +kernel
theorem dX3_colourAll_11 : decode cX3_colourAll 11 = .ok (.getfield 43, 3) := by decide +kernel
theorem dX3_colourAll_14 : decode cX3_colourAll 14 = .ok (.iload_n 2, 1) := by decide +kernel
theorem dX3_colourAll_15 : decode cX3_colourAll 15 = .ok (.iconst 1, 1) := by decide +kernel
theorem dX3_colourAll_16 : decode cX3_colourAll 16 = .ok (.bastore, 1) := by decide +kernel
theorem dX3_colourAll_17 : decode cX3_colourAll 17 = .ok (.iinc 2 1, 3) := by decide +kernel
theorem dX3_colourAll_20 : decode cX3_colourAll 20 = .ok (.goto (-18), 3) := by decide +kernel
theorem dX3_colourAll_23 : decode cX3_colourAll 23 = .ok (.aload_n 0, 1) := by decide +kernel
theorem dX3_colourAll_24 : decode cX3_colourAll 24 = .ok (.iload_n 1, 1) := by decide +kernel
theorem dX3_colourAll_25 : decode cX3_colourAll 25 = .ok (.invokevirtual 73, 3) := by decide +kernel
theorem dX3_colourAll_28 : decode cX3_colourAll 28 = .ok (.istore_n 2, 1) := by decide +kernel
theorem dX3_colourAll_29 : decode cX3_colourAll 29 = .ok (.iload_n 2, 1) := by decide +kernel
theorem dX3_colourAll_30 : decode cX3_colourAll 30 = .ok (.bipush (-6), 2) := by decide +kernel
theorem dX3_colourAll_32 : decode cX3_colourAll 32 = .ok (.if_icmp .ne 6, 3) := by decide +kernel
theorem dX3_colourAll_35 : decode cX3_colourAll 35 = .ok (.bipush (-6), 2) := by decide +kernel
theorem dX3_colourAll_37 : decode cX3_colourAll 37 = .ok (.ireturn, 1) := by decide +kernel
theorem dX3_colourAll_38 : decode cX3_colourAll 38 = .ok (.iconst 0, 1) := by decide +kernel
theorem dX3_colourAll_39 : decode cX3_colourAll 39 = .ok (.istore_n 3, 1) := by decide +kernel
theorem dX3_colourAll_40 : decode cX3_colourAll 40 = .ok (.iload_n 3, 1) := by decide +kernel
theorem dX3_colourAll_41 : decode cX3_colourAll 41 = .ok (.aload_n 0, 1) := by decide +kernel
theorem dX3_colourAll_42 : decode cX3_colourAll 42 = .ok (.getfield 56, 3) := by decide +kernel
theorem dX3_colourAll_45 : decode cX3_colourAll 45 = .ok (.if_icmp .ge 31, 3) := by decide +kernel
theorem dX3_colourAll_48 : decode cX3_colourAll 48 = .ok (.aload_n 0, 1) := by decide +kernel
theorem dX3_colourAll_49 : decode cX3_colourAll 49 = .ok (.getfield 18, 3) := by decide +kernel
theorem dX3_colourAll_52 : decode cX3_colourAll 52 = .ok (.iload_n 3, 1) := by decide +kernel
theorem dX3_colourAll_53 : decode cX3_colourAll 53 = .ok (.iload_n 2, 1) := by decide +kernel
theorem dX3_colourAll_54 : decode cX3_colourAll 54 = .ok (.iconst 1, 1) := by decide +kernel
theorem dX3_colourAll_55 : decode cX3_colourAll 55 = .ok (.if_icmp .ne 12, 3) := by decide +kernel
theorem dX3_colourAll_58 : decode cX3_colourAll 58 = .ok (.aload_n 0, 1) := by decide +kernel
theorem dX3_colourAll_59 : decode cX3_colourAll 59 = .ok (.getfield 37, 3) := by decide +kernel
theorem dX3_colourAll_62 : decode cX3_colourAll 62 = .ok (.iload_n 3, 1) := by decide +kernel
theorem dX3_colourAll_63 : decode cX3_colourAll 63 = .ok (.iaload, 1) := by decide +kernel
theorem dX3_colourAll_64 : decode cX3_colourAll 64 = .ok (.goto 5, 3) := by decide +kernel
theorem dX3_colourAll_67 : decode cX3_colourAll 67 = .ok (.bipush 8, 2) := by decide +kernel
theorem dX3_colourAll_69 : decode cX3_colourAll 69 = .ok (.iastore, 1) := by decide +kernel
theorem dX3_colourAll_70 : decode cX3_colourAll 70 = .ok (.iinc 3 1, 3) := by decide +kernel
theorem dX3_colourAll_73 : decode cX3_colourAll 73 = .ok (.goto (-33), 3) := by decide +kernel
theorem dX3_colourAll_76 : decode cX3_colourAll 76 = .ok (.iload_n 2, 1) := by decide +kernel
theorem dX3_colourAll_77 : decode cX3_colourAll 77 = .ok (.ireturn, 1) := by decide +kernel
set_option maxRecDepth 20000 in
theorem ggX3_leaveOut_X3_search : GoodIn wsX3_leaveOut wsX3_search := goodIn_r _ [8, 9, 10, 11, 12, 13, 7, 14, 1, 2, 15, 16, 17, 18, 19, 20, 21, 22, 23, 24, 25, 26, 27, 28, 29, 30, 31, 32, 33, 34, 35, 36, 37, 38, 39, 40, 41, 42, 43, 44, 45, 46, 47, 48, 49, 50] rfl (by decide +kernel)
set_option maxRecDepth 20000 in
theorem gX3_leaveOut_X3_search : GoodIn wsX3_leaveOut (wsV RX3 73 RX3 yX3_search wsX3_search) := goodIn_app (goodIn_r ([.methodLink RX3 73 yX3_search, .instanceMethod yX3_search, .selects RX3 yX3_search yX3_search, .initialized RX3] : List Cond) [4, 5, 6, 7] rfl (by decide +kernel)) ggX3_leaveOut_X3_search
theorem dX3_leaveOut_0 : decode cX3_leaveOut 0 = .ok (.iconst 0, 1) := by decide +kernel
theorem dX3_leaveOut_1 : decode cX3_leaveOut 1 = .ok (.istore_n 2, 1) := by decide +kernel
theorem dX3_leaveOut_2 : decode cX3_leaveOut 2 = .ok (.iload_n 2, 1) := by decide +kernel
theorem dX3_leaveOut_3 : decode cX3_leaveOut 3 = .ok (.aload_n 0, 1) := by decide +kernel
theorem dX3_leaveOut_4 : decode cX3_leaveOut 4 = .ok (.getfield 56, 3) := by decide +kernel
theorem dX3_leaveOut_7 : decode cX3_leaveOut 7 = .ok (.if_icmp .ge 16, 3) := by decide +kernel
theorem dX3_leaveOut_10 : decode cX3_leaveOut 10 = .ok (.aload_n 0, 1) := by decide +kernel
theorem dX3_leaveOut_11 : decode cX3_leaveOut 11 = .ok (.getfield 43, 3) := by decide +kernel
theorem dX3_leaveOut_14 : decode cX3_leaveOut 14 = .ok (.iload_n 2, 1) := by decide +kernel
theorem dX3_leaveOut_15 : decode cX3_leaveOut 15 = .ok (.iconst 1, 1) := by decide +kernel
theorem dX3_leaveOut_16 : decode cX3_leaveOut 16 = .ok (.bastore, 1) := by decide +kernel
theorem dX3_leaveOut_17 : decode cX3_leaveOut 17 = .ok (.iinc 2 1, 3) := by decide +kernel
theorem dX3_leaveOut_20 : decode cX3_leaveOut 20 = .ok (.goto (-18), 3) := by decide +kernel
theorem dX3_leaveOut_23 : decode cX3_leaveOut 23 = .ok (.aload_n 0, 1) := by decide +kernel
theorem dX3_leaveOut_24 : decode cX3_leaveOut 24 = .ok (.iload_n 1, 1) := by decide +kernel
theorem dX3_leaveOut_25 : decode cX3_leaveOut 25 = .ok (.invokevirtual 73, 3) := by decide +kernel
theorem dX3_leaveOut_28 : decode cX3_leaveOut 28 = .ok (.istore_n 2, 1) := by decide +kernel
theorem dX3_leaveOut_29 : decode cX3_leaveOut 29 = .ok (.iload_n 2, 1) := by decide +kernel
theorem dX3_leaveOut_30 : decode cX3_leaveOut 30 = .ok (.ifCond .eq 17, 3) := by decide +kernel
theorem dX3_leaveOut_33 : decode cX3_leaveOut 33 = .ok (.iload_n 2, 1) := by decide +kernel
theorem dX3_leaveOut_34 : decode cX3_leaveOut 34 = .ok (.bipush (-6), 2) := by decide +kernel
theorem dX3_leaveOut_36 : decode cX3_leaveOut 36 = .ok (.if_icmp .ne 8, 3) := by decide +kernel
theorem dX3_leaveOut_39 : decode cX3_leaveOut 39 = .ok (.bipush (-6), 2) := by decide +kernel
theorem dX3_leaveOut_41 : decode cX3_leaveOut 41 = .ok (.goto 5, 3) := by decide +kernel
theorem dX3_leaveOut_44 : decode cX3_leaveOut 44 = .ok (.bipush (-7), 2) := by decide +kernel
theorem dX3_leaveOut_46 : decode cX3_leaveOut 46 = .ok (.ireturn, 1) := by decide +kernel
theorem dX3_leaveOut_47 : decode cX3_leaveOut 47 = .ok (.iconst 0, 1) := by decide +kernel
theorem dX3_leaveOut_48 : decode cX3_leaveOut 48 = .ok (.istore_n 3, 1) := by decide +kernel
theorem dX3_leaveOut_49 : decode cX3_leaveOut 49 = .ok (.iconst 0, 1) := by decide +kernel
theorem dX3_leaveOut_50 : decode cX3_leaveOut 50 = .ok (.istore 4, 2) := by decide +kernel
theorem dX3_leaveOut_52 : decode cX3_leaveOut 52 = .ok (.iload 4, 2) := by decide +kernel
theorem dX3_leaveOut_54 : decode cX3_leaveOut 54 = .ok (.aload_n 0, 1) := by decide +kernel
theorem dX3_leaveOut_55 : decode cX3_leaveOut 55 = .ok (.getfield 56, 3) := by decide +kernel
theorem dX3_leaveOut_58 : decode cX3_leaveOut 58 = .ok (.if_icmp .ge 48, 3) := by decide +kernel
theorem dX3_leaveOut_61 : decode cX3_leaveOut 61 = .ok (.aload_n 0, 1) := by decide +kernel
theorem dX3_leaveOut_62 : decode cX3_leaveOut 62 = .ok (.getfield 43, 3) := by decide +kernel
theorem dX3_leaveOut_65 : decode cX3_leaveOut 65 = .ok (.iload 4, 2) := by decide +kernel
theorem dX3_leaveOut_67 : decode cX3_leaveOut 67 = .ok (.iconst 0, 1) := by decide +kernel
theorem dX3_leaveOut_68 : decode cX3_leaveOut 68 = .ok (.bastore, 1) := by decide +kernel
theorem dX3_leaveOut_69 : decode cX3_leaveOut 69 = .ok (.aload_n 0, 1) := by decide +kernel
theorem dX3_leaveOut_70 : decode cX3_leaveOut 70 = .ok (.iload_n 1, 1) := by decide +kernel
theorem dX3_leaveOut_71 : decode cX3_leaveOut 71 = .ok (.invokevirtual 73, 3) := by decide +kernel
theorem dX3_leaveOut_74 : decode cX3_leaveOut 74 = .ok (.istore_n 2, 1) := by decide +kernel
theorem dX3_leaveOut_75 : decode cX3_leaveOut 75 = .ok (.iload_n 2, 1) := by decide +kernel
theorem dX3_leaveOut_76 : decode cX3_leaveOut 76 = .ok (.bipush (-6), 2) := by decide +kernel
theorem dX3_leaveOut_78 : decode cX3_leaveOut 78 = .ok (.if_icmp .ne 6, 3) := by decide +kernel
theorem dX3_leaveOut_81 : decode cX3_leaveOut 81 = .ok (.bipush (-6), 2) := by decide +kernel
theorem dX3_leaveOut_83 : decode cX3_leaveOut 83 = .ok (.ireturn, 1) := by decide +kernel
theorem dX3_leaveOut_84 : decode cX3_leaveOut 84 = .ok (.iload_n 2, 1) := by decide +kernel
theorem dX3_leaveOut_85 : decode cX3_leaveOut 85 = .ok (.iconst 1, 1) := by decide +kernel
theorem dX3_leaveOut_86 : decode cX3_leaveOut 86 = .ok (.if_icmp .ne 14, 3) := by decide +kernel
theorem dX3_leaveOut_89 : decode cX3_leaveOut 89 = .ok (.aload_n 0, 1) := by decide +kernel
theorem dX3_leaveOut_90 : decode cX3_leaveOut 90 = .ok (.getfield 43, 3) := by decide +kernel
theorem dX3_leaveOut_93 : decode cX3_leaveOut 93 = .ok (.iload 4, 2) := by decide +kernel
theorem dX3_leaveOut_95 : decode cX3_leaveOut 95 = .ok (.iconst 1, 1) := by decide +kernel
theorem dX3_leaveOut_96 : decode cX3_leaveOut 96 = .ok (.bastore, 1) := by decide +kernel
theorem dX3_leaveOut_97 : decode cX3_leaveOut 97 = .ok (.iinc 3 1, 3) := by decide +kernel
theorem dX3_leaveOut_100 : decode cX3_leaveOut 100 = .ok (.iinc 4 1, 3) := by decide +kernel
theorem dX3_leaveOut_103 : decode cX3_leaveOut 103 = .ok (.goto (-51), 3) := by decide +kernel
theorem dX3_leaveOut_106 : decode cX3_leaveOut 106 = .ok (.iconst 0, 1) := by decide +kernel
theorem dX3_leaveOut_107 : decode cX3_leaveOut 107 = .ok (.istore 4, 2) := by decide +kernel
theorem dX3_leaveOut_109 : decode cX3_leaveOut 109 = .ok (.iload 4, 2) := by decide +kernel
theorem dX3_leaveOut_111 : decode cX3_leaveOut 111 = .ok (.aload_n 0, 1) := by decide +kernel
theorem dX3_leaveOut_112 : decode cX3_leaveOut 112 = .ok (.getfield 56, 3) := by decide +kernel
theorem dX3_leaveOut_115 : decode cX3_leaveOut 115 = .ok (.if_icmp .ge 23, 3) := by decide +kernel
theorem dX3_leaveOut_118 : decode cX3_leaveOut 118 = .ok (.aload_n 0, 1) := by decide +kernel
theorem dX3_leaveOut_119 : decode cX3_leaveOut 119 = .ok (.getfield 47, 3) := by decide +kernel
theorem dX3_leaveOut_122 : decode cX3_leaveOut 122 = .ok (.iload 4, 2) := by decide +kernel
theorem dX3_leaveOut_124 : decode cX3_leaveOut 124 = .ok (.aload_n 0, 1) := by decide +kernel
theorem dX3_leaveOut_125 : decode cX3_leaveOut 125 = .ok (.getfield 43, 3) := by decide +kernel
theorem dX3_leaveOut_128 : decode cX3_leaveOut 128 = .ok (.iload 4, 2) := by decide +kernel
theorem dX3_leaveOut_130 : decode cX3_leaveOut 130 = .ok (.baload, 1) := by decide +kernel
theorem dX3_leaveOut_131 : decode cX3_leaveOut 131 = .ok (.bastore, 1) := by decide +kernel
theorem dX3_leaveOut_132 : decode cX3_leaveOut 132 = .ok (.iinc 4 1, 3) := by decide +kernel
theorem dX3_leaveOut_135 : decode cX3_leaveOut 135 = .ok (.goto (-26), 3) := by decide +kernel
theorem dX3_leaveOut_138 : decode cX3_leaveOut 138 = .ok (.iload_n 3, 1) := by decide +kernel
theorem dX3_leaveOut_139 : decode cX3_leaveOut 139 = .ok (.ireturn, 1) := by decide +kernel
theorem dX3_leftFrom_0 : decode cX3_leftFrom 0 = .ok (.iconst 0, 1) := by decide +kernel
theorem dX3_leftFrom_1 : decode cX3_leftFrom 1 = .ok (.istore_n 2, 1) := by decide +kernel
theorem dX3_leftFrom_2 : decode cX3_leftFrom 2 = .ok (.iconst 0, 1) := by decide +kernel
theorem dX3_leftFrom_3 : decode cX3_leftFrom 3 = .ok (.istore_n 3, 1) := by decide +kernel
theorem dX3_leftFrom_4 : decode cX3_leftFrom 4 = .ok (.iload_n 3, 1) := by decide +kernel
theorem dX3_leftFrom_5 : decode cX3_leftFrom 5 = .ok (.bipush 30, 2) := by decide +kernel
theorem dX3_leftFrom_7 : decode cX3_leftFrom 7 = .ok (.if_icmp .ge 35, 3) := by decide +kernel
theorem dX3_leftFrom_10 : decode cX3_leftFrom 10 = .ok (.iload_n 1, 1) := by decide +kernel
theorem dX3_leftFrom_11 : decode cX3_leftFrom 11 = .ok (.iload_n 3, 1) := by decide +kernel
theorem dX3_leftFrom_12 : decode cX3_leftFrom 12 = .ok (.iadd, 1) := by decide +kernel
theorem dX3_leftFrom_13 : decode cX3_leftFrom 13 = .ok (.sipush 128, 3) := by decide +kernel
theorem dX3_leftFrom_16 : decode cX3_leftFrom 16 = .ok (.if_icmp .ge 26, 3) := by decide +kernel
theorem dX3_leftFrom_19 : decode cX3_leftFrom 19 = .ok (.aload_n 0, 1) := by decide +kernel
theorem dX3_leftFrom_20 : decode cX3_leftFrom 20 = .ok (.getfield 47, 3) := by decide +kernel
theorem dX3_leftFrom_23 : decode cX3_leftFrom 23 = .ok (.iload_n 1, 1) := by decide +kernel
theorem dX3_leftFrom_24 : decode cX3_leftFrom 24 = .ok (.iload_n 3, 1) := by decide +kernel
theorem dX3_leftFrom_25 : decode cX3_leftFrom 25 = .ok (.iadd, 1) := by decide +kernel
theorem dX3_leftFrom_26 : decode cX3_leftFrom 26 = .ok (.baload, 1) := by decide +kernel
theorem dX3_leftFrom_27 : decode cX3_leftFrom 27 = .ok (.ifCond .eq 9, 3) := by decide +kernel
theorem dX3_leftFrom_30 : decode cX3_leftFrom 30 = .ok (.iload_n 2, 1) := by decide +kernel
theorem dX3_leftFrom_31 : decode cX3_leftFrom 31 = .ok (.iconst 1, 1) := by decide +kernel
theorem dX3_leftFrom_32 : decode cX3_leftFrom 32 = .ok (.iload_n 3, 1) := by decide +kernel
theorem dX3_leftFrom_33 : decode cX3_leftFrom 33 = .ok (.ishl, 1) := by decide +kernel
theorem dX3_leftFrom_34 : decode cX3_leftFrom 34 = .ok (.ior, 1) := by decide +kernel
theorem dX3_leftFrom_35 : decode cX3_leftFrom 35 = .ok (.istore_n 2, 1) := by decide +kernel
theorem dX3_leftFrom_36 : decode cX3_leftFrom 36 = .ok (.iinc 3 1, 3) := by decide +kernel
theorem dX3_leftFrom_39 : decode cX3_leftFrom 39 = .ok (.goto (-35), 3) := by decide +kernel
theorem dX3_leftFrom_42 : decode cX3_leftFrom 42 = .ok (.iload_n 2, 1) := by decide +kernel
theorem dX3_leftFrom_43 : decode cX3_leftFrom 43 = .ok (.ireturn, 1) := by decide +kernel
set_option maxRecDepth 20000 in
theorem ggX3_search_X3_listSearched : GoodIn wsX3_search wsX3_listSearched := goodIn_r _ [7, 8, 9, 1, 2, 10, 11, 33, 34, 35, 36, 37, 38, 39, 40, 41, 42, 43, 44, 45] rfl (by decide +kernel)
set_option maxRecDepth 20000 in
theorem gX3_search_X3_listSearched : GoodIn wsX3_search (wsV RX3 76 RX3 yX3_listSearched wsX3_listSearched) := goodIn_app (goodIn_r ([.methodLink RX3 76 yX3_listSearched, .instanceMethod yX3_listSearched, .selects RX3 yX3_listSearched yX3_listSearched, .initialized RX3] : List Cond) [3, 4, 5, 6] rfl (by decide +kernel)) ggX3_search_X3_listSearched
set_option maxRecDepth 20000 in
theorem ggX3_search_X3_nextAllowed : GoodIn wsX3_search wsX3_nextAllowed := goodIn_r _ [15, 16, 33, 34, 35, 36, 37, 38, 39, 40, 41, 42, 43, 44, 45] rfl (by decide +kernel)
set_option maxRecDepth 20000 in
theorem gX3_search_X3_nextAllowed : GoodIn wsX3_search (wsV RX3 80 RX3 yX3_nextAllowed wsX3_nextAllowed) := goodIn_app (goodIn_r ([.methodLink RX3 80 yX3_nextAllowed, .instanceMethod yX3_nextAllowed, .selects RX3 yX3_nextAllowed yX3_nextAllowed, .initialized RX3] : List Cond) [12, 13, 14, 6] rfl (by decide +kernel)) ggX3_search_X3_nextAllowed
set_option maxRecDepth 20000 in
theorem ggX3_search_X3_differs : GoodIn wsX3_search wsX3_differs := goodIn_r _ [20, 21, 10, 22, 11, 33, 34, 35, 36, 37, 38, 39, 40, 41, 42, 43, 44, 45] rfl (by decide +kernel)
set_option maxRecDepth 20000 in
theorem gX3_search_X3_differs : GoodIn wsX3_search (wsV RX3 83 RX3 yX3_differs wsX3_differs) := goodIn_app (goodIn_r ([.methodLink RX3 83 yX3_differs, .instanceMethod yX3_differs, .selects RX3 yX3_differs yX3_differs, .initialized RX3] : List Cond) [17, 18, 19, 6] rfl (by decide +kernel)) ggX3_search_X3_differs
set_option maxRecDepth 20000 in
theorem ggX3_search_X3_paint : GoodIn wsX3_search wsX3_paint := goodIn_r _ [26, 27, 10, 11, 33, 34, 35, 36, 37, 38, 39, 40, 41, 42, 43, 44, 45] rfl (by decide +kernel)
set_option maxRecDepth 20000 in
theorem gX3_search_X3_paint : GoodIn wsX3_search (wsV RX3 87 RX3 yX3_paint wsX3_paint) := goodIn_app (goodIn_r ([.methodLink RX3 87 yX3_paint, .instanceMethod yX3_paint, .selects RX3 yX3_paint yX3_paint, .initialized RX3] : List Cond) [23, 24, 25, 6] rfl (by decide +kernel)) ggX3_search_X3_paint
set_option maxRecDepth 20000 in
theorem ggX3_search_X3_unpaint : GoodIn wsX3_search wsX3_unpaint := goodIn_r _ [31, 27, 10, 32, 11, 33, 34, 35, 36, 37, 38, 39, 40, 41, 42, 43, 44, 45] rfl (by decide +kernel)
set_option maxRecDepth 20000 in
theorem gX3_search_X3_unpaint : GoodIn wsX3_search (wsV RX3 90 RX3 yX3_unpaint wsX3_unpaint) := goodIn_app (goodIn_r ([.methodLink RX3 90 yX3_unpaint, .instanceMethod yX3_unpaint, .selects RX3 yX3_unpaint yX3_unpaint, .initialized RX3] : List Cond) [28, 29, 30, 6] rfl (by decide +kernel)) ggX3_search_X3_unpaint
theorem dX3_search_0 : decode cX3_search 0 = .ok (.aload_n 0, 1) := by decide +kernel
theorem dX3_search_1 : decode cX3_search 1 = .ok (.invokevirtual 76, 3) := by decide +kernel
theorem dX3_search_4 : decode cX3_search 4 = .ok (.istore_n 2, 1) := by decide +kernel
theorem dX3_search_5 : decode cX3_search 5 = .ok (.iconst 0, 1) := by decide +kernel
theorem dX3_search_6 : decode cX3_search 6 = .ok (.istore_n 3, 1) := by decide +kernel
theorem dX3_search_7 : decode cX3_search 7 = .ok (.iconst 0, 1) := by decide +kernel
theorem dX3_search_8 : decode cX3_search 8 = .ok (.istore 4, 2) := by decide +kernel
theorem dX3_search_10 : decode cX3_search 10 = .ok (.iconst 0, 1) := by decide +kernel
theorem dX3_search_11 : decode cX3_search 11 = .ok (.istore 5, 2) := by decide +kernel
theorem dX3_search_13 : decode cX3_search 13 = .ok (.iload 5, 2) := by decide +kernel
theorem dX3_search_15 : decode cX3_search 15 = .ok (.iconst 2, 1) := by decide +kernel
theorem dX3_search_16 : decode cX3_search 16 = .ok (.iload_n 1, 1) := by decide +kernel
theorem dX3_search_17 : decode cX3_search 17 = .ok (.imul, 1) := by decide +kernel
theorem dX3_search_18 : decode cX3_search 18 = .ok (.iconst 3, 1) := by decide +kernel
theorem dX3_search_19 : decode cX3_search 19 = .ok (.iadd, 1) := by decide +kernel
theorem dX3_search_20 : decode cX3_search 20 = .ok (.if_icmp .ge 116, 3) := by decide +kernel
theorem dX3_search_23 : decode cX3_search 23 = .ok (.iload_n 3, 1) := by decide +kernel
theorem dX3_search_24 : decode cX3_search 24 = .ok (.iload_n 2, 1) := by decide +kernel
theorem dX3_search_25 : decode cX3_search 25 = .ok (.if_icmp .ge 111, 3) := by decide +kernel
theorem dX3_search_28 : decode cX3_search 28 = .ok (.aload_n 0, 1) := by decide +kernel
theorem dX3_search_29 : decode cX3_search 29 = .ok (.getfield 34, 3) := by decide +kernel
theorem dX3_search_32 : decode cX3_search 32 = .ok (.iload_n 3, 1) := by decide +kernel
theorem dX3_search_33 : decode cX3_search 33 = .ok (.iaload, 1) := by decide +kernel
theorem dX3_search_34 : decode cX3_search 34 = .ok (.istore 6, 2) := by decide +kernel
theorem dX3_search_36 : decode cX3_search 36 = .ok (.aload_n 0, 1) := by decide +kernel
theorem dX3_search_37 : decode cX3_search 37 = .ok (.iload 6, 2) := by decide +kernel
theorem dX3_search_39 : decode cX3_search 39 = .ok (.aload_n 0, 1) := by decide +kernel
theorem dX3_search_40 : decode cX3_search 40 = .ok (.getfield 40, 3) := by decide +kernel
theorem dX3_search_43 : decode cX3_search 43 = .ok (.iload_n 3, 1) := by decide +kernel
theorem dX3_search_44 : decode cX3_search 44 = .ok (.iaload, 1) := by decide +kernel
theorem dX3_search_45 : decode cX3_search 45 = .ok (.invokevirtual 80, 3) := by decide +kernel
theorem dX3_search_48 : decode cX3_search 48 = .ok (.istore 7, 2) := by decide +kernel
theorem dX3_search_50 : decode cX3_search 50 = .ok (.iload 7, 2) := by decide +kernel
theorem dX3_search_52 : decode cX3_search 52 = .ok (.bipush 8, 2) := by decide +kernel
theorem dX3_search_54 : decode cX3_search 54 = .ok (.if_icmp .ge 50, 3) := by decide +kernel
theorem dX3_search_57 : decode cX3_search 57 = .ok (.iload 4, 2) := by decide +kernel
theorem dX3_search_59 : decode cX3_search 59 = .ok (.iload_n 1, 1) := by decide +kernel
theorem dX3_search_60 : decode cX3_search 60 = .ok (.if_icmp .lt 6, 3) := by decide +kernel
theorem dX3_search_63 : decode cX3_search 63 = .ok (.bipush (-6), 2) := by decide +kernel
theorem dX3_search_65 : decode cX3_search 65 = .ok (.ireturn, 1) := by decide +kernel
theorem dX3_search_66 : decode cX3_search 66 = .ok (.iinc 4 1, 3) := by decide +kernel
theorem dX3_search_69 : decode cX3_search 69 = .ok (.aload_n 0, 1) := by decide +kernel
theorem dX3_search_70 : decode cX3_search 70 = .ok (.getfield 40, 3) := by decide +kernel
theorem dX3_search_73 : decode cX3_search 73 = .ok (.iload_n 3, 1) := by decide +kernel
theorem dX3_search_74 : decode cX3_search 74 = .ok (.iload 7, 2) := by decide +kernel
theorem dX3_search_76 : decode cX3_search 76 = .ok (.iconst 1, 1) := by decide +kernel
theorem dX3_search_77 : decode cX3_search 77 = .ok (.iadd, 1) := by decide +kernel
theorem dX3_search_78 : decode cX3_search 78 = .ok (.iastore, 1) := by decide +kernel
theorem dX3_search_79 : decode cX3_search 79 = .ok (.aload_n 0, 1) := by decide +kernel
theorem dX3_search_80 : decode cX3_search 80 = .ok (.iload 6, 2) := by decide +kernel
theorem dX3_search_82 : decode cX3_search 82 = .ok (.iload 7, 2) := by decide +kernel
theorem dX3_search_84 : decode cX3_search 84 = .ok (.invokevirtual 83, 3) := by decide +kernel
theorem dX3_search_87 : decode cX3_search 87 = .ok (.ifCond .eq 43, 3) := by decide +kernel
theorem dX3_search_90 : decode cX3_search 90 = .ok (.aload_n 0, 1) := by decide +kernel
theorem dX3_search_91 : decode cX3_search 91 = .ok (.iload 6, 2) := by decide +kernel
theorem dX3_search_93 : decode cX3_search 93 = .ok (.iload 7, 2) := by decide +kernel
theorem dX3_search_95 : decode cX3_search 95 = .ok (.invokevirtual 87, 3) := by decide +kernel
theorem dX3_search_98 : decode cX3_search 98 = .ok (.iinc 3 1, 3) := by decide +kernel
theorem dX3_search_101 : decode cX3_search 101 = .ok (.goto 29, 3) := by decide +kernel
theorem dX3_search_104 : decode cX3_search 104 = .ok (.iload_n 3, 1) := by decide +kernel
theorem dX3_search_105 : decode cX3_search 105 = .ok (.ifCond .ne 5, 3) := by decide +kernel
theorem dX3_search_108 : decode cX3_search 108 = .ok (.iconst 0, 1) := by decide +kernel
theorem dX3_search_109 : decode cX3_search 109 = .ok (.ireturn, 1) := by decide +kernel
theorem dX3_search_110 : decode cX3_search 110 = .ok (.aload_n 0, 1) := by decide +kernel
theorem dX3_search_111 : decode cX3_search 111 = .ok (.getfield 40, 3) := by decide +kernel
theorem dX3_search_114 : decode cX3_search 114 = .ok (.iload_n 3, 1) := by decide +kernel
theorem dX3_search_115 : decode cX3_search 115 = .ok (.iconst 0, 1) := by decide +kernel
theorem dX3_search_116 : decode cX3_search 116 = .ok (.iastore, 1) := by decide +kernel
theorem dX3_search_117 : decode cX3_search 117 = .ok (.iinc 3 (-1), 3) := by decide +kernel
theorem dX3_search_120 : decode cX3_search 120 = .ok (.aload_n 0, 1) := by decide +kernel
theorem dX3_search_121 : decode cX3_search 121 = .ok (.aload_n 0, 1) := by decide +kernel
theorem dX3_search_122 : decode cX3_search 122 = .ok (.getfield 34, 3) := by decide +kernel
theorem dX3_search_125 : decode cX3_search 125 = .ok (.iload_n 3, 1) := by decide +kernel
theorem dX3_search_126 : decode cX3_search 126 = .ok (.iaload, 1) := by decide +kernel
theorem dX3_search_127 : decode cX3_search 127 = .ok (.invokevirtual 90, 3) := by decide +kernel
theorem dX3_search_130 : decode cX3_search 130 = .ok (.iinc 5 1, 3) := by decide +kernel
theorem dX3_search_133 : decode cX3_search 133 = .ok (.goto (-120), 3) := by decide +kernel
theorem dX3_search_136 : decode cX3_search 136 = .ok (.iload_n 3, 1) := by decide +kernel
theorem dX3_search_137 : decode cX3_search 137 = .ok (.iload_n 2, 1) := by decide +kernel
theorem dX3_search_138 : decode cX3_search 138 = .ok (.if_icmp .ge 8, 3) := by decide +kernel
theorem dX3_search_141 : decode cX3_search 141 = .ok (.bipush (-6), 2) := by decide +kernel
theorem dX3_search_143 : decode cX3_search 143 = .ok (.goto 4, 3) := by decide +kernel
theorem dX3_search_146 : decode cX3_search 146 = .ok (.iconst 1, 1) := by decide +kernel
theorem dX3_search_147 : decode cX3_search 147 = .ok (.ireturn, 1) := by decide +kernel
theorem dX3_listSearched_0 : decode cX3_listSearched 0 = .ok (.iconst 0, 1) := by decide +kernel
theorem dX3_listSearched_1 : decode cX3_listSearched 1 = .ok (.istore_n 1, 1) := by decide +kernel
theorem dX3_listSearched_2 : decode cX3_listSearched 2 = .ok (.iconst 0, 1) := by decide +kernel
theorem dX3_listSearched_3 : decode cX3_listSearched 3 = .ok (.istore_n 2, 1) := by decide +kernel
theorem dX3_listSearched_4 : decode cX3_listSearched 4 = .ok (.iload_n 2, 1) := by decide +kernel
theorem dX3_listSearched_5 : decode cX3_listSearched 5 = .ok (.aload_n 0, 1) := by decide +kernel
theorem dX3_listSearched_6 : decode cX3_listSearched 6 = .ok (.getfield 56, 3) := by decide +kernel
theorem dX3_listSearched_9 : decode cX3_listSearched 9 = .ok (.if_icmp .ge 35, 3) := by decide +kernel
theorem dX3_listSearched_12 : decode cX3_listSearched 12 = .ok (.aload_n 0, 1) := by decide +kernel
theorem dX3_listSearched_13 : decode cX3_listSearched 13 = .ok (.getfield 43, 3) := by decide +kernel
theorem dX3_listSearched_16 : decode cX3_listSearched 16 = .ok (.iload_n 2, 1) := by decide +kernel
theorem dX3_listSearched_17 : decode cX3_listSearched 17 = .ok (.baload, 1) := by decide +kernel
theorem dX3_listSearched_18 : decode cX3_listSearched 18 = .ok (.ifCond .eq 20, 3) := by decide +kernel
theorem dX3_listSearched_21 : decode cX3_listSearched 21 = .ok (.aload_n 0, 1) := by decide +kernel
theorem dX3_listSearched_22 : decode cX3_listSearched 22 = .ok (.getfield 34, 3) := by decide +kernel
theorem dX3_listSearched_25 : decode cX3_listSearched 25 = .ok (.iload_n 1, 1) := by decide +kernel
theorem dX3_listSearched_26 : decode cX3_listSearched 26 = .ok (.iload_n 2, 1) := by decide +kernel
theorem dX3_listSearched_27 : decode cX3_listSearched 27 = .ok (.iastore, 1) := by decide +kernel
theorem dX3_listSearched_28 : decode cX3_listSearched 28 = .ok (.aload_n 0, 1) := by decide +kernel
theorem dX3_listSearched_29 : decode cX3_listSearched 29 = .ok (.getfield 40, 3) := by decide +kernel
theorem dX3_listSearched_32 : decode cX3_listSearched 32 = .ok (.iload_n 1, 1) := by decide +kernel
theorem dX3_listSearched_33 : decode cX3_listSearched 33 = .ok (.iconst 0, 1) := by decide +kernel
theorem dX3_listSearched_34 : decode cX3_listSearched 34 = .ok (.iastore, 1) := by decide +kernel
theorem dX3_listSearched_35 : decode cX3_listSearched 35 = .ok (.iinc 1 1, 3) := by decide +kernel
theorem dX3_listSearched_38 : decode cX3_listSearched 38 = .ok (.iinc 2 1, 3) := by decide +kernel
theorem dX3_listSearched_41 : decode cX3_listSearched 41 = .ok (.goto (-37), 3) := by decide +kernel
theorem dX3_listSearched_44 : decode cX3_listSearched 44 = .ok (.iconst 0, 1) := by decide +kernel
theorem dX3_listSearched_45 : decode cX3_listSearched 45 = .ok (.istore_n 2, 1) := by decide +kernel
theorem dX3_listSearched_46 : decode cX3_listSearched 46 = .ok (.iload_n 2, 1) := by decide +kernel
theorem dX3_listSearched_47 : decode cX3_listSearched 47 = .ok (.bipush 8, 2) := by decide +kernel
theorem dX3_listSearched_49 : decode cX3_listSearched 49 = .ok (.if_icmp .ge 23, 3) := by decide +kernel
theorem dX3_listSearched_52 : decode cX3_listSearched 52 = .ok (.aload_n 0, 1) := by decide +kernel
theorem dX3_listSearched_53 : decode cX3_listSearched 53 = .ok (.getfield 28, 3) := by decide +kernel
theorem dX3_listSearched_56 : decode cX3_listSearched 56 = .ok (.iload_n 2, 1) := by decide +kernel
theorem dX3_listSearched_57 : decode cX3_listSearched 57 = .ok (.lconst 0, 1) := by decide +kernel
theorem dX3_listSearched_58 : decode cX3_listSearched 58 = .ok (.lastore, 1) := by decide +kernel
theorem dX3_listSearched_59 : decode cX3_listSearched 59 = .ok (.aload_n 0, 1) := by decide +kernel
theorem dX3_listSearched_60 : decode cX3_listSearched 60 = .ok (.getfield 31, 3) := by decide +kernel
theorem dX3_listSearched_63 : decode cX3_listSearched 63 = .ok (.iload_n 2, 1) := by decide +kernel
theorem dX3_listSearched_64 : decode cX3_listSearched 64 = .ok (.lconst 0, 1) := by decide +kernel
theorem dX3_listSearched_65 : decode cX3_listSearched 65 = .ok (.lastore, 1) := by decide +kernel
theorem dX3_listSearched_66 : decode cX3_listSearched 66 = .ok (.iinc 2 1, 3) := by decide +kernel
theorem dX3_listSearched_69 : decode cX3_listSearched 69 = .ok (.goto (-23), 3) := by decide +kernel
theorem dX3_listSearched_72 : decode cX3_listSearched 72 = .ok (.iload_n 1, 1) := by decide +kernel
theorem dX3_listSearched_73 : decode cX3_listSearched 73 = .ok (.ireturn, 1) := by decide +kernel
theorem dX3_nextAllowed_0 : decode cX3_nextAllowed 0 = .ok (.iload_n 2, 1) := by decide +kernel
theorem dX3_nextAllowed_1 : decode cX3_nextAllowed 1 = .ok (.istore_n 3, 1) := by decide +kernel
theorem dX3_nextAllowed_2 : decode cX3_nextAllowed 2 = .ok (.iload_n 3, 1) := by decide +kernel
theorem dX3_nextAllowed_3 : decode cX3_nextAllowed 3 = .ok (.bipush 8, 2) := by decide +kernel
theorem dX3_nextAllowed_5 : decode cX3_nextAllowed 5 = .ok (.if_icmp .ge 24, 3) := by decide +kernel
theorem dX3_nextAllowed_8 : decode cX3_nextAllowed 8 = .ok (.aload_n 0, 1) := by decide +kernel
theorem dX3_nextAllowed_9 : decode cX3_nextAllowed 9 = .ok (.getfield 15, 3) := by decide +kernel
theorem dX3_nextAllowed_12 : decode cX3_nextAllowed 12 = .ok (.iload_n 1, 1) := by decide +kernel
theorem dX3_nextAllowed_13 : decode cX3_nextAllowed 13 = .ok (.iaload, 1) := by decide +kernel
theorem dX3_nextAllowed_14 : decode cX3_nextAllowed 14 = .ok (.iload_n 3, 1) := by decide +kernel
theorem dX3_nextAllowed_15 : decode cX3_nextAllowed 15 = .ok (.ishr, 1) := by decide +kernel
theorem dX3_nextAllowed_16 : decode cX3_nextAllowed 16 = .ok (.iconst 1, 1) := by decide +kernel
theorem dX3_nextAllowed_17 : decode cX3_nextAllowed 17 = .ok (.iand, 1) := by decide +kernel
theorem dX3_nextAllowed_18 : decode cX3_nextAllowed 18 = .ok (.ifCond .eq 5, 3) := by decide +kernel
theorem dX3_nextAllowed_21 : decode cX3_nextAllowed 21 = .ok (.iload_n 3, 1) := by decide +kernel
theorem dX3_nextAllowed_22 : decode cX3_nextAllowed 22 = .ok (.ireturn, 1) := by decide +kernel
theorem dX3_nextAllowed_23 : decode cX3_nextAllowed 23 = .ok (.iinc 3 1, 3) := by decide +kernel
theorem dX3_nextAllowed_26 : decode cX3_nextAllowed 26 = .ok (.goto (-24), 3) := by decide +kernel
theorem dX3_nextAllowed_29 : decode cX3_nextAllowed 29 = .ok (.bipush 8, 2) := by decide +kernel
theorem dX3_nextAllowed_31 : decode cX3_nextAllowed 31 = .ok (.ireturn, 1) := by decide +kernel
theorem dX3_differs_0 : decode cX3_differs 0 = .ok (.aload_n 0, 1) := by decide +kernel
theorem dX3_differs_1 : decode cX3_differs 1 = .ok (.getfield 21, 3) := by decide +kernel
theorem dX3_differs_4 : decode cX3_differs 4 = .ok (.iload_n 1, 1) := by decide +kernel
theorem dX3_differs_5 : decode cX3_differs 5 = .ok (.laload, 1) := by decide +kernel
theorem dX3_differs_6 : decode cX3_differs 6 = .ok (.aload_n 0, 1) := by decide +kernel
theorem dX3_differs_7 : decode cX3_differs 7 = .ok (.getfield 28, 3) := by decide +kernel
theorem dX3_differs_10 : decode cX3_differs 10 = .ok (.iload_n 2, 1) := by decide +kernel
theorem dX3_differs_11 : decode cX3_differs 11 = .ok (.laload, 1) := by decide +kernel
theorem dX3_differs_12 : decode cX3_differs 12 = .ok (.land, 1) := by decide +kernel
theorem dX3_differs_13 : decode cX3_differs 13 = .ok (.aload_n 0, 1) := by decide +kernel
theorem dX3_differs_14 : decode cX3_differs 14 = .ok (.getfield 25, 3) := by decide +kernel
theorem dX3_differs_17 : decode cX3_differs 17 = .ok (.iload_n 1, 1) := by decide +kernel
theorem dX3_differs_18 : decode cX3_differs 18 = .ok (.laload, 1) := by decide +kernel
theorem dX3_differs_19 : decode cX3_differs 19 = .ok (.aload_n 0, 1) := by decide +kernel
theorem dX3_differs_20 : decode cX3_differs 20 = .ok (.getfield 31, 3) := by decide +kernel
theorem dX3_differs_23 : decode cX3_differs 23 = .ok (.iload_n 2, 1) := by decide +kernel
theorem dX3_differs_24 : decode cX3_differs 24 = .ok (.laload, 1) := by decide +kernel
theorem dX3_differs_25 : decode cX3_differs 25 = .ok (.land, 1) := by decide +kernel
theorem dX3_differs_26 : decode cX3_differs 26 = .ok (.lor, 1) := by decide +kernel
theorem dX3_differs_27 : decode cX3_differs 27 = .ok (.lconst 0, 1) := by decide +kernel
theorem dX3_differs_28 : decode cX3_differs 28 = .ok (.lcmp, 1) := by decide +kernel
theorem dX3_differs_29 : decode cX3_differs 29 = .ok (.ifCond .ne 7, 3) := by decide +kernel
theorem dX3_differs_32 : decode cX3_differs 32 = .ok (.iconst 1, 1) := by decide +kernel
theorem dX3_differs_33 : decode cX3_differs 33 = .ok (.goto 4, 3) := by decide +kernel
theorem dX3_differs_36 : decode cX3_differs 36 = .ok (.iconst 0, 1) := by decide +kernel
theorem dX3_differs_37 : decode cX3_differs 37 = .ok (.ireturn, 1) := by decide +kernel
theorem dX3_paint_0 : decode cX3_paint 0 = .ok (.aload_n 0, 1) := by decide +kernel
theorem dX3_paint_1 : decode cX3_paint 1 = .ok (.getfield 37, 3) := by decide +kernel
theorem dX3_paint_4 : decode cX3_paint 4 = .ok (.iload_n 1, 1) := by decide +kernel
theorem dX3_paint_5 : decode cX3_paint 5 = .ok (.iload_n 2, 1) := by decide +kernel
theorem dX3_paint_6 : decode cX3_paint 6 = .ok (.iastore, 1) := by decide +kernel
theorem dX3_paint_7 : decode cX3_paint 7 = .ok (.iload_n 1, 1) := by decide +kernel
theorem dX3_paint_8 : decode cX3_paint 8 = .ok (.bipush 64, 2) := by decide +kernel
theorem dX3_paint_10 : decode cX3_paint 10 = .ok (.if_icmp .ge 18, 3) := by decide +kernel
theorem dX3_paint_13 : decode cX3_paint 13 = .ok (.aload_n 0, 1) := by decide +kernel
theorem dX3_paint_14 : decode cX3_paint 14 = .ok (.getfield 28, 3) := by decide +kernel
theorem dX3_paint_17 : decode cX3_paint 17 = .ok (.iload_n 2, 1) := by decide +kernel
theorem dX3_paint_18 : decode cX3_paint 18 = .ok (.dup2, 1) := by decide +kernel
theorem dX3_paint_19 : decode cX3_paint 19 = .ok (.laload, 1) := by decide +kernel
theorem dX3_paint_20 : decode cX3_paint 20 = .ok (.lconst 1, 1) := by decide +kernel
theorem dX3_paint_21 : decode cX3_paint 21 = .ok (.iload_n 1, 1) := by decide +kernel
theorem dX3_paint_22 : decode cX3_paint 22 = .ok (.lshl, 1) := by decide +kernel
theorem dX3_paint_23 : decode cX3_paint 23 = .ok (.lor, 1) := by decide +kernel
theorem dX3_paint_24 : decode cX3_paint 24 = .ok (.lastore, 1) := by decide +kernel
theorem dX3_paint_25 : decode cX3_paint 25 = .ok (.goto 18, 3) := by decide +kernel
theorem dX3_paint_28 : decode cX3_paint 28 = .ok (.aload_n 0, 1) := by decide +kernel
theorem dX3_paint_29 : decode cX3_paint 29 = .ok (.getfield 31, 3) := by decide +kernel
theorem dX3_paint_32 : decode cX3_paint 32 = .ok (.iload_n 2, 1) := by decide +kernel
theorem dX3_paint_33 : decode cX3_paint 33 = .ok (.dup2, 1) := by decide +kernel
theorem dX3_paint_34 : decode cX3_paint 34 = .ok (.laload, 1) := by decide +kernel
theorem dX3_paint_35 : decode cX3_paint 35 = .ok (.lconst 1, 1) := by decide +kernel
theorem dX3_paint_36 : decode cX3_paint 36 = .ok (.iload_n 1, 1) := by decide +kernel
theorem dX3_paint_37 : decode cX3_paint 37 = .ok (.bipush 64, 2) := by decide +kernel
theorem dX3_paint_39 : decode cX3_paint 39 = .ok (.isub, 1) := by decide +kernel
theorem dX3_paint_40 : decode cX3_paint 40 = .ok (.lshl, 1) := by decide +kernel
theorem dX3_paint_41 : decode cX3_paint 41 = .ok (.lor, 1) := by decide +kernel
theorem dX3_paint_42 : decode cX3_paint 42 = .ok (.lastore, 1) := by decide +kernel
theorem dX3_paint_43 : decode cX3_paint 43 = .ok (.return_, 1) := by decide +kernel
theorem dX3_unpaint_0 : decode cX3_unpaint 0 = .ok (.aload_n 0, 1) := by decide +kernel
theorem dX3_unpaint_1 : decode cX3_unpaint 1 = .ok (.getfield 37, 3) := by decide +kernel
theorem dX3_unpaint_4 : decode cX3_unpaint 4 = .ok (.iload_n 1, 1) := by decide +kernel
theorem dX3_unpaint_5 : decode cX3_unpaint 5 = .ok (.iaload, 1) := by decide +kernel
theorem dX3_unpaint_6 : decode cX3_unpaint 6 = .ok (.istore_n 2, 1) := by decide +kernel
theorem dX3_unpaint_7 : decode cX3_unpaint 7 = .ok (.iload_n 1, 1) := by decide +kernel
theorem dX3_unpaint_8 : decode cX3_unpaint 8 = .ok (.bipush 64, 2) := by decide +kernel
theorem dX3_unpaint_10 : decode cX3_unpaint 10 = .ok (.if_icmp .ge 22, 3) := by decide +kernel
theorem dX3_unpaint_13 : decode cX3_unpaint 13 = .ok (.aload_n 0, 1) := by decide +kernel
theorem dX3_unpaint_14 : decode cX3_unpaint 14 = .ok (.getfield 28, 3) := by decide +kernel
theorem dX3_unpaint_17 : decode cX3_unpaint 17 = .ok (.iload_n 2, 1) := by decide +kernel
theorem dX3_unpaint_18 : decode cX3_unpaint 18 = .ok (.dup2, 1) := by decide +kernel
theorem dX3_unpaint_19 : decode cX3_unpaint 19 = .ok (.laload, 1) := by decide +kernel
theorem dX3_unpaint_20 : decode cX3_unpaint 20 = .ok (.lconst 1, 1) := by decide +kernel
theorem dX3_unpaint_21 : decode cX3_unpaint 21 = .ok (.iload_n 1, 1) := by decide +kernel
theorem dX3_unpaint_22 : decode cX3_unpaint 22 = .ok (.lshl, 1) := by decide +kernel
theorem dX3_unpaint_23 : decode cX3_unpaint 23 = .ok (.ldc2_w 94, 3) := by decide +kernel
theorem dX3_unpaint_26 : decode cX3_unpaint 26 = .ok (.lxor, 1) := by decide +kernel
theorem dX3_unpaint_27 : decode cX3_unpaint 27 = .ok (.land, 1) := by decide +kernel
theorem dX3_unpaint_28 : decode cX3_unpaint 28 = .ok (.lastore, 1) := by decide +kernel
theorem dX3_unpaint_29 : decode cX3_unpaint 29 = .ok (.goto 22, 3) := by decide +kernel
theorem dX3_unpaint_32 : decode cX3_unpaint 32 = .ok (.aload_n 0, 1) := by decide +kernel
theorem dX3_unpaint_33 : decode cX3_unpaint 33 = .ok (.getfield 31, 3) := by decide +kernel
theorem dX3_unpaint_36 : decode cX3_unpaint 36 = .ok (.iload_n 2, 1) := by decide +kernel
theorem dX3_unpaint_37 : decode cX3_unpaint 37 = .ok (.dup2, 1) := by decide +kernel
theorem dX3_unpaint_38 : decode cX3_unpaint 38 = .ok (.laload, 1) := by decide +kernel
theorem dX3_unpaint_39 : decode cX3_unpaint 39 = .ok (.lconst 1, 1) := by decide +kernel
theorem dX3_unpaint_40 : decode cX3_unpaint 40 = .ok (.iload_n 1, 1) := by decide +kernel
theorem dX3_unpaint_41 : decode cX3_unpaint 41 = .ok (.bipush 64, 2) := by decide +kernel
theorem dX3_unpaint_43 : decode cX3_unpaint 43 = .ok (.isub, 1) := by decide +kernel
theorem dX3_unpaint_44 : decode cX3_unpaint 44 = .ok (.lshl, 1) := by decide +kernel
theorem dX3_unpaint_45 : decode cX3_unpaint 45 = .ok (.ldc2_w 94, 3) := by decide +kernel
theorem dX3_unpaint_48 : decode cX3_unpaint 48 = .ok (.lxor, 1) := by decide +kernel
theorem dX3_unpaint_49 : decode cX3_unpaint 49 = .ok (.land, 1) := by decide +kernel
theorem dX3_unpaint_50 : decode cX3_unpaint 50 = .ok (.lastore, 1) := by decide +kernel
theorem dX3_unpaint_51 : decode cX3_unpaint 51 = .ok (.return_, 1) := by decide +kernel
