theorem dX10_init_0 : decode cX10_init 0 = .ok (.aload_n 0, 1) := by decide +kernel
theorem dX10_init_1 : decode cX10_init 1 = .ok (.invokespecial 3, 3) := by decide +kernel
theorem dX10_init_4 : decode cX10_init 4 = .ok (.aload_n 0, 1) := by decide +kernel
theorem dX10_init_5 : decode cX10_init 5 = .ok (.bipush 18, 2) := by decide +kernel
theorem dX10_init_7 : decode cX10_init 7 = .ok (.newarray .int, 2) := by decide +kernel
theorem dX10_init_9 : decode cX10_init 9 = .ok (.putfield 9, 3) := by decide +kernel
theorem dX10_init_12 : decode cX10_init 12 = .ok (.aload_n 0, 1) := by decide +kernel
theorem dX10_init_13 : decode cX10_init 13 = .ok (.bipush 18, 2) := by decide +kernel
theorem dX10_init_15 : decode cX10_init 15 = .ok (.newarray .int, 2) := by decide +kernel
theorem dX10_init_17 : decode cX10_init 17 = .ok (.putfield 15, 3) := by decide +kernel
theorem dX10_init_20 : decode cX10_init 20 = .ok (.aload_n 0, 1) := by decide +kernel
theorem dX10_init_21 : decode cX10_init 21 = .ok (.bipush 18, 2) := by decide +kernel
theorem dX10_init_23 : decode cX10_init 23 = .ok (.newarray .int, 2) := by decide +kernel
theorem dX10_init_25 : decode cX10_init 25 = .ok (.putfield 18, 3) := by decide +kernel
theorem dX10_init_28 : decode cX10_init 28 = .ok (.aload_n 0, 1) := by decide +kernel
theorem dX10_init_29 : decode cX10_init 29 = .ok (.bipush 18, 2) := by decide +kernel
theorem dX10_init_31 : decode cX10_init 31 = .ok (.newarray .int, 2) := by decide +kernel
theorem dX10_init_33 : decode cX10_init 33 = .ok (.putfield 21, 3) := by decide +kernel
theorem dX10_init_36 : decode cX10_init 36 = .ok (.aload_n 0, 1) := by decide +kernel
theorem dX10_init_37 : decode cX10_init 37 = .ok (.sipush 240, 3) := by decide +kernel
theorem dX10_init_40 : decode cX10_init 40 = .ok (.newarray .long, 2) := by decide +kernel
theorem dX10_init_42 : decode cX10_init 42 = .ok (.putfield 24, 3) := by decide +kernel
theorem dX10_init_45 : decode cX10_init 45 = .ok (.aload_n 0, 1) := by decide +kernel
theorem dX10_init_46 : decode cX10_init 46 = .ok (.sipush 240, 3) := by decide +kernel
theorem dX10_init_49 : decode cX10_init 49 = .ok (.newarray .long, 2) := by decide +kernel
theorem dX10_init_51 : decode cX10_init 51 = .ok (.putfield 28, 3) := by decide +kernel
theorem dX10_init_54 : decode cX10_init 54 = .ok (.aload_n 0, 1) := by decide +kernel
theorem dX10_init_55 : decode cX10_init 55 = .ok (.sipush 240, 3) := by decide +kernel
theorem dX10_init_58 : decode cX10_init 58 = .ok (.newarray .long, 2) := by decide +kernel
theorem dX10_init_60 : decode cX10_init 60 = .ok (.putfield 31, 3) := by decide +kernel
theorem dX10_init_63 : decode cX10_init 63 = .ok (.aload_n 0, 1) := by decide +kernel
theorem dX10_init_64 : decode cX10_init 64 = .ok (.sipush 800, 3) := by decide +kernel
theorem dX10_init_67 : decode cX10_init 67 = .ok (.newarray .int, 2) := by decide +kernel
theorem dX10_init_69 : decode cX10_init 69 = .ok (.putfield 34, 3) := by decide +kernel
theorem dX10_init_72 : decode cX10_init 72 = .ok (.aload_n 0, 1) := by decide +kernel
theorem dX10_init_73 : decode cX10_init 73 = .ok (.sipush 800, 3) := by decide +kernel
theorem dX10_init_76 : decode cX10_init 76 = .ok (.newarray .int, 2) := by decide +kernel
theorem dX10_init_78 : decode cX10_init 78 = .ok (.putfield 37, 3) := by decide +kernel
theorem dX10_init_81 : decode cX10_init 81 = .ok (.aload_n 0, 1) := by decide +kernel
theorem dX10_init_82 : decode cX10_init 82 = .ok (.sipush 800, 3) := by decide +kernel
theorem dX10_init_85 : decode cX10_init 85 = .ok (.newarray .boolean, 2) := by decide +kernel
theorem dX10_init_87 : decode cX10_init 87 = .ok (.putfield 40, 3) := by decide +kernel
theorem dX10_init_90 : decode cX10_init 90 = .ok (.return_, 1) := by decide +kernel
set_option maxRecDepth 20000 in
theorem ggX10_take_X10_line : GoodIn wsX10_take wsX10_line := goodIn_r _ [12, 4, 5, 6, 7, 13, 14, 15, 16, 17, 18, 19, 20, 21, 22, 23, 24, 25, 26, 27, 28] rfl (by decide +kernel)
set_option maxRecDepth 20000 in
theorem gX10_take_X10_line : GoodIn wsX10_take (wsV RX10 54 RX10 yX10_line wsX10_line) := goodIn_app (goodIn_r ([.methodLink RX10 54 yX10_line, .instanceMethod yX10_line, .selects RX10 yX10_line yX10_line, .initialized RX10] : List Cond) [8, 9, 10, 11] rfl (by decide +kernel)) ggX10_take_X10_line
theorem dX10_take_0 : decode cX10_take 0 = .ok (.aload_n 0, 1) := by decide +kernel
theorem dX10_take_1 : decode cX10_take 1 = .ok (.aload_n 1, 1) := by decide +kernel
theorem dX10_take_2 : decode cX10_take 2 = .ok (.getfield 44, 3) := by decide +kernel
theorem dX10_take_5 : decode cX10_take 5 = .ok (.putfield 44, 3) := by decide +kernel
theorem dX10_take_8 : decode cX10_take 8 = .ok (.aload_n 0, 1) := by decide +kernel
theorem dX10_take_9 : decode cX10_take 9 = .ok (.aload_n 1, 1) := by decide +kernel
theorem dX10_take_10 : decode cX10_take 10 = .ok (.getfield 48, 3) := by decide +kernel
theorem dX10_take_13 : decode cX10_take 13 = .ok (.putfield 48, 3) := by decide +kernel
theorem dX10_take_16 : decode cX10_take 16 = .ok (.aload_n 0, 1) := by decide +kernel
theorem dX10_take_17 : decode cX10_take 17 = .ok (.aload_n 1, 1) := by decide +kernel
theorem dX10_take_18 : decode cX10_take 18 = .ok (.getfield 51, 3) := by decide +kernel
theorem dX10_take_21 : decode cX10_take 21 = .ok (.putfield 51, 3) := by decide +kernel
theorem dX10_take_24 : decode cX10_take 24 = .ok (.iconst 0, 1) := by decide +kernel
theorem dX10_take_25 : decode cX10_take 25 = .ok (.istore_n 2, 1) := by decide +kernel
theorem dX10_take_26 : decode cX10_take 26 = .ok (.iload_n 2, 1) := by decide +kernel
theorem dX10_take_27 : decode cX10_take 27 = .ok (.aload_n 0, 1) := by decide +kernel
theorem dX10_take_28 : decode cX10_take 28 = .ok (.getfield 51, 3) := by decide +kernel
theorem dX10_take_31 : decode cX10_take 31 = .ok (.if_icmp .ge 38, 3) := by decide +kernel
theorem dX10_take_34 : decode cX10_take 34 = .ok (.aload_n 0, 1) := by decide +kernel
theorem dX10_take_35 : decode cX10_take 35 = .ok (.iload_n 2, 1) := by decide +kernel
theorem dX10_take_36 : decode cX10_take 36 = .ok (.aload_n 1, 1) := by decide +kernel
theorem dX10_take_37 : decode cX10_take 37 = .ok (.getfield 9, 3) := by decide +kernel
theorem dX10_take_40 : decode cX10_take 40 = .ok (.iload_n 2, 1) := by decide +kernel
theorem dX10_take_41 : decode cX10_take 41 = .ok (.iaload, 1) := by decide +kernel
theorem dX10_take_42 : decode cX10_take 42 = .ok (.aload_n 1, 1) := by decide +kernel
theorem dX10_take_43 : decode cX10_take 43 = .ok (.getfield 15, 3) := by decide +kernel
theorem dX10_take_46 : decode cX10_take 46 = .ok (.iload_n 2, 1) := by decide +kernel
theorem dX10_take_47 : decode cX10_take 47 = .ok (.iaload, 1) := by decide +kernel
theorem dX10_take_48 : decode cX10_take 48 = .ok (.aload_n 1, 1) := by decide +kernel
theorem dX10_take_49 : decode cX10_take 49 = .ok (.getfield 18, 3) := by decide +kernel
theorem dX10_take_52 : decode cX10_take 52 = .ok (.iload_n 2, 1) := by decide +kernel
theorem dX10_take_53 : decode cX10_take 53 = .ok (.iaload, 1) := by decide +kernel
theorem dX10_take_54 : decode cX10_take 54 = .ok (.aload_n 1, 1) := by decide +kernel
theorem dX10_take_55 : decode cX10_take 55 = .ok (.getfield 21, 3) := by decide +kernel
theorem dX10_take_58 : decode cX10_take 58 = .ok (.iload_n 2, 1) := by decide +kernel
theorem dX10_take_59 : decode cX10_take 59 = .ok (.iaload, 1) := by decide +kernel
theorem dX10_take_60 : decode cX10_take 60 = .ok (.invokevirtual 54, 3) := by decide +kernel
theorem dX10_take_63 : decode cX10_take 63 = .ok (.iinc 2 1, 3) := by decide +kernel
theorem dX10_take_66 : decode cX10_take 66 = .ok (.goto (-40), 3) := by decide +kernel
theorem dX10_take_69 : decode cX10_take 69 = .ok (.return_, 1) := by decide +kernel
theorem dX10_line_0 : decode cX10_line 0 = .ok (.aload_n 0, 1) := by decide +kernel
theorem dX10_line_1 : decode cX10_line 1 = .ok (.getfield 9, 3) := by decide +kernel
theorem dX10_line_4 : decode cX10_line 4 = .ok (.iload_n 1, 1) := by decide +kernel
theorem dX10_line_5 : decode cX10_line 5 = .ok (.iload_n 2, 1) := by decide +kernel
theorem dX10_line_6 : decode cX10_line 6 = .ok (.iastore, 1) := by decide +kernel
theorem dX10_line_7 : decode cX10_line 7 = .ok (.aload_n 0, 1) := by decide +kernel
theorem dX10_line_8 : decode cX10_line 8 = .ok (.getfield 15, 3) := by decide +kernel
theorem dX10_line_11 : decode cX10_line 11 = .ok (.iload_n 1, 1) := by decide +kernel
theorem dX10_line_12 : decode cX10_line 12 = .ok (.iload_n 3, 1) := by decide +kernel
theorem dX10_line_13 : decode cX10_line 13 = .ok (.iastore, 1) := by decide +kernel
theorem dX10_line_14 : decode cX10_line 14 = .ok (.aload_n 0, 1) := by decide +kernel
theorem dX10_line_15 : decode cX10_line 15 = .ok (.getfield 18, 3) := by decide +kernel
theorem dX10_line_18 : decode cX10_line 18 = .ok (.iload_n 1, 1) := by decide +kernel
theorem dX10_line_19 : decode cX10_line 19 = .ok (.iload 4, 2) := by decide +kernel
theorem dX10_line_21 : decode cX10_line 21 = .ok (.iastore, 1) := by decide +kernel
theorem dX10_line_22 : decode cX10_line 22 = .ok (.aload_n 0, 1) := by decide +kernel
theorem dX10_line_23 : decode cX10_line 23 = .ok (.getfield 21, 3) := by decide +kernel
theorem dX10_line_26 : decode cX10_line 26 = .ok (.iload_n 1, 1) := by decide +kernel
theorem dX10_line_27 : decode cX10_line 27 = .ok (.iload 5, 2) := by decide +kernel
theorem dX10_line_29 : decode cX10_line 29 = .ok (.iastore, 1) := by decide +kernel
theorem dX10_line_30 : decode cX10_line 30 = .ok (.return_, 1) := by decide +kernel
set_option maxRecDepth 20000 in
theorem ggX10_draw_X10_line : GoodIn wsX10_draw wsX10_line := goodIn_r _ [15, 6, 7, 8, 9, 71, 72, 73, 74, 75, 76, 77, 78, 79, 80, 81, 82, 83, 84, 85, 86] rfl (by decide +kernel)
set_option maxRecDepth 20000 in
theorem gX10_draw_X10_line : GoodIn wsX10_draw (wsV RX10 54 RX10 yX10_line wsX10_line) := goodIn_app (goodIn_r ([.methodLink RX10 54 yX10_line, .instanceMethod yX10_line, .selects RX10 yX10_line yX10_line, .initialized RX10] : List Cond) [11, 12, 13, 14] rfl (by decide +kernel)) ggX10_draw_X10_line
set_option maxRecDepth 20000 in
theorem ggX10_draw_X10_joint : GoodIn wsX10_draw wsX10_joint := goodIn_r _ [19, 20, 5, 21, 22, 23, 24, 25, 26, 27, 28, 29, 30, 31, 32, 33, 14, 34, 35, 36, 37, 38, 71, 72, 73, 74, 75, 76, 77, 78, 79, 80, 81, 82, 83, 84, 85, 86] rfl (by decide +kernel)
set_option maxRecDepth 20000 in
theorem gX10_draw_X10_joint : GoodIn wsX10_draw (wsV RX10 64 RX10 yX10_joint wsX10_joint) := goodIn_app (goodIn_r ([.methodLink RX10 64 yX10_joint, .instanceMethod yX10_joint, .selects RX10 yX10_joint yX10_joint, .initialized RX10] : List Cond) [16, 17, 18, 14] rfl (by decide +kernel)) ggX10_draw_X10_joint
set_option maxRecDepth 20000 in
theorem ggX10_draw_X10_cross : GoodIn wsX10_draw wsX10_cross := goodIn_r _ [42, 8, 6, 9, 7, 16, 17, 18, 14, 19, 20, 5, 21, 22, 23, 24, 25, 26, 27, 28, 29, 30, 31, 32, 33, 34, 35, 36, 37, 38, 71, 72, 73, 74, 75, 76, 77, 78, 79, 80, 81, 82, 83, 84, 85, 86] rfl (by decide +kernel)
set_option maxRecDepth 20000 in
theorem gX10_draw_X10_cross : GoodIn wsX10_draw (wsV RX10 68 RX10 yX10_cross wsX10_cross) := goodIn_app (goodIn_r ([.methodLink RX10 68 yX10_cross, .instanceMethod yX10_cross, .selects RX10 yX10_cross yX10_cross, .initialized RX10] : List Cond) [39, 40, 41, 14] rfl (by decide +kernel)) ggX10_draw_X10_cross
set_option maxRecDepth 20000 in
theorem ggX10_draw_X10_part : GoodIn wsX10_draw wsX10_part := goodIn_r _ [46, 5, 47, 10, 48, 49, 50, 51, 14, 52, 21, 6, 23, 22, 7, 8, 9, 53, 54, 55, 56, 71, 72, 73, 74, 75, 76, 77, 78, 79, 80, 81, 82, 83, 84, 85, 86] rfl (by decide +kernel)
set_option maxRecDepth 20000 in
theorem gX10_draw_X10_part : GoodIn wsX10_draw (wsV RX10 75 RX10 yX10_part wsX10_part) := goodIn_app (goodIn_r ([.methodLink RX10 75 yX10_part, .instanceMethod yX10_part, .selects RX10 yX10_part yX10_part, .initialized RX10] : List Cond) [43, 44, 45, 14] rfl (by decide +kernel)) ggX10_draw_X10_part
set_option maxRecDepth 20000 in
theorem ggX10_draw_X10_loosen : GoodIn wsX10_draw wsX10_loosen := goodIn_r _ [60, 5, 61, 10, 47, 48, 62, 63, 64, 65, 14, 66, 21, 22, 2, 23, 3, 67, 68, 69, 70, 71, 72, 73, 74, 75, 76, 77, 78, 79, 80, 81, 82, 83, 84, 85, 86] rfl (by decide +kernel)
set_option maxRecDepth 20000 in
theorem gX10_draw_X10_loosen : GoodIn wsX10_draw (wsV RX10 79 RX10 yX10_loosen wsX10_loosen) := goodIn_app (goodIn_r ([.methodLink RX10 79 yX10_loosen, .instanceMethod yX10_loosen, .selects RX10 yX10_loosen yX10_loosen, .initialized RX10] : List Cond) [57, 58, 59, 14] rfl (by decide +kernel)) ggX10_draw_X10_loosen
theorem dX10_draw_0 : decode cX10_draw 0 = .ok (.aload_n 0, 1) := by decide +kernel
theorem dX10_draw_1 : decode cX10_draw 1 = .ok (.aload_n 0, 1) := by decide +kernel
theorem dX10_draw_2 : decode cX10_draw 2 = .ok (.getfield 51, 3) := by decide +kernel
theorem dX10_draw_5 : decode cX10_draw 5 = .ok (.iconst 0, 1) := by decide +kernel
theorem dX10_draw_6 : decode cX10_draw 6 = .ok (.iconst 0, 1) := by decide +kernel
theorem dX10_draw_7 : decode cX10_draw 7 = .ok (.aload_n 0, 1) := by decide +kernel
theorem dX10_draw_8 : decode cX10_draw 8 = .ok (.getfield 44, 3) := by decide +kernel
theorem dX10_draw_11 : decode cX10_draw 11 = .ok (.iconst 0, 1) := by decide +kernel
theorem dX10_draw_12 : decode cX10_draw 12 = .ok (.invokevirtual 54, 3) := by decide +kernel
theorem dX10_draw_15 : decode cX10_draw 15 = .ok (.aload_n 0, 1) := by decide +kernel
theorem dX10_draw_16 : decode cX10_draw 16 = .ok (.aload_n 0, 1) := by decide +kernel
theorem dX10_draw_17 : decode cX10_draw 17 = .ok (.getfield 51, 3) := by decide +kernel
theorem dX10_draw_20 : decode cX10_draw 20 = .ok (.iconst 1, 1) := by decide +kernel
theorem dX10_draw_21 : decode cX10_draw 21 = .ok (.iadd, 1) := by decide +kernel
theorem dX10_draw_22 : decode cX10_draw 22 = .ok (.aload_n 0, 1) := by decide +kernel
theorem dX10_draw_23 : decode cX10_draw 23 = .ok (.getfield 44, 3) := by decide +kernel
theorem dX10_draw_26 : decode cX10_draw 26 = .ok (.iconst 0, 1) := by decide +kernel
theorem dX10_draw_27 : decode cX10_draw 27 = .ok (.aload_n 0, 1) := by decide +kernel
theorem dX10_draw_28 : decode cX10_draw 28 = .ok (.getfield 44, 3) := by decide +kernel
theorem dX10_draw_31 : decode cX10_draw 31 = .ok (.aload_n 0, 1) := by decide +kernel
theorem dX10_draw_32 : decode cX10_draw 32 = .ok (.getfield 48, 3) := by decide +kernel
theorem dX10_draw_35 : decode cX10_draw 35 = .ok (.invokevirtual 54, 3) := by decide +kernel
theorem dX10_draw_38 : decode cX10_draw 38 = .ok (.aload_n 0, 1) := by decide +kernel
theorem dX10_draw_39 : decode cX10_draw 39 = .ok (.aload_n 0, 1) := by decide +kernel
theorem dX10_draw_40 : decode cX10_draw 40 = .ok (.getfield 51, 3) := by decide +kernel
theorem dX10_draw_43 : decode cX10_draw 43 = .ok (.iconst 2, 1) := by decide +kernel
theorem dX10_draw_44 : decode cX10_draw 44 = .ok (.iadd, 1) := by decide +kernel
theorem dX10_draw_45 : decode cX10_draw 45 = .ok (.aload_n 0, 1) := by decide +kernel
theorem dX10_draw_46 : decode cX10_draw 46 = .ok (.getfield 44, 3) := by decide +kernel
theorem dX10_draw_49 : decode cX10_draw 49 = .ok (.aload_n 0, 1) := by decide +kernel
theorem dX10_draw_50 : decode cX10_draw 50 = .ok (.getfield 48, 3) := by decide +kernel
theorem dX10_draw_53 : decode cX10_draw 53 = .ok (.iconst 0, 1) := by decide +kernel
theorem dX10_draw_54 : decode cX10_draw 54 = .ok (.aload_n 0, 1) := by decide +kernel
theorem dX10_draw_55 : decode cX10_draw 55 = .ok (.getfield 48, 3) := by decide +kernel
theorem dX10_draw_58 : decode cX10_draw 58 = .ok (.invokevirtual 54, 3) := by decide +kernel
theorem dX10_draw_61 : decode cX10_draw 61 = .ok (.aload_n 0, 1) := by decide +kernel
theorem dX10_draw_62 : decode cX10_draw 62 = .ok (.aload_n 0, 1) := by decide +kernel
theorem dX10_draw_63 : decode cX10_draw 63 = .ok (.getfield 51, 3) := by decide +kernel
theorem dX10_draw_66 : decode cX10_draw 66 = .ok (.iconst 3, 1) := by decide +kernel
theorem dX10_draw_67 : decode cX10_draw 67 = .ok (.iadd, 1) := by decide +kernel
theorem dX10_draw_68 : decode cX10_draw 68 = .ok (.iconst 0, 1) := by decide +kernel
theorem dX10_draw_69 : decode cX10_draw 69 = .ok (.aload_n 0, 1) := by decide +kernel
theorem dX10_draw_70 : decode cX10_draw 70 = .ok (.getfield 48, 3) := by decide +kernel
theorem dX10_draw_73 : decode cX10_draw 73 = .ok (.iconst 0, 1) := by decide +kernel
theorem dX10_draw_74 : decode cX10_draw 74 = .ok (.iconst 0, 1) := by decide +kernel
theorem dX10_draw_75 : decode cX10_draw 75 = .ok (.invokevirtual 54, 3) := by decide +kernel
theorem dX10_draw_78 : decode cX10_draw 78 = .ok (.aload_n 0, 1) := by decide +kernel
theorem dX10_draw_79 : decode cX10_draw 79 = .ok (.aload_n 0, 1) := by decide +kernel
theorem dX10_draw_80 : decode cX10_draw 80 = .ok (.getfield 51, 3) := by decide +kernel
theorem dX10_draw_83 : decode cX10_draw 83 = .ok (.iconst 4, 1) := by decide +kernel
theorem dX10_draw_84 : decode cX10_draw 84 = .ok (.iadd, 1) := by decide +kernel
theorem dX10_draw_85 : decode cX10_draw 85 = .ok (.putfield 58, 3) := by decide +kernel
theorem dX10_draw_88 : decode cX10_draw 88 = .ok (.aload_n 0, 1) := by decide +kernel
theorem dX10_draw_89 : decode cX10_draw 89 = .ok (.iconst 0, 1) := by decide +kernel
theorem dX10_draw_90 : decode cX10_draw 90 = .ok (.putfield 61, 3) := by decide +kernel
theorem dX10_draw_93 : decode cX10_draw 93 = .ok (.iconst 0, 1) := by decide +kernel
theorem dX10_draw_94 : decode cX10_draw 94 = .ok (.istore_n 1, 1) := by decide +kernel
theorem dX10_draw_95 : decode cX10_draw 95 = .ok (.iload_n 1, 1) := by decide +kernel
theorem dX10_draw_96 : decode cX10_draw 96 = .ok (.aload_n 0, 1) := by decide +kernel
theorem dX10_draw_97 : decode cX10_draw 97 = .ok (.getfield 58, 3) := by decide +kernel
theorem dX10_draw_100 : decode cX10_draw 100 = .ok (.if_icmp .ge 66, 3) := by decide +kernel
theorem dX10_draw_103 : decode cX10_draw 103 = .ok (.aload_n 0, 1) := by decide +kernel
theorem dX10_draw_104 : decode cX10_draw 104 = .ok (.aload_n 0, 1) := by decide +kernel
theorem dX10_draw_105 : decode cX10_draw 105 = .ok (.getfield 9, 3) := by decide +kernel
theorem dX10_draw_108 : decode cX10_draw 108 = .ok (.iload_n 1, 1) := by decide +kernel
theorem dX10_draw_109 : decode cX10_draw 109 = .ok (.iaload, 1) := by decide +kernel
theorem dX10_draw_110 : decode cX10_draw 110 = .ok (.i2l, 1) := by decide +kernel
theorem dX10_draw_111 : decode cX10_draw 111 = .ok (.aload_n 0, 1) := by decide +kernel
theorem dX10_draw_112 : decode cX10_draw 112 = .ok (.getfield 15, 3) := by decide +kernel
theorem dX10_draw_115 : decode cX10_draw 115 = .ok (.iload_n 1, 1) := by decide +kernel
theorem dX10_draw_116 : decode cX10_draw 116 = .ok (.iaload, 1) := by decide +kernel
theorem dX10_draw_117 : decode cX10_draw 117 = .ok (.i2l, 1) := by decide +kernel
theorem dX10_draw_118 : decode cX10_draw 118 = .ok (.lconst 1, 1) := by decide +kernel
theorem dX10_draw_119 : decode cX10_draw 119 = .ok (.invokevirtual 64, 3) := by decide +kernel
theorem dX10_draw_122 : decode cX10_draw 122 = .ok (.aload_n 0, 1) := by decide +kernel
theorem dX10_draw_123 : decode cX10_draw 123 = .ok (.aload_n 0, 1) := by decide +kernel
theorem dX10_draw_124 : decode cX10_draw 124 = .ok (.getfield 18, 3) := by decide +kernel
theorem dX10_draw_127 : decode cX10_draw 127 = .ok (.iload_n 1, 1) := by decide +kernel
theorem dX10_draw_128 : decode cX10_draw 128 = .ok (.iaload, 1) := by decide +kernel
theorem dX10_draw_129 : decode cX10_draw 129 = .ok (.i2l, 1) := by decide +kernel
theorem dX10_draw_130 : decode cX10_draw 130 = .ok (.aload_n 0, 1) := by decide +kernel
theorem dX10_draw_131 : decode cX10_draw 131 = .ok (.getfield 21, 3) := by decide +kernel
theorem dX10_draw_134 : decode cX10_draw 134 = .ok (.iload_n 1, 1) := by decide +kernel
theorem dX10_draw_135 : decode cX10_draw 135 = .ok (.iaload, 1) := by decide +kernel
theorem dX10_draw_136 : decode cX10_draw 136 = .ok (.i2l, 1) := by decide +kernel
theorem dX10_draw_137 : decode cX10_draw 137 = .ok (.lconst 1, 1) := by decide +kernel
theorem dX10_draw_138 : decode cX10_draw 138 = .ok (.invokevirtual 64, 3) := by decide +kernel
theorem dX10_draw_141 : decode cX10_draw 141 = .ok (.iconst 0, 1) := by decide +kernel
theorem dX10_draw_142 : decode cX10_draw 142 = .ok (.istore_n 2, 1) := by decide +kernel
theorem dX10_draw_143 : decode cX10_draw 143 = .ok (.iload_n 2, 1) := by decide +kernel
theorem dX10_draw_144 : decode cX10_draw 144 = .ok (.iload_n 1, 1) := by decide +kernel
theorem dX10_draw_145 : decode cX10_draw 145 = .ok (.if_icmp .ge 15, 3) := by decide +kernel
theorem dX10_draw_148 : decode cX10_draw 148 = .ok (.aload_n 0, 1) := by decide +kernel
theorem dX10_draw_149 : decode cX10_draw 149 = .ok (.iload_n 2, 1) := by decide +kernel
theorem dX10_draw_150 : decode cX10_draw 150 = .ok (.iload_n 1, 1) := by decide +kernel
theorem dX10_draw_151 : decode cX10_draw 151 = .ok (.invokevirtual 68, 3) := by decide +kernel
theorem dX10_draw_154 : decode cX10_draw 154 = .ok (.iinc 2 1, 3) := by decide +kernel
theorem dX10_draw_157 : decode cX10_draw 157 = .ok (.goto (-14), 3) := by decide +kernel
theorem dX10_draw_160 : decode cX10_draw 160 = .ok (.iinc 1 1, 3) := by decide +kernel
theorem dX10_draw_163 : decode cX10_draw 163 = .ok (.goto (-68), 3) := by decide +kernel
theorem dX10_draw_166 : decode cX10_draw 166 = .ok (.aload_n 0, 1) := by decide +kernel
theorem dX10_draw_167 : decode cX10_draw 167 = .ok (.iconst 0, 1) := by decide +kernel
theorem dX10_draw_168 : decode cX10_draw 168 = .ok (.putfield 72, 3) := by decide +kernel
theorem dX10_draw_171 : decode cX10_draw 171 = .ok (.iconst 0, 1) := by decide +kernel
theorem dX10_draw_172 : decode cX10_draw 172 = .ok (.istore_n 1, 1) := by decide +kernel
theorem dX10_draw_173 : decode cX10_draw 173 = .ok (.iload_n 1, 1) := by decide +kernel
theorem dX10_draw_174 : decode cX10_draw 174 = .ok (.aload_n 0, 1) := by decide +kernel
theorem dX10_draw_175 : decode cX10_draw 175 = .ok (.getfield 58, 3) := by decide +kernel
theorem dX10_draw_178 : decode cX10_draw 178 = .ok (.if_icmp .ge 14, 3) := by decide +kernel
theorem dX10_draw_181 : decode cX10_draw 181 = .ok (.aload_n 0, 1) := by decide +kernel
theorem dX10_draw_182 : decode cX10_draw 182 = .ok (.iload_n 1, 1) := by decide +kernel
theorem dX10_draw_183 : decode cX10_draw 183 = .ok (.invokevirtual 75, 3) := by decide +kernel
theorem dX10_draw_186 : decode cX10_draw 186 = .ok (.iinc 1 1, 3) := by decide +kernel
theorem dX10_draw_189 : decode cX10_draw 189 = .ok (.goto (-16), 3) := by decide +kernel
theorem dX10_draw_192 : decode cX10_draw 192 = .ok (.aload_n 0, 1) := by decide +kernel
theorem dX10_draw_193 : decode cX10_draw 193 = .ok (.invokevirtual 79, 3) := by decide +kernel
theorem dX10_draw_196 : decode cX10_draw 196 = .ok (.return_, 1) := by decide +kernel
set_option maxRecDepth 20000 in
theorem ggX10_joint_X12_gcd : GoodIn wsX10_joint wsX12_gcd := goodIn_r _ [8, 9, 10, 11, 12] rfl (by decide +kernel)
set_option maxRecDepth 20000 in
theorem gX10_joint_X12_gcd_n82 : GoodIn wsX10_joint (wsX12_gcd) := ggX10_joint_X12_gcd
set_option maxRecDepth 20000 in
theorem ggX10_joint_X10_order : GoodIn wsX10_joint wsX10_order := goodIn_r _ [17, 5, 4, 3, 18, 19, 20, 21, 22, 23, 24, 25, 26, 27, 28, 29, 30, 31, 32, 33, 34, 35, 36, 37] rfl (by decide +kernel)
set_option maxRecDepth 20000 in
theorem gX10_joint_X10_order : GoodIn wsX10_joint (wsV RX10 88 RX10 yX10_order wsX10_order) := goodIn_app (goodIn_r ([.methodLink RX10 88 yX10_order, .instanceMethod yX10_order, .selects RX10 yX10_order yX10_order, .initialized RX10] : List Cond) [13, 14, 15, 16] rfl (by decide +kernel)) ggX10_joint_X10_order
theorem dX10_joint_0 : decode cX10_joint 0 = .ok (.lload_n 1, 1) := by decide +kernel
theorem dX10_joint_1 : decode cX10_joint 1 = .ok (.lload_n 3, 1) := by decide +kernel
theorem dX10_joint_2 : decode cX10_joint 2 = .ok (.invokestatic 82, 3) := by decide +kernel
theorem dX10_joint_5 : decode cX10_joint 5 = .ok (.lload 5, 2) := by decide +kernel
theorem dX10_joint_7 : decode cX10_joint 7 = .ok (.invokestatic 82, 3) := by decide +kernel
theorem dX10_joint_10 : decode cX10_joint 10 = .ok (.lload 5, 2) := by decide +kernel
theorem dX10_joint_12 : decode cX10_joint 12 = .ok (.lconst 0, 1) := by decide +kernel
theorem dX10_joint_13 : decode cX10_joint 13 = .ok (.lcmp, 1) := by decide +kernel
theorem dX10_joint_14 : decode cX10_joint 14 = .ok (.ifCond .ge 9, 3) := by decide +kernel
theorem dX10_joint_17 : decode cX10_joint 17 = .ok (.ldc2_w 86, 3) := by decide +kernel
theorem dX10_joint_20 : decode cX10_joint 20 = .ok (.goto 4, 3) := by decide +kernel
theorem dX10_joint_23 : decode cX10_joint 23 = .ok (.lconst 1, 1) := by decide +kernel
theorem dX10_joint_24 : decode cX10_joint 24 = .ok (.lmul, 1) := by decide +kernel
theorem dX10_joint_25 : decode cX10_joint 25 = .ok (.lstore 7, 2) := by decide +kernel
theorem dX10_joint_27 : decode cX10_joint 27 = .ok (.lload_n 1, 1) := by decide +kernel
theorem dX10_joint_28 : decode cX10_joint 28 = .ok (.lload 7, 2) := by decide +kernel
theorem dX10_joint_30 : decode cX10_joint 30 = .ok (.ldiv, 1) := by decide +kernel
theorem dX10_joint_31 : decode cX10_joint 31 = .ok (.lstore 9, 2) := by decide +kernel
theorem dX10_joint_33 : decode cX10_joint 33 = .ok (.lload_n 3, 1) := by decide +kernel
theorem dX10_joint_34 : decode cX10_joint 34 = .ok (.lload 7, 2) := by decide +kernel
theorem dX10_joint_36 : decode cX10_joint 36 = .ok (.ldiv, 1) := by decide +kernel
theorem dX10_joint_37 : decode cX10_joint 37 = .ok (.lstore 11, 2) := by decide +kernel
theorem dX10_joint_39 : decode cX10_joint 39 = .ok (.lload 5, 2) := by decide +kernel
theorem dX10_joint_41 : decode cX10_joint 41 = .ok (.lload 7, 2) := by decide +kernel
theorem dX10_joint_43 : decode cX10_joint 43 = .ok (.ldiv, 1) := by decide +kernel
theorem dX10_joint_44 : decode cX10_joint 44 = .ok (.lstore 13, 2) := by decide +kernel
theorem dX10_joint_46 : decode cX10_joint 46 = .ok (.aload_n 0, 1) := by decide +kernel
theorem dX10_joint_47 : decode cX10_joint 47 = .ok (.getfield 61, 3) := by decide +kernel
theorem dX10_joint_50 : decode cX10_joint 50 = .ok (.istore 15, 2) := by decide +kernel
theorem dX10_joint_52 : decode cX10_joint 52 = .ok (.iload 15, 2) := by decide +kernel
theorem dX10_joint_54 : decode cX10_joint 54 = .ok (.ifCond .le 44, 3) := by decide +kernel
theorem dX10_joint_57 : decode cX10_joint 57 = .ok (.aload_n 0, 1) := by decide +kernel
theorem dX10_joint_58 : decode cX10_joint 58 = .ok (.lload 9, 2) := by decide +kernel
theorem dX10_joint_60 : decode cX10_joint 60 = .ok (.lload 11, 2) := by decide +kernel
theorem dX10_joint_62 : decode cX10_joint 62 = .ok (.lload 13, 2) := by decide +kernel
theorem dX10_joint_64 : decode cX10_joint 64 = .ok (.iload 15, 2) := by decide +kernel
theorem dX10_joint_66 : decode cX10_joint 66 = .ok (.iconst 1, 1) := by decide +kernel
theorem dX10_joint_67 : decode cX10_joint 67 = .ok (.isub, 1) := by decide +kernel
theorem dX10_joint_68 : decode cX10_joint 68 = .ok (.invokevirtual 88, 3) := by decide +kernel
theorem dX10_joint_71 : decode cX10_joint 71 = .ok (.ifCond .gt 27, 3) := by decide +kernel
theorem dX10_joint_74 : decode cX10_joint 74 = .ok (.aload_n 0, 1) := by decide +kernel
theorem dX10_joint_75 : decode cX10_joint 75 = .ok (.lload 9, 2) := by decide +kernel
theorem dX10_joint_77 : decode cX10_joint 77 = .ok (.lload 11, 2) := by decide +kernel
theorem dX10_joint_79 : decode cX10_joint 79 = .ok (.lload 13, 2) := by decide +kernel
theorem dX10_joint_81 : decode cX10_joint 81 = .ok (.iload 15, 2) := by decide +kernel
theorem dX10_joint_83 : decode cX10_joint 83 = .ok (.iconst 1, 1) := by decide +kernel
theorem dX10_joint_84 : decode cX10_joint 84 = .ok (.isub, 1) := by decide +kernel
theorem dX10_joint_85 : decode cX10_joint 85 = .ok (.invokevirtual 88, 3) := by decide +kernel
theorem dX10_joint_88 : decode cX10_joint 88 = .ok (.ifCond .ne 4, 3) := by decide +kernel
theorem dX10_joint_91 : decode cX10_joint 91 = .ok (.return_, 1) := by decide +kernel
theorem dX10_joint_92 : decode cX10_joint 92 = .ok (.iinc 15 (-1), 3) := by decide +kernel
theorem dX10_joint_95 : decode cX10_joint 95 = .ok (.goto (-43), 3) := by decide +kernel
theorem dX10_joint_98 : decode cX10_joint 98 = .ok (.aload_n 0, 1) := by decide +kernel
theorem dX10_joint_99 : decode cX10_joint 99 = .ok (.getfield 61, 3) := by decide +kernel
theorem dX10_joint_102 : decode cX10_joint 102 = .ok (.istore 16, 2) := by decide +kernel
theorem dX10_joint_104 : decode cX10_joint 104 = .ok (.iload 16, 2) := by decide +kernel
theorem dX10_joint_106 : decode cX10_joint 106 = .ok (.iload 15, 2) := by decide +kernel
theorem dX10_joint_108 : decode cX10_joint 108 = .ok (.if_icmp .le 57, 3) := by decide +kernel
theorem dX10_joint_111 : decode cX10_joint 111 = .ok (.aload_n 0, 1) := by decide +kernel
theorem dX10_joint_112 : decode cX10_joint 112 = .ok (.getfield 24, 3) := by decide +kernel
theorem dX10_joint_115 : decode cX10_joint 115 = .ok (.iload 16, 2) := by decide +kernel
theorem dX10_joint_117 : decode cX10_joint 117 = .ok (.aload_n 0, 1) := by decide +kernel
theorem dX10_joint_118 : decode cX10_joint 118 = .ok (.getfield 24, 3) := by decide +kernel
theorem dX10_joint_121 : decode cX10_joint 121 = .ok (.iload 16, 2) := by decide +kernel
theorem dX10_joint_123 : decode cX10_joint 123 = .ok (.iconst 1, 1) := by decide +kernel
theorem dX10_joint_124 : decode cX10_joint 124 = .ok (.isub, 1) := by decide +kernel
theorem dX10_joint_125 : decode cX10_joint 125 = .ok (.laload, 1) := by decide +kernel
theorem dX10_joint_126 : decode cX10_joint 126 = .ok (.lastore, 1) := by decide +kernel
theorem dX10_joint_127 : decode cX10_joint 127 = .ok (.aload_n 0, 1) := by decide +kernel
theorem dX10_joint_128 : decode cX10_joint 128 = .ok (.getfield 28, 3) := by decide +kernel
theorem dX10_joint_131 : decode cX10_joint 131 = .ok (.iload 16, 2) := by decide +kernel
theorem dX10_joint_133 : decode cX10_joint 133 = .ok (.aload_n 0, 1) := by decide +kernel
theorem dX10_joint_134 : decode cX10_joint 134 = .ok (.getfield 28, 3) := by decide +kernel
theorem dX10_joint_137 : decode cX10_joint 137 = .ok (.iload 16, 2) := by decide +kernel
theorem dX10_joint_139 : decode cX10_joint 139 = .ok (.iconst 1, 1) := by decide +kernel
theorem dX10_joint_140 : decode cX10_joint 140 = .ok (.isub, 1) := by decide +kernel
theorem dX10_joint_141 : decode cX10_joint 141 = .ok (.laload, 1) := by decide +kernel
theorem dX10_joint_142 : decode cX10_joint 142 = .ok (.lastore, 1) := by decide +kernel
theorem dX10_joint_143 : decode cX10_joint 143 = .ok (.aload_n 0, 1) := by decide +kernel
theorem dX10_joint_144 : decode cX10_joint 144 = .ok (.getfield 31, 3) := by decide +kernel
theorem dX10_joint_147 : decode cX10_joint 147 = .ok (.iload 16, 2) := by decide +kernel
theorem dX10_joint_149 : decode cX10_joint 149 = .ok (.aload_n 0, 1) := by decide +kernel
theorem dX10_joint_150 : decode cX10_joint 150 = .ok (.getfield 31, 3) := by decide +kernel
theorem dX10_joint_153 : decode cX10_joint 153 = .ok (.iload 16, 2) := by decide +kernel
theorem dX10_joint_155 : decode cX10_joint 155 = .ok (.iconst 1, 1) := by decide +kernel
theorem dX10_joint_156 : decode cX10_joint 156 = .ok (.isub, 1) := by decide +kernel
theorem dX10_joint_157 : decode cX10_joint 157 = .ok (.laload, 1) := by decide +kernel
theorem dX10_joint_158 : decode cX10_joint 158 = .ok (.lastore, 1) := by decide +kernel
theorem dX10_joint_159 : decode cX10_joint 159 = .ok (.iinc 16 (-1), 3) := by decide +kernel
theorem dX10_joint_162 : decode cX10_joint 162 = .ok (.goto (-58), 3) := by decide +kernel
theorem dX10_joint_165 : decode cX10_joint 165 = .ok (.aload_n 0, 1) := by decide +kernel
theorem dX10_joint_166 : decode cX10_joint 166 = .ok (.getfield 24, 3) := by decide +kernel
theorem dX10_joint_169 : decode cX10_joint 169 = .ok (.iload 15, 2) := by decide +kernel
theorem dX10_joint_171 : decode cX10_joint 171 = .ok (.lload 9, 2) := by decide +kernel
theorem dX10_joint_173 : decode cX10_joint 173 = .ok (.lastore, 1) := by decide +kernel
theorem dX10_joint_174 : decode cX10_joint 174 = .ok (.aload_n 0, 1) := by decide +kernel
theorem dX10_joint_175 : decode cX10_joint 175 = .ok (.getfield 28, 3) := by decide +kernel
theorem dX10_joint_178 : decode cX10_joint 178 = .ok (.iload 15, 2) := by decide +kernel
theorem dX10_joint_180 : decode cX10_joint 180 = .ok (.lload 11, 2) := by decide +kernel
theorem dX10_joint_182 : decode cX10_joint 182 = .ok (.lastore, 1) := by decide +kernel
theorem dX10_joint_183 : decode cX10_joint 183 = .ok (.aload_n 0, 1) := by decide +kernel
theorem dX10_joint_184 : decode cX10_joint 184 = .ok (.getfield 31, 3) := by decide +kernel
theorem dX10_joint_187 : decode cX10_joint 187 = .ok (.iload 15, 2) := by decide +kernel
theorem dX10_joint_189 : decode cX10_joint 189 = .ok (.lload 13, 2) := by decide +kernel
theorem dX10_joint_191 : decode cX10_joint 191 = .ok (.lastore, 1) := by decide +kernel
theorem dX10_joint_192 : decode cX10_joint 192 = .ok (.aload_n 0, 1) := by decide +kernel
theorem dX10_joint_193 : decode cX10_joint 193 = .ok (.dup, 1) := by decide +kernel
theorem dX10_joint_194 : decode cX10_joint 194 = .ok (.getfield 61, 3) := by decide +kernel
theorem dX10_joint_197 : decode cX10_joint 197 = .ok (.iconst 1, 1) := by decide +kernel
theorem dX10_joint_198 : decode cX10_joint 198 = .ok (.iadd, 1) := by decide +kernel
theorem dX10_joint_199 : decode cX10_joint 199 = .ok (.putfield 61, 3) := by decide +kernel
theorem dX10_joint_202 : decode cX10_joint 202 = .ok (.return_, 1) := by decide +kernel
set_option maxRecDepth 20000 in
theorem ggX10_order_J13_compare_74951 : GoodIn wsX10_order wsJ13_compare_74951 := goodIn_r _ [7] rfl (by decide +kernel)
set_option maxRecDepth 20000 in
theorem gX10_order_J13_compare_74951 : GoodIn wsX10_order (va_wsS RX10 92 yJ13_compare_74951 wsJ13_compare_74951) := goodIn_app (goodIn_r ([.methodLink RX10 92 yJ13_compare_74951, .static yJ13_compare_74951, .initialized yJ13_compare_74951.cls] : List Cond) [4, 5, 6] rfl (by decide +kernel)) ggX10_order_J13_compare_74951
theorem dX10_order_0 : decode cX10_order 0 = .ok (.lload_n 3, 1) := by decide +kernel
theorem dX10_order_1 : decode cX10_order 1 = .ok (.aload_n 0, 1) := by decide +kernel
theorem dX10_order_2 : decode cX10_order 2 = .ok (.getfield 31, 3) := by decide +kernel
theorem dX10_order_5 : decode cX10_order 5 = .ok (.iload 7, 2) := by decide +kernel
theorem dX10_order_7 : decode cX10_order 7 = .ok (.laload, 1) := by decide +kernel
theorem dX10_order_8 : decode cX10_order 8 = .ok (.lmul, 1) := by decide +kernel
theorem dX10_order_9 : decode cX10_order 9 = .ok (.aload_n 0, 1) := by decide +kernel
theorem dX10_order_10 : decode cX10_order 10 = .ok (.getfield 28, 3) := by decide +kernel
theorem dX10_order_13 : decode cX10_order 13 = .ok (.iload 7, 2) := by decide +kernel
theorem dX10_order_15 : decode cX10_order 15 = .ok (.laload, 1) := by decide +kernel
theorem dX10_order_16 : decode cX10_order 16 = .ok (.lload 5, 2) := by decide +kernel
theorem dX10_order_18 : decode cX10_order 18 = .ok (.lmul, 1) := by decide +kernel
theorem dX10_order_19 : decode cX10_order 19 = .ok (.invokestatic 92, 3) := by decide +kernel
theorem dX10_order_22 : decode cX10_order 22 = .ok (.istore 8, 2) := by decide +kernel
theorem dX10_order_24 : decode cX10_order 24 = .ok (.iload 8, 2) := by decide +kernel
theorem dX10_order_26 : decode cX10_order 26 = .ok (.ifCond .eq 8, 3) := by decide +kernel
theorem dX10_order_29 : decode cX10_order 29 = .ok (.iload 8, 2) := by decide +kernel
theorem dX10_order_31 : decode cX10_order 31 = .ok (.goto 25, 3) := by decide +kernel
theorem dX10_order_34 : decode cX10_order 34 = .ok (.lload_n 1, 1) := by decide +kernel
theorem dX10_order_35 : decode cX10_order 35 = .ok (.aload_n 0, 1) := by decide +kernel
theorem dX10_order_36 : decode cX10_order 36 = .ok (.getfield 31, 3) := by decide +kernel
theorem dX10_order_39 : decode cX10_order 39 = .ok (.iload 7, 2) := by decide +kernel
theorem dX10_order_41 : decode cX10_order 41 = .ok (.laload, 1) := by decide +kernel
theorem dX10_order_42 : decode cX10_order 42 = .ok (.lmul, 1) := by decide +kernel
theorem dX10_order_43 : decode cX10_order 43 = .ok (.aload_n 0, 1) := by decide +kernel
theorem dX10_order_44 : decode cX10_order 44 = .ok (.getfield 24, 3) := by decide +kernel
theorem dX10_order_47 : decode cX10_order 47 = .ok (.iload 7, 2) := by decide +kernel
theorem dX10_order_49 : decode cX10_order 49 = .ok (.laload, 1) := by decide +kernel
theorem dX10_order_50 : decode cX10_order 50 = .ok (.lload 5, 2) := by decide +kernel
theorem dX10_order_52 : decode cX10_order 52 = .ok (.lmul, 1) := by decide +kernel
theorem dX10_order_53 : decode cX10_order 53 = .ok (.invokestatic 92, 3) := by decide +kernel
theorem dX10_order_56 : decode cX10_order 56 = .ok (.ireturn, 1) := by decide +kernel
set_option maxRecDepth 20000 in
theorem ggX10_cross_X10_joint : GoodIn wsX10_cross wsX10_joint := goodIn_r _ [9, 10, 11, 12, 13, 14, 15, 16, 17, 18, 19, 20, 21, 22, 23, 24, 8, 25, 26, 27, 28, 29, 30, 31, 32, 33, 34, 35, 36, 37, 38, 39, 40, 41, 42, 43, 44, 45] rfl (by decide +kernel)
set_option maxRecDepth 20000 in
theorem gX10_cross_X10_joint : GoodIn wsX10_cross (wsV RX10 64 RX10 yX10_joint wsX10_joint) := goodIn_app (goodIn_r ([.methodLink RX10 64 yX10_joint, .instanceMethod yX10_joint, .selects RX10 yX10_joint yX10_joint, .initialized RX10] : List Cond) [5, 6, 7, 8] rfl (by decide +kernel)) ggX10_cross_X10_joint
theorem dX10_cross_0 : decode cX10_cross 0 = .ok (.aload_n 0, 1) := by decide +kernel
theorem dX10_cross_1 : decode cX10_cross 1 = .ok (.getfield 18, 3) := by decide +kernel
theorem dX10_cross_4 : decode cX10_cross 4 = .ok (.iload_n 1, 1) := by decide +kernel
theorem dX10_cross_5 : decode cX10_cross 5 = .ok (.iaload, 1) := by decide +kernel
theorem dX10_cross_6 : decode cX10_cross 6 = .ok (.aload_n 0, 1) := by decide +kernel
theorem dX10_cross_7 : decode cX10_cross 7 = .ok (.getfield 9, 3) := by decide +kernel
theorem dX10_cross_10 : decode cX10_cross 10 = .ok (.iload_n 1, 1) := by decide +kernel
theorem dX10_cross_11 : decode cX10_cross 11 = .ok (.iaload, 1) := by decide +kernel
theorem dX10_cross_12 : decode cX10_cross 12 = .ok (.isub, 1) := by decide +kernel
theorem dX10_cross_13 : decode cX10_cross 13 = .ok (.i2l, 1) := by decide +kernel
theorem dX10_cross_14 : decode cX10_cross 14 = .ok (.lstore_n 3, 1) := by decide +kernel
theorem dX10_cross_15 : decode cX10_cross 15 = .ok (.aload_n 0, 1) := by decide +kernel
theorem dX10_cross_16 : decode cX10_cross 16 = .ok (.getfield 21, 3) := by decide +kernel
theorem dX10_cross_19 : decode cX10_cross 19 = .ok (.iload_n 1, 1) := by decide +kernel
theorem dX10_cross_20 : decode cX10_cross 20 = .ok (.iaload, 1) := by decide +kernel
theorem dX10_cross_21 : decode cX10_cross 21 = .ok (.aload_n 0, 1) := by decide +kernel
theorem dX10_cross_22 : decode cX10_cross 22 = .ok (.getfield 15, 3) := by decide +kernel
theorem dX10_cross_25 : decode cX10_cross 25 = .ok (.iload_n 1, 1) := by decide +kernel
theorem dX10_cross_26 : decode cX10_cross 26 = .ok (.iaload, 1) := by decide +kernel
theorem dX10_cross_27 : decode cX10_cross 27 = .ok (.isub, 1) := by decide +kernel
theorem dX10_cross_28 : decode cX10_cross 28 = .ok (.i2l, 1) := by decide +kernel
theorem dX10_cross_29 : decode cX10_cross 29 = .ok (.lstore 5, 2) := by decide +kernel
theorem dX10_cross_31 : decode cX10_cross 31 = .ok (.aload_n 0, 1) := by decide +kernel
theorem dX10_cross_32 : decode cX10_cross 32 = .ok (.getfield 18, 3) := by decide +kernel
theorem dX10_cross_35 : decode cX10_cross 35 = .ok (.iload_n 2, 1) := by decide +kernel
theorem dX10_cross_36 : decode cX10_cross 36 = .ok (.iaload, 1) := by decide +kernel
theorem dX10_cross_37 : decode cX10_cross 37 = .ok (.aload_n 0, 1) := by decide +kernel
theorem dX10_cross_38 : decode cX10_cross 38 = .ok (.getfield 9, 3) := by decide +kernel
theorem dX10_cross_41 : decode cX10_cross 41 = .ok (.iload_n 2, 1) := by decide +kernel
theorem dX10_cross_42 : decode cX10_cross 42 = .ok (.iaload, 1) := by decide +kernel
theorem dX10_cross_43 : decode cX10_cross 43 = .ok (.isub, 1) := by decide +kernel
theorem dX10_cross_44 : decode cX10_cross 44 = .ok (.i2l, 1) := by decide +kernel
theorem dX10_cross_45 : decode cX10_cross 45 = .ok (.lstore 7, 2) := by decide +kernel
theorem dX10_cross_47 : decode cX10_cross 47 = .ok (.aload_n 0, 1) := by decide +kernel
theorem dX10_cross_48 : decode cX10_cross 48 = .ok (.getfield 21, 3) := by decide +kernel
theorem dX10_cross_51 : decode cX10_cross 51 = .ok (.iload_n 2, 1) := by decide +kernel
theorem dX10_cross_52 : decode cX10_cross 52 = .ok (.iaload, 1) := by decide +kernel
theorem dX10_cross_53 : decode cX10_cross 53 = .ok (.aload_n 0, 1) := by decide +kernel
theorem dX10_cross_54 : decode cX10_cross 54 = .ok (.getfield 15, 3) := by decide +kernel
theorem dX10_cross_57 : decode cX10_cross 57 = .ok (.iload_n 2, 1) := by decide +kernel
theorem dX10_cross_58 : decode cX10_cross 58 = .ok (.iaload, 1) := by decide +kernel
theorem dX10_cross_59 : decode cX10_cross 59 = .ok (.isub, 1) := by decide +kernel
theorem dX10_cross_60 : decode cX10_cross 60 = .ok (.i2l, 1) := by decide +kernel
theorem dX10_cross_61 : decode cX10_cross 61 = .ok (.lstore 9, 2) := by decide +kernel
theorem dX10_cross_63 : decode cX10_cross 63 = .ok (.lload_n 3, 1) := by decide +kernel
theorem dX10_cross_64 : decode cX10_cross 64 = .ok (.lload 9, 2) := by decide +kernel
theorem dX10_cross_66 : decode cX10_cross 66 = .ok (.lmul, 1) := by decide +kernel
theorem dX10_cross_67 : decode cX10_cross 67 = .ok (.lload 5, 2) := by decide +kernel
theorem dX10_cross_69 : decode cX10_cross 69 = .ok (.lload 7, 2) := by decide +kernel
theorem dX10_cross_71 : decode cX10_cross 71 = .ok (.lmul, 1) := by decide +kernel
theorem dX10_cross_72 : decode cX10_cross 72 = .ok (.lsub, 1) := by decide +kernel
theorem dX10_cross_73 : decode cX10_cross 73 = .ok (.lstore 11, 2) := by decide +kernel
theorem dX10_cross_75 : decode cX10_cross 75 = .ok (.lload 11, 2) := by decide +kernel
theorem dX10_cross_77 : decode cX10_cross 77 = .ok (.lconst 0, 1) := by decide +kernel
theorem dX10_cross_78 : decode cX10_cross 78 = .ok (.lcmp, 1) := by decide +kernel
theorem dX10_cross_79 : decode cX10_cross 79 = .ok (.ifCond .ne 4, 3) := by decide +kernel
theorem dX10_cross_82 : decode cX10_cross 82 = .ok (.return_, 1) := by decide +kernel
theorem dX10_cross_83 : decode cX10_cross 83 = .ok (.aload_n 0, 1) := by decide +kernel
theorem dX10_cross_84 : decode cX10_cross 84 = .ok (.getfield 9, 3) := by decide +kernel
theorem dX10_cross_87 : decode cX10_cross 87 = .ok (.iload_n 2, 1) := by decide +kernel
theorem dX10_cross_88 : decode cX10_cross 88 = .ok (.iaload, 1) := by decide +kernel
theorem dX10_cross_89 : decode cX10_cross 89 = .ok (.aload_n 0, 1) := by decide +kernel
theorem dX10_cross_90 : decode cX10_cross 90 = .ok (.getfield 9, 3) := by decide +kernel
theorem dX10_cross_93 : decode cX10_cross 93 = .ok (.iload_n 1, 1) := by decide +kernel
theorem dX10_cross_94 : decode cX10_cross 94 = .ok (.iaload, 1) := by decide +kernel
theorem dX10_cross_95 : decode cX10_cross 95 = .ok (.isub, 1) := by decide +kernel
theorem dX10_cross_96 : decode cX10_cross 96 = .ok (.i2l, 1) := by decide +kernel
theorem dX10_cross_97 : decode cX10_cross 97 = .ok (.lstore 13, 2) := by decide +kernel
theorem dX10_cross_99 : decode cX10_cross 99 = .ok (.aload_n 0, 1) := by decide +kernel
theorem dX10_cross_100 : decode cX10_cross 100 = .ok (.getfield 15, 3) := by decide +kernel
theorem dX10_cross_103 : decode cX10_cross 103 = .ok (.iload_n 2, 1) := by decide +kernel
theorem dX10_cross_104 : decode cX10_cross 104 = .ok (.iaload, 1) := by decide +kernel
theorem dX10_cross_105 : decode cX10_cross 105 = .ok (.aload_n 0, 1) := by decide +kernel
theorem dX10_cross_106 : decode cX10_cross 106 = .ok (.getfield 15, 3) := by decide +kernel
theorem dX10_cross_109 : decode cX10_cross 109 = .ok (.iload_n 1, 1) := by decide +kernel
theorem dX10_cross_110 : decode cX10_cross 110 = .ok (.iaload, 1) := by decide +kernel
theorem dX10_cross_111 : decode cX10_cross 111 = .ok (.isub, 1) := by decide +kernel
theorem dX10_cross_112 : decode cX10_cross 112 = .ok (.i2l, 1) := by decide +kernel
theorem dX10_cross_113 : decode cX10_cross 113 = .ok (.lstore 15, 2) := by decide +kernel
theorem dX10_cross_115 : decode cX10_cross 115 = .ok (.lload 13, 2) := by decide +kernel
theorem dX10_cross_117 : decode cX10_cross 117 = .ok (.lload 9, 2) := by decide +kernel
theorem dX10_cross_119 : decode cX10_cross 119 = .ok (.lmul, 1) := by decide +kernel
theorem dX10_cross_120 : decode cX10_cross 120 = .ok (.lload 15, 2) := by decide +kernel
theorem dX10_cross_122 : decode cX10_cross 122 = .ok (.lload 7, 2) := by decide +kernel
theorem dX10_cross_124 : decode cX10_cross 124 = .ok (.lmul, 1) := by decide +kernel
theorem dX10_cross_125 : decode cX10_cross 125 = .ok (.lsub, 1) := by decide +kernel
theorem dX10_cross_126 : decode cX10_cross 126 = .ok (.lstore 17, 2) := by decide +kernel
theorem dX10_cross_128 : decode cX10_cross 128 = .ok (.lload 13, 2) := by decide +kernel
theorem dX10_cross_130 : decode cX10_cross 130 = .ok (.lload 5, 2) := by decide +kernel
theorem dX10_cross_132 : decode cX10_cross 132 = .ok (.lmul, 1) := by decide +kernel
theorem dX10_cross_133 : decode cX10_cross 133 = .ok (.lload 15, 2) := by decide +kernel
theorem dX10_cross_135 : decode cX10_cross 135 = .ok (.lload_n 3, 1) := by decide +kernel
theorem dX10_cross_136 : decode cX10_cross 136 = .ok (.lmul, 1) := by decide +kernel
theorem dX10_cross_137 : decode cX10_cross 137 = .ok (.lsub, 1) := by decide +kernel
theorem dX10_cross_138 : decode cX10_cross 138 = .ok (.lstore 19, 2) := by decide +kernel
theorem dX10_cross_140 : decode cX10_cross 140 = .ok (.lload 11, 2) := by decide +kernel
theorem dX10_cross_142 : decode cX10_cross 142 = .ok (.lconst 0, 1) := by decide +kernel
theorem dX10_cross_143 : decode cX10_cross 143 = .ok (.lcmp, 1) := by decide +kernel
theorem dX10_cross_144 : decode cX10_cross 144 = .ok (.ifCond .ge 18, 3) := by decide +kernel
theorem dX10_cross_147 : decode cX10_cross 147 = .ok (.lload 11, 2) := by decide +kernel
theorem dX10_cross_149 : decode cX10_cross 149 = .ok (.lneg, 1) := by decide +kernel
theorem dX10_cross_150 : decode cX10_cross 150 = .ok (.lstore 11, 2) := by decide +kernel
theorem dX10_cross_152 : decode cX10_cross 152 = .ok (.lload 17, 2) := by decide +kernel
theorem dX10_cross_154 : decode cX10_cross 154 = .ok (.lneg, 1) := by decide +kernel
theorem dX10_cross_155 : decode cX10_cross 155 = .ok (.lstore 17, 2) := by decide +kernel
theorem dX10_cross_157 : decode cX10_cross 157 = .ok (.lload 19, 2) := by decide +kernel
theorem dX10_cross_159 : decode cX10_cross 159 = .ok (.lneg, 1) := by decide +kernel
theorem dX10_cross_160 : decode cX10_cross 160 = .ok (.lstore 19, 2) := by decide +kernel
theorem dX10_cross_162 : decode cX10_cross 162 = .ok (.lload 17, 2) := by decide +kernel
theorem dX10_cross_164 : decode cX10_cross 164 = .ok (.lconst 0, 1) := by decide +kernel
theorem dX10_cross_165 : decode cX10_cross 165 = .ok (.lcmp, 1) := by decide +kernel
theorem dX10_cross_166 : decode cX10_cross 166 = .ok (.ifCond .lt 63, 3) := by decide +kernel
theorem dX10_cross_169 : decode cX10_cross 169 = .ok (.lload 17, 2) := by decide +kernel
theorem dX10_cross_171 : decode cX10_cross 171 = .ok (.lload 11, 2) := by decide +kernel
theorem dX10_cross_173 : decode cX10_cross 173 = .ok (.lcmp, 1) := by decide +kernel
theorem dX10_cross_174 : decode cX10_cross 174 = .ok (.ifCond .gt 55, 3) := by decide +kernel
theorem dX10_cross_177 : decode cX10_cross 177 = .ok (.lload 19, 2) := by decide +kernel
theorem dX10_cross_179 : decode cX10_cross 179 = .ok (.lconst 0, 1) := by decide +kernel
theorem dX10_cross_180 : decode cX10_cross 180 = .ok (.lcmp, 1) := by decide +kernel
theorem dX10_cross_181 : decode cX10_cross 181 = .ok (.ifCond .lt 48, 3) := by decide +kernel
theorem dX10_cross_184 : decode cX10_cross 184 = .ok (.lload 19, 2) := by decide +kernel
theorem dX10_cross_186 : decode cX10_cross 186 = .ok (.lload 11, 2) := by decide +kernel
theorem dX10_cross_188 : decode cX10_cross 188 = .ok (.lcmp, 1) := by decide +kernel
theorem dX10_cross_189 : decode cX10_cross 189 = .ok (.ifCond .gt 40, 3) := by decide +kernel
theorem dX10_cross_192 : decode cX10_cross 192 = .ok (.aload_n 0, 1) := by decide +kernel
theorem dX10_cross_193 : decode cX10_cross 193 = .ok (.aload_n 0, 1) := by decide +kernel
theorem dX10_cross_194 : decode cX10_cross 194 = .ok (.getfield 9, 3) := by decide +kernel
theorem dX10_cross_197 : decode cX10_cross 197 = .ok (.iload_n 1, 1) := by decide +kernel
theorem dX10_cross_198 : decode cX10_cross 198 = .ok (.iaload, 1) := by decide +kernel
theorem dX10_cross_199 : decode cX10_cross 199 = .ok (.i2l, 1) := by decide +kernel
theorem dX10_cross_200 : decode cX10_cross 200 = .ok (.lload 11, 2) := by decide +kernel
theorem dX10_cross_202 : decode cX10_cross 202 = .ok (.lmul, 1) := by decide +kernel
theorem dX10_cross_203 : decode cX10_cross 203 = .ok (.lload 17, 2) := by decide +kernel
theorem dX10_cross_205 : decode cX10_cross 205 = .ok (.lload_n 3, 1) := by decide +kernel
theorem dX10_cross_206 : decode cX10_cross 206 = .ok (.lmul, 1) := by decide +kernel
theorem dX10_cross_207 : decode cX10_cross 207 = .ok (.ladd, 1) := by decide +kernel
theorem dX10_cross_208 : decode cX10_cross 208 = .ok (.aload_n 0, 1) := by decide +kernel
theorem dX10_cross_209 : decode cX10_cross 209 = .ok (.getfield 15, 3) := by decide +kernel
theorem dX10_cross_212 : decode cX10_cross 212 = .ok (.iload_n 1, 1) := by decide +kernel
theorem dX10_cross_213 : decode cX10_cross 213 = .ok (.iaload, 1) := by decide +kernel
theorem dX10_cross_214 : decode cX10_cross 214 = .ok (.i2l, 1) := by decide +kernel
theorem dX10_cross_215 : decode cX10_cross 215 = .ok (.lload 11, 2) := by decide +kernel
theorem dX10_cross_217 : decode cX10_cross 217 = .ok (.lmul, 1) := by decide +kernel
theorem dX10_cross_218 : decode cX10_cross 218 = .ok (.lload 17, 2) := by decide +kernel
theorem dX10_cross_220 : decode cX10_cross 220 = .ok (.lload 5, 2) := by decide +kernel
theorem dX10_cross_222 : decode cX10_cross 222 = .ok (.lmul, 1) := by decide +kernel
theorem dX10_cross_223 : decode cX10_cross 223 = .ok (.ladd, 1) := by decide +kernel
theorem dX10_cross_224 : decode cX10_cross 224 = .ok (.lload 11, 2) := by decide +kernel
theorem dX10_cross_226 : decode cX10_cross 226 = .ok (.invokevirtual 64, 3) := by decide +kernel
theorem dX10_cross_229 : decode cX10_cross 229 = .ok (.return_, 1) := by decide +kernel
theorem dX10_isOn_0 : decode cX10_isOn 0 = .ok (.aload_n 0, 1) := by decide +kernel
theorem dX10_isOn_1 : decode cX10_isOn 1 = .ok (.getfield 24, 3) := by decide +kernel
theorem dX10_isOn_4 : decode cX10_isOn 4 = .ok (.iload_n 2, 1) := by decide +kernel
theorem dX10_isOn_5 : decode cX10_isOn 5 = .ok (.laload, 1) := by decide +kernel
theorem dX10_isOn_6 : decode cX10_isOn 6 = .ok (.aload_n 0, 1) := by decide +kernel
theorem dX10_isOn_7 : decode cX10_isOn 7 = .ok (.getfield 9, 3) := by decide +kernel
theorem dX10_isOn_10 : decode cX10_isOn 10 = .ok (.iload_n 1, 1) := by decide +kernel
theorem dX10_isOn_11 : decode cX10_isOn 11 = .ok (.iaload, 1) := by decide +kernel
theorem dX10_isOn_12 : decode cX10_isOn 12 = .ok (.i2l, 1) := by decide +kernel
theorem dX10_isOn_13 : decode cX10_isOn 13 = .ok (.aload_n 0, 1) := by decide +kernel
theorem dX10_isOn_14 : decode cX10_isOn 14 = .ok (.getfield 31, 3) := by decide +kernel
theorem dX10_isOn_17 : decode cX10_isOn 17 = .ok (.iload_n 2, 1) := by decide +kernel
theorem dX10_isOn_18 : decode cX10_isOn 18 = .ok (.laload, 1) := by decide +kernel
theorem dX10_isOn_19 : decode cX10_isOn 19 = .ok (.lmul, 1) := by decide +kernel
theorem dX10_isOn_20 : decode cX10_isOn 20 = .ok (.lsub, 1) := by decide +kernel
theorem dX10_isOn_21 : decode cX10_isOn 21 = .ok (.lstore_n 3, 1) := by decide +kernel
theorem dX10_isOn_22 : decode cX10_isOn 22 = .ok (.aload_n 0, 1) := by decide +kernel
theorem dX10_isOn_23 : decode cX10_isOn 23 = .ok (.getfield 28, 3) := by decide +kernel
theorem dX10_isOn_26 : decode cX10_isOn 26 = .ok (.iload_n 2, 1) := by decide +kernel
theorem dX10_isOn_27 : decode cX10_isOn 27 = .ok (.laload, 1) := by decide +kernel
theorem dX10_isOn_28 : decode cX10_isOn 28 = .ok (.aload_n 0, 1) := by decide +kernel
theorem dX10_isOn_29 : decode cX10_isOn 29 = .ok (.getfield 15, 3) := by decide +kernel
theorem dX10_isOn_32 : decode cX10_isOn 32 = .ok (.iload_n 1, 1) := by decide +kernel
theorem dX10_isOn_33 : decode cX10_isOn 33 = .ok (.iaload, 1) := by decide +kernel
theorem dX10_isOn_34 : decode cX10_isOn 34 = .ok (.i2l, 1) := by decide +kernel
theorem dX10_isOn_35 : decode cX10_isOn 35 = .ok (.aload_n 0, 1) := by decide +kernel
theorem dX10_isOn_36 : decode cX10_isOn 36 = .ok (.getfield 31, 3) := by decide +kernel
theorem dX10_isOn_39 : decode cX10_isOn 39 = .ok (.iload_n 2, 1) := by decide +kernel
theorem dX10_isOn_40 : decode cX10_isOn 40 = .ok (.laload, 1) := by decide +kernel
theorem dX10_isOn_41 : decode cX10_isOn 41 = .ok (.lmul, 1) := by decide +kernel
theorem dX10_isOn_42 : decode cX10_isOn 42 = .ok (.lsub, 1) := by decide +kernel
theorem dX10_isOn_43 : decode cX10_isOn 43 = .ok (.lstore 5, 2) := by decide +kernel
theorem dX10_isOn_45 : decode cX10_isOn 45 = .ok (.aload_n 0, 1) := by decide +kernel
theorem dX10_isOn_46 : decode cX10_isOn 46 = .ok (.getfield 18, 3) := by decide +kernel
theorem dX10_isOn_49 : decode cX10_isOn 49 = .ok (.iload_n 1, 1) := by decide +kernel
theorem dX10_isOn_50 : decode cX10_isOn 50 = .ok (.iaload, 1) := by decide +kernel
theorem dX10_isOn_51 : decode cX10_isOn 51 = .ok (.aload_n 0, 1) := by decide +kernel
theorem dX10_isOn_52 : decode cX10_isOn 52 = .ok (.getfield 9, 3) := by decide +kernel
theorem dX10_isOn_55 : decode cX10_isOn 55 = .ok (.iload_n 1, 1) := by decide +kernel
theorem dX10_isOn_56 : decode cX10_isOn 56 = .ok (.iaload, 1) := by decide +kernel
theorem dX10_isOn_57 : decode cX10_isOn 57 = .ok (.isub, 1) := by decide +kernel
theorem dX10_isOn_58 : decode cX10_isOn 58 = .ok (.i2l, 1) := by decide +kernel
theorem dX10_isOn_59 : decode cX10_isOn 59 = .ok (.lstore 7, 2) := by decide +kernel
theorem dX10_isOn_61 : decode cX10_isOn 61 = .ok (.aload_n 0, 1) := by decide +kernel
theorem dX10_isOn_62 : decode cX10_isOn 62 = .ok (.getfield 21, 3) := by decide +kernel
theorem dX10_isOn_65 : decode cX10_isOn 65 = .ok (.iload_n 1, 1) := by decide +kernel
theorem dX10_isOn_66 : decode cX10_isOn 66 = .ok (.iaload, 1) := by decide +kernel
theorem dX10_isOn_67 : decode cX10_isOn 67 = .ok (.aload_n 0, 1) := by decide +kernel
theorem dX10_isOn_68 : decode cX10_isOn 68 = .ok (.getfield 15, 3) := by decide +kernel
theorem dX10_isOn_71 : decode cX10_isOn 71 = .ok (.iload_n 1, 1) := by decide +kernel
theorem dX10_isOn_72 : decode cX10_isOn 72 = .ok (.iaload, 1) := by decide +kernel
theorem dX10_isOn_73 : decode cX10_isOn 73 = .ok (.isub, 1) := by decide +kernel
theorem dX10_isOn_74 : decode cX10_isOn 74 = .ok (.i2l, 1) := by decide +kernel
theorem dX10_isOn_75 : decode cX10_isOn 75 = .ok (.lstore 9, 2) := by decide +kernel
theorem dX10_isOn_77 : decode cX10_isOn 77 = .ok (.lload_n 3, 1) := by decide +kernel
theorem dX10_isOn_78 : decode cX10_isOn 78 = .ok (.lload 7, 2) := by decide +kernel
theorem dX10_isOn_80 : decode cX10_isOn 80 = .ok (.lmul, 1) := by decide +kernel
theorem dX10_isOn_81 : decode cX10_isOn 81 = .ok (.lload 5, 2) := by decide +kernel
theorem dX10_isOn_83 : decode cX10_isOn 83 = .ok (.lload 9, 2) := by decide +kernel
theorem dX10_isOn_85 : decode cX10_isOn 85 = .ok (.lmul, 1) := by decide +kernel
theorem dX10_isOn_86 : decode cX10_isOn 86 = .ok (.ladd, 1) := by decide +kernel
theorem dX10_isOn_87 : decode cX10_isOn 87 = .ok (.lstore 11, 2) := by decide +kernel
theorem dX10_isOn_89 : decode cX10_isOn 89 = .ok (.lload_n 3, 1) := by decide +kernel
theorem dX10_isOn_90 : decode cX10_isOn 90 = .ok (.lload 9, 2) := by decide +kernel
theorem dX10_isOn_92 : decode cX10_isOn 92 = .ok (.lmul, 1) := by decide +kernel
theorem dX10_isOn_93 : decode cX10_isOn 93 = .ok (.lload 5, 2) := by decide +kernel
theorem dX10_isOn_95 : decode cX10_isOn 95 = .ok (.lload 7, 2) := by decide +kernel
theorem dX10_isOn_97 : decode cX10_isOn 97 = .ok (.lmul, 1) := by decide +kernel
theorem dX10_isOn_98 : decode cX10_isOn 98 = .ok (.lcmp, 1) := by decide +kernel
theorem dX10_isOn_99 : decode cX10_isOn 99 = .ok (.ifCond .ne 38, 3) := by decide +kernel
theorem dX10_isOn_102 : decode cX10_isOn 102 = .ok (.lload 11, 2) := by decide +kernel
theorem dX10_isOn_104 : decode cX10_isOn 104 = .ok (.lconst 0, 1) := by decide +kernel
theorem dX10_isOn_105 : decode cX10_isOn 105 = .ok (.lcmp, 1) := by decide +kernel
theorem dX10_isOn_106 : decode cX10_isOn 106 = .ok (.ifCond .lt 31, 3) := by decide +kernel
theorem dX10_isOn_109 : decode cX10_isOn 109 = .ok (.lload 11, 2) := by decide +kernel
theorem dX10_isOn_111 : decode cX10_isOn 111 = .ok (.lload 7, 2) := by decide +kernel
theorem dX10_isOn_113 : decode cX10_isOn 113 = .ok (.lload 7, 2) := by decide +kernel
theorem dX10_isOn_115 : decode cX10_isOn 115 = .ok (.lmul, 1) := by decide +kernel
theorem dX10_isOn_116 : decode cX10_isOn 116 = .ok (.lload 9, 2) := by decide +kernel
theorem dX10_isOn_118 : decode cX10_isOn 118 = .ok (.lload 9, 2) := by decide +kernel
theorem dX10_isOn_120 : decode cX10_isOn 120 = .ok (.lmul, 1) := by decide +kernel
theorem dX10_isOn_121 : decode cX10_isOn 121 = .ok (.ladd, 1) := by decide +kernel
theorem dX10_isOn_122 : decode cX10_isOn 122 = .ok (.aload_n 0, 1) := by decide +kernel
theorem dX10_isOn_123 : decode cX10_isOn 123 = .ok (.getfield 31, 3) := by decide +kernel
theorem dX10_isOn_126 : decode cX10_isOn 126 = .ok (.iload_n 2, 1) := by decide +kernel
theorem dX10_isOn_127 : decode cX10_isOn 127 = .ok (.laload, 1) := by decide +kernel
theorem dX10_isOn_128 : decode cX10_isOn 128 = .ok (.lmul, 1) := by decide +kernel
theorem dX10_isOn_129 : decode cX10_isOn 129 = .ok (.lcmp, 1) := by decide +kernel
theorem dX10_isOn_130 : decode cX10_isOn 130 = .ok (.ifCond .gt 7, 3) := by decide +kernel
theorem dX10_isOn_133 : decode cX10_isOn 133 = .ok (.iconst 1, 1) := by decide +kernel
theorem dX10_isOn_134 : decode cX10_isOn 134 = .ok (.goto 4, 3) := by decide +kernel
theorem dX10_isOn_137 : decode cX10_isOn 137 = .ok (.iconst 0, 1) := by decide +kernel
theorem dX10_isOn_138 : decode cX10_isOn 138 = .ok (.ireturn, 1) := by decide +kernel
set_option maxRecDepth 20000 in
theorem ggX10_part_X10_isOn : GoodIn wsX10_part wsX10_isOn := goodIn_r _ [9, 10, 11, 12, 13, 14, 15, 16, 21, 22, 23, 24, 25, 26, 27, 28, 29, 30, 31, 32, 33, 34, 35, 36] rfl (by decide +kernel)
set_option maxRecDepth 20000 in
theorem gX10_part_X10_isOn : GoodIn wsX10_part (wsV RX10 98 RX10 yX10_isOn wsX10_isOn) := goodIn_app (goodIn_r ([.methodLink RX10 98 yX10_isOn, .instanceMethod yX10_isOn, .selects RX10 yX10_isOn yX10_isOn, .initialized RX10] : List Cond) [5, 6, 7, 8] rfl (by decide +kernel)) ggX10_part_X10_isOn
set_option maxRecDepth 20000 in
theorem ggX10_part_X10_piece : GoodIn wsX10_part wsX10_piece := goodIn_r _ [20, 3, 2, 4, 21, 22, 23, 24, 25, 26, 27, 28, 29, 30, 31, 32, 33, 34, 35, 36] rfl (by decide +kernel)
set_option maxRecDepth 20000 in
theorem gX10_part_X10_piece : GoodIn wsX10_part (wsV RX10 102 RX10 yX10_piece wsX10_piece) := goodIn_app (goodIn_r ([.methodLink RX10 102 yX10_piece, .instanceMethod yX10_piece, .selects RX10 yX10_piece yX10_piece, .initialized RX10] : List Cond) [17, 18, 19, 8] rfl (by decide +kernel)) ggX10_part_X10_piece
theorem dX10_part_0 : decode cX10_part 0 = .ok (.iconst (-1), 1) := by decide +kernel
theorem dX10_part_1 : decode cX10_part 1 = .ok (.istore_n 2, 1) := by decide +kernel
theorem dX10_part_2 : decode cX10_part 2 = .ok (.iconst 0, 1) := by decide +kernel
theorem dX10_part_3 : decode cX10_part 3 = .ok (.istore_n 3, 1) := by decide +kernel
theorem dX10_part_4 : decode cX10_part 4 = .ok (.iload_n 3, 1) := by decide +kernel
theorem dX10_part_5 : decode cX10_part 5 = .ok (.aload_n 0, 1) := by decide +kernel
theorem dX10_part_6 : decode cX10_part 6 = .ok (.getfield 61, 3) := by decide +kernel
theorem dX10_part_9 : decode cX10_part 9 = .ok (.if_icmp .ge 66, 3) := by decide +kernel
theorem dX10_part_12 : decode cX10_part 12 = .ok (.aload_n 0, 1) := by decide +kernel
theorem dX10_part_13 : decode cX10_part 13 = .ok (.iload_n 1, 1) := by decide +kernel
theorem dX10_part_14 : decode cX10_part 14 = .ok (.iload_n 3, 1) := by decide +kernel
theorem dX10_part_15 : decode cX10_part 15 = .ok (.invokevirtual 98, 3) := by decide +kernel
theorem dX10_part_18 : decode cX10_part 18 = .ok (.ifCond .ne 6, 3) := by decide +kernel
theorem dX10_part_21 : decode cX10_part 21 = .ok (.goto 48, 3) := by decide +kernel
theorem dX10_part_24 : decode cX10_part 24 = .ok (.iload_n 2, 1) := by decide +kernel
theorem dX10_part_25 : decode cX10_part 25 = .ok (.ifCond .lt 42, 3) := by decide +kernel
theorem dX10_part_28 : decode cX10_part 28 = .ok (.aload_n 0, 1) := by decide +kernel
theorem dX10_part_29 : decode cX10_part 29 = .ok (.iload_n 2, 1) := by decide +kernel
theorem dX10_part_30 : decode cX10_part 30 = .ok (.iload_n 3, 1) := by decide +kernel
theorem dX10_part_31 : decode cX10_part 31 = .ok (.invokevirtual 102, 3) := by decide +kernel
theorem dX10_part_34 : decode cX10_part 34 = .ok (.ifCond .ge 33, 3) := by decide +kernel
theorem dX10_part_37 : decode cX10_part 37 = .ok (.aload_n 0, 1) := by decide +kernel
theorem dX10_part_38 : decode cX10_part 38 = .ok (.getfield 34, 3) := by decide +kernel
theorem dX10_part_41 : decode cX10_part 41 = .ok (.aload_n 0, 1) := by decide +kernel
theorem dX10_part_42 : decode cX10_part 42 = .ok (.getfield 72, 3) := by decide +kernel
theorem dX10_part_45 : decode cX10_part 45 = .ok (.iload_n 2, 1) := by decide +kernel
theorem dX10_part_46 : decode cX10_part 46 = .ok (.iastore, 1) := by decide +kernel
theorem dX10_part_47 : decode cX10_part 47 = .ok (.aload_n 0, 1) := by decide +kernel
theorem dX10_part_48 : decode cX10_part 48 = .ok (.getfield 37, 3) := by decide +kernel
theorem dX10_part_51 : decode cX10_part 51 = .ok (.aload_n 0, 1) := by decide +kernel
theorem dX10_part_52 : decode cX10_part 52 = .ok (.getfield 72, 3) := by decide +kernel
theorem dX10_part_55 : decode cX10_part 55 = .ok (.iload_n 3, 1) := by decide +kernel
theorem dX10_part_56 : decode cX10_part 56 = .ok (.iastore, 1) := by decide +kernel
theorem dX10_part_57 : decode cX10_part 57 = .ok (.aload_n 0, 1) := by decide +kernel
theorem dX10_part_58 : decode cX10_part 58 = .ok (.dup, 1) := by decide +kernel
theorem dX10_part_59 : decode cX10_part 59 = .ok (.getfield 72, 3) := by decide +kernel
theorem dX10_part_62 : decode cX10_part 62 = .ok (.iconst 1, 1) := by decide +kernel
theorem dX10_part_63 : decode cX10_part 63 = .ok (.iadd, 1) := by decide +kernel
theorem dX10_part_64 : decode cX10_part 64 = .ok (.putfield 72, 3) := by decide +kernel
theorem dX10_part_67 : decode cX10_part 67 = .ok (.iload_n 3, 1) := by decide +kernel
theorem dX10_part_68 : decode cX10_part 68 = .ok (.istore_n 2, 1) := by decide +kernel
theorem dX10_part_69 : decode cX10_part 69 = .ok (.iinc 3 1, 3) := by decide +kernel
theorem dX10_part_72 : decode cX10_part 72 = .ok (.goto (-68), 3) := by decide +kernel
theorem dX10_part_75 : decode cX10_part 75 = .ok (.return_, 1) := by decide +kernel
theorem dX10_piece_0 : decode cX10_piece 0 = .ok (.iconst 0, 1) := by decide +kernel
theorem dX10_piece_1 : decode cX10_piece 1 = .ok (.istore_n 3, 1) := by decide +kernel
theorem dX10_piece_2 : decode cX10_piece 2 = .ok (.iload_n 3, 1) := by decide +kernel
theorem dX10_piece_3 : decode cX10_piece 3 = .ok (.aload_n 0, 1) := by decide +kernel
theorem dX10_piece_4 : decode cX10_piece 4 = .ok (.getfield 72, 3) := by decide +kernel
theorem dX10_piece_7 : decode cX10_piece 7 = .ok (.if_icmp .ge 51, 3) := by decide +kernel
theorem dX10_piece_10 : decode cX10_piece 10 = .ok (.aload_n 0, 1) := by decide +kernel
theorem dX10_piece_11 : decode cX10_piece 11 = .ok (.getfield 34, 3) := by decide +kernel
theorem dX10_piece_14 : decode cX10_piece 14 = .ok (.iload_n 3, 1) := by decide +kernel
theorem dX10_piece_15 : decode cX10_piece 15 = .ok (.iaload, 1) := by decide +kernel
theorem dX10_piece_16 : decode cX10_piece 16 = .ok (.iload_n 1, 1) := by decide +kernel
theorem dX10_piece_17 : decode cX10_piece 17 = .ok (.if_icmp .ne 13, 3) := by decide +kernel
theorem dX10_piece_20 : decode cX10_piece 20 = .ok (.aload_n 0, 1) := by decide +kernel
theorem dX10_piece_21 : decode cX10_piece 21 = .ok (.getfield 37, 3) := by decide +kernel
theorem dX10_piece_24 : decode cX10_piece 24 = .ok (.iload_n 3, 1) := by decide +kernel
theorem dX10_piece_25 : decode cX10_piece 25 = .ok (.iaload, 1) := by decide +kernel
theorem dX10_piece_26 : decode cX10_piece 26 = .ok (.iload_n 2, 1) := by decide +kernel
theorem dX10_piece_27 : decode cX10_piece 27 = .ok (.if_icmp .eq 23, 3) := by decide +kernel
theorem dX10_piece_30 : decode cX10_piece 30 = .ok (.aload_n 0, 1) := by decide +kernel
theorem dX10_piece_31 : decode cX10_piece 31 = .ok (.getfield 34, 3) := by decide +kernel
theorem dX10_piece_34 : decode cX10_piece 34 = .ok (.iload_n 3, 1) := by decide +kernel
theorem dX10_piece_35 : decode cX10_piece 35 = .ok (.iaload, 1) := by decide +kernel
theorem dX10_piece_36 : decode cX10_piece 36 = .ok (.iload_n 2, 1) := by decide +kernel
theorem dX10_piece_37 : decode cX10_piece 37 = .ok (.if_icmp .ne 15, 3) := by decide +kernel
theorem dX10_piece_40 : decode cX10_piece 40 = .ok (.aload_n 0, 1) := by decide +kernel
theorem dX10_piece_41 : decode cX10_piece 41 = .ok (.getfield 37, 3) := by decide +kernel
theorem dX10_piece_44 : decode cX10_piece 44 = .ok (.iload_n 3, 1) := by decide +kernel
theorem dX10_piece_45 : decode cX10_piece 45 = .ok (.iaload, 1) := by decide +kernel
theorem dX10_piece_46 : decode cX10_piece 46 = .ok (.iload_n 1, 1) := by decide +kernel
theorem dX10_piece_47 : decode cX10_piece 47 = .ok (.if_icmp .ne 5, 3) := by decide +kernel
theorem dX10_piece_50 : decode cX10_piece 50 = .ok (.iload_n 3, 1) := by decide +kernel
theorem dX10_piece_51 : decode cX10_piece 51 = .ok (.ireturn, 1) := by decide +kernel
theorem dX10_piece_52 : decode cX10_piece 52 = .ok (.iinc 3 1, 3) := by decide +kernel
theorem dX10_piece_55 : decode cX10_piece 55 = .ok (.goto (-53), 3) := by decide +kernel
theorem dX10_piece_58 : decode cX10_piece 58 = .ok (.iconst (-1), 1) := by decide +kernel
theorem dX10_piece_59 : decode cX10_piece 59 = .ok (.ireturn, 1) := by decide +kernel
theorem dX10_isSide_0 : decode cX10_isSide 0 = .ok (.aload_n 0, 1) := by decide +kernel
theorem dX10_isSide_1 : decode cX10_isSide 1 = .ok (.getfield 24, 3) := by decide +kernel
theorem dX10_isSide_4 : decode cX10_isSide 4 = .ok (.iload_n 1, 1) := by decide +kernel
theorem dX10_isSide_5 : decode cX10_isSide 5 = .ok (.laload, 1) := by decide +kernel
theorem dX10_isSide_6 : decode cX10_isSide 6 = .ok (.lconst 0, 1) := by decide +kernel
theorem dX10_isSide_7 : decode cX10_isSide 7 = .ok (.lcmp, 1) := by decide +kernel
theorem dX10_isSide_8 : decode cX10_isSide 8 = .ok (.ifCond .eq 58, 3) := by decide +kernel
theorem dX10_isSide_11 : decode cX10_isSide 11 = .ok (.aload_n 0, 1) := by decide +kernel
theorem dX10_isSide_12 : decode cX10_isSide 12 = .ok (.getfield 28, 3) := by decide +kernel
theorem dX10_isSide_15 : decode cX10_isSide 15 = .ok (.iload_n 1, 1) := by decide +kernel
theorem dX10_isSide_16 : decode cX10_isSide 16 = .ok (.laload, 1) := by decide +kernel
theorem dX10_isSide_17 : decode cX10_isSide 17 = .ok (.lconst 0, 1) := by decide +kernel
theorem dX10_isSide_18 : decode cX10_isSide 18 = .ok (.lcmp, 1) := by decide +kernel
theorem dX10_isSide_19 : decode cX10_isSide 19 = .ok (.ifCond .eq 47, 3) := by decide +kernel
theorem dX10_isSide_22 : decode cX10_isSide 22 = .ok (.aload_n 0, 1) := by decide +kernel
theorem dX10_isSide_23 : decode cX10_isSide 23 = .ok (.getfield 24, 3) := by decide +kernel
theorem dX10_isSide_26 : decode cX10_isSide 26 = .ok (.iload_n 1, 1) := by decide +kernel
theorem dX10_isSide_27 : decode cX10_isSide 27 = .ok (.laload, 1) := by decide +kernel
theorem dX10_isSide_28 : decode cX10_isSide 28 = .ok (.aload_n 0, 1) := by decide +kernel
theorem dX10_isSide_29 : decode cX10_isSide 29 = .ok (.getfield 44, 3) := by decide +kernel
theorem dX10_isSide_32 : decode cX10_isSide 32 = .ok (.i2l, 1) := by decide +kernel
theorem dX10_isSide_33 : decode cX10_isSide 33 = .ok (.aload_n 0, 1) := by decide +kernel
theorem dX10_isSide_34 : decode cX10_isSide 34 = .ok (.getfield 31, 3) := by decide +kernel
theorem dX10_isSide_37 : decode cX10_isSide 37 = .ok (.iload_n 1, 1) := by decide +kernel
theorem dX10_isSide_38 : decode cX10_isSide 38 = .ok (.laload, 1) := by decide +kernel
theorem dX10_isSide_39 : decode cX10_isSide 39 = .ok (.lmul, 1) := by decide +kernel
theorem dX10_isSide_40 : decode cX10_isSide 40 = .ok (.lcmp, 1) := by decide +kernel
theorem dX10_isSide_41 : decode cX10_isSide 41 = .ok (.ifCond .eq 25, 3) := by decide +kernel
theorem dX10_isSide_44 : decode cX10_isSide 44 = .ok (.aload_n 0, 1) := by decide +kernel
theorem dX10_isSide_45 : decode cX10_isSide 45 = .ok (.getfield 28, 3) := by decide +kernel
theorem dX10_isSide_48 : decode cX10_isSide 48 = .ok (.iload_n 1, 1) := by decide +kernel
theorem dX10_isSide_49 : decode cX10_isSide 49 = .ok (.laload, 1) := by decide +kernel
theorem dX10_isSide_50 : decode cX10_isSide 50 = .ok (.aload_n 0, 1) := by decide +kernel
theorem dX10_isSide_51 : decode cX10_isSide 51 = .ok (.getfield 48, 3) := by decide +kernel
theorem dX10_isSide_54 : decode cX10_isSide 54 = .ok (.i2l, 1) := by decide +kernel
theorem dX10_isSide_55 : decode cX10_isSide 55 = .ok (.aload_n 0, 1) := by decide +kernel
theorem dX10_isSide_56 : decode cX10_isSide 56 = .ok (.getfield 31, 3) := by decide +kernel
theorem dX10_isSide_59 : decode cX10_isSide 59 = .ok (.iload_n 1, 1) := by decide +kernel
theorem dX10_isSide_60 : decode cX10_isSide 60 = .ok (.laload, 1) := by decide +kernel
theorem dX10_isSide_61 : decode cX10_isSide 61 = .ok (.lmul, 1) := by decide +kernel
theorem dX10_isSide_62 : decode cX10_isSide 62 = .ok (.lcmp, 1) := by decide +kernel
theorem dX10_isSide_63 : decode cX10_isSide 63 = .ok (.ifCond .ne 7, 3) := by decide +kernel
theorem dX10_isSide_66 : decode cX10_isSide 66 = .ok (.iconst 1, 1) := by decide +kernel
theorem dX10_isSide_67 : decode cX10_isSide 67 = .ok (.goto 4, 3) := by decide +kernel
theorem dX10_isSide_70 : decode cX10_isSide 70 = .ok (.iconst 0, 1) := by decide +kernel
theorem dX10_isSide_71 : decode cX10_isSide 71 = .ok (.ireturn, 1) := by decide +kernel
set_option maxRecDepth 20000 in
theorem ggX10_loosen_X10_isSide : GoodIn wsX10_loosen wsX10_isSide := goodIn_r _ [11, 12, 13, 14, 15, 16, 21, 22, 23, 24, 25, 26, 27, 28, 29, 30, 31, 32, 33, 34, 35, 36] rfl (by decide +kernel)
set_option maxRecDepth 20000 in
theorem gX10_loosen_X10_isSide : GoodIn wsX10_loosen (wsV RX10 106 RX10 yX10_isSide wsX10_isSide) := goodIn_app (goodIn_r ([.methodLink RX10 106 yX10_isSide, .instanceMethod yX10_isSide, .selects RX10 yX10_isSide yX10_isSide, .initialized RX10] : List Cond) [7, 8, 9, 10] rfl (by decide +kernel)) ggX10_loosen_X10_isSide
set_option maxRecDepth 20000 in
theorem ggX10_loosen_X10_ends : GoodIn wsX10_loosen wsX10_ends := goodIn_r _ [20, 3, 4, 5, 6, 21, 22, 23, 24, 25, 26, 27, 28, 29, 30, 31, 32, 33, 34, 35, 36] rfl (by decide +kernel)
set_option maxRecDepth 20000 in
theorem gX10_loosen_X10_ends : GoodIn wsX10_loosen (wsV RX10 110 RX10 yX10_ends wsX10_ends) := goodIn_app (goodIn_r ([.methodLink RX10 110 yX10_ends, .instanceMethod yX10_ends, .selects RX10 yX10_ends yX10_ends, .initialized RX10] : List Cond) [17, 18, 19, 10] rfl (by decide +kernel)) ggX10_loosen_X10_ends
theorem dX10_loosen_0 : decode cX10_loosen 0 = .ok (.aload_n 0, 1) := by decide +kernel
theorem dX10_loosen_1 : decode cX10_loosen 1 = .ok (.getfield 61, 3) := by decide +kernel
theorem dX10_loosen_4 : decode cX10_loosen 4 = .ok (.newarray .boolean, 2) := by decide +kernel
theorem dX10_loosen_6 : decode cX10_loosen 6 = .ok (.astore_n 1, 1) := by decide +kernel
theorem dX10_loosen_7 : decode cX10_loosen 7 = .ok (.iconst 0, 1) := by decide +kernel
theorem dX10_loosen_8 : decode cX10_loosen 8 = .ok (.istore_n 2, 1) := by decide +kernel
theorem dX10_loosen_9 : decode cX10_loosen 9 = .ok (.iload_n 2, 1) := by decide +kernel
theorem dX10_loosen_10 : decode cX10_loosen 10 = .ok (.aload_n 0, 1) := by decide +kernel
theorem dX10_loosen_11 : decode cX10_loosen 11 = .ok (.getfield 61, 3) := by decide +kernel
theorem dX10_loosen_14 : decode cX10_loosen 14 = .ok (.if_icmp .ge 17, 3) := by decide +kernel
theorem dX10_loosen_17 : decode cX10_loosen 17 = .ok (.aload_n 1, 1) := by decide +kernel
theorem dX10_loosen_18 : decode cX10_loosen 18 = .ok (.iload_n 2, 1) := by decide +kernel
theorem dX10_loosen_19 : decode cX10_loosen 19 = .ok (.aload_n 0, 1) := by decide +kernel
theorem dX10_loosen_20 : decode cX10_loosen 20 = .ok (.iload_n 2, 1) := by decide +kernel
theorem dX10_loosen_21 : decode cX10_loosen 21 = .ok (.invokevirtual 106, 3) := by decide +kernel
theorem dX10_loosen_24 : decode cX10_loosen 24 = .ok (.bastore, 1) := by decide +kernel
theorem dX10_loosen_25 : decode cX10_loosen 25 = .ok (.iinc 2 1, 3) := by decide +kernel
theorem dX10_loosen_28 : decode cX10_loosen 28 = .ok (.goto (-19), 3) := by decide +kernel
theorem dX10_loosen_31 : decode cX10_loosen 31 = .ok (.iconst 1, 1) := by decide +kernel
theorem dX10_loosen_32 : decode cX10_loosen 32 = .ok (.istore_n 2, 1) := by decide +kernel
theorem dX10_loosen_33 : decode cX10_loosen 33 = .ok (.iload_n 2, 1) := by decide +kernel
theorem dX10_loosen_34 : decode cX10_loosen 34 = .ok (.ifCond .eq 63, 3) := by decide +kernel
theorem dX10_loosen_37 : decode cX10_loosen 37 = .ok (.iconst 0, 1) := by decide +kernel
theorem dX10_loosen_38 : decode cX10_loosen 38 = .ok (.istore_n 2, 1) := by decide +kernel
theorem dX10_loosen_39 : decode cX10_loosen 39 = .ok (.iconst 0, 1) := by decide +kernel
theorem dX10_loosen_40 : decode cX10_loosen 40 = .ok (.istore_n 3, 1) := by decide +kernel
theorem dX10_loosen_41 : decode cX10_loosen 41 = .ok (.iload_n 3, 1) := by decide +kernel
theorem dX10_loosen_42 : decode cX10_loosen 42 = .ok (.aload_n 0, 1) := by decide +kernel
theorem dX10_loosen_43 : decode cX10_loosen 43 = .ok (.getfield 72, 3) := by decide +kernel
theorem dX10_loosen_46 : decode cX10_loosen 46 = .ok (.if_icmp .ge 48, 3) := by decide +kernel
theorem dX10_loosen_49 : decode cX10_loosen 49 = .ok (.aload_n 1, 1) := by decide +kernel
theorem dX10_loosen_50 : decode cX10_loosen 50 = .ok (.aload_n 0, 1) := by decide +kernel
theorem dX10_loosen_51 : decode cX10_loosen 51 = .ok (.getfield 34, 3) := by decide +kernel
theorem dX10_loosen_54 : decode cX10_loosen 54 = .ok (.iload_n 3, 1) := by decide +kernel
theorem dX10_loosen_55 : decode cX10_loosen 55 = .ok (.iaload, 1) := by decide +kernel
theorem dX10_loosen_56 : decode cX10_loosen 56 = .ok (.baload, 1) := by decide +kernel
theorem dX10_loosen_57 : decode cX10_loosen 57 = .ok (.aload_n 1, 1) := by decide +kernel
theorem dX10_loosen_58 : decode cX10_loosen 58 = .ok (.aload_n 0, 1) := by decide +kernel
theorem dX10_loosen_59 : decode cX10_loosen 59 = .ok (.getfield 37, 3) := by decide +kernel
theorem dX10_loosen_62 : decode cX10_loosen 62 = .ok (.iload_n 3, 1) := by decide +kernel
theorem dX10_loosen_63 : decode cX10_loosen 63 = .ok (.iaload, 1) := by decide +kernel
theorem dX10_loosen_64 : decode cX10_loosen 64 = .ok (.baload, 1) := by decide +kernel
theorem dX10_loosen_65 : decode cX10_loosen 65 = .ok (.if_icmp .eq 23, 3) := by decide +kernel
theorem dX10_loosen_68 : decode cX10_loosen 68 = .ok (.aload_n 1, 1) := by decide +kernel
theorem dX10_loosen_69 : decode cX10_loosen 69 = .ok (.aload_n 0, 1) := by decide +kernel
theorem dX10_loosen_70 : decode cX10_loosen 70 = .ok (.getfield 34, 3) := by decide +kernel
theorem dX10_loosen_73 : decode cX10_loosen 73 = .ok (.iload_n 3, 1) := by decide +kernel
theorem dX10_loosen_74 : decode cX10_loosen 74 = .ok (.iaload, 1) := by decide +kernel
theorem dX10_loosen_75 : decode cX10_loosen 75 = .ok (.iconst 1, 1) := by decide +kernel
theorem dX10_loosen_76 : decode cX10_loosen 76 = .ok (.bastore, 1) := by decide +kernel
theorem dX10_loosen_77 : decode cX10_loosen 77 = .ok (.aload_n 1, 1) := by decide +kernel
theorem dX10_loosen_78 : decode cX10_loosen 78 = .ok (.aload_n 0, 1) := by decide +kernel
theorem dX10_loosen_79 : decode cX10_loosen 79 = .ok (.getfield 37, 3) := by decide +kernel
theorem dX10_loosen_82 : decode cX10_loosen 82 = .ok (.iload_n 3, 1) := by decide +kernel
theorem dX10_loosen_83 : decode cX10_loosen 83 = .ok (.iaload, 1) := by decide +kernel
theorem dX10_loosen_84 : decode cX10_loosen 84 = .ok (.iconst 1, 1) := by decide +kernel
theorem dX10_loosen_85 : decode cX10_loosen 85 = .ok (.bastore, 1) := by decide +kernel
theorem dX10_loosen_86 : decode cX10_loosen 86 = .ok (.iconst 1, 1) := by decide +kernel
theorem dX10_loosen_87 : decode cX10_loosen 87 = .ok (.istore_n 2, 1) := by decide +kernel
theorem dX10_loosen_88 : decode cX10_loosen 88 = .ok (.iinc 3 1, 3) := by decide +kernel
theorem dX10_loosen_91 : decode cX10_loosen 91 = .ok (.goto (-50), 3) := by decide +kernel
theorem dX10_loosen_94 : decode cX10_loosen 94 = .ok (.goto (-61), 3) := by decide +kernel
theorem dX10_loosen_97 : decode cX10_loosen 97 = .ok (.iconst 0, 1) := by decide +kernel
theorem dX10_loosen_98 : decode cX10_loosen 98 = .ok (.istore_n 3, 1) := by decide +kernel
theorem dX10_loosen_99 : decode cX10_loosen 99 = .ok (.iload_n 3, 1) := by decide +kernel
theorem dX10_loosen_100 : decode cX10_loosen 100 = .ok (.aload_n 0, 1) := by decide +kernel
theorem dX10_loosen_101 : decode cX10_loosen 101 = .ok (.getfield 72, 3) := by decide +kernel
theorem dX10_loosen_104 : decode cX10_loosen 104 = .ok (.if_icmp .ge 23, 3) := by decide +kernel
theorem dX10_loosen_107 : decode cX10_loosen 107 = .ok (.aload_n 0, 1) := by decide +kernel
theorem dX10_loosen_108 : decode cX10_loosen 108 = .ok (.getfield 40, 3) := by decide +kernel
theorem dX10_loosen_111 : decode cX10_loosen 111 = .ok (.iload_n 3, 1) := by decide +kernel
theorem dX10_loosen_112 : decode cX10_loosen 112 = .ok (.aload_n 1, 1) := by decide +kernel
theorem dX10_loosen_113 : decode cX10_loosen 113 = .ok (.aload_n 0, 1) := by decide +kernel
theorem dX10_loosen_114 : decode cX10_loosen 114 = .ok (.getfield 34, 3) := by decide +kernel
theorem dX10_loosen_117 : decode cX10_loosen 117 = .ok (.iload_n 3, 1) := by decide +kernel
theorem dX10_loosen_118 : decode cX10_loosen 118 = .ok (.iaload, 1) := by decide +kernel
theorem dX10_loosen_119 : decode cX10_loosen 119 = .ok (.baload, 1) := by decide +kernel
theorem dX10_loosen_120 : decode cX10_loosen 120 = .ok (.bastore, 1) := by decide +kernel
theorem dX10_loosen_121 : decode cX10_loosen 121 = .ok (.iinc 3 1, 3) := by decide +kernel
theorem dX10_loosen_124 : decode cX10_loosen 124 = .ok (.goto (-25), 3) := by decide +kernel
theorem dX10_loosen_127 : decode cX10_loosen 127 = .ok (.iconst 1, 1) := by decide +kernel
theorem dX10_loosen_128 : decode cX10_loosen 128 = .ok (.istore_n 2, 1) := by decide +kernel
theorem dX10_loosen_129 : decode cX10_loosen 129 = .ok (.iload_n 2, 1) := by decide +kernel
theorem dX10_loosen_130 : decode cX10_loosen 130 = .ok (.ifCond .eq 72, 3) := by decide +kernel
theorem dX10_loosen_133 : decode cX10_loosen 133 = .ok (.iconst 0, 1) := by decide +kernel
theorem dX10_loosen_134 : decode cX10_loosen 134 = .ok (.istore_n 2, 1) := by decide +kernel
theorem dX10_loosen_135 : decode cX10_loosen 135 = .ok (.iconst 0, 1) := by decide +kernel
theorem dX10_loosen_136 : decode cX10_loosen 136 = .ok (.istore_n 3, 1) := by decide +kernel
theorem dX10_loosen_137 : decode cX10_loosen 137 = .ok (.iload_n 3, 1) := by decide +kernel
theorem dX10_loosen_138 : decode cX10_loosen 138 = .ok (.aload_n 0, 1) := by decide +kernel
theorem dX10_loosen_139 : decode cX10_loosen 139 = .ok (.getfield 72, 3) := by decide +kernel
theorem dX10_loosen_142 : decode cX10_loosen 142 = .ok (.if_icmp .ge 57, 3) := by decide +kernel
theorem dX10_loosen_145 : decode cX10_loosen 145 = .ok (.aload_n 0, 1) := by decide +kernel
theorem dX10_loosen_146 : decode cX10_loosen 146 = .ok (.getfield 40, 3) := by decide +kernel
theorem dX10_loosen_149 : decode cX10_loosen 149 = .ok (.iload_n 3, 1) := by decide +kernel
theorem dX10_loosen_150 : decode cX10_loosen 150 = .ok (.baload, 1) := by decide +kernel
theorem dX10_loosen_151 : decode cX10_loosen 151 = .ok (.ifCond .eq 42, 3) := by decide +kernel
theorem dX10_loosen_154 : decode cX10_loosen 154 = .ok (.aload_n 0, 1) := by decide +kernel
theorem dX10_loosen_155 : decode cX10_loosen 155 = .ok (.aload_n 0, 1) := by decide +kernel
theorem dX10_loosen_156 : decode cX10_loosen 156 = .ok (.getfield 34, 3) := by decide +kernel
theorem dX10_loosen_159 : decode cX10_loosen 159 = .ok (.iload_n 3, 1) := by decide +kernel
theorem dX10_loosen_160 : decode cX10_loosen 160 = .ok (.iaload, 1) := by decide +kernel
theorem dX10_loosen_161 : decode cX10_loosen 161 = .ok (.iconst 1, 1) := by decide +kernel
theorem dX10_loosen_162 : decode cX10_loosen 162 = .ok (.invokevirtual 110, 3) := by decide +kernel
theorem dX10_loosen_165 : decode cX10_loosen 165 = .ok (.iconst 1, 1) := by decide +kernel
theorem dX10_loosen_166 : decode cX10_loosen 166 = .ok (.if_icmp .eq 18, 3) := by decide +kernel
theorem dX10_loosen_169 : decode cX10_loosen 169 = .ok (.aload_n 0, 1) := by decide +kernel
theorem dX10_loosen_170 : decode cX10_loosen 170 = .ok (.aload_n 0, 1) := by decide +kernel
theorem dX10_loosen_171 : decode cX10_loosen 171 = .ok (.getfield 37, 3) := by decide +kernel
theorem dX10_loosen_174 : decode cX10_loosen 174 = .ok (.iload_n 3, 1) := by decide +kernel
theorem dX10_loosen_175 : decode cX10_loosen 175 = .ok (.iaload, 1) := by decide +kernel
theorem dX10_loosen_176 : decode cX10_loosen 176 = .ok (.iconst 1, 1) := by decide +kernel
theorem dX10_loosen_177 : decode cX10_loosen 177 = .ok (.invokevirtual 110, 3) := by decide +kernel
theorem dX10_loosen_180 : decode cX10_loosen 180 = .ok (.iconst 1, 1) := by decide +kernel
theorem dX10_loosen_181 : decode cX10_loosen 181 = .ok (.if_icmp .ne 12, 3) := by decide +kernel
theorem dX10_loosen_184 : decode cX10_loosen 184 = .ok (.aload_n 0, 1) := by decide +kernel
theorem dX10_loosen_185 : decode cX10_loosen 185 = .ok (.getfield 40, 3) := by decide +kernel
theorem dX10_loosen_188 : decode cX10_loosen 188 = .ok (.iload_n 3, 1) := by decide +kernel
theorem dX10_loosen_189 : decode cX10_loosen 189 = .ok (.iconst 0, 1) := by decide +kernel
theorem dX10_loosen_190 : decode cX10_loosen 190 = .ok (.bastore, 1) := by decide +kernel
theorem dX10_loosen_191 : decode cX10_loosen 191 = .ok (.iconst 1, 1) := by decide +kernel
theorem dX10_loosen_192 : decode cX10_loosen 192 = .ok (.istore_n 2, 1) := by decide +kernel
theorem dX10_loosen_193 : decode cX10_loosen 193 = .ok (.iinc 3 1, 3) := by decide +kernel
theorem dX10_loosen_196 : decode cX10_loosen 196 = .ok (.goto (-59), 3) := by decide +kernel
theorem dX10_loosen_199 : decode cX10_loosen 199 = .ok (.goto (-70), 3) := by decide +kernel
theorem dX10_loosen_202 : decode cX10_loosen 202 = .ok (.return_, 1) := by decide +kernel
theorem dX10_ends_0 : decode cX10_ends 0 = .ok (.iconst 0, 1) := by decide +kernel
theorem dX10_ends_1 : decode cX10_ends 1 = .ok (.istore_n 3, 1) := by decide +kernel
theorem dX10_ends_2 : decode cX10_ends 2 = .ok (.iconst 0, 1) := by decide +kernel
theorem dX10_ends_3 : decode cX10_ends 3 = .ok (.istore 4, 2) := by decide +kernel
theorem dX10_ends_5 : decode cX10_ends 5 = .ok (.iload 4, 2) := by decide +kernel
theorem dX10_ends_7 : decode cX10_ends 7 = .ok (.aload_n 0, 1) := by decide +kernel
theorem dX10_ends_8 : decode cX10_ends 8 = .ok (.getfield 72, 3) := by decide +kernel
theorem dX10_ends_11 : decode cX10_ends 11 = .ok (.if_icmp .ge 53, 3) := by decide +kernel
theorem dX10_ends_14 : decode cX10_ends 14 = .ok (.iload_n 3, 1) := by decide +kernel
theorem dX10_ends_15 : decode cX10_ends 15 = .ok (.aload_n 0, 1) := by decide +kernel
theorem dX10_ends_16 : decode cX10_ends 16 = .ok (.getfield 34, 3) := by decide +kernel
theorem dX10_ends_19 : decode cX10_ends 19 = .ok (.iload 4, 2) := by decide +kernel
