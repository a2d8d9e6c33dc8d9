theorem dX0_init_0 : decode cX0_init 0 = .ok (.aload_n 0, 1) := by decide +kernel
theorem dX0_init_1 : decode cX0_init 1 = .ok (.invokespecial 3, 3) := by decide +kernel
theorem dX0_init_4 : decode cX0_init 4 = .ok (.aload_n 0, 1) := by decide +kernel
theorem dX0_init_5 : decode cX0_init 5 = .ok (.bipush 6, 2) := by decide +kernel
theorem dX0_init_7 : decode cX0_init 7 = .ok (.newarray .int, 2) := by decide +kernel
theorem dX0_init_9 : decode cX0_init 9 = .ok (.putfield 9, 3) := by decide +kernel
theorem dX0_init_12 : decode cX0_init 12 = .ok (.aload_n 0, 1) := by decide +kernel
theorem dX0_init_13 : decode cX0_init 13 = .ok (.bipush 6, 2) := by decide +kernel
theorem dX0_init_15 : decode cX0_init 15 = .ok (.newarray .int, 2) := by decide +kernel
theorem dX0_init_17 : decode cX0_init 17 = .ok (.putfield 15, 3) := by decide +kernel
theorem dX0_init_20 : decode cX0_init 20 = .ok (.aload_n 0, 1) := by decide +kernel
theorem dX0_init_21 : decode cX0_init 21 = .ok (.bipush 6, 2) := by decide +kernel
theorem dX0_init_23 : decode cX0_init 23 = .ok (.newarray .boolean, 2) := by decide +kernel
theorem dX0_init_25 : decode cX0_init 25 = .ok (.putfield 18, 3) := by decide +kernel
theorem dX0_init_28 : decode cX0_init 28 = .ok (.aload_n 0, 1) := by decide +kernel
theorem dX0_init_29 : decode cX0_init 29 = .ok (.sipush 832, 3) := by decide +kernel
theorem dX0_init_32 : decode cX0_init 32 = .ok (.newarray .int, 2) := by decide +kernel
theorem dX0_init_34 : decode cX0_init 34 = .ok (.putfield 22, 3) := by decide +kernel
theorem dX0_init_37 : decode cX0_init 37 = .ok (.aload_n 0, 1) := by decide +kernel
theorem dX0_init_38 : decode cX0_init 38 = .ok (.bipush 64, 2) := by decide +kernel
theorem dX0_init_40 : decode cX0_init 40 = .ok (.newarray .int, 2) := by decide +kernel
theorem dX0_init_42 : decode cX0_init 42 = .ok (.putfield 25, 3) := by decide +kernel
theorem dX0_init_45 : decode cX0_init 45 = .ok (.return_, 1) := by decide +kernel
theorem dX0_clear_0 : decode cX0_clear 0 = .ok (.aload_n 0, 1) := by decide +kernel
theorem dX0_clear_1 : decode cX0_clear 1 = .ok (.iconst 0, 1) := by decide +kernel
theorem dX0_clear_2 : decode cX0_clear 2 = .ok (.putfield 28, 3) := by decide +kernel
theorem dX0_clear_5 : decode cX0_clear 5 = .ok (.return_, 1) := by decide +kernel
theorem dX0_append_0 : decode cX0_append 0 = .ok (.aload_n 0, 1) := by decide +kernel
theorem dX0_append_1 : decode cX0_append 1 = .ok (.getfield 28, 3) := by decide +kernel
theorem dX0_append_4 : decode cX0_append 4 = .ok (.bipush 6, 2) := by decide +kernel
theorem dX0_append_6 : decode cX0_append 6 = .ok (.if_icmp .lt 4, 3) := by decide +kernel
theorem dX0_append_9 : decode cX0_append 9 = .ok (.return_, 1) := by decide +kernel
theorem dX0_append_10 : decode cX0_append 10 = .ok (.aload_n 0, 1) := by decide +kernel
theorem dX0_append_11 : decode cX0_append 11 = .ok (.getfield 9, 3) := by decide +kernel
theorem dX0_append_14 : decode cX0_append 14 = .ok (.aload_n 0, 1) := by decide +kernel
theorem dX0_append_15 : decode cX0_append 15 = .ok (.getfield 28, 3) := by decide +kernel
theorem dX0_append_18 : decode cX0_append 18 = .ok (.iload_n 1, 1) := by decide +kernel
theorem dX0_append_19 : decode cX0_append 19 = .ok (.iastore, 1) := by decide +kernel
theorem dX0_append_20 : decode cX0_append 20 = .ok (.aload_n 0, 1) := by decide +kernel
theorem dX0_append_21 : decode cX0_append 21 = .ok (.getfield 15, 3) := by decide +kernel
theorem dX0_append_24 : decode cX0_append 24 = .ok (.aload_n 0, 1) := by decide +kernel
theorem dX0_append_25 : decode cX0_append 25 = .ok (.getfield 28, 3) := by decide +kernel
theorem dX0_append_28 : decode cX0_append 28 = .ok (.iload_n 2, 1) := by decide +kernel
theorem dX0_append_29 : decode cX0_append 29 = .ok (.iastore, 1) := by decide +kernel
theorem dX0_append_30 : decode cX0_append 30 = .ok (.aload_n 0, 1) := by decide +kernel
theorem dX0_append_31 : decode cX0_append 31 = .ok (.getfield 18, 3) := by decide +kernel
theorem dX0_append_34 : decode cX0_append 34 = .ok (.aload_n 0, 1) := by decide +kernel
theorem dX0_append_35 : decode cX0_append 35 = .ok (.getfield 28, 3) := by decide +kernel
theorem dX0_append_38 : decode cX0_append 38 = .ok (.iload_n 3, 1) := by decide +kernel
theorem dX0_append_39 : decode cX0_append 39 = .ok (.bastore, 1) := by decide +kernel
theorem dX0_append_40 : decode cX0_append 40 = .ok (.aload_n 0, 1) := by decide +kernel
theorem dX0_append_41 : decode cX0_append 41 = .ok (.dup, 1) := by decide +kernel
theorem dX0_append_42 : decode cX0_append 42 = .ok (.getfield 28, 3) := by decide +kernel
theorem dX0_append_45 : decode cX0_append 45 = .ok (.iconst 1, 1) := by decide +kernel
theorem dX0_append_46 : decode cX0_append 46 = .ok (.iadd, 1) := by decide +kernel
theorem dX0_append_47 : decode cX0_append 47 = .ok (.putfield 28, 3) := by decide +kernel
theorem dX0_append_50 : decode cX0_append 50 = .ok (.return_, 1) := by decide +kernel
set_option maxRecDepth 20000 in
theorem ggX0_fewestSheets_X0_heightFor : GoodIn wsX0_fewestSheets wsX0_heightFor := goodIn_r _ [8, 9, 10, 11, 12, 13, 14, 15, 7, 16, 1, 17, 18, 19, 20, 21, 22, 23, 2, 24, 25, 26, 31, 32, 33, 34, 35, 36] rfl (by decide +kernel)
set_option maxRecDepth 20000 in
theorem gX0_fewestSheets_X0_heightFor : GoodIn wsX0_fewestSheets (wsV RX0 32 RX0 yX0_heightFor wsX0_heightFor) := goodIn_app (goodIn_r ([.methodLink RX0 32 yX0_heightFor, .instanceMethod yX0_heightFor, .selects RX0 yX0_heightFor yX0_heightFor, .initialized RX0] : List Cond) [4, 5, 6, 7] rfl (by decide +kernel)) ggX0_fewestSheets_X0_heightFor
set_option maxRecDepth 20000 in
theorem ggX0_fewestSheets_X0_fewestFor : GoodIn wsX0_fewestSheets wsX0_fewestFor := goodIn_r _ [30, 2, 3, 9, 10, 11, 12, 31, 32, 33, 34, 35, 36] rfl (by decide +kernel)
set_option maxRecDepth 20000 in
theorem gX0_fewestSheets_X0_fewestFor : GoodIn wsX0_fewestSheets (wsV RX0 36 RX0 yX0_fewestFor wsX0_fewestFor) := goodIn_app (goodIn_r ([.methodLink RX0 36 yX0_fewestFor, .instanceMethod yX0_fewestFor, .selects RX0 yX0_fewestFor yX0_fewestFor, .initialized RX0] : List Cond) [27, 28, 29, 7] rfl (by decide +kernel)) ggX0_fewestSheets_X0_fewestFor
theorem dX0_fewestSheets_0 : decode cX0_fewestSheets 0 = .ok (.iconst 1, 1) := by decide +kernel
theorem dX0_fewestSheets_1 : decode cX0_fewestSheets 1 = .ok (.aload_n 0, 1) := by decide +kernel
theorem dX0_fewestSheets_2 : decode cX0_fewestSheets 2 = .ok (.getfield 28, 3) := by decide +kernel
theorem dX0_fewestSheets_5 : decode cX0_fewestSheets 5 = .ok (.ishl, 1) := by decide +kernel
theorem dX0_fewestSheets_6 : decode cX0_fewestSheets 6 = .ok (.istore_n 3, 1) := by decide +kernel
theorem dX0_fewestSheets_7 : decode cX0_fewestSheets 7 = .ok (.iconst 1, 1) := by decide +kernel
theorem dX0_fewestSheets_8 : decode cX0_fewestSheets 8 = .ok (.istore 4, 2) := by decide +kernel
theorem dX0_fewestSheets_10 : decode cX0_fewestSheets 10 = .ok (.iload 4, 2) := by decide +kernel
theorem dX0_fewestSheets_12 : decode cX0_fewestSheets 12 = .ok (.iload_n 3, 1) := by decide +kernel
theorem dX0_fewestSheets_13 : decode cX0_fewestSheets 13 = .ok (.if_icmp .ge 45, 3) := by decide +kernel
theorem dX0_fewestSheets_16 : decode cX0_fewestSheets 16 = .ok (.iconst 1, 1) := by decide +kernel
theorem dX0_fewestSheets_17 : decode cX0_fewestSheets 17 = .ok (.istore 5, 2) := by decide +kernel
theorem dX0_fewestSheets_19 : decode cX0_fewestSheets 19 = .ok (.iload 5, 2) := by decide +kernel
theorem dX0_fewestSheets_21 : decode cX0_fewestSheets 21 = .ok (.iload_n 1, 1) := by decide +kernel
theorem dX0_fewestSheets_22 : decode cX0_fewestSheets 22 = .ok (.if_icmp .gt 30, 3) := by decide +kernel
theorem dX0_fewestSheets_25 : decode cX0_fewestSheets 25 = .ok (.aload_n 0, 1) := by decide +kernel
theorem dX0_fewestSheets_26 : decode cX0_fewestSheets 26 = .ok (.getfield 22, 3) := by decide +kernel
theorem dX0_fewestSheets_29 : decode cX0_fewestSheets 29 = .ok (.iload 4, 2) := by decide +kernel
theorem dX0_fewestSheets_31 : decode cX0_fewestSheets 31 = .ok (.bipush 13, 2) := by decide +kernel
theorem dX0_fewestSheets_33 : decode cX0_fewestSheets 33 = .ok (.imul, 1) := by decide +kernel
theorem dX0_fewestSheets_34 : decode cX0_fewestSheets 34 = .ok (.iload 5, 2) := by decide +kernel
theorem dX0_fewestSheets_36 : decode cX0_fewestSheets 36 = .ok (.iadd, 1) := by decide +kernel
theorem dX0_fewestSheets_37 : decode cX0_fewestSheets 37 = .ok (.aload_n 0, 1) := by decide +kernel
theorem dX0_fewestSheets_38 : decode cX0_fewestSheets 38 = .ok (.iload 4, 2) := by decide +kernel
theorem dX0_fewestSheets_40 : decode cX0_fewestSheets 40 = .ok (.iload 5, 2) := by decide +kernel
theorem dX0_fewestSheets_42 : decode cX0_fewestSheets 42 = .ok (.invokevirtual 32, 3) := by decide +kernel
theorem dX0_fewestSheets_45 : decode cX0_fewestSheets 45 = .ok (.iastore, 1) := by decide +kernel
theorem dX0_fewestSheets_46 : decode cX0_fewestSheets 46 = .ok (.iinc 5 1, 3) := by decide +kernel
theorem dX0_fewestSheets_49 : decode cX0_fewestSheets 49 = .ok (.goto (-30), 3) := by decide +kernel
theorem dX0_fewestSheets_52 : decode cX0_fewestSheets 52 = .ok (.iinc 4 1, 3) := by decide +kernel
theorem dX0_fewestSheets_55 : decode cX0_fewestSheets 55 = .ok (.goto (-45), 3) := by decide +kernel
theorem dX0_fewestSheets_58 : decode cX0_fewestSheets 58 = .ok (.aload_n 0, 1) := by decide +kernel
theorem dX0_fewestSheets_59 : decode cX0_fewestSheets 59 = .ok (.getfield 25, 3) := by decide +kernel
theorem dX0_fewestSheets_62 : decode cX0_fewestSheets 62 = .ok (.iconst 0, 1) := by decide +kernel
theorem dX0_fewestSheets_63 : decode cX0_fewestSheets 63 = .ok (.iconst 0, 1) := by decide +kernel
theorem dX0_fewestSheets_64 : decode cX0_fewestSheets 64 = .ok (.iastore, 1) := by decide +kernel
theorem dX0_fewestSheets_65 : decode cX0_fewestSheets 65 = .ok (.iconst 1, 1) := by decide +kernel
theorem dX0_fewestSheets_66 : decode cX0_fewestSheets 66 = .ok (.istore 4, 2) := by decide +kernel
theorem dX0_fewestSheets_68 : decode cX0_fewestSheets 68 = .ok (.iload 4, 2) := by decide +kernel
theorem dX0_fewestSheets_70 : decode cX0_fewestSheets 70 = .ok (.iload_n 3, 1) := by decide +kernel
theorem dX0_fewestSheets_71 : decode cX0_fewestSheets 71 = .ok (.if_icmp .ge 24, 3) := by decide +kernel
theorem dX0_fewestSheets_74 : decode cX0_fewestSheets 74 = .ok (.aload_n 0, 1) := by decide +kernel
theorem dX0_fewestSheets_75 : decode cX0_fewestSheets 75 = .ok (.getfield 25, 3) := by decide +kernel
theorem dX0_fewestSheets_78 : decode cX0_fewestSheets 78 = .ok (.iload 4, 2) := by decide +kernel
theorem dX0_fewestSheets_80 : decode cX0_fewestSheets 80 = .ok (.aload_n 0, 1) := by decide +kernel
theorem dX0_fewestSheets_81 : decode cX0_fewestSheets 81 = .ok (.iload 4, 2) := by decide +kernel
theorem dX0_fewestSheets_83 : decode cX0_fewestSheets 83 = .ok (.iload_n 1, 1) := by decide +kernel
theorem dX0_fewestSheets_84 : decode cX0_fewestSheets 84 = .ok (.iload_n 2, 1) := by decide +kernel
theorem dX0_fewestSheets_85 : decode cX0_fewestSheets 85 = .ok (.invokevirtual 36, 3) := by decide +kernel
theorem dX0_fewestSheets_88 : decode cX0_fewestSheets 88 = .ok (.iastore, 1) := by decide +kernel
theorem dX0_fewestSheets_89 : decode cX0_fewestSheets 89 = .ok (.iinc 4 1, 3) := by decide +kernel
theorem dX0_fewestSheets_92 : decode cX0_fewestSheets 92 = .ok (.goto (-24), 3) := by decide +kernel
theorem dX0_fewestSheets_95 : decode cX0_fewestSheets 95 = .ok (.aload_n 0, 1) := by decide +kernel
theorem dX0_fewestSheets_96 : decode cX0_fewestSheets 96 = .ok (.getfield 25, 3) := by decide +kernel
theorem dX0_fewestSheets_99 : decode cX0_fewestSheets 99 = .ok (.iload_n 3, 1) := by decide +kernel
theorem dX0_fewestSheets_100 : decode cX0_fewestSheets 100 = .ok (.iconst 1, 1) := by decide +kernel
theorem dX0_fewestSheets_101 : decode cX0_fewestSheets 101 = .ok (.isub, 1) := by decide +kernel
theorem dX0_fewestSheets_102 : decode cX0_fewestSheets 102 = .ok (.iaload, 1) := by decide +kernel
theorem dX0_fewestSheets_103 : decode cX0_fewestSheets 103 = .ok (.sipush 1000, 3) := by decide +kernel
theorem dX0_fewestSheets_106 : decode cX0_fewestSheets 106 = .ok (.if_icmp .lt 7, 3) := by decide +kernel
theorem dX0_fewestSheets_109 : decode cX0_fewestSheets 109 = .ok (.iconst (-1), 1) := by decide +kernel
theorem dX0_fewestSheets_110 : decode cX0_fewestSheets 110 = .ok (.goto 11, 3) := by decide +kernel
theorem dX0_fewestSheets_113 : decode cX0_fewestSheets 113 = .ok (.aload_n 0, 1) := by decide +kernel
theorem dX0_fewestSheets_114 : decode cX0_fewestSheets 114 = .ok (.getfield 25, 3) := by decide +kernel
theorem dX0_fewestSheets_117 : decode cX0_fewestSheets 117 = .ok (.iload_n 3, 1) := by decide +kernel
theorem dX0_fewestSheets_118 : decode cX0_fewestSheets 118 = .ok (.iconst 1, 1) := by decide +kernel
theorem dX0_fewestSheets_119 : decode cX0_fewestSheets 119 = .ok (.isub, 1) := by decide +kernel
theorem dX0_fewestSheets_120 : decode cX0_fewestSheets 120 = .ok (.iaload, 1) := by decide +kernel
theorem dX0_fewestSheets_121 : decode cX0_fewestSheets 121 = .ok (.ireturn, 1) := by decide +kernel
theorem dX0_fewestFor_0 : decode cX0_fewestFor 0 = .ok (.sipush 1000, 3) := by decide +kernel
theorem dX0_fewestFor_3 : decode cX0_fewestFor 3 = .ok (.istore 4, 2) := by decide +kernel
theorem dX0_fewestFor_5 : decode cX0_fewestFor 5 = .ok (.iconst 1, 1) := by decide +kernel
theorem dX0_fewestFor_6 : decode cX0_fewestFor 6 = .ok (.istore 5, 2) := by decide +kernel
theorem dX0_fewestFor_8 : decode cX0_fewestFor 8 = .ok (.iload 5, 2) := by decide +kernel
theorem dX0_fewestFor_10 : decode cX0_fewestFor 10 = .ok (.iload_n 1, 1) := by decide +kernel
theorem dX0_fewestFor_11 : decode cX0_fewestFor 11 = .ok (.if_icmp .gt 52, 3) := by decide +kernel
theorem dX0_fewestFor_14 : decode cX0_fewestFor 14 = .ok (.iload 5, 2) := by decide +kernel
theorem dX0_fewestFor_16 : decode cX0_fewestFor 16 = .ok (.iload_n 1, 1) := by decide +kernel
theorem dX0_fewestFor_17 : decode cX0_fewestFor 17 = .ok (.iand, 1) := by decide +kernel
theorem dX0_fewestFor_18 : decode cX0_fewestFor 18 = .ok (.iload 5, 2) := by decide +kernel
theorem dX0_fewestFor_20 : decode cX0_fewestFor 20 = .ok (.if_icmp .ne 37, 3) := by decide +kernel
theorem dX0_fewestFor_23 : decode cX0_fewestFor 23 = .ok (.aload_n 0, 1) := by decide +kernel
theorem dX0_fewestFor_24 : decode cX0_fewestFor 24 = .ok (.getfield 22, 3) := by decide +kernel
theorem dX0_fewestFor_27 : decode cX0_fewestFor 27 = .ok (.iload 5, 2) := by decide +kernel
theorem dX0_fewestFor_29 : decode cX0_fewestFor 29 = .ok (.bipush 13, 2) := by decide +kernel
theorem dX0_fewestFor_31 : decode cX0_fewestFor 31 = .ok (.imul, 1) := by decide +kernel
theorem dX0_fewestFor_32 : decode cX0_fewestFor 32 = .ok (.iload_n 2, 1) := by decide +kernel
theorem dX0_fewestFor_33 : decode cX0_fewestFor 33 = .ok (.iadd, 1) := by decide +kernel
theorem dX0_fewestFor_34 : decode cX0_fewestFor 34 = .ok (.iaload, 1) := by decide +kernel
theorem dX0_fewestFor_35 : decode cX0_fewestFor 35 = .ok (.iload_n 3, 1) := by decide +kernel
theorem dX0_fewestFor_36 : decode cX0_fewestFor 36 = .ok (.if_icmp .gt 21, 3) := by decide +kernel
theorem dX0_fewestFor_39 : decode cX0_fewestFor 39 = .ok (.iload 4, 2) := by decide +kernel
theorem dX0_fewestFor_41 : decode cX0_fewestFor 41 = .ok (.iconst 1, 1) := by decide +kernel
theorem dX0_fewestFor_42 : decode cX0_fewestFor 42 = .ok (.aload_n 0, 1) := by decide +kernel
theorem dX0_fewestFor_43 : decode cX0_fewestFor 43 = .ok (.getfield 25, 3) := by decide +kernel
theorem dX0_fewestFor_46 : decode cX0_fewestFor 46 = .ok (.iload_n 1, 1) := by decide +kernel
theorem dX0_fewestFor_47 : decode cX0_fewestFor 47 = .ok (.iload 5, 2) := by decide +kernel
theorem dX0_fewestFor_49 : decode cX0_fewestFor 49 = .ok (.ixor, 1) := by decide +kernel
theorem dX0_fewestFor_50 : decode cX0_fewestFor 50 = .ok (.iaload, 1) := by decide +kernel
theorem dX0_fewestFor_51 : decode cX0_fewestFor 51 = .ok (.iadd, 1) := by decide +kernel
theorem dX0_fewestFor_52 : decode cX0_fewestFor 52 = .ok (.invokestatic 40, 3) := by decide +kernel
theorem dX0_fewestFor_55 : decode cX0_fewestFor 55 = .ok (.istore 4, 2) := by decide +kernel
theorem dX0_fewestFor_57 : decode cX0_fewestFor 57 = .ok (.iinc 5 1, 3) := by decide +kernel
theorem dX0_fewestFor_60 : decode cX0_fewestFor 60 = .ok (.goto (-52), 3) := by decide +kernel
theorem dX0_fewestFor_63 : decode cX0_fewestFor 63 = .ok (.iload 4, 2) := by decide +kernel
theorem dX0_fewestFor_65 : decode cX0_fewestFor 65 = .ok (.ireturn, 1) := by decide +kernel
set_option maxRecDepth 20000 in
theorem ggX0_heightFor_X0_heightForOne : GoodIn wsX0_heightFor wsX0_heightForOne := goodIn_r _ [9, 10, 11, 12, 13, 1, 2, 3, 4, 22, 23, 24, 25, 26, 27] rfl (by decide +kernel)
set_option maxRecDepth 20000 in
theorem gX0_heightFor_X0_heightForOne : GoodIn wsX0_heightFor (wsV RX0 45 RX0 yX0_heightForOne wsX0_heightForOne) := goodIn_app (goodIn_r ([.methodLink RX0 45 yX0_heightForOne, .instanceMethod yX0_heightForOne, .selects RX0 yX0_heightForOne yX0_heightForOne, .initialized RX0] : List Cond) [5, 6, 7, 8] rfl (by decide +kernel)) ggX0_heightFor_X0_heightForOne
set_option maxRecDepth 20000 in
theorem ggX0_heightFor_X0_heightForTwo : GoodIn wsX0_heightFor wsX0_heightForTwo := goodIn_r _ [17, 18, 19, 20, 3, 21, 1, 2, 4, 22, 23, 24, 25, 26, 27] rfl (by decide +kernel)
set_option maxRecDepth 20000 in
theorem gX0_heightFor_X0_heightForTwo : GoodIn wsX0_heightFor (wsV RX0 48 RX0 yX0_heightForTwo wsX0_heightForTwo) := goodIn_app (goodIn_r ([.methodLink RX0 48 yX0_heightForTwo, .instanceMethod yX0_heightForTwo, .selects RX0 yX0_heightForTwo yX0_heightForTwo, .initialized RX0] : List Cond) [14, 15, 16, 8] rfl (by decide +kernel)) ggX0_heightFor_X0_heightForTwo
theorem dX0_heightFor_0 : decode cX0_heightFor 0 = .ok (.iload_n 1, 1) := by decide +kernel
theorem dX0_heightFor_1 : decode cX0_heightFor 1 = .ok (.iload_n 1, 1) := by decide +kernel
theorem dX0_heightFor_2 : decode cX0_heightFor 2 = .ok (.iconst 1, 1) := by decide +kernel
theorem dX0_heightFor_3 : decode cX0_heightFor 3 = .ok (.isub, 1) := by decide +kernel
theorem dX0_heightFor_4 : decode cX0_heightFor 4 = .ok (.iand, 1) := by decide +kernel
theorem dX0_heightFor_5 : decode cX0_heightFor 5 = .ok (.ifCond .ne 10, 3) := by decide +kernel
theorem dX0_heightFor_8 : decode cX0_heightFor 8 = .ok (.aload_n 0, 1) := by decide +kernel
theorem dX0_heightFor_9 : decode cX0_heightFor 9 = .ok (.iload_n 1, 1) := by decide +kernel
theorem dX0_heightFor_10 : decode cX0_heightFor 10 = .ok (.iload_n 2, 1) := by decide +kernel
theorem dX0_heightFor_11 : decode cX0_heightFor 11 = .ok (.invokevirtual 45, 3) := by decide +kernel
theorem dX0_heightFor_14 : decode cX0_heightFor 14 = .ok (.ireturn, 1) := by decide +kernel
theorem dX0_heightFor_15 : decode cX0_heightFor 15 = .ok (.sipush 1000, 3) := by decide +kernel
theorem dX0_heightFor_18 : decode cX0_heightFor 18 = .ok (.istore_n 3, 1) := by decide +kernel
theorem dX0_heightFor_19 : decode cX0_heightFor 19 = .ok (.iconst 1, 1) := by decide +kernel
theorem dX0_heightFor_20 : decode cX0_heightFor 20 = .ok (.istore 4, 2) := by decide +kernel
theorem dX0_heightFor_22 : decode cX0_heightFor 22 = .ok (.iload 4, 2) := by decide +kernel
theorem dX0_heightFor_24 : decode cX0_heightFor 24 = .ok (.iload_n 1, 1) := by decide +kernel
theorem dX0_heightFor_25 : decode cX0_heightFor 25 = .ok (.if_icmp .ge 34, 3) := by decide +kernel
theorem dX0_heightFor_28 : decode cX0_heightFor 28 = .ok (.iload 4, 2) := by decide +kernel
theorem dX0_heightFor_30 : decode cX0_heightFor 30 = .ok (.iload_n 1, 1) := by decide +kernel
theorem dX0_heightFor_31 : decode cX0_heightFor 31 = .ok (.iand, 1) := by decide +kernel
theorem dX0_heightFor_32 : decode cX0_heightFor 32 = .ok (.iload 4, 2) := by decide +kernel
theorem dX0_heightFor_34 : decode cX0_heightFor 34 = .ok (.if_icmp .ne 19, 3) := by decide +kernel
theorem dX0_heightFor_37 : decode cX0_heightFor 37 = .ok (.iload_n 3, 1) := by decide +kernel
theorem dX0_heightFor_38 : decode cX0_heightFor 38 = .ok (.aload_n 0, 1) := by decide +kernel
theorem dX0_heightFor_39 : decode cX0_heightFor 39 = .ok (.iload 4, 2) := by decide +kernel
theorem dX0_heightFor_41 : decode cX0_heightFor 41 = .ok (.iload_n 1, 1) := by decide +kernel
theorem dX0_heightFor_42 : decode cX0_heightFor 42 = .ok (.iload 4, 2) := by decide +kernel
theorem dX0_heightFor_44 : decode cX0_heightFor 44 = .ok (.ixor, 1) := by decide +kernel
theorem dX0_heightFor_45 : decode cX0_heightFor 45 = .ok (.iload_n 2, 1) := by decide +kernel
theorem dX0_heightFor_46 : decode cX0_heightFor 46 = .ok (.invokevirtual 48, 3) := by decide +kernel
theorem dX0_heightFor_49 : decode cX0_heightFor 49 = .ok (.invokestatic 40, 3) := by decide +kernel
theorem dX0_heightFor_52 : decode cX0_heightFor 52 = .ok (.istore_n 3, 1) := by decide +kernel
theorem dX0_heightFor_53 : decode cX0_heightFor 53 = .ok (.iinc 4 1, 3) := by decide +kernel
theorem dX0_heightFor_56 : decode cX0_heightFor 56 = .ok (.goto (-34), 3) := by decide +kernel
theorem dX0_heightFor_59 : decode cX0_heightFor 59 = .ok (.iload_n 3, 1) := by decide +kernel
theorem dX0_heightFor_60 : decode cX0_heightFor 60 = .ok (.ireturn, 1) := by decide +kernel
theorem dX0_heightForOne_0 : decode cX0_heightForOne 0 = .ok (.sipush 1000, 3) := by decide +kernel
theorem dX0_heightForOne_3 : decode cX0_heightForOne 3 = .ok (.istore_n 3, 1) := by decide +kernel
theorem dX0_heightForOne_4 : decode cX0_heightForOne 4 = .ok (.iconst 0, 1) := by decide +kernel
theorem dX0_heightForOne_5 : decode cX0_heightForOne 5 = .ok (.istore 4, 2) := by decide +kernel
theorem dX0_heightForOne_7 : decode cX0_heightForOne 7 = .ok (.iload 4, 2) := by decide +kernel
theorem dX0_heightForOne_9 : decode cX0_heightForOne 9 = .ok (.aload_n 0, 1) := by decide +kernel
theorem dX0_heightForOne_10 : decode cX0_heightForOne 10 = .ok (.getfield 28, 3) := by decide +kernel
theorem dX0_heightForOne_13 : decode cX0_heightForOne 13 = .ok (.if_icmp .ge 69, 3) := by decide +kernel
theorem dX0_heightForOne_16 : decode cX0_heightForOne 16 = .ok (.iload_n 1, 1) := by decide +kernel
theorem dX0_heightForOne_17 : decode cX0_heightForOne 17 = .ok (.iconst 1, 1) := by decide +kernel
theorem dX0_heightForOne_18 : decode cX0_heightForOne 18 = .ok (.iload 4, 2) := by decide +kernel
theorem dX0_heightForOne_20 : decode cX0_heightForOne 20 = .ok (.ishl, 1) := by decide +kernel
theorem dX0_heightForOne_21 : decode cX0_heightForOne 21 = .ok (.if_icmp .ne 55, 3) := by decide +kernel
theorem dX0_heightForOne_24 : decode cX0_heightForOne 24 = .ok (.aload_n 0, 1) := by decide +kernel
theorem dX0_heightForOne_25 : decode cX0_heightForOne 25 = .ok (.getfield 9, 3) := by decide +kernel
theorem dX0_heightForOne_28 : decode cX0_heightForOne 28 = .ok (.iload 4, 2) := by decide +kernel
theorem dX0_heightForOne_30 : decode cX0_heightForOne 30 = .ok (.iaload, 1) := by decide +kernel
theorem dX0_heightForOne_31 : decode cX0_heightForOne 31 = .ok (.iload_n 2, 1) := by decide +kernel
theorem dX0_heightForOne_32 : decode cX0_heightForOne 32 = .ok (.if_icmp .gt 11, 3) := by decide +kernel
theorem dX0_heightForOne_35 : decode cX0_heightForOne 35 = .ok (.aload_n 0, 1) := by decide +kernel
theorem dX0_heightForOne_36 : decode cX0_heightForOne 36 = .ok (.getfield 15, 3) := by decide +kernel
theorem dX0_heightForOne_39 : decode cX0_heightForOne 39 = .ok (.iload 4, 2) := by decide +kernel
theorem dX0_heightForOne_41 : decode cX0_heightForOne 41 = .ok (.iaload, 1) := by decide +kernel
theorem dX0_heightForOne_42 : decode cX0_heightForOne 42 = .ok (.istore_n 3, 1) := by decide +kernel
theorem dX0_heightForOne_43 : decode cX0_heightForOne 43 = .ok (.aload_n 0, 1) := by decide +kernel
theorem dX0_heightForOne_44 : decode cX0_heightForOne 44 = .ok (.getfield 18, 3) := by decide +kernel
theorem dX0_heightForOne_47 : decode cX0_heightForOne 47 = .ok (.iload 4, 2) := by decide +kernel
theorem dX0_heightForOne_49 : decode cX0_heightForOne 49 = .ok (.baload, 1) := by decide +kernel
theorem dX0_heightForOne_50 : decode cX0_heightForOne 50 = .ok (.ifCond .eq 26, 3) := by decide +kernel
theorem dX0_heightForOne_53 : decode cX0_heightForOne 53 = .ok (.aload_n 0, 1) := by decide +kernel
theorem dX0_heightForOne_54 : decode cX0_heightForOne 54 = .ok (.getfield 15, 3) := by decide +kernel
theorem dX0_heightForOne_57 : decode cX0_heightForOne 57 = .ok (.iload 4, 2) := by decide +kernel
theorem dX0_heightForOne_59 : decode cX0_heightForOne 59 = .ok (.iaload, 1) := by decide +kernel
theorem dX0_heightForOne_60 : decode cX0_heightForOne 60 = .ok (.iload_n 2, 1) := by decide +kernel
theorem dX0_heightForOne_61 : decode cX0_heightForOne 61 = .ok (.if_icmp .gt 15, 3) := by decide +kernel
theorem dX0_heightForOne_64 : decode cX0_heightForOne 64 = .ok (.iload_n 3, 1) := by decide +kernel
theorem dX0_heightForOne_65 : decode cX0_heightForOne 65 = .ok (.aload_n 0, 1) := by decide +kernel
theorem dX0_heightForOne_66 : decode cX0_heightForOne 66 = .ok (.getfield 9, 3) := by decide +kernel
theorem dX0_heightForOne_69 : decode cX0_heightForOne 69 = .ok (.iload 4, 2) := by decide +kernel
theorem dX0_heightForOne_71 : decode cX0_heightForOne 71 = .ok (.iaload, 1) := by decide +kernel
theorem dX0_heightForOne_72 : decode cX0_heightForOne 72 = .ok (.invokestatic 40, 3) := by decide +kernel
theorem dX0_heightForOne_75 : decode cX0_heightForOne 75 = .ok (.istore_n 3, 1) := by decide +kernel
theorem dX0_heightForOne_76 : decode cX0_heightForOne 76 = .ok (.iinc 4 1, 3) := by decide +kernel
theorem dX0_heightForOne_79 : decode cX0_heightForOne 79 = .ok (.goto (-72), 3) := by decide +kernel
theorem dX0_heightForOne_82 : decode cX0_heightForOne 82 = .ok (.iload_n 3, 1) := by decide +kernel
theorem dX0_heightForOne_83 : decode cX0_heightForOne 83 = .ok (.ireturn, 1) := by decide +kernel
theorem dX0_heightForTwo_0 : decode cX0_heightForTwo 0 = .ok (.aload_n 0, 1) := by decide +kernel
theorem dX0_heightForTwo_1 : decode cX0_heightForTwo 1 = .ok (.getfield 22, 3) := by decide +kernel
theorem dX0_heightForTwo_4 : decode cX0_heightForTwo 4 = .ok (.iload_n 1, 1) := by decide +kernel
theorem dX0_heightForTwo_5 : decode cX0_heightForTwo 5 = .ok (.bipush 13, 2) := by decide +kernel
theorem dX0_heightForTwo_7 : decode cX0_heightForTwo 7 = .ok (.imul, 1) := by decide +kernel
theorem dX0_heightForTwo_8 : decode cX0_heightForTwo 8 = .ok (.iload_n 3, 1) := by decide +kernel
theorem dX0_heightForTwo_9 : decode cX0_heightForTwo 9 = .ok (.iadd, 1) := by decide +kernel
theorem dX0_heightForTwo_10 : decode cX0_heightForTwo 10 = .ok (.iaload, 1) := by decide +kernel
theorem dX0_heightForTwo_11 : decode cX0_heightForTwo 11 = .ok (.aload_n 0, 1) := by decide +kernel
theorem dX0_heightForTwo_12 : decode cX0_heightForTwo 12 = .ok (.getfield 22, 3) := by decide +kernel
theorem dX0_heightForTwo_15 : decode cX0_heightForTwo 15 = .ok (.iload_n 2, 1) := by decide +kernel
theorem dX0_heightForTwo_16 : decode cX0_heightForTwo 16 = .ok (.bipush 13, 2) := by decide +kernel
theorem dX0_heightForTwo_18 : decode cX0_heightForTwo 18 = .ok (.imul, 1) := by decide +kernel
theorem dX0_heightForTwo_19 : decode cX0_heightForTwo 19 = .ok (.iload_n 3, 1) := by decide +kernel
theorem dX0_heightForTwo_20 : decode cX0_heightForTwo 20 = .ok (.iadd, 1) := by decide +kernel
theorem dX0_heightForTwo_21 : decode cX0_heightForTwo 21 = .ok (.iaload, 1) := by decide +kernel
theorem dX0_heightForTwo_22 : decode cX0_heightForTwo 22 = .ok (.iadd, 1) := by decide +kernel
theorem dX0_heightForTwo_23 : decode cX0_heightForTwo 23 = .ok (.istore 4, 2) := by decide +kernel
theorem dX0_heightForTwo_25 : decode cX0_heightForTwo 25 = .ok (.iconst 1, 1) := by decide +kernel
theorem dX0_heightForTwo_26 : decode cX0_heightForTwo 26 = .ok (.istore 5, 2) := by decide +kernel
theorem dX0_heightForTwo_28 : decode cX0_heightForTwo 28 = .ok (.iload 5, 2) := by decide +kernel
theorem dX0_heightForTwo_30 : decode cX0_heightForTwo 30 = .ok (.iload_n 3, 1) := by decide +kernel
theorem dX0_heightForTwo_31 : decode cX0_heightForTwo 31 = .ok (.if_icmp .ge 53, 3) := by decide +kernel
theorem dX0_heightForTwo_34 : decode cX0_heightForTwo 34 = .ok (.aload_n 0, 1) := by decide +kernel
theorem dX0_heightForTwo_35 : decode cX0_heightForTwo 35 = .ok (.getfield 22, 3) := by decide +kernel
theorem dX0_heightForTwo_38 : decode cX0_heightForTwo 38 = .ok (.iload_n 1, 1) := by decide +kernel
theorem dX0_heightForTwo_39 : decode cX0_heightForTwo 39 = .ok (.bipush 13, 2) := by decide +kernel
theorem dX0_heightForTwo_41 : decode cX0_heightForTwo 41 = .ok (.imul, 1) := by decide +kernel
theorem dX0_heightForTwo_42 : decode cX0_heightForTwo 42 = .ok (.iload 5, 2) := by decide +kernel
theorem dX0_heightForTwo_44 : decode cX0_heightForTwo 44 = .ok (.iadd, 1) := by decide +kernel
theorem dX0_heightForTwo_45 : decode cX0_heightForTwo 45 = .ok (.iaload, 1) := by decide +kernel
theorem dX0_heightForTwo_46 : decode cX0_heightForTwo 46 = .ok (.istore 6, 2) := by decide +kernel
theorem dX0_heightForTwo_48 : decode cX0_heightForTwo 48 = .ok (.aload_n 0, 1) := by decide +kernel
theorem dX0_heightForTwo_49 : decode cX0_heightForTwo 49 = .ok (.getfield 22, 3) := by decide +kernel
theorem dX0_heightForTwo_52 : decode cX0_heightForTwo 52 = .ok (.iload_n 2, 1) := by decide +kernel
theorem dX0_heightForTwo_53 : decode cX0_heightForTwo 53 = .ok (.bipush 13, 2) := by decide +kernel
theorem dX0_heightForTwo_55 : decode cX0_heightForTwo 55 = .ok (.imul, 1) := by decide +kernel
theorem dX0_heightForTwo_56 : decode cX0_heightForTwo 56 = .ok (.iload_n 3, 1) := by decide +kernel
theorem dX0_heightForTwo_57 : decode cX0_heightForTwo 57 = .ok (.iadd, 1) := by decide +kernel
theorem dX0_heightForTwo_58 : decode cX0_heightForTwo 58 = .ok (.iload 5, 2) := by decide +kernel
theorem dX0_heightForTwo_60 : decode cX0_heightForTwo 60 = .ok (.isub, 1) := by decide +kernel
theorem dX0_heightForTwo_61 : decode cX0_heightForTwo 61 = .ok (.iaload, 1) := by decide +kernel
theorem dX0_heightForTwo_62 : decode cX0_heightForTwo 62 = .ok (.istore 7, 2) := by decide +kernel
theorem dX0_heightForTwo_64 : decode cX0_heightForTwo 64 = .ok (.iload 4, 2) := by decide +kernel
theorem dX0_heightForTwo_66 : decode cX0_heightForTwo 66 = .ok (.iload 6, 2) := by decide +kernel
theorem dX0_heightForTwo_68 : decode cX0_heightForTwo 68 = .ok (.iload 7, 2) := by decide +kernel
theorem dX0_heightForTwo_70 : decode cX0_heightForTwo 70 = .ok (.invokestatic 51, 3) := by decide +kernel
theorem dX0_heightForTwo_73 : decode cX0_heightForTwo 73 = .ok (.invokestatic 40, 3) := by decide +kernel
theorem dX0_heightForTwo_76 : decode cX0_heightForTwo 76 = .ok (.istore 4, 2) := by decide +kernel
theorem dX0_heightForTwo_78 : decode cX0_heightForTwo 78 = .ok (.iinc 5 1, 3) := by decide +kernel
theorem dX0_heightForTwo_81 : decode cX0_heightForTwo 81 = .ok (.goto (-53), 3) := by decide +kernel
theorem dX0_heightForTwo_84 : decode cX0_heightForTwo 84 = .ok (.iload 4, 2) := by decide +kernel
theorem dX0_heightForTwo_86 : decode cX0_heightForTwo 86 = .ok (.ireturn, 1) := by decide +kernel
