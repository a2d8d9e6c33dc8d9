theorem dX8_init_0 : decode cX8_init 0 = .ok (.aload_n 0, 1) := by decide +kernel
theorem dX8_init_1 : decode cX8_init 1 = .ok (.invokespecial 3, 3) := by decide +kernel
theorem dX8_init_4 : decode cX8_init 4 = .ok (.aload_n 0, 1) := by decide +kernel
theorem dX8_init_5 : decode cX8_init 5 = .ok (.aload_n 1, 1) := by decide +kernel
theorem dX8_init_6 : decode cX8_init 6 = .ok (.putfield 9, 3) := by decide +kernel
theorem dX8_init_9 : decode cX8_init 9 = .ok (.aload_n 0, 1) := by decide +kernel
theorem dX8_init_10 : decode cX8_init 10 = .ok (.sipush 768, 3) := by decide +kernel
theorem dX8_init_13 : decode cX8_init 13 = .ok (.newarray .int, 2) := by decide +kernel
theorem dX8_init_15 : decode cX8_init 15 = .ok (.putfield 15, 3) := by decide +kernel
theorem dX8_init_18 : decode cX8_init 18 = .ok (.aload_n 0, 1) := by decide +kernel
theorem dX8_init_19 : decode cX8_init 19 = .ok (.sipush 768, 3) := by decide +kernel
theorem dX8_init_22 : decode cX8_init 22 = .ok (.newarray .int, 2) := by decide +kernel
theorem dX8_init_24 : decode cX8_init 24 = .ok (.putfield 19, 3) := by decide +kernel
theorem dX8_init_27 : decode cX8_init 27 = .ok (.aload_n 0, 1) := by decide +kernel
theorem dX8_init_28 : decode cX8_init 28 = .ok (.sipush 768, 3) := by decide +kernel
theorem dX8_init_31 : decode cX8_init 31 = .ok (.newarray .int, 2) := by decide +kernel
theorem dX8_init_33 : decode cX8_init 33 = .ok (.putfield 22, 3) := by decide +kernel
theorem dX8_init_36 : decode cX8_init 36 = .ok (.aload_n 0, 1) := by decide +kernel
theorem dX8_init_37 : decode cX8_init 37 = .ok (.sipush 768, 3) := by decide +kernel
theorem dX8_init_40 : decode cX8_init 40 = .ok (.newarray .boolean, 2) := by decide +kernel
theorem dX8_init_42 : decode cX8_init 42 = .ok (.putfield 25, 3) := by decide +kernel
theorem dX8_init_45 : decode cX8_init 45 = .ok (.aload_n 0, 1) := by decide +kernel
theorem dX8_init_46 : decode cX8_init 46 = .ok (.sipush 129, 3) := by decide +kernel
theorem dX8_init_49 : decode cX8_init 49 = .ok (.newarray .int, 2) := by decide +kernel
theorem dX8_init_51 : decode cX8_init 51 = .ok (.putfield 29, 3) := by decide +kernel
theorem dX8_init_54 : decode cX8_init 54 = .ok (.aload_n 0, 1) := by decide +kernel
theorem dX8_init_55 : decode cX8_init 55 = .ok (.sipush 128, 3) := by decide +kernel
theorem dX8_init_58 : decode cX8_init 58 = .ok (.newarray .int, 2) := by decide +kernel
theorem dX8_init_60 : decode cX8_init 60 = .ok (.putfield 32, 3) := by decide +kernel
theorem dX8_init_63 : decode cX8_init 63 = .ok (.aload_n 0, 1) := by decide +kernel
theorem dX8_init_64 : decode cX8_init 64 = .ok (.sipush 128, 3) := by decide +kernel
theorem dX8_init_67 : decode cX8_init 67 = .ok (.newarray .boolean, 2) := by decide +kernel
theorem dX8_init_69 : decode cX8_init 69 = .ok (.putfield 35, 3) := by decide +kernel
theorem dX8_init_72 : decode cX8_init 72 = .ok (.aload_n 0, 1) := by decide +kernel
theorem dX8_init_73 : decode cX8_init 73 = .ok (.sipush 128, 3) := by decide +kernel
theorem dX8_init_76 : decode cX8_init 76 = .ok (.newarray .long, 2) := by decide +kernel
theorem dX8_init_78 : decode cX8_init 78 = .ok (.putfield 38, 3) := by decide +kernel
theorem dX8_init_81 : decode cX8_init 81 = .ok (.aload_n 0, 1) := by decide +kernel
theorem dX8_init_82 : decode cX8_init 82 = .ok (.sipush 128, 3) := by decide +kernel
theorem dX8_init_85 : decode cX8_init 85 = .ok (.newarray .long, 2) := by decide +kernel
theorem dX8_init_87 : decode cX8_init 87 = .ok (.putfield 42, 3) := by decide +kernel
theorem dX8_init_90 : decode cX8_init 90 = .ok (.return_, 1) := by decide +kernel
set_option maxRecDepth 20000 in
theorem ggX8_part_X8_joinAlong : GoodIn wsX8_part wsX8_joinAlong := goodIn_r _ [10, 1, 2, 11, 12, 13, 14, 15, 16, 17, 18, 19, 20, 21, 22, 23, 24, 25, 26, 27, 28, 29, 30, 31, 32, 33, 34, 35, 9, 36, 3, 4, 82, 83, 84, 85, 86, 87, 88, 89, 90, 91, 92, 93, 94, 95, 96, 97, 98, 99, 100, 101, 102, 103] rfl (by decide +kernel)
set_option maxRecDepth 20000 in
theorem gX8_part_X8_joinAlong : GoodIn wsX8_part (wsV RX8 56 RX8 yX8_joinAlong wsX8_joinAlong) := goodIn_app (goodIn_r ([.methodLink RX8 56 yX8_joinAlong, .instanceMethod yX8_joinAlong, .selects RX8 yX8_joinAlong yX8_joinAlong, .initialized RX8] : List Cond) [6, 7, 8, 9] rfl (by decide +kernel)) ggX8_part_X8_joinAlong
set_option maxRecDepth 20000 in
theorem ggX8_part_X8_listSteps : GoodIn wsX8_part wsX8_listSteps := goodIn_r _ [40, 41, 1, 2, 42, 43, 44, 45, 46, 47, 9, 48, 3, 4, 82, 83, 84, 85, 86, 87, 88, 89, 90, 91, 92, 93, 94, 95, 96] rfl (by decide +kernel)
set_option maxRecDepth 20000 in
theorem gX8_part_X8_listSteps : GoodIn wsX8_part (wsV RX8 60 RX8 yX8_listSteps wsX8_listSteps) := goodIn_app (goodIn_r ([.methodLink RX8 60 yX8_listSteps, .instanceMethod yX8_listSteps, .selects RX8 yX8_listSteps yX8_listSteps, .initialized RX8] : List Cond) [37, 38, 39, 9] rfl (by decide +kernel)) ggX8_part_X8_listSteps
set_option maxRecDepth 20000 in
theorem ggX8_part_X8_pairSteps : GoodIn wsX8_part wsX8_pairSteps := goodIn_r _ [52, 41, 53, 44, 43, 54, 31, 28, 32, 55, 56, 57, 9, 58, 42, 82, 83, 84, 85, 86, 87, 88, 89, 90, 91, 92] rfl (by decide +kernel)
set_option maxRecDepth 20000 in
theorem gX8_part_X8_pairSteps : GoodIn wsX8_part (wsV RX8 63 RX8 yX8_pairSteps wsX8_pairSteps) := goodIn_app (goodIn_r ([.methodLink RX8 63 yX8_pairSteps, .instanceMethod yX8_pairSteps, .selects RX8 yX8_pairSteps yX8_pairSteps, .initialized RX8] : List Cond) [49, 50, 51, 9] rfl (by decide +kernel)) ggX8_part_X8_pairSteps
set_option maxRecDepth 20000 in
theorem ggX8_part_X8_reachFromSides : GoodIn wsX8_part wsX8_reachFromSides := goodIn_r _ [62, 1, 2, 63, 41, 43, 44, 82, 83, 84, 85, 86, 87, 88, 89, 90, 91, 92, 93, 94, 95, 96] rfl (by decide +kernel)
set_option maxRecDepth 20000 in
theorem gX8_part_X8_reachFromSides : GoodIn wsX8_part (wsV RX8 66 RX8 yX8_reachFromSides wsX8_reachFromSides) := goodIn_app (goodIn_r ([.methodLink RX8 66 yX8_reachFromSides, .instanceMethod yX8_reachFromSides, .selects RX8 yX8_reachFromSides yX8_reachFromSides, .initialized RX8] : List Cond) [59, 60, 61, 9] rfl (by decide +kernel)) ggX8_part_X8_reachFromSides
set_option maxRecDepth 20000 in
theorem ggX8_part_X8_firmWhatIsReached : GoodIn wsX8_part wsX8_firmWhatIsReached := goodIn_r _ [67, 1, 2, 68, 63, 41, 69, 43, 70, 71, 72, 9, 73, 42, 82, 83, 84, 85, 86, 87, 88, 89, 90, 91, 92, 93, 94, 95, 96] rfl (by decide +kernel)
set_option maxRecDepth 20000 in
theorem gX8_part_X8_firmWhatIsReached : GoodIn wsX8_part (wsV RX8 69 RX8 yX8_firmWhatIsReached wsX8_firmWhatIsReached) := goodIn_app (goodIn_r ([.methodLink RX8 69 yX8_firmWhatIsReached, .instanceMethod yX8_firmWhatIsReached, .selects RX8 yX8_firmWhatIsReached yX8_firmWhatIsReached, .initialized RX8] : List Cond) [64, 65, 66, 9] rfl (by decide +kernel)) ggX8_part_X8_firmWhatIsReached
set_option maxRecDepth 20000 in
theorem ggX8_part_X8_loosenDeadEnds : GoodIn wsX8_part wsX8_loosenDeadEnds := goodIn_r _ [77, 41, 69, 68, 43, 78, 79, 80, 9, 81, 53, 44, 82, 83, 84, 85, 86, 87, 88, 89, 90, 91, 92] rfl (by decide +kernel)
set_option maxRecDepth 20000 in
theorem gX8_part_X8_loosenDeadEnds : GoodIn wsX8_part (wsV RX8 72 RX8 yX8_loosenDeadEnds wsX8_loosenDeadEnds) := goodIn_app (goodIn_r ([.methodLink RX8 72 yX8_loosenDeadEnds, .instanceMethod yX8_loosenDeadEnds, .selects RX8 yX8_loosenDeadEnds yX8_loosenDeadEnds, .initialized RX8] : List Cond) [74, 75, 76, 9] rfl (by decide +kernel)) ggX8_part_X8_loosenDeadEnds
theorem dX8_part_0 : decode cX8_part 0 = .ok (.iconst 0, 1) := by decide +kernel
theorem dX8_part_1 : decode cX8_part 1 = .ok (.istore_n 2, 1) := by decide +kernel
theorem dX8_part_2 : decode cX8_part 2 = .ok (.iload_n 2, 1) := by decide +kernel
theorem dX8_part_3 : decode cX8_part 3 = .ok (.aload_n 0, 1) := by decide +kernel
theorem dX8_part_4 : decode cX8_part 4 = .ok (.getfield 9, 3) := by decide +kernel
theorem dX8_part_7 : decode cX8_part 7 = .ok (.getfield 45, 3) := by decide +kernel
theorem dX8_part_10 : decode cX8_part 10 = .ok (.if_icmp .ge 23, 3) := by decide +kernel
theorem dX8_part_13 : decode cX8_part 13 = .ok (.aload_n 0, 1) := by decide +kernel
theorem dX8_part_14 : decode cX8_part 14 = .ok (.getfield 38, 3) := by decide +kernel
theorem dX8_part_17 : decode cX8_part 17 = .ok (.iload_n 2, 1) := by decide +kernel
theorem dX8_part_18 : decode cX8_part 18 = .ok (.lconst 0, 1) := by decide +kernel
theorem dX8_part_19 : decode cX8_part 19 = .ok (.lastore, 1) := by decide +kernel
theorem dX8_part_20 : decode cX8_part 20 = .ok (.aload_n 0, 1) := by decide +kernel
theorem dX8_part_21 : decode cX8_part 21 = .ok (.getfield 42, 3) := by decide +kernel
theorem dX8_part_24 : decode cX8_part 24 = .ok (.iload_n 2, 1) := by decide +kernel
theorem dX8_part_25 : decode cX8_part 25 = .ok (.lconst 0, 1) := by decide +kernel
theorem dX8_part_26 : decode cX8_part 26 = .ok (.lastore, 1) := by decide +kernel
theorem dX8_part_27 : decode cX8_part 27 = .ok (.iinc 2 1, 3) := by decide +kernel
theorem dX8_part_30 : decode cX8_part 30 = .ok (.goto (-28), 3) := by decide +kernel
theorem dX8_part_33 : decode cX8_part 33 = .ok (.iconst 0, 1) := by decide +kernel
theorem dX8_part_34 : decode cX8_part 34 = .ok (.istore_n 2, 1) := by decide +kernel
theorem dX8_part_35 : decode cX8_part 35 = .ok (.iload_n 2, 1) := by decide +kernel
theorem dX8_part_36 : decode cX8_part 36 = .ok (.aload_n 1, 1) := by decide +kernel
theorem dX8_part_37 : decode cX8_part 37 = .ok (.getfield 51, 3) := by decide +kernel
theorem dX8_part_40 : decode cX8_part 40 = .ok (.if_icmp .ge 15, 3) := by decide +kernel
theorem dX8_part_43 : decode cX8_part 43 = .ok (.aload_n 0, 1) := by decide +kernel
theorem dX8_part_44 : decode cX8_part 44 = .ok (.aload_n 1, 1) := by decide +kernel
theorem dX8_part_45 : decode cX8_part 45 = .ok (.iload_n 2, 1) := by decide +kernel
theorem dX8_part_46 : decode cX8_part 46 = .ok (.invokevirtual 56, 3) := by decide +kernel
theorem dX8_part_49 : decode cX8_part 49 = .ok (.iinc 2 1, 3) := by decide +kernel
theorem dX8_part_52 : decode cX8_part 52 = .ok (.goto (-17), 3) := by decide +kernel
theorem dX8_part_55 : decode cX8_part 55 = .ok (.aload_n 0, 1) := by decide +kernel
theorem dX8_part_56 : decode cX8_part 56 = .ok (.invokevirtual 60, 3) := by decide +kernel
theorem dX8_part_59 : decode cX8_part 59 = .ok (.aload_n 0, 1) := by decide +kernel
theorem dX8_part_60 : decode cX8_part 60 = .ok (.invokevirtual 63, 3) := by decide +kernel
theorem dX8_part_63 : decode cX8_part 63 = .ok (.aload_n 0, 1) := by decide +kernel
theorem dX8_part_64 : decode cX8_part 64 = .ok (.invokevirtual 66, 3) := by decide +kernel
theorem dX8_part_67 : decode cX8_part 67 = .ok (.aload_n 0, 1) := by decide +kernel
theorem dX8_part_68 : decode cX8_part 68 = .ok (.invokevirtual 69, 3) := by decide +kernel
theorem dX8_part_71 : decode cX8_part 71 = .ok (.aload_n 0, 1) := by decide +kernel
theorem dX8_part_72 : decode cX8_part 72 = .ok (.invokevirtual 72, 3) := by decide +kernel
theorem dX8_part_75 : decode cX8_part 75 = .ok (.return_, 1) := by decide +kernel
set_option maxRecDepth 20000 in
theorem ggX8_joinAlong_X4_liesOn : GoodIn wsX8_joinAlong wsX4_liesOn := goodIn_r _ [7, 8, 9, 10, 11, 12, 13, 14, 15, 16, 6, 17, 18, 19, 20, 21, 22, 23, 24, 47, 48, 49, 50, 51, 52, 53, 43, 44, 45, 46] rfl (by decide +kernel)
set_option maxRecDepth 20000 in
theorem gX8_joinAlong_X4_liesOn : GoodIn wsX8_joinAlong (wsV RX8 75 RX4 yX4_liesOn wsX4_liesOn) := goodIn_app (goodIn_r ([.methodLink RX8 75 yX4_liesOn, .instanceMethod yX4_liesOn, .selects RX4 yX4_liesOn yX4_liesOn, .initialized RX4] : List Cond) [3, 4, 5, 6] rfl (by decide +kernel)) ggX8_joinAlong_X4_liesOn
set_option maxRecDepth 20000 in
theorem ggX8_joinAlong_X8_join : GoodIn wsX8_joinAlong wsX8_join := goodIn_r _ [29, 30, 31, 32, 33, 34, 35, 36, 37, 38, 39, 40, 41, 42] rfl (by decide +kernel)
set_option maxRecDepth 20000 in
theorem gX8_joinAlong_X8_join : GoodIn wsX8_joinAlong (wsV RX8 79 RX8 yX8_join wsX8_join) := goodIn_app (goodIn_r ([.methodLink RX8 79 yX8_join, .instanceMethod yX8_join, .selects RX8 yX8_join yX8_join, .initialized RX8] : List Cond) [25, 26, 27, 28] rfl (by decide +kernel)) ggX8_joinAlong_X8_join
theorem dX8_joinAlong_0 : decode cX8_joinAlong 0 = .ok (.iconst (-1), 1) := by decide +kernel
theorem dX8_joinAlong_1 : decode cX8_joinAlong 1 = .ok (.istore_n 3, 1) := by decide +kernel
theorem dX8_joinAlong_2 : decode cX8_joinAlong 2 = .ok (.iconst 0, 1) := by decide +kernel
theorem dX8_joinAlong_3 : decode cX8_joinAlong 3 = .ok (.istore 4, 2) := by decide +kernel
theorem dX8_joinAlong_5 : decode cX8_joinAlong 5 = .ok (.iload 4, 2) := by decide +kernel
theorem dX8_joinAlong_7 : decode cX8_joinAlong 7 = .ok (.aload_n 0, 1) := by decide +kernel
theorem dX8_joinAlong_8 : decode cX8_joinAlong 8 = .ok (.getfield 9, 3) := by decide +kernel
theorem dX8_joinAlong_11 : decode cX8_joinAlong 11 = .ok (.getfield 45, 3) := by decide +kernel
theorem dX8_joinAlong_14 : decode cX8_joinAlong 14 = .ok (.if_icmp .ge 44, 3) := by decide +kernel
theorem dX8_joinAlong_17 : decode cX8_joinAlong 17 = .ok (.aload_n 0, 1) := by decide +kernel
theorem dX8_joinAlong_18 : decode cX8_joinAlong 18 = .ok (.getfield 9, 3) := by decide +kernel
theorem dX8_joinAlong_21 : decode cX8_joinAlong 21 = .ok (.iload 4, 2) := by decide +kernel
theorem dX8_joinAlong_23 : decode cX8_joinAlong 23 = .ok (.aload_n 1, 1) := by decide +kernel
theorem dX8_joinAlong_24 : decode cX8_joinAlong 24 = .ok (.iload_n 2, 1) := by decide +kernel
theorem dX8_joinAlong_25 : decode cX8_joinAlong 25 = .ok (.invokevirtual 75, 3) := by decide +kernel
theorem dX8_joinAlong_28 : decode cX8_joinAlong 28 = .ok (.ifCond .eq 24, 3) := by decide +kernel
theorem dX8_joinAlong_31 : decode cX8_joinAlong 31 = .ok (.iload_n 3, 1) := by decide +kernel
theorem dX8_joinAlong_32 : decode cX8_joinAlong 32 = .ok (.ifCond .lt 17, 3) := by decide +kernel
theorem dX8_joinAlong_35 : decode cX8_joinAlong 35 = .ok (.aload_n 0, 1) := by decide +kernel
theorem dX8_joinAlong_36 : decode cX8_joinAlong 36 = .ok (.iload_n 3, 1) := by decide +kernel
theorem dX8_joinAlong_37 : decode cX8_joinAlong 37 = .ok (.iload 4, 2) := by decide +kernel
theorem dX8_joinAlong_39 : decode cX8_joinAlong 39 = .ok (.invokevirtual 79, 3) := by decide +kernel
theorem dX8_joinAlong_42 : decode cX8_joinAlong 42 = .ok (.aload_n 0, 1) := by decide +kernel
theorem dX8_joinAlong_43 : decode cX8_joinAlong 43 = .ok (.iload 4, 2) := by decide +kernel
theorem dX8_joinAlong_45 : decode cX8_joinAlong 45 = .ok (.iload_n 3, 1) := by decide +kernel
theorem dX8_joinAlong_46 : decode cX8_joinAlong 46 = .ok (.invokevirtual 79, 3) := by decide +kernel
theorem dX8_joinAlong_49 : decode cX8_joinAlong 49 = .ok (.iload 4, 2) := by decide +kernel
theorem dX8_joinAlong_51 : decode cX8_joinAlong 51 = .ok (.istore_n 3, 1) := by decide +kernel
theorem dX8_joinAlong_52 : decode cX8_joinAlong 52 = .ok (.iinc 4 1, 3) := by decide +kernel
theorem dX8_joinAlong_55 : decode cX8_joinAlong 55 = .ok (.goto (-50), 3) := by decide +kernel
theorem dX8_joinAlong_58 : decode cX8_joinAlong 58 = .ok (.return_, 1) := by decide +kernel
theorem dX8_join_0 : decode cX8_join 0 = .ok (.iload_n 2, 1) := by decide +kernel
theorem dX8_join_1 : decode cX8_join 1 = .ok (.bipush 64, 2) := by decide +kernel
theorem dX8_join_3 : decode cX8_join 3 = .ok (.if_icmp .ge 18, 3) := by decide +kernel
theorem dX8_join_6 : decode cX8_join 6 = .ok (.aload_n 0, 1) := by decide +kernel
theorem dX8_join_7 : decode cX8_join 7 = .ok (.getfield 38, 3) := by decide +kernel
theorem dX8_join_10 : decode cX8_join 10 = .ok (.iload_n 1, 1) := by decide +kernel
theorem dX8_join_11 : decode cX8_join 11 = .ok (.dup2, 1) := by decide +kernel
theorem dX8_join_12 : decode cX8_join 12 = .ok (.laload, 1) := by decide +kernel
theorem dX8_join_13 : decode cX8_join 13 = .ok (.lconst 1, 1) := by decide +kernel
theorem dX8_join_14 : decode cX8_join 14 = .ok (.iload_n 2, 1) := by decide +kernel
theorem dX8_join_15 : decode cX8_join 15 = .ok (.lshl, 1) := by decide +kernel
theorem dX8_join_16 : decode cX8_join 16 = .ok (.lor, 1) := by decide +kernel
theorem dX8_join_17 : decode cX8_join 17 = .ok (.lastore, 1) := by decide +kernel
theorem dX8_join_18 : decode cX8_join 18 = .ok (.goto 18, 3) := by decide +kernel
theorem dX8_join_21 : decode cX8_join 21 = .ok (.aload_n 0, 1) := by decide +kernel
theorem dX8_join_22 : decode cX8_join 22 = .ok (.getfield 42, 3) := by decide +kernel
theorem dX8_join_25 : decode cX8_join 25 = .ok (.iload_n 1, 1) := by decide +kernel
theorem dX8_join_26 : decode cX8_join 26 = .ok (.dup2, 1) := by decide +kernel
theorem dX8_join_27 : decode cX8_join 27 = .ok (.laload, 1) := by decide +kernel
theorem dX8_join_28 : decode cX8_join 28 = .ok (.lconst 1, 1) := by decide +kernel
theorem dX8_join_29 : decode cX8_join 29 = .ok (.iload_n 2, 1) := by decide +kernel
theorem dX8_join_30 : decode cX8_join 30 = .ok (.bipush 64, 2) := by decide +kernel
theorem dX8_join_32 : decode cX8_join 32 = .ok (.isub, 1) := by decide +kernel
theorem dX8_join_33 : decode cX8_join 33 = .ok (.lshl, 1) := by decide +kernel
theorem dX8_join_34 : decode cX8_join 34 = .ok (.lor, 1) := by decide +kernel
theorem dX8_join_35 : decode cX8_join 35 = .ok (.lastore, 1) := by decide +kernel
theorem dX8_join_36 : decode cX8_join 36 = .ok (.return_, 1) := by decide +kernel
theorem dX8_areJoined_0 : decode cX8_areJoined 0 = .ok (.iload_n 2, 1) := by decide +kernel
theorem dX8_areJoined_1 : decode cX8_areJoined 1 = .ok (.bipush 64, 2) := by decide +kernel
theorem dX8_areJoined_3 : decode cX8_areJoined 3 = .ok (.if_icmp .ge 12, 3) := by decide +kernel
theorem dX8_areJoined_6 : decode cX8_areJoined 6 = .ok (.aload_n 0, 1) := by decide +kernel
theorem dX8_areJoined_7 : decode cX8_areJoined 7 = .ok (.getfield 38, 3) := by decide +kernel
theorem dX8_areJoined_10 : decode cX8_areJoined 10 = .ok (.iload_n 1, 1) := by decide +kernel
theorem dX8_areJoined_11 : decode cX8_areJoined 11 = .ok (.laload, 1) := by decide +kernel
theorem dX8_areJoined_12 : decode cX8_areJoined 12 = .ok (.goto 9, 3) := by decide +kernel
theorem dX8_areJoined_15 : decode cX8_areJoined 15 = .ok (.aload_n 0, 1) := by decide +kernel
theorem dX8_areJoined_16 : decode cX8_areJoined 16 = .ok (.getfield 42, 3) := by decide +kernel
theorem dX8_areJoined_19 : decode cX8_areJoined 19 = .ok (.iload_n 1, 1) := by decide +kernel
theorem dX8_areJoined_20 : decode cX8_areJoined 20 = .ok (.laload, 1) := by decide +kernel
theorem dX8_areJoined_21 : decode cX8_areJoined 21 = .ok (.lstore_n 3, 1) := by decide +kernel
theorem dX8_areJoined_22 : decode cX8_areJoined 22 = .ok (.lload_n 3, 1) := by decide +kernel
theorem dX8_areJoined_23 : decode cX8_areJoined 23 = .ok (.iload_n 2, 1) := by decide +kernel
theorem dX8_areJoined_24 : decode cX8_areJoined 24 = .ok (.bipush 64, 2) := by decide +kernel
theorem dX8_areJoined_26 : decode cX8_areJoined 26 = .ok (.irem, 1) := by decide +kernel
theorem dX8_areJoined_27 : decode cX8_areJoined 27 = .ok (.lushr, 1) := by decide +kernel
theorem dX8_areJoined_28 : decode cX8_areJoined 28 = .ok (.lconst 1, 1) := by decide +kernel
theorem dX8_areJoined_29 : decode cX8_areJoined 29 = .ok (.land, 1) := by decide +kernel
theorem dX8_areJoined_30 : decode cX8_areJoined 30 = .ok (.lconst 0, 1) := by decide +kernel
theorem dX8_areJoined_31 : decode cX8_areJoined 31 = .ok (.lcmp, 1) := by decide +kernel
theorem dX8_areJoined_32 : decode cX8_areJoined 32 = .ok (.ifCond .eq 7, 3) := by decide +kernel
theorem dX8_areJoined_35 : decode cX8_areJoined 35 = .ok (.iconst 1, 1) := by decide +kernel
theorem dX8_areJoined_36 : decode cX8_areJoined 36 = .ok (.goto 4, 3) := by decide +kernel
theorem dX8_areJoined_39 : decode cX8_areJoined 39 = .ok (.iconst 0, 1) := by decide +kernel
theorem dX8_areJoined_40 : decode cX8_areJoined 40 = .ok (.ireturn, 1) := by decide +kernel
set_option maxRecDepth 20000 in
theorem ggX8_listSteps_X8_areJoined : GoodIn wsX8_listSteps wsX8_areJoined := goodIn_r _ [11, 12, 13, 14, 15, 16, 17, 18, 19, 20, 21, 22, 23, 24] rfl (by decide +kernel)
set_option maxRecDepth 20000 in
theorem gX8_listSteps_X8_areJoined : GoodIn wsX8_listSteps (wsV RX8 86 RX8 yX8_areJoined wsX8_areJoined) := goodIn_app (goodIn_r ([.methodLink RX8 86 yX8_areJoined, .instanceMethod yX8_areJoined, .selects RX8 yX8_areJoined yX8_areJoined, .initialized RX8] : List Cond) [7, 8, 9, 10] rfl (by decide +kernel)) ggX8_listSteps_X8_areJoined
theorem dX8_listSteps_0 : decode cX8_listSteps 0 = .ok (.aload_n 0, 1) := by decide +kernel
theorem dX8_listSteps_1 : decode cX8_listSteps 1 = .ok (.iconst 0, 1) := by decide +kernel
theorem dX8_listSteps_2 : decode cX8_listSteps 2 = .ok (.putfield 83, 3) := by decide +kernel
theorem dX8_listSteps_5 : decode cX8_listSteps 5 = .ok (.iconst 0, 1) := by decide +kernel
theorem dX8_listSteps_6 : decode cX8_listSteps 6 = .ok (.istore_n 1, 1) := by decide +kernel
theorem dX8_listSteps_7 : decode cX8_listSteps 7 = .ok (.iload_n 1, 1) := by decide +kernel
theorem dX8_listSteps_8 : decode cX8_listSteps 8 = .ok (.aload_n 0, 1) := by decide +kernel
theorem dX8_listSteps_9 : decode cX8_listSteps 9 = .ok (.getfield 9, 3) := by decide +kernel
theorem dX8_listSteps_12 : decode cX8_listSteps 12 = .ok (.getfield 45, 3) := by decide +kernel
theorem dX8_listSteps_15 : decode cX8_listSteps 15 = .ok (.if_icmp .ge 87, 3) := by decide +kernel
theorem dX8_listSteps_18 : decode cX8_listSteps 18 = .ok (.aload_n 0, 1) := by decide +kernel
theorem dX8_listSteps_19 : decode cX8_listSteps 19 = .ok (.getfield 29, 3) := by decide +kernel
theorem dX8_listSteps_22 : decode cX8_listSteps 22 = .ok (.iload_n 1, 1) := by decide +kernel
theorem dX8_listSteps_23 : decode cX8_listSteps 23 = .ok (.aload_n 0, 1) := by decide +kernel
theorem dX8_listSteps_24 : decode cX8_listSteps 24 = .ok (.getfield 83, 3) := by decide +kernel
theorem dX8_listSteps_27 : decode cX8_listSteps 27 = .ok (.iastore, 1) := by decide +kernel
theorem dX8_listSteps_28 : decode cX8_listSteps 28 = .ok (.iconst 0, 1) := by decide +kernel
theorem dX8_listSteps_29 : decode cX8_listSteps 29 = .ok (.istore_n 2, 1) := by decide +kernel
theorem dX8_listSteps_30 : decode cX8_listSteps 30 = .ok (.iload_n 2, 1) := by decide +kernel
theorem dX8_listSteps_31 : decode cX8_listSteps 31 = .ok (.aload_n 0, 1) := by decide +kernel
theorem dX8_listSteps_32 : decode cX8_listSteps 32 = .ok (.getfield 9, 3) := by decide +kernel
theorem dX8_listSteps_35 : decode cX8_listSteps 35 = .ok (.getfield 45, 3) := by decide +kernel
theorem dX8_listSteps_38 : decode cX8_listSteps 38 = .ok (.if_icmp .ge 58, 3) := by decide +kernel
theorem dX8_listSteps_41 : decode cX8_listSteps 41 = .ok (.aload_n 0, 1) := by decide +kernel
theorem dX8_listSteps_42 : decode cX8_listSteps 42 = .ok (.iload_n 1, 1) := by decide +kernel
theorem dX8_listSteps_43 : decode cX8_listSteps 43 = .ok (.iload_n 2, 1) := by decide +kernel
theorem dX8_listSteps_44 : decode cX8_listSteps 44 = .ok (.invokevirtual 86, 3) := by decide +kernel
theorem dX8_listSteps_47 : decode cX8_listSteps 47 = .ok (.ifCond .eq 43, 3) := by decide +kernel
theorem dX8_listSteps_50 : decode cX8_listSteps 50 = .ok (.aload_n 0, 1) := by decide +kernel
theorem dX8_listSteps_51 : decode cX8_listSteps 51 = .ok (.getfield 83, 3) := by decide +kernel
theorem dX8_listSteps_54 : decode cX8_listSteps 54 = .ok (.sipush 768, 3) := by decide +kernel
theorem dX8_listSteps_57 : decode cX8_listSteps 57 = .ok (.if_icmp .ge 33, 3) := by decide +kernel
theorem dX8_listSteps_60 : decode cX8_listSteps 60 = .ok (.aload_n 0, 1) := by decide +kernel
theorem dX8_listSteps_61 : decode cX8_listSteps 61 = .ok (.getfield 15, 3) := by decide +kernel
theorem dX8_listSteps_64 : decode cX8_listSteps 64 = .ok (.aload_n 0, 1) := by decide +kernel
theorem dX8_listSteps_65 : decode cX8_listSteps 65 = .ok (.getfield 83, 3) := by decide +kernel
theorem dX8_listSteps_68 : decode cX8_listSteps 68 = .ok (.iload_n 1, 1) := by decide +kernel
theorem dX8_listSteps_69 : decode cX8_listSteps 69 = .ok (.iastore, 1) := by decide +kernel
theorem dX8_listSteps_70 : decode cX8_listSteps 70 = .ok (.aload_n 0, 1) := by decide +kernel
theorem dX8_listSteps_71 : decode cX8_listSteps 71 = .ok (.getfield 19, 3) := by decide +kernel
theorem dX8_listSteps_74 : decode cX8_listSteps 74 = .ok (.aload_n 0, 1) := by decide +kernel
theorem dX8_listSteps_75 : decode cX8_listSteps 75 = .ok (.getfield 83, 3) := by decide +kernel
theorem dX8_listSteps_78 : decode cX8_listSteps 78 = .ok (.iload_n 2, 1) := by decide +kernel
theorem dX8_listSteps_79 : decode cX8_listSteps 79 = .ok (.iastore, 1) := by decide +kernel
theorem dX8_listSteps_80 : decode cX8_listSteps 80 = .ok (.aload_n 0, 1) := by decide +kernel
theorem dX8_listSteps_81 : decode cX8_listSteps 81 = .ok (.dup, 1) := by decide +kernel
theorem dX8_listSteps_82 : decode cX8_listSteps 82 = .ok (.getfield 83, 3) := by decide +kernel
theorem dX8_listSteps_85 : decode cX8_listSteps 85 = .ok (.iconst 1, 1) := by decide +kernel
theorem dX8_listSteps_86 : decode cX8_listSteps 86 = .ok (.iadd, 1) := by decide +kernel
theorem dX8_listSteps_87 : decode cX8_listSteps 87 = .ok (.putfield 83, 3) := by decide +kernel
theorem dX8_listSteps_90 : decode cX8_listSteps 90 = .ok (.iinc 2 1, 3) := by decide +kernel
theorem dX8_listSteps_93 : decode cX8_listSteps 93 = .ok (.goto (-63), 3) := by decide +kernel
theorem dX8_listSteps_96 : decode cX8_listSteps 96 = .ok (.iinc 1 1, 3) := by decide +kernel
theorem dX8_listSteps_99 : decode cX8_listSteps 99 = .ok (.goto (-92), 3) := by decide +kernel
theorem dX8_listSteps_102 : decode cX8_listSteps 102 = .ok (.aload_n 0, 1) := by decide +kernel
theorem dX8_listSteps_103 : decode cX8_listSteps 103 = .ok (.getfield 29, 3) := by decide +kernel
theorem dX8_listSteps_106 : decode cX8_listSteps 106 = .ok (.aload_n 0, 1) := by decide +kernel
theorem dX8_listSteps_107 : decode cX8_listSteps 107 = .ok (.getfield 9, 3) := by decide +kernel
theorem dX8_listSteps_110 : decode cX8_listSteps 110 = .ok (.getfield 45, 3) := by decide +kernel
theorem dX8_listSteps_113 : decode cX8_listSteps 113 = .ok (.aload_n 0, 1) := by decide +kernel
theorem dX8_listSteps_114 : decode cX8_listSteps 114 = .ok (.getfield 83, 3) := by decide +kernel
theorem dX8_listSteps_117 : decode cX8_listSteps 117 = .ok (.iastore, 1) := by decide +kernel
theorem dX8_listSteps_118 : decode cX8_listSteps 118 = .ok (.return_, 1) := by decide +kernel
set_option maxRecDepth 20000 in
theorem ggX8_pairSteps_X8_stepBetween : GoodIn wsX8_pairSteps wsX8_stepBetween := goodIn_r _ [13, 14, 3, 15, 16, 17, 18, 19, 20, 21, 22, 23, 24, 25] rfl (by decide +kernel)
set_option maxRecDepth 20000 in
theorem gX8_pairSteps_X8_stepBetween : GoodIn wsX8_pairSteps (wsV RX8 90 RX8 yX8_stepBetween wsX8_stepBetween) := goodIn_app (goodIn_r ([.methodLink RX8 90 yX8_stepBetween, .instanceMethod yX8_stepBetween, .selects RX8 yX8_stepBetween yX8_stepBetween, .initialized RX8] : List Cond) [9, 10, 11, 12] rfl (by decide +kernel)) ggX8_pairSteps_X8_stepBetween
theorem dX8_pairSteps_0 : decode cX8_pairSteps 0 = .ok (.iconst 0, 1) := by decide +kernel
theorem dX8_pairSteps_1 : decode cX8_pairSteps 1 = .ok (.istore_n 1, 1) := by decide +kernel
theorem dX8_pairSteps_2 : decode cX8_pairSteps 2 = .ok (.iload_n 1, 1) := by decide +kernel
theorem dX8_pairSteps_3 : decode cX8_pairSteps 3 = .ok (.aload_n 0, 1) := by decide +kernel
theorem dX8_pairSteps_4 : decode cX8_pairSteps 4 = .ok (.getfield 83, 3) := by decide +kernel
theorem dX8_pairSteps_7 : decode cX8_pairSteps 7 = .ok (.if_icmp .ge 35, 3) := by decide +kernel
theorem dX8_pairSteps_10 : decode cX8_pairSteps 10 = .ok (.aload_n 0, 1) := by decide +kernel
theorem dX8_pairSteps_11 : decode cX8_pairSteps 11 = .ok (.getfield 22, 3) := by decide +kernel
theorem dX8_pairSteps_14 : decode cX8_pairSteps 14 = .ok (.iload_n 1, 1) := by decide +kernel
theorem dX8_pairSteps_15 : decode cX8_pairSteps 15 = .ok (.iconst 0, 1) := by decide +kernel
theorem dX8_pairSteps_16 : decode cX8_pairSteps 16 = .ok (.aload_n 0, 1) := by decide +kernel
theorem dX8_pairSteps_17 : decode cX8_pairSteps 17 = .ok (.aload_n 0, 1) := by decide +kernel
theorem dX8_pairSteps_18 : decode cX8_pairSteps 18 = .ok (.getfield 19, 3) := by decide +kernel
theorem dX8_pairSteps_21 : decode cX8_pairSteps 21 = .ok (.iload_n 1, 1) := by decide +kernel
theorem dX8_pairSteps_22 : decode cX8_pairSteps 22 = .ok (.iaload, 1) := by decide +kernel
theorem dX8_pairSteps_23 : decode cX8_pairSteps 23 = .ok (.aload_n 0, 1) := by decide +kernel
theorem dX8_pairSteps_24 : decode cX8_pairSteps 24 = .ok (.getfield 15, 3) := by decide +kernel
theorem dX8_pairSteps_27 : decode cX8_pairSteps 27 = .ok (.iload_n 1, 1) := by decide +kernel
theorem dX8_pairSteps_28 : decode cX8_pairSteps 28 = .ok (.iaload, 1) := by decide +kernel
theorem dX8_pairSteps_29 : decode cX8_pairSteps 29 = .ok (.invokevirtual 90, 3) := by decide +kernel
theorem dX8_pairSteps_32 : decode cX8_pairSteps 32 = .ok (.invokestatic 94, 3) := by decide +kernel
theorem dX8_pairSteps_35 : decode cX8_pairSteps 35 = .ok (.iastore, 1) := by decide +kernel
theorem dX8_pairSteps_36 : decode cX8_pairSteps 36 = .ok (.iinc 1 1, 3) := by decide +kernel
theorem dX8_pairSteps_39 : decode cX8_pairSteps 39 = .ok (.goto (-37), 3) := by decide +kernel
theorem dX8_pairSteps_42 : decode cX8_pairSteps 42 = .ok (.return_, 1) := by decide +kernel
theorem dX8_reachFromSides_0 : decode cX8_reachFromSides 0 = .ok (.iconst 0, 1) := by decide +kernel
theorem dX8_reachFromSides_1 : decode cX8_reachFromSides 1 = .ok (.istore_n 1, 1) := by decide +kernel
theorem dX8_reachFromSides_2 : decode cX8_reachFromSides 2 = .ok (.iload_n 1, 1) := by decide +kernel
theorem dX8_reachFromSides_3 : decode cX8_reachFromSides 3 = .ok (.aload_n 0, 1) := by decide +kernel
theorem dX8_reachFromSides_4 : decode cX8_reachFromSides 4 = .ok (.getfield 9, 3) := by decide +kernel
theorem dX8_reachFromSides_7 : decode cX8_reachFromSides 7 = .ok (.getfield 45, 3) := by decide +kernel
theorem dX8_reachFromSides_10 : decode cX8_reachFromSides 10 = .ok (.if_icmp .ge 24, 3) := by decide +kernel
theorem dX8_reachFromSides_13 : decode cX8_reachFromSides 13 = .ok (.aload_n 0, 1) := by decide +kernel
theorem dX8_reachFromSides_14 : decode cX8_reachFromSides 14 = .ok (.getfield 35, 3) := by decide +kernel
theorem dX8_reachFromSides_17 : decode cX8_reachFromSides 17 = .ok (.iload_n 1, 1) := by decide +kernel
theorem dX8_reachFromSides_18 : decode cX8_reachFromSides 18 = .ok (.iload_n 1, 1) := by decide +kernel
theorem dX8_reachFromSides_19 : decode cX8_reachFromSides 19 = .ok (.ifCond .ne 7, 3) := by decide +kernel
theorem dX8_reachFromSides_22 : decode cX8_reachFromSides 22 = .ok (.iconst 1, 1) := by decide +kernel
theorem dX8_reachFromSides_23 : decode cX8_reachFromSides 23 = .ok (.goto 4, 3) := by decide +kernel
theorem dX8_reachFromSides_26 : decode cX8_reachFromSides 26 = .ok (.iconst 0, 1) := by decide +kernel
theorem dX8_reachFromSides_27 : decode cX8_reachFromSides 27 = .ok (.bastore, 1) := by decide +kernel
theorem dX8_reachFromSides_28 : decode cX8_reachFromSides 28 = .ok (.iinc 1 1, 3) := by decide +kernel
theorem dX8_reachFromSides_31 : decode cX8_reachFromSides 31 = .ok (.goto (-29), 3) := by decide +kernel
theorem dX8_reachFromSides_34 : decode cX8_reachFromSides 34 = .ok (.iconst 1, 1) := by decide +kernel
theorem dX8_reachFromSides_35 : decode cX8_reachFromSides 35 = .ok (.istore_n 1, 1) := by decide +kernel
theorem dX8_reachFromSides_36 : decode cX8_reachFromSides 36 = .ok (.iconst 0, 1) := by decide +kernel
theorem dX8_reachFromSides_37 : decode cX8_reachFromSides 37 = .ok (.istore_n 2, 1) := by decide +kernel
theorem dX8_reachFromSides_38 : decode cX8_reachFromSides 38 = .ok (.iload_n 2, 1) := by decide +kernel
theorem dX8_reachFromSides_39 : decode cX8_reachFromSides 39 = .ok (.aload_n 0, 1) := by decide +kernel
theorem dX8_reachFromSides_40 : decode cX8_reachFromSides 40 = .ok (.getfield 9, 3) := by decide +kernel
theorem dX8_reachFromSides_43 : decode cX8_reachFromSides 43 = .ok (.getfield 45, 3) := by decide +kernel
theorem dX8_reachFromSides_46 : decode cX8_reachFromSides 46 = .ok (.if_icmp .ge 73, 3) := by decide +kernel
theorem dX8_reachFromSides_49 : decode cX8_reachFromSides 49 = .ok (.iload_n 1, 1) := by decide +kernel
theorem dX8_reachFromSides_50 : decode cX8_reachFromSides 50 = .ok (.ifCond .eq 69, 3) := by decide +kernel
theorem dX8_reachFromSides_53 : decode cX8_reachFromSides 53 = .ok (.iconst 0, 1) := by decide +kernel
theorem dX8_reachFromSides_54 : decode cX8_reachFromSides 54 = .ok (.istore_n 1, 1) := by decide +kernel
theorem dX8_reachFromSides_55 : decode cX8_reachFromSides 55 = .ok (.iconst 0, 1) := by decide +kernel
theorem dX8_reachFromSides_56 : decode cX8_reachFromSides 56 = .ok (.istore_n 3, 1) := by decide +kernel
theorem dX8_reachFromSides_57 : decode cX8_reachFromSides 57 = .ok (.iload_n 3, 1) := by decide +kernel
theorem dX8_reachFromSides_58 : decode cX8_reachFromSides 58 = .ok (.aload_n 0, 1) := by decide +kernel
theorem dX8_reachFromSides_59 : decode cX8_reachFromSides 59 = .ok (.getfield 83, 3) := by decide +kernel
theorem dX8_reachFromSides_62 : decode cX8_reachFromSides 62 = .ok (.if_icmp .ge 51, 3) := by decide +kernel
theorem dX8_reachFromSides_65 : decode cX8_reachFromSides 65 = .ok (.aload_n 0, 1) := by decide +kernel
theorem dX8_reachFromSides_66 : decode cX8_reachFromSides 66 = .ok (.getfield 35, 3) := by decide +kernel
theorem dX8_reachFromSides_69 : decode cX8_reachFromSides 69 = .ok (.aload_n 0, 1) := by decide +kernel
theorem dX8_reachFromSides_70 : decode cX8_reachFromSides 70 = .ok (.getfield 15, 3) := by decide +kernel
theorem dX8_reachFromSides_73 : decode cX8_reachFromSides 73 = .ok (.iload_n 3, 1) := by decide +kernel
theorem dX8_reachFromSides_74 : decode cX8_reachFromSides 74 = .ok (.iaload, 1) := by decide +kernel
theorem dX8_reachFromSides_75 : decode cX8_reachFromSides 75 = .ok (.baload, 1) := by decide +kernel
theorem dX8_reachFromSides_76 : decode cX8_reachFromSides 76 = .ok (.ifCond .eq 31, 3) := by decide +kernel
theorem dX8_reachFromSides_79 : decode cX8_reachFromSides 79 = .ok (.aload_n 0, 1) := by decide +kernel
theorem dX8_reachFromSides_80 : decode cX8_reachFromSides 80 = .ok (.getfield 35, 3) := by decide +kernel
theorem dX8_reachFromSides_83 : decode cX8_reachFromSides 83 = .ok (.aload_n 0, 1) := by decide +kernel
theorem dX8_reachFromSides_84 : decode cX8_reachFromSides 84 = .ok (.getfield 19, 3) := by decide +kernel
theorem dX8_reachFromSides_87 : decode cX8_reachFromSides 87 = .ok (.iload_n 3, 1) := by decide +kernel
theorem dX8_reachFromSides_88 : decode cX8_reachFromSides 88 = .ok (.iaload, 1) := by decide +kernel
theorem dX8_reachFromSides_89 : decode cX8_reachFromSides 89 = .ok (.baload, 1) := by decide +kernel
theorem dX8_reachFromSides_90 : decode cX8_reachFromSides 90 = .ok (.ifCond .ne 17, 3) := by decide +kernel
theorem dX8_reachFromSides_93 : decode cX8_reachFromSides 93 = .ok (.aload_n 0, 1) := by decide +kernel
theorem dX8_reachFromSides_94 : decode cX8_reachFromSides 94 = .ok (.getfield 35, 3) := by decide +kernel
theorem dX8_reachFromSides_97 : decode cX8_reachFromSides 97 = .ok (.aload_n 0, 1) := by decide +kernel
theorem dX8_reachFromSides_98 : decode cX8_reachFromSides 98 = .ok (.getfield 19, 3) := by decide +kernel
theorem dX8_reachFromSides_101 : decode cX8_reachFromSides 101 = .ok (.iload_n 3, 1) := by decide +kernel
theorem dX8_reachFromSides_102 : decode cX8_reachFromSides 102 = .ok (.iaload, 1) := by decide +kernel
theorem dX8_reachFromSides_103 : decode cX8_reachFromSides 103 = .ok (.iconst 1, 1) := by decide +kernel
theorem dX8_reachFromSides_104 : decode cX8_reachFromSides 104 = .ok (.bastore, 1) := by decide +kernel
theorem dX8_reachFromSides_105 : decode cX8_reachFromSides 105 = .ok (.iconst 1, 1) := by decide +kernel
theorem dX8_reachFromSides_106 : decode cX8_reachFromSides 106 = .ok (.istore_n 1, 1) := by decide +kernel
theorem dX8_reachFromSides_107 : decode cX8_reachFromSides 107 = .ok (.iinc 3 1, 3) := by decide +kernel
theorem dX8_reachFromSides_110 : decode cX8_reachFromSides 110 = .ok (.goto (-53), 3) := by decide +kernel
theorem dX8_reachFromSides_113 : decode cX8_reachFromSides 113 = .ok (.iinc 2 1, 3) := by decide +kernel
theorem dX8_reachFromSides_116 : decode cX8_reachFromSides 116 = .ok (.goto (-78), 3) := by decide +kernel
theorem dX8_reachFromSides_119 : decode cX8_reachFromSides 119 = .ok (.return_, 1) := by decide +kernel
set_option maxRecDepth 20000 in
theorem ggX8_firmWhatIsReached_X8_endsAt : GoodIn wsX8_firmWhatIsReached wsX8_endsAt := goodIn_r _ [12, 13, 14, 15, 16, 17, 18, 19, 20, 21, 22, 23, 24] rfl (by decide +kernel)
set_option maxRecDepth 20000 in
theorem gX8_firmWhatIsReached_X8_endsAt : GoodIn wsX8_firmWhatIsReached (wsV RX8 99 RX8 yX8_endsAt wsX8_endsAt) := goodIn_app (goodIn_r ([.methodLink RX8 99 yX8_endsAt, .instanceMethod yX8_endsAt, .selects RX8 yX8_endsAt yX8_endsAt, .initialized RX8] : List Cond) [8, 9, 10, 11] rfl (by decide +kernel)) ggX8_firmWhatIsReached_X8_endsAt
theorem dX8_firmWhatIsReached_0 : decode cX8_firmWhatIsReached 0 = .ok (.iconst 0, 1) := by decide +kernel
theorem dX8_firmWhatIsReached_1 : decode cX8_firmWhatIsReached 1 = .ok (.istore_n 1, 1) := by decide +kernel
theorem dX8_firmWhatIsReached_2 : decode cX8_firmWhatIsReached 2 = .ok (.iload_n 1, 1) := by decide +kernel
theorem dX8_firmWhatIsReached_3 : decode cX8_firmWhatIsReached 3 = .ok (.aload_n 0, 1) := by decide +kernel
theorem dX8_firmWhatIsReached_4 : decode cX8_firmWhatIsReached 4 = .ok (.getfield 9, 3) := by decide +kernel
theorem dX8_firmWhatIsReached_7 : decode cX8_firmWhatIsReached 7 = .ok (.getfield 45, 3) := by decide +kernel
theorem dX8_firmWhatIsReached_10 : decode cX8_firmWhatIsReached 10 = .ok (.if_icmp .ge 33, 3) := by decide +kernel
theorem dX8_firmWhatIsReached_13 : decode cX8_firmWhatIsReached 13 = .ok (.aload_n 0, 1) := by decide +kernel
theorem dX8_firmWhatIsReached_14 : decode cX8_firmWhatIsReached 14 = .ok (.getfield 32, 3) := by decide +kernel
theorem dX8_firmWhatIsReached_17 : decode cX8_firmWhatIsReached 17 = .ok (.iload_n 1, 1) := by decide +kernel
theorem dX8_firmWhatIsReached_18 : decode cX8_firmWhatIsReached 18 = .ok (.aload_n 0, 1) := by decide +kernel
theorem dX8_firmWhatIsReached_19 : decode cX8_firmWhatIsReached 19 = .ok (.getfield 35, 3) := by decide +kernel
theorem dX8_firmWhatIsReached_22 : decode cX8_firmWhatIsReached 22 = .ok (.iload_n 1, 1) := by decide +kernel
theorem dX8_firmWhatIsReached_23 : decode cX8_firmWhatIsReached 23 = .ok (.baload, 1) := by decide +kernel
theorem dX8_firmWhatIsReached_24 : decode cX8_firmWhatIsReached 24 = .ok (.ifCond .eq 11, 3) := by decide +kernel
theorem dX8_firmWhatIsReached_27 : decode cX8_firmWhatIsReached 27 = .ok (.aload_n 0, 1) := by decide +kernel
theorem dX8_firmWhatIsReached_28 : decode cX8_firmWhatIsReached 28 = .ok (.iload_n 1, 1) := by decide +kernel
theorem dX8_firmWhatIsReached_29 : decode cX8_firmWhatIsReached 29 = .ok (.invokevirtual 99, 3) := by decide +kernel
theorem dX8_firmWhatIsReached_32 : decode cX8_firmWhatIsReached 32 = .ok (.goto 4, 3) := by decide +kernel
theorem dX8_firmWhatIsReached_35 : decode cX8_firmWhatIsReached 35 = .ok (.iconst 0, 1) := by decide +kernel
theorem dX8_firmWhatIsReached_36 : decode cX8_firmWhatIsReached 36 = .ok (.iastore, 1) := by decide +kernel
theorem dX8_firmWhatIsReached_37 : decode cX8_firmWhatIsReached 37 = .ok (.iinc 1 1, 3) := by decide +kernel
theorem dX8_firmWhatIsReached_40 : decode cX8_firmWhatIsReached 40 = .ok (.goto (-38), 3) := by decide +kernel
theorem dX8_firmWhatIsReached_43 : decode cX8_firmWhatIsReached 43 = .ok (.iconst 0, 1) := by decide +kernel
theorem dX8_firmWhatIsReached_44 : decode cX8_firmWhatIsReached 44 = .ok (.istore_n 1, 1) := by decide +kernel
theorem dX8_firmWhatIsReached_45 : decode cX8_firmWhatIsReached 45 = .ok (.iload_n 1, 1) := by decide +kernel
theorem dX8_firmWhatIsReached_46 : decode cX8_firmWhatIsReached 46 = .ok (.aload_n 0, 1) := by decide +kernel
theorem dX8_firmWhatIsReached_47 : decode cX8_firmWhatIsReached 47 = .ok (.getfield 83, 3) := by decide +kernel
theorem dX8_firmWhatIsReached_50 : decode cX8_firmWhatIsReached 50 = .ok (.if_icmp .ge 26, 3) := by decide +kernel
theorem dX8_firmWhatIsReached_53 : decode cX8_firmWhatIsReached 53 = .ok (.aload_n 0, 1) := by decide +kernel
theorem dX8_firmWhatIsReached_54 : decode cX8_firmWhatIsReached 54 = .ok (.getfield 25, 3) := by decide +kernel
theorem dX8_firmWhatIsReached_57 : decode cX8_firmWhatIsReached 57 = .ok (.iload_n 1, 1) := by decide +kernel
theorem dX8_firmWhatIsReached_58 : decode cX8_firmWhatIsReached 58 = .ok (.aload_n 0, 1) := by decide +kernel
theorem dX8_firmWhatIsReached_59 : decode cX8_firmWhatIsReached 59 = .ok (.getfield 35, 3) := by decide +kernel
theorem dX8_firmWhatIsReached_62 : decode cX8_firmWhatIsReached 62 = .ok (.aload_n 0, 1) := by decide +kernel
theorem dX8_firmWhatIsReached_63 : decode cX8_firmWhatIsReached 63 = .ok (.getfield 15, 3) := by decide +kernel
theorem dX8_firmWhatIsReached_66 : decode cX8_firmWhatIsReached 66 = .ok (.iload_n 1, 1) := by decide +kernel
theorem dX8_firmWhatIsReached_67 : decode cX8_firmWhatIsReached 67 = .ok (.iaload, 1) := by decide +kernel
theorem dX8_firmWhatIsReached_68 : decode cX8_firmWhatIsReached 68 = .ok (.baload, 1) := by decide +kernel
theorem dX8_firmWhatIsReached_69 : decode cX8_firmWhatIsReached 69 = .ok (.bastore, 1) := by decide +kernel
theorem dX8_firmWhatIsReached_70 : decode cX8_firmWhatIsReached 70 = .ok (.iinc 1 1, 3) := by decide +kernel
theorem dX8_firmWhatIsReached_73 : decode cX8_firmWhatIsReached 73 = .ok (.goto (-28), 3) := by decide +kernel
theorem dX8_firmWhatIsReached_76 : decode cX8_firmWhatIsReached 76 = .ok (.return_, 1) := by decide +kernel
set_option maxRecDepth 20000 in
theorem ggX8_loosenDeadEnds_X8_loosen : GoodIn wsX8_loosenDeadEnds wsX8_loosen := goodIn_r _ [9, 2, 10, 3, 4, 11, 12, 13, 14, 15, 16, 17, 18, 19, 20, 21, 22] rfl (by decide +kernel)
set_option maxRecDepth 20000 in
theorem gX8_loosenDeadEnds_X8_loosen : GoodIn wsX8_loosenDeadEnds (wsV RX8 103 RX8 yX8_loosen wsX8_loosen) := goodIn_app (goodIn_r ([.methodLink RX8 103 yX8_loosen, .instanceMethod yX8_loosen, .selects RX8 yX8_loosen yX8_loosen, .initialized RX8] : List Cond) [5, 6, 7, 8] rfl (by decide +kernel)) ggX8_loosenDeadEnds_X8_loosen
theorem dX8_loosenDeadEnds_0 : decode cX8_loosenDeadEnds 0 = .ok (.iconst 1, 1) := by decide +kernel
theorem dX8_loosenDeadEnds_1 : decode cX8_loosenDeadEnds 1 = .ok (.istore_n 1, 1) := by decide +kernel
theorem dX8_loosenDeadEnds_2 : decode cX8_loosenDeadEnds 2 = .ok (.iconst 0, 1) := by decide +kernel
theorem dX8_loosenDeadEnds_3 : decode cX8_loosenDeadEnds 3 = .ok (.istore_n 2, 1) := by decide +kernel
theorem dX8_loosenDeadEnds_4 : decode cX8_loosenDeadEnds 4 = .ok (.iload_n 2, 1) := by decide +kernel
theorem dX8_loosenDeadEnds_5 : decode cX8_loosenDeadEnds 5 = .ok (.aload_n 0, 1) := by decide +kernel
theorem dX8_loosenDeadEnds_6 : decode cX8_loosenDeadEnds 6 = .ok (.getfield 83, 3) := by decide +kernel
theorem dX8_loosenDeadEnds_9 : decode cX8_loosenDeadEnds 9 = .ok (.if_icmp .ge 62, 3) := by decide +kernel
theorem dX8_loosenDeadEnds_12 : decode cX8_loosenDeadEnds 12 = .ok (.iload_n 1, 1) := by decide +kernel
theorem dX8_loosenDeadEnds_13 : decode cX8_loosenDeadEnds 13 = .ok (.ifCond .eq 58, 3) := by decide +kernel
theorem dX8_loosenDeadEnds_16 : decode cX8_loosenDeadEnds 16 = .ok (.iconst 0, 1) := by decide +kernel
theorem dX8_loosenDeadEnds_17 : decode cX8_loosenDeadEnds 17 = .ok (.istore_n 1, 1) := by decide +kernel
theorem dX8_loosenDeadEnds_18 : decode cX8_loosenDeadEnds 18 = .ok (.iconst 0, 1) := by decide +kernel
theorem dX8_loosenDeadEnds_19 : decode cX8_loosenDeadEnds 19 = .ok (.istore_n 3, 1) := by decide +kernel
theorem dX8_loosenDeadEnds_20 : decode cX8_loosenDeadEnds 20 = .ok (.iload_n 3, 1) := by decide +kernel
theorem dX8_loosenDeadEnds_21 : decode cX8_loosenDeadEnds 21 = .ok (.aload_n 0, 1) := by decide +kernel
theorem dX8_loosenDeadEnds_22 : decode cX8_loosenDeadEnds 22 = .ok (.getfield 83, 3) := by decide +kernel
theorem dX8_loosenDeadEnds_25 : decode cX8_loosenDeadEnds 25 = .ok (.if_icmp .ge 40, 3) := by decide +kernel
theorem dX8_loosenDeadEnds_28 : decode cX8_loosenDeadEnds 28 = .ok (.aload_n 0, 1) := by decide +kernel
theorem dX8_loosenDeadEnds_29 : decode cX8_loosenDeadEnds 29 = .ok (.getfield 25, 3) := by decide +kernel
theorem dX8_loosenDeadEnds_32 : decode cX8_loosenDeadEnds 32 = .ok (.iload_n 3, 1) := by decide +kernel
theorem dX8_loosenDeadEnds_33 : decode cX8_loosenDeadEnds 33 = .ok (.baload, 1) := by decide +kernel
theorem dX8_loosenDeadEnds_34 : decode cX8_loosenDeadEnds 34 = .ok (.ifCond .eq 25, 3) := by decide +kernel
theorem dX8_loosenDeadEnds_37 : decode cX8_loosenDeadEnds 37 = .ok (.aload_n 0, 1) := by decide +kernel
theorem dX8_loosenDeadEnds_38 : decode cX8_loosenDeadEnds 38 = .ok (.getfield 32, 3) := by decide +kernel
theorem dX8_loosenDeadEnds_41 : decode cX8_loosenDeadEnds 41 = .ok (.aload_n 0, 1) := by decide +kernel
theorem dX8_loosenDeadEnds_42 : decode cX8_loosenDeadEnds 42 = .ok (.getfield 15, 3) := by decide +kernel
theorem dX8_loosenDeadEnds_45 : decode cX8_loosenDeadEnds 45 = .ok (.iload_n 3, 1) := by decide +kernel
theorem dX8_loosenDeadEnds_46 : decode cX8_loosenDeadEnds 46 = .ok (.iaload, 1) := by decide +kernel
theorem dX8_loosenDeadEnds_47 : decode cX8_loosenDeadEnds 47 = .ok (.iaload, 1) := by decide +kernel
theorem dX8_loosenDeadEnds_48 : decode cX8_loosenDeadEnds 48 = .ok (.iconst 1, 1) := by decide +kernel
theorem dX8_loosenDeadEnds_49 : decode cX8_loosenDeadEnds 49 = .ok (.if_icmp .ne 10, 3) := by decide +kernel
theorem dX8_loosenDeadEnds_52 : decode cX8_loosenDeadEnds 52 = .ok (.aload_n 0, 1) := by decide +kernel
theorem dX8_loosenDeadEnds_53 : decode cX8_loosenDeadEnds 53 = .ok (.iload_n 3, 1) := by decide +kernel
theorem dX8_loosenDeadEnds_54 : decode cX8_loosenDeadEnds 54 = .ok (.invokevirtual 103, 3) := by decide +kernel
theorem dX8_loosenDeadEnds_57 : decode cX8_loosenDeadEnds 57 = .ok (.iconst 1, 1) := by decide +kernel
theorem dX8_loosenDeadEnds_58 : decode cX8_loosenDeadEnds 58 = .ok (.istore_n 1, 1) := by decide +kernel
theorem dX8_loosenDeadEnds_59 : decode cX8_loosenDeadEnds 59 = .ok (.iinc 3 1, 3) := by decide +kernel
theorem dX8_loosenDeadEnds_62 : decode cX8_loosenDeadEnds 62 = .ok (.goto (-42), 3) := by decide +kernel
theorem dX8_loosenDeadEnds_65 : decode cX8_loosenDeadEnds 65 = .ok (.iinc 2 1, 3) := by decide +kernel
theorem dX8_loosenDeadEnds_68 : decode cX8_loosenDeadEnds 68 = .ok (.goto (-64), 3) := by decide +kernel
theorem dX8_loosenDeadEnds_71 : decode cX8_loosenDeadEnds 71 = .ok (.return_, 1) := by decide +kernel
theorem dX8_loosen_0 : decode cX8_loosen 0 = .ok (.aload_n 0, 1) := by decide +kernel
theorem dX8_loosen_1 : decode cX8_loosen 1 = .ok (.getfield 25, 3) := by decide +kernel
theorem dX8_loosen_4 : decode cX8_loosen 4 = .ok (.iload_n 1, 1) := by decide +kernel
theorem dX8_loosen_5 : decode cX8_loosen 5 = .ok (.iconst 0, 1) := by decide +kernel
theorem dX8_loosen_6 : decode cX8_loosen 6 = .ok (.bastore, 1) := by decide +kernel
theorem dX8_loosen_7 : decode cX8_loosen 7 = .ok (.aload_n 0, 1) := by decide +kernel
theorem dX8_loosen_8 : decode cX8_loosen 8 = .ok (.getfield 25, 3) := by decide +kernel
theorem dX8_loosen_11 : decode cX8_loosen 11 = .ok (.aload_n 0, 1) := by decide +kernel
theorem dX8_loosen_12 : decode cX8_loosen 12 = .ok (.getfield 22, 3) := by decide +kernel
theorem dX8_loosen_15 : decode cX8_loosen 15 = .ok (.iload_n 1, 1) := by decide +kernel
theorem dX8_loosen_16 : decode cX8_loosen 16 = .ok (.iaload, 1) := by decide +kernel
theorem dX8_loosen_17 : decode cX8_loosen 17 = .ok (.iconst 0, 1) := by decide +kernel
theorem dX8_loosen_18 : decode cX8_loosen 18 = .ok (.bastore, 1) := by decide +kernel
theorem dX8_loosen_19 : decode cX8_loosen 19 = .ok (.aload_n 0, 1) := by decide +kernel
theorem dX8_loosen_20 : decode cX8_loosen 20 = .ok (.getfield 32, 3) := by decide +kernel
theorem dX8_loosen_23 : decode cX8_loosen 23 = .ok (.aload_n 0, 1) := by decide +kernel
theorem dX8_loosen_24 : decode cX8_loosen 24 = .ok (.getfield 15, 3) := by decide +kernel
theorem dX8_loosen_27 : decode cX8_loosen 27 = .ok (.iload_n 1, 1) := by decide +kernel
theorem dX8_loosen_28 : decode cX8_loosen 28 = .ok (.iaload, 1) := by decide +kernel
theorem dX8_loosen_29 : decode cX8_loosen 29 = .ok (.dup2, 1) := by decide +kernel
theorem dX8_loosen_30 : decode cX8_loosen 30 = .ok (.iaload, 1) := by decide +kernel
theorem dX8_loosen_31 : decode cX8_loosen 31 = .ok (.iconst 1, 1) := by decide +kernel
theorem dX8_loosen_32 : decode cX8_loosen 32 = .ok (.isub, 1) := by decide +kernel
theorem dX8_loosen_33 : decode cX8_loosen 33 = .ok (.iastore, 1) := by decide +kernel
theorem dX8_loosen_34 : decode cX8_loosen 34 = .ok (.aload_n 0, 1) := by decide +kernel
theorem dX8_loosen_35 : decode cX8_loosen 35 = .ok (.getfield 32, 3) := by decide +kernel
theorem dX8_loosen_38 : decode cX8_loosen 38 = .ok (.aload_n 0, 1) := by decide +kernel
theorem dX8_loosen_39 : decode cX8_loosen 39 = .ok (.getfield 19, 3) := by decide +kernel
theorem dX8_loosen_42 : decode cX8_loosen 42 = .ok (.iload_n 1, 1) := by decide +kernel
theorem dX8_loosen_43 : decode cX8_loosen 43 = .ok (.iaload, 1) := by decide +kernel
theorem dX8_loosen_44 : decode cX8_loosen 44 = .ok (.dup2, 1) := by decide +kernel
theorem dX8_loosen_45 : decode cX8_loosen 45 = .ok (.iaload, 1) := by decide +kernel
theorem dX8_loosen_46 : decode cX8_loosen 46 = .ok (.iconst 1, 1) := by decide +kernel
theorem dX8_loosen_47 : decode cX8_loosen 47 = .ok (.isub, 1) := by decide +kernel
theorem dX8_loosen_48 : decode cX8_loosen 48 = .ok (.iastore, 1) := by decide +kernel
theorem dX8_loosen_49 : decode cX8_loosen 49 = .ok (.return_, 1) := by decide +kernel
theorem dX8_endsAt_0 : decode cX8_endsAt 0 = .ok (.aload_n 0, 1) := by decide +kernel
theorem dX8_endsAt_1 : decode cX8_endsAt 1 = .ok (.getfield 29, 3) := by decide +kernel
theorem dX8_endsAt_4 : decode cX8_endsAt 4 = .ok (.iload_n 1, 1) := by decide +kernel
theorem dX8_endsAt_5 : decode cX8_endsAt 5 = .ok (.iconst 1, 1) := by decide +kernel
theorem dX8_endsAt_6 : decode cX8_endsAt 6 = .ok (.iadd, 1) := by decide +kernel
theorem dX8_endsAt_7 : decode cX8_endsAt 7 = .ok (.iaload, 1) := by decide +kernel
theorem dX8_endsAt_8 : decode cX8_endsAt 8 = .ok (.aload_n 0, 1) := by decide +kernel
theorem dX8_endsAt_9 : decode cX8_endsAt 9 = .ok (.getfield 29, 3) := by decide +kernel
theorem dX8_endsAt_12 : decode cX8_endsAt 12 = .ok (.iload_n 1, 1) := by decide +kernel
theorem dX8_endsAt_13 : decode cX8_endsAt 13 = .ok (.iaload, 1) := by decide +kernel
theorem dX8_endsAt_14 : decode cX8_endsAt 14 = .ok (.isub, 1) := by decide +kernel
theorem dX8_endsAt_15 : decode cX8_endsAt 15 = .ok (.ireturn, 1) := by decide +kernel
theorem dX8_firmEndsAt_0 : decode cX8_firmEndsAt 0 = .ok (.aload_n 0, 1) := by decide +kernel
theorem dX8_firmEndsAt_1 : decode cX8_firmEndsAt 1 = .ok (.getfield 32, 3) := by decide +kernel
theorem dX8_firmEndsAt_4 : decode cX8_firmEndsAt 4 = .ok (.iload_n 1, 1) := by decide +kernel
theorem dX8_firmEndsAt_5 : decode cX8_firmEndsAt 5 = .ok (.iaload, 1) := by decide +kernel
theorem dX8_firmEndsAt_6 : decode cX8_firmEndsAt 6 = .ok (.ireturn, 1) := by decide +kernel
theorem dX8_looseSteps_0 : decode cX8_looseSteps 0 = .ok (.iconst 0, 1) := by decide +kernel
theorem dX8_looseSteps_1 : decode cX8_looseSteps 1 = .ok (.istore_n 1, 1) := by decide +kernel
theorem dX8_looseSteps_2 : decode cX8_looseSteps 2 = .ok (.iconst 0, 1) := by decide +kernel
theorem dX8_looseSteps_3 : decode cX8_looseSteps 3 = .ok (.istore_n 2, 1) := by decide +kernel
theorem dX8_looseSteps_4 : decode cX8_looseSteps 4 = .ok (.iload_n 2, 1) := by decide +kernel
theorem dX8_looseSteps_5 : decode cX8_looseSteps 5 = .ok (.aload_n 0, 1) := by decide +kernel
theorem dX8_looseSteps_6 : decode cX8_looseSteps 6 = .ok (.getfield 83, 3) := by decide +kernel
theorem dX8_looseSteps_9 : decode cX8_looseSteps 9 = .ok (.if_icmp .ge 21, 3) := by decide +kernel
theorem dX8_looseSteps_12 : decode cX8_looseSteps 12 = .ok (.aload_n 0, 1) := by decide +kernel
theorem dX8_looseSteps_13 : decode cX8_looseSteps 13 = .ok (.getfield 25, 3) := by decide +kernel
theorem dX8_looseSteps_16 : decode cX8_looseSteps 16 = .ok (.iload_n 2, 1) := by decide +kernel
theorem dX8_looseSteps_17 : decode cX8_looseSteps 17 = .ok (.baload, 1) := by decide +kernel
theorem dX8_looseSteps_18 : decode cX8_looseSteps 18 = .ok (.ifCond .ne 6, 3) := by decide +kernel
theorem dX8_looseSteps_21 : decode cX8_looseSteps 21 = .ok (.iinc 1 1, 3) := by decide +kernel
theorem dX8_looseSteps_24 : decode cX8_looseSteps 24 = .ok (.iinc 2 1, 3) := by decide +kernel
theorem dX8_looseSteps_27 : decode cX8_looseSteps 27 = .ok (.goto (-23), 3) := by decide +kernel
theorem dX8_looseSteps_30 : decode cX8_looseSteps 30 = .ok (.iload_n 1, 1) := by decide +kernel
theorem dX8_looseSteps_31 : decode cX8_looseSteps 31 = .ok (.ireturn, 1) := by decide +kernel
theorem dX8_stepBetween_0 : decode cX8_stepBetween 0 = .ok (.aload_n 0, 1) := by decide +kernel
theorem dX8_stepBetween_1 : decode cX8_stepBetween 1 = .ok (.getfield 29, 3) := by decide +kernel
theorem dX8_stepBetween_4 : decode cX8_stepBetween 4 = .ok (.iload_n 1, 1) := by decide +kernel
theorem dX8_stepBetween_5 : decode cX8_stepBetween 5 = .ok (.iaload, 1) := by decide +kernel
theorem dX8_stepBetween_6 : decode cX8_stepBetween 6 = .ok (.istore_n 3, 1) := by decide +kernel
theorem dX8_stepBetween_7 : decode cX8_stepBetween 7 = .ok (.iload_n 3, 1) := by decide +kernel
theorem dX8_stepBetween_8 : decode cX8_stepBetween 8 = .ok (.aload_n 0, 1) := by decide +kernel
theorem dX8_stepBetween_9 : decode cX8_stepBetween 9 = .ok (.getfield 29, 3) := by decide +kernel
theorem dX8_stepBetween_12 : decode cX8_stepBetween 12 = .ok (.iload_n 1, 1) := by decide +kernel
theorem dX8_stepBetween_13 : decode cX8_stepBetween 13 = .ok (.iconst 1, 1) := by decide +kernel
theorem dX8_stepBetween_14 : decode cX8_stepBetween 14 = .ok (.iadd, 1) := by decide +kernel
theorem dX8_stepBetween_15 : decode cX8_stepBetween 15 = .ok (.iaload, 1) := by decide +kernel
theorem dX8_stepBetween_16 : decode cX8_stepBetween 16 = .ok (.if_icmp .ge 21, 3) := by decide +kernel
theorem dX8_stepBetween_19 : decode cX8_stepBetween 19 = .ok (.aload_n 0, 1) := by decide +kernel
theorem dX8_stepBetween_20 : decode cX8_stepBetween 20 = .ok (.getfield 19, 3) := by decide +kernel
theorem dX8_stepBetween_23 : decode cX8_stepBetween 23 = .ok (.iload_n 3, 1) := by decide +kernel
theorem dX8_stepBetween_24 : decode cX8_stepBetween 24 = .ok (.iaload, 1) := by decide +kernel
theorem dX8_stepBetween_25 : decode cX8_stepBetween 25 = .ok (.iload_n 2, 1) := by decide +kernel
theorem dX8_stepBetween_26 : decode cX8_stepBetween 26 = .ok (.if_icmp .ne 5, 3) := by decide +kernel
theorem dX8_stepBetween_29 : decode cX8_stepBetween 29 = .ok (.iload_n 3, 1) := by decide +kernel
theorem dX8_stepBetween_30 : decode cX8_stepBetween 30 = .ok (.ireturn, 1) := by decide +kernel
theorem dX8_stepBetween_31 : decode cX8_stepBetween 31 = .ok (.iinc 3 1, 3) := by decide +kernel
theorem dX8_stepBetween_34 : decode cX8_stepBetween 34 = .ok (.goto (-27), 3) := by decide +kernel
theorem dX8_stepBetween_37 : decode cX8_stepBetween 37 = .ok (.iconst (-1), 1) := by decide +kernel
theorem dX8_stepBetween_38 : decode cX8_stepBetween 38 = .ok (.ireturn, 1) := by decide +kernel
set_option maxRecDepth 20000 in
theorem ggX8_after_X8_comesSooner : GoodIn wsX8_after wsX8_comesSooner := goodIn_r _ [9, 10, 11, 2, 12, 13, 14, 15, 16, 17, 18, 19, 20, 21, 22, 23, 24, 25, 26, 27, 28, 29, 30, 31, 32, 33, 34, 35, 36, 37, 38] rfl (by decide +kernel)
set_option maxRecDepth 20000 in
theorem gX8_after_X8_comesSooner : GoodIn wsX8_after (wsV RX8 107 RX8 yX8_comesSooner wsX8_comesSooner) := goodIn_app (goodIn_r ([.methodLink RX8 107 yX8_comesSooner, .instanceMethod yX8_comesSooner, .selects RX8 yX8_comesSooner yX8_comesSooner, .initialized RX8] : List Cond) [5, 6, 7, 8] rfl (by decide +kernel)) ggX8_after_X8_comesSooner
theorem dX8_after_0 : decode cX8_after 0 = .ok (.aload_n 0, 1) := by decide +kernel
theorem dX8_after_1 : decode cX8_after 1 = .ok (.getfield 22, 3) := by decide +kernel
theorem dX8_after_4 : decode cX8_after 4 = .ok (.iload_n 1, 1) := by decide +kernel
theorem dX8_after_5 : decode cX8_after 5 = .ok (.iaload, 1) := by decide +kernel
theorem dX8_after_6 : decode cX8_after 6 = .ok (.istore_n 2, 1) := by decide +kernel
theorem dX8_after_7 : decode cX8_after 7 = .ok (.aload_n 0, 1) := by decide +kernel
theorem dX8_after_8 : decode cX8_after 8 = .ok (.getfield 19, 3) := by decide +kernel
theorem dX8_after_11 : decode cX8_after 11 = .ok (.iload_n 1, 1) := by decide +kernel
theorem dX8_after_12 : decode cX8_after 12 = .ok (.iaload, 1) := by decide +kernel
theorem dX8_after_13 : decode cX8_after 13 = .ok (.istore_n 3, 1) := by decide +kernel
theorem dX8_after_14 : decode cX8_after 14 = .ok (.iload_n 2, 1) := by decide +kernel
theorem dX8_after_15 : decode cX8_after 15 = .ok (.istore 4, 2) := by decide +kernel
theorem dX8_after_17 : decode cX8_after 17 = .ok (.aload_n 0, 1) := by decide +kernel
theorem dX8_after_18 : decode cX8_after 18 = .ok (.getfield 29, 3) := by decide +kernel
theorem dX8_after_21 : decode cX8_after 21 = .ok (.iload_n 3, 1) := by decide +kernel
theorem dX8_after_22 : decode cX8_after 22 = .ok (.iaload, 1) := by decide +kernel
theorem dX8_after_23 : decode cX8_after 23 = .ok (.istore 5, 2) := by decide +kernel
theorem dX8_after_25 : decode cX8_after 25 = .ok (.iload 5, 2) := by decide +kernel
theorem dX8_after_27 : decode cX8_after 27 = .ok (.aload_n 0, 1) := by decide +kernel
theorem dX8_after_28 : decode cX8_after 28 = .ok (.getfield 29, 3) := by decide +kernel
theorem dX8_after_31 : decode cX8_after 31 = .ok (.iload_n 3, 1) := by decide +kernel
theorem dX8_after_32 : decode cX8_after 32 = .ok (.iconst 1, 1) := by decide +kernel
theorem dX8_after_33 : decode cX8_after 33 = .ok (.iadd, 1) := by decide +kernel
theorem dX8_after_34 : decode cX8_after 34 = .ok (.iaload, 1) := by decide +kernel
theorem dX8_after_35 : decode cX8_after 35 = .ok (.if_icmp .ge 47, 3) := by decide +kernel
theorem dX8_after_38 : decode cX8_after 38 = .ok (.aload_n 0, 1) := by decide +kernel
theorem dX8_after_39 : decode cX8_after 39 = .ok (.getfield 25, 3) := by decide +kernel
theorem dX8_after_42 : decode cX8_after 42 = .ok (.iload 5, 2) := by decide +kernel
theorem dX8_after_44 : decode cX8_after 44 = .ok (.baload, 1) := by decide +kernel
theorem dX8_after_45 : decode cX8_after 45 = .ok (.ifCond .eq 31, 3) := by decide +kernel
theorem dX8_after_48 : decode cX8_after 48 = .ok (.iload 5, 2) := by decide +kernel
theorem dX8_after_50 : decode cX8_after 50 = .ok (.iload_n 2, 1) := by decide +kernel
theorem dX8_after_51 : decode cX8_after 51 = .ok (.if_icmp .eq 25, 3) := by decide +kernel
theorem dX8_after_54 : decode cX8_after 54 = .ok (.iload 4, 2) := by decide +kernel
theorem dX8_after_56 : decode cX8_after 56 = .ok (.iload_n 2, 1) := by decide +kernel
theorem dX8_after_57 : decode cX8_after 57 = .ok (.if_icmp .eq 15, 3) := by decide +kernel
theorem dX8_after_60 : decode cX8_after 60 = .ok (.aload_n 0, 1) := by decide +kernel
theorem dX8_after_61 : decode cX8_after 61 = .ok (.iload_n 2, 1) := by decide +kernel
theorem dX8_after_62 : decode cX8_after 62 = .ok (.iload 5, 2) := by decide +kernel
theorem dX8_after_64 : decode cX8_after 64 = .ok (.iload 4, 2) := by decide +kernel
theorem dX8_after_66 : decode cX8_after 66 = .ok (.invokevirtual 107, 3) := by decide +kernel
theorem dX8_after_69 : decode cX8_after 69 = .ok (.ifCond .eq 7, 3) := by decide +kernel
theorem dX8_after_72 : decode cX8_after 72 = .ok (.iload 5, 2) := by decide +kernel
theorem dX8_after_74 : decode cX8_after 74 = .ok (.istore 4, 2) := by decide +kernel
theorem dX8_after_76 : decode cX8_after 76 = .ok (.iinc 5 1, 3) := by decide +kernel
theorem dX8_after_79 : decode cX8_after 79 = .ok (.goto (-54), 3) := by decide +kernel
theorem dX8_after_82 : decode cX8_after 82 = .ok (.iload 4, 2) := by decide +kernel
theorem dX8_after_84 : decode cX8_after 84 = .ok (.ireturn, 1) := by decide +kernel
set_option maxRecDepth 20000 in
theorem ggX8_comesSooner_X4_side : GoodIn wsX8_comesSooner wsX4_side := goodIn_r _ [8, 9, 10, 11, 27, 28, 29, 30] rfl (by decide +kernel)
set_option maxRecDepth 20000 in
theorem gX8_comesSooner_X4_side : GoodIn wsX8_comesSooner (wsV RX8 111 RX4 yX4_side wsX4_side) := goodIn_app (goodIn_r ([.methodLink RX8 111 yX4_side, .instanceMethod yX4_side, .selects RX4 yX4_side yX4_side, .initialized RX4] : List Cond) [4, 5, 6, 7] rfl (by decide +kernel)) ggX8_comesSooner_X4_side
set_option maxRecDepth 20000 in
theorem ggX8_comesSooner_J13_signum_95d88 : GoodIn wsX8_comesSooner wsJ13_signum_95d88 := goodIn_r _ [15] rfl (by decide +kernel)
set_option maxRecDepth 20000 in
theorem gX8_comesSooner_J13_signum_95d88 : GoodIn wsX8_comesSooner (va_wsS RX8 115 yJ13_signum_95d88 wsJ13_signum_95d88) := goodIn_app (goodIn_r ([.methodLink RX8 115 yJ13_signum_95d88, .static yJ13_signum_95d88, .initialized yJ13_signum_95d88.cls] : List Cond) [12, 13, 14] rfl (by decide +kernel)) ggX8_comesSooner_J13_signum_95d88
theorem dX8_comesSooner_0 : decode cX8_comesSooner 0 = .ok (.aload_n 0, 1) := by decide +kernel
theorem dX8_comesSooner_1 : decode cX8_comesSooner 1 = .ok (.getfield 9, 3) := by decide +kernel
theorem dX8_comesSooner_4 : decode cX8_comesSooner 4 = .ok (.aload_n 0, 1) := by decide +kernel
theorem dX8_comesSooner_5 : decode cX8_comesSooner 5 = .ok (.getfield 15, 3) := by decide +kernel
theorem dX8_comesSooner_8 : decode cX8_comesSooner 8 = .ok (.iload_n 1, 1) := by decide +kernel
theorem dX8_comesSooner_9 : decode cX8_comesSooner 9 = .ok (.iaload, 1) := by decide +kernel
theorem dX8_comesSooner_10 : decode cX8_comesSooner 10 = .ok (.aload_n 0, 1) := by decide +kernel
theorem dX8_comesSooner_11 : decode cX8_comesSooner 11 = .ok (.getfield 19, 3) := by decide +kernel
theorem dX8_comesSooner_14 : decode cX8_comesSooner 14 = .ok (.iload_n 1, 1) := by decide +kernel
theorem dX8_comesSooner_15 : decode cX8_comesSooner 15 = .ok (.iaload, 1) := by decide +kernel
theorem dX8_comesSooner_16 : decode cX8_comesSooner 16 = .ok (.aload_n 0, 1) := by decide +kernel
theorem dX8_comesSooner_17 : decode cX8_comesSooner 17 = .ok (.getfield 19, 3) := by decide +kernel
theorem dX8_comesSooner_20 : decode cX8_comesSooner 20 = .ok (.iload_n 2, 1) := by decide +kernel
theorem dX8_comesSooner_21 : decode cX8_comesSooner 21 = .ok (.iaload, 1) := by decide +kernel
theorem dX8_comesSooner_22 : decode cX8_comesSooner 22 = .ok (.invokevirtual 111, 3) := by decide +kernel
theorem dX8_comesSooner_25 : decode cX8_comesSooner 25 = .ok (.invokestatic 115, 3) := by decide +kernel
theorem dX8_comesSooner_28 : decode cX8_comesSooner 28 = .ok (.istore 4, 2) := by decide +kernel
theorem dX8_comesSooner_30 : decode cX8_comesSooner 30 = .ok (.aload_n 0, 1) := by decide +kernel
theorem dX8_comesSooner_31 : decode cX8_comesSooner 31 = .ok (.getfield 9, 3) := by decide +kernel
theorem dX8_comesSooner_34 : decode cX8_comesSooner 34 = .ok (.aload_n 0, 1) := by decide +kernel
theorem dX8_comesSooner_35 : decode cX8_comesSooner 35 = .ok (.getfield 15, 3) := by decide +kernel
theorem dX8_comesSooner_38 : decode cX8_comesSooner 38 = .ok (.iload_n 1, 1) := by decide +kernel
theorem dX8_comesSooner_39 : decode cX8_comesSooner 39 = .ok (.iaload, 1) := by decide +kernel
theorem dX8_comesSooner_40 : decode cX8_comesSooner 40 = .ok (.aload_n 0, 1) := by decide +kernel
theorem dX8_comesSooner_41 : decode cX8_comesSooner 41 = .ok (.getfield 19, 3) := by decide +kernel
theorem dX8_comesSooner_44 : decode cX8_comesSooner 44 = .ok (.iload_n 1, 1) := by decide +kernel
theorem dX8_comesSooner_45 : decode cX8_comesSooner 45 = .ok (.iaload, 1) := by decide +kernel
theorem dX8_comesSooner_46 : decode cX8_comesSooner 46 = .ok (.aload_n 0, 1) := by decide +kernel
theorem dX8_comesSooner_47 : decode cX8_comesSooner 47 = .ok (.getfield 19, 3) := by decide +kernel
theorem dX8_comesSooner_50 : decode cX8_comesSooner 50 = .ok (.iload_n 3, 1) := by decide +kernel
theorem dX8_comesSooner_51 : decode cX8_comesSooner 51 = .ok (.iaload, 1) := by decide +kernel
theorem dX8_comesSooner_52 : decode cX8_comesSooner 52 = .ok (.invokevirtual 111, 3) := by decide +kernel
theorem dX8_comesSooner_55 : decode cX8_comesSooner 55 = .ok (.invokestatic 115, 3) := by decide +kernel
theorem dX8_comesSooner_58 : decode cX8_comesSooner 58 = .ok (.istore 5, 2) := by decide +kernel
theorem dX8_comesSooner_60 : decode cX8_comesSooner 60 = .ok (.iload 4, 2) := by decide +kernel
theorem dX8_comesSooner_62 : decode cX8_comesSooner 62 = .ok (.iload 5, 2) := by decide +kernel
theorem dX8_comesSooner_64 : decode cX8_comesSooner 64 = .ok (.if_icmp .eq 16, 3) := by decide +kernel
theorem dX8_comesSooner_67 : decode cX8_comesSooner 67 = .ok (.iload 4, 2) := by decide +kernel
theorem dX8_comesSooner_69 : decode cX8_comesSooner 69 = .ok (.iload 5, 2) := by decide +kernel
theorem dX8_comesSooner_71 : decode cX8_comesSooner 71 = .ok (.if_icmp .ge 7, 3) := by decide +kernel
theorem dX8_comesSooner_74 : decode cX8_comesSooner 74 = .ok (.iconst 1, 1) := by decide +kernel
theorem dX8_comesSooner_75 : decode cX8_comesSooner 75 = .ok (.goto 4, 3) := by decide +kernel
theorem dX8_comesSooner_78 : decode cX8_comesSooner 78 = .ok (.iconst 0, 1) := by decide +kernel
theorem dX8_comesSooner_79 : decode cX8_comesSooner 79 = .ok (.ireturn, 1) := by decide +kernel
theorem dX8_comesSooner_80 : decode cX8_comesSooner 80 = .ok (.aload_n 0, 1) := by decide +kernel
theorem dX8_comesSooner_81 : decode cX8_comesSooner 81 = .ok (.getfield 9, 3) := by decide +kernel
theorem dX8_comesSooner_84 : decode cX8_comesSooner 84 = .ok (.aload_n 0, 1) := by decide +kernel
theorem dX8_comesSooner_85 : decode cX8_comesSooner 85 = .ok (.getfield 15, 3) := by decide +kernel
theorem dX8_comesSooner_88 : decode cX8_comesSooner 88 = .ok (.iload_n 2, 1) := by decide +kernel
theorem dX8_comesSooner_89 : decode cX8_comesSooner 89 = .ok (.iaload, 1) := by decide +kernel
theorem dX8_comesSooner_90 : decode cX8_comesSooner 90 = .ok (.aload_n 0, 1) := by decide +kernel
theorem dX8_comesSooner_91 : decode cX8_comesSooner 91 = .ok (.getfield 19, 3) := by decide +kernel
theorem dX8_comesSooner_94 : decode cX8_comesSooner 94 = .ok (.iload_n 2, 1) := by decide +kernel
theorem dX8_comesSooner_95 : decode cX8_comesSooner 95 = .ok (.iaload, 1) := by decide +kernel
theorem dX8_comesSooner_96 : decode cX8_comesSooner 96 = .ok (.aload_n 0, 1) := by decide +kernel
theorem dX8_comesSooner_97 : decode cX8_comesSooner 97 = .ok (.getfield 19, 3) := by decide +kernel
theorem dX8_comesSooner_100 : decode cX8_comesSooner 100 = .ok (.iload_n 3, 1) := by decide +kernel
theorem dX8_comesSooner_101 : decode cX8_comesSooner 101 = .ok (.iaload, 1) := by decide +kernel
theorem dX8_comesSooner_102 : decode cX8_comesSooner 102 = .ok (.invokevirtual 111, 3) := by decide +kernel
theorem dX8_comesSooner_105 : decode cX8_comesSooner 105 = .ok (.lconst 0, 1) := by decide +kernel
theorem dX8_comesSooner_106 : decode cX8_comesSooner 106 = .ok (.lcmp, 1) := by decide +kernel
theorem dX8_comesSooner_107 : decode cX8_comesSooner 107 = .ok (.ifCond .ge 7, 3) := by decide +kernel
theorem dX8_comesSooner_110 : decode cX8_comesSooner 110 = .ok (.iconst 1, 1) := by decide +kernel
theorem dX8_comesSooner_111 : decode cX8_comesSooner 111 = .ok (.goto 4, 3) := by decide +kernel
theorem dX8_comesSooner_114 : decode cX8_comesSooner 114 = .ok (.iconst 0, 1) := by decide +kernel
theorem dX8_comesSooner_115 : decode cX8_comesSooner 115 = .ok (.ireturn, 1) := by decide +kernel
