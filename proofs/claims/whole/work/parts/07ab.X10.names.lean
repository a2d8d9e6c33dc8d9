theorem dX10_ends_21 : decode cX10_ends 21 = .ok (.iaload, 1) := by decide +kernel
theorem dX10_ends_22 : decode cX10_ends 22 = .ok (.iload_n 1, 1) := by decide +kernel
theorem dX10_ends_23 : decode cX10_ends 23 = .ok (.if_icmp .eq 14, 3) := by decide +kernel
theorem dX10_ends_26 : decode cX10_ends 26 = .ok (.aload_n 0, 1) := by decide +kernel
theorem dX10_ends_27 : decode cX10_ends 27 = .ok (.getfield 37, 3) := by decide +kernel
theorem dX10_ends_30 : decode cX10_ends 30 = .ok (.iload 4, 2) := by decide +kernel
theorem dX10_ends_32 : decode cX10_ends 32 = .ok (.iaload, 1) := by decide +kernel
theorem dX10_ends_33 : decode cX10_ends 33 = .ok (.iload_n 1, 1) := by decide +kernel
theorem dX10_ends_34 : decode cX10_ends 34 = .ok (.if_icmp .ne 21, 3) := by decide +kernel
theorem dX10_ends_37 : decode cX10_ends 37 = .ok (.aload_n 0, 1) := by decide +kernel
theorem dX10_ends_38 : decode cX10_ends 38 = .ok (.getfield 40, 3) := by decide +kernel
theorem dX10_ends_41 : decode cX10_ends 41 = .ok (.iload 4, 2) := by decide +kernel
theorem dX10_ends_43 : decode cX10_ends 43 = .ok (.baload, 1) := by decide +kernel
theorem dX10_ends_44 : decode cX10_ends 44 = .ok (.ifCond .ne 7, 3) := by decide +kernel
theorem dX10_ends_47 : decode cX10_ends 47 = .ok (.iload_n 2, 1) := by decide +kernel
theorem dX10_ends_48 : decode cX10_ends 48 = .ok (.ifCond .ne 7, 3) := by decide +kernel
theorem dX10_ends_51 : decode cX10_ends 51 = .ok (.iconst 1, 1) := by decide +kernel
theorem dX10_ends_52 : decode cX10_ends 52 = .ok (.goto 4, 3) := by decide +kernel
theorem dX10_ends_55 : decode cX10_ends 55 = .ok (.iconst 0, 1) := by decide +kernel
theorem dX10_ends_56 : decode cX10_ends 56 = .ok (.iadd, 1) := by decide +kernel
theorem dX10_ends_57 : decode cX10_ends 57 = .ok (.istore_n 3, 1) := by decide +kernel
theorem dX10_ends_58 : decode cX10_ends 58 = .ok (.iinc 4 1, 3) := by decide +kernel
theorem dX10_ends_61 : decode cX10_ends 61 = .ok (.goto (-56), 3) := by decide +kernel
theorem dX10_ends_64 : decode cX10_ends 64 = .ok (.iload_n 3, 1) := by decide +kernel
theorem dX10_ends_65 : decode cX10_ends 65 = .ok (.ireturn, 1) := by decide +kernel
set_option maxRecDepth 20000 in
theorem ggX10_find_X10_order : GoodIn wsX10_find wsX10_order := goodIn_r _ [6, 7, 8, 9, 10, 11, 12, 13, 14, 15, 16, 17, 18, 19, 20, 21, 22, 23, 24, 25, 26, 27, 28, 29] rfl (by decide +kernel)
set_option maxRecDepth 20000 in
theorem gX10_find_X10_order : GoodIn wsX10_find (wsV RX10 88 RX10 yX10_order wsX10_order) := goodIn_app (goodIn_r ([.methodLink RX10 88 yX10_order, .instanceMethod yX10_order, .selects RX10 yX10_order yX10_order, .initialized RX10] : List Cond) [2, 3, 4, 5] rfl (by decide +kernel)) ggX10_find_X10_order
theorem dX10_find_0 : decode cX10_find 0 = .ok (.iconst 0, 1) := by decide +kernel
theorem dX10_find_1 : decode cX10_find 1 = .ok (.istore 7, 2) := by decide +kernel
theorem dX10_find_3 : decode cX10_find 3 = .ok (.iload 7, 2) := by decide +kernel
theorem dX10_find_5 : decode cX10_find 5 = .ok (.aload_n 0, 1) := by decide +kernel
theorem dX10_find_6 : decode cX10_find 6 = .ok (.getfield 61, 3) := by decide +kernel
theorem dX10_find_9 : decode cX10_find 9 = .ok (.if_icmp .ge 25, 3) := by decide +kernel
theorem dX10_find_12 : decode cX10_find 12 = .ok (.aload_n 0, 1) := by decide +kernel
theorem dX10_find_13 : decode cX10_find 13 = .ok (.lload_n 1, 1) := by decide +kernel
theorem dX10_find_14 : decode cX10_find 14 = .ok (.lload_n 3, 1) := by decide +kernel
theorem dX10_find_15 : decode cX10_find 15 = .ok (.lload 5, 2) := by decide +kernel
theorem dX10_find_17 : decode cX10_find 17 = .ok (.iload 7, 2) := by decide +kernel
theorem dX10_find_19 : decode cX10_find 19 = .ok (.invokevirtual 88, 3) := by decide +kernel
theorem dX10_find_22 : decode cX10_find 22 = .ok (.ifCond .ne 6, 3) := by decide +kernel
theorem dX10_find_25 : decode cX10_find 25 = .ok (.iload 7, 2) := by decide +kernel
theorem dX10_find_27 : decode cX10_find 27 = .ok (.ireturn, 1) := by decide +kernel
theorem dX10_find_28 : decode cX10_find 28 = .ok (.iinc 7 1, 3) := by decide +kernel
theorem dX10_find_31 : decode cX10_find 31 = .ok (.goto (-28), 3) := by decide +kernel
theorem dX10_find_34 : decode cX10_find 34 = .ok (.iconst (-1), 1) := by decide +kernel
theorem dX10_find_35 : decode cX10_find 35 = .ok (.ireturn, 1) := by decide +kernel
