theorem dX11_init_0 : decode cX11_init 0 = .ok (.aload_n 0, 1) := by decide +kernel
theorem dX11_init_1 : decode cX11_init 1 = .ok (.invokespecial 3, 3) := by decide +kernel
theorem dX11_init_4 : decode cX11_init 4 = .ok (.aload_n 0, 1) := by decide +kernel
theorem dX11_init_5 : decode cX11_init 5 = .ok (.sipush 600, 3) := by decide +kernel
theorem dX11_init_8 : decode cX11_init 8 = .ok (.newarray .int, 2) := by decide +kernel
theorem dX11_init_10 : decode cX11_init 10 = .ok (.putfield 9, 3) := by decide +kernel
theorem dX11_init_13 : decode cX11_init 13 = .ok (.return_, 1) := by decide +kernel
theorem dX11_set_0 : decode cX11_set 0 = .ok (.aload_n 0, 1) := by decide +kernel
theorem dX11_set_1 : decode cX11_set 1 = .ok (.iconst 0, 1) := by decide +kernel
theorem dX11_set_2 : decode cX11_set 2 = .ok (.putfield 15, 3) := by decide +kernel
theorem dX11_set_5 : decode cX11_set 5 = .ok (.lload_n 1, 1) := by decide +kernel
theorem dX11_set_6 : decode cX11_set 6 = .ok (.lstore_n 3, 1) := by decide +kernel
theorem dX11_set_7 : decode cX11_set 7 = .ok (.lload_n 3, 1) := by decide +kernel
theorem dX11_set_8 : decode cX11_set 8 = .ok (.lconst 0, 1) := by decide +kernel
theorem dX11_set_9 : decode cX11_set 9 = .ok (.lcmp, 1) := by decide +kernel
theorem dX11_set_10 : decode cX11_set 10 = .ok (.ifCond .eq 36, 3) := by decide +kernel
theorem dX11_set_13 : decode cX11_set 13 = .ok (.aload_n 0, 1) := by decide +kernel
theorem dX11_set_14 : decode cX11_set 14 = .ok (.getfield 9, 3) := by decide +kernel
theorem dX11_set_17 : decode cX11_set 17 = .ok (.aload_n 0, 1) := by decide +kernel
theorem dX11_set_18 : decode cX11_set 18 = .ok (.getfield 15, 3) := by decide +kernel
theorem dX11_set_21 : decode cX11_set 21 = .ok (.lload_n 3, 1) := by decide +kernel
theorem dX11_set_22 : decode cX11_set 22 = .ok (.ldc2_w 19, 3) := by decide +kernel
theorem dX11_set_25 : decode cX11_set 25 = .ok (.land, 1) := by decide +kernel
theorem dX11_set_26 : decode cX11_set 26 = .ok (.l2i, 1) := by decide +kernel
theorem dX11_set_27 : decode cX11_set 27 = .ok (.iastore, 1) := by decide +kernel
theorem dX11_set_28 : decode cX11_set 28 = .ok (.aload_n 0, 1) := by decide +kernel
theorem dX11_set_29 : decode cX11_set 29 = .ok (.dup, 1) := by decide +kernel
theorem dX11_set_30 : decode cX11_set 30 = .ok (.getfield 15, 3) := by decide +kernel
theorem dX11_set_33 : decode cX11_set 33 = .ok (.iconst 1, 1) := by decide +kernel
theorem dX11_set_34 : decode cX11_set 34 = .ok (.iadd, 1) := by decide +kernel
theorem dX11_set_35 : decode cX11_set 35 = .ok (.putfield 15, 3) := by decide +kernel
theorem dX11_set_38 : decode cX11_set 38 = .ok (.lload_n 3, 1) := by decide +kernel
theorem dX11_set_39 : decode cX11_set 39 = .ok (.bipush 30, 2) := by decide +kernel
theorem dX11_set_41 : decode cX11_set 41 = .ok (.lushr, 1) := by decide +kernel
theorem dX11_set_42 : decode cX11_set 42 = .ok (.lstore_n 3, 1) := by decide +kernel
theorem dX11_set_43 : decode cX11_set 43 = .ok (.goto (-36), 3) := by decide +kernel
theorem dX11_set_46 : decode cX11_set 46 = .ok (.return_, 1) := by decide +kernel
theorem dX11_copy_0 : decode cX11_copy 0 = .ok (.aload_n 0, 1) := by decide +kernel
theorem dX11_copy_1 : decode cX11_copy 1 = .ok (.aload_n 1, 1) := by decide +kernel
theorem dX11_copy_2 : decode cX11_copy 2 = .ok (.getfield 15, 3) := by decide +kernel
theorem dX11_copy_5 : decode cX11_copy 5 = .ok (.putfield 15, 3) := by decide +kernel
theorem dX11_copy_8 : decode cX11_copy 8 = .ok (.iconst 0, 1) := by decide +kernel
theorem dX11_copy_9 : decode cX11_copy 9 = .ok (.istore_n 2, 1) := by decide +kernel
theorem dX11_copy_10 : decode cX11_copy 10 = .ok (.iload_n 2, 1) := by decide +kernel
theorem dX11_copy_11 : decode cX11_copy 11 = .ok (.aload_n 0, 1) := by decide +kernel
theorem dX11_copy_12 : decode cX11_copy 12 = .ok (.getfield 15, 3) := by decide +kernel
theorem dX11_copy_15 : decode cX11_copy 15 = .ok (.if_icmp .ge 21, 3) := by decide +kernel
theorem dX11_copy_18 : decode cX11_copy 18 = .ok (.aload_n 0, 1) := by decide +kernel
theorem dX11_copy_19 : decode cX11_copy 19 = .ok (.getfield 9, 3) := by decide +kernel
theorem dX11_copy_22 : decode cX11_copy 22 = .ok (.iload_n 2, 1) := by decide +kernel
theorem dX11_copy_23 : decode cX11_copy 23 = .ok (.aload_n 1, 1) := by decide +kernel
theorem dX11_copy_24 : decode cX11_copy 24 = .ok (.getfield 9, 3) := by decide +kernel
theorem dX11_copy_27 : decode cX11_copy 27 = .ok (.iload_n 2, 1) := by decide +kernel
theorem dX11_copy_28 : decode cX11_copy 28 = .ok (.iaload, 1) := by decide +kernel
theorem dX11_copy_29 : decode cX11_copy 29 = .ok (.iastore, 1) := by decide +kernel
theorem dX11_copy_30 : decode cX11_copy 30 = .ok (.iinc 2 1, 3) := by decide +kernel
theorem dX11_copy_33 : decode cX11_copy 33 = .ok (.goto (-23), 3) := by decide +kernel
theorem dX11_copy_36 : decode cX11_copy 36 = .ok (.return_, 1) := by decide +kernel
set_option maxRecDepth 20000 in
theorem ggX11_times_X11_trim : GoodIn wsX11_times wsX11_trim := goodIn_r _ [8, 1, 2, 9, 10] rfl (by decide +kernel)
set_option maxRecDepth 20000 in
theorem gX11_times_X11_trim : GoodIn wsX11_times (wsV RX11 21 RX11 yX11_trim wsX11_trim) := goodIn_app (goodIn_r ([.methodLink RX11 21 yX11_trim, .instanceMethod yX11_trim, .selects RX11 yX11_trim yX11_trim, .initialized RX11] : List Cond) [4, 5, 6, 7] rfl (by decide +kernel)) ggX11_times_X11_trim
theorem dX11_times_0 : decode cX11_times 0 = .ok (.lconst 0, 1) := by decide +kernel
theorem dX11_times_1 : decode cX11_times 1 = .ok (.lstore_n 3, 1) := by decide +kernel
theorem dX11_times_2 : decode cX11_times 2 = .ok (.iconst 0, 1) := by decide +kernel
theorem dX11_times_3 : decode cX11_times 3 = .ok (.istore 5, 2) := by decide +kernel
theorem dX11_times_5 : decode cX11_times 5 = .ok (.iload 5, 2) := by decide +kernel
theorem dX11_times_7 : decode cX11_times 7 = .ok (.aload_n 0, 1) := by decide +kernel
theorem dX11_times_8 : decode cX11_times 8 = .ok (.getfield 15, 3) := by decide +kernel
theorem dX11_times_11 : decode cX11_times 11 = .ok (.if_icmp .ge 40, 3) := by decide +kernel
theorem dX11_times_14 : decode cX11_times 14 = .ok (.lload_n 3, 1) := by decide +kernel
theorem dX11_times_15 : decode cX11_times 15 = .ok (.aload_n 0, 1) := by decide +kernel
theorem dX11_times_16 : decode cX11_times 16 = .ok (.getfield 9, 3) := by decide +kernel
theorem dX11_times_19 : decode cX11_times 19 = .ok (.iload 5, 2) := by decide +kernel
theorem dX11_times_21 : decode cX11_times 21 = .ok (.iaload, 1) := by decide +kernel
theorem dX11_times_22 : decode cX11_times 22 = .ok (.i2l, 1) := by decide +kernel
theorem dX11_times_23 : decode cX11_times 23 = .ok (.lload_n 1, 1) := by decide +kernel
theorem dX11_times_24 : decode cX11_times 24 = .ok (.lmul, 1) := by decide +kernel
theorem dX11_times_25 : decode cX11_times 25 = .ok (.ladd, 1) := by decide +kernel
theorem dX11_times_26 : decode cX11_times 26 = .ok (.lstore_n 3, 1) := by decide +kernel
theorem dX11_times_27 : decode cX11_times 27 = .ok (.aload_n 0, 1) := by decide +kernel
theorem dX11_times_28 : decode cX11_times 28 = .ok (.getfield 9, 3) := by decide +kernel
theorem dX11_times_31 : decode cX11_times 31 = .ok (.iload 5, 2) := by decide +kernel
theorem dX11_times_33 : decode cX11_times 33 = .ok (.lload_n 3, 1) := by decide +kernel
theorem dX11_times_34 : decode cX11_times 34 = .ok (.ldc2_w 19, 3) := by decide +kernel
theorem dX11_times_37 : decode cX11_times 37 = .ok (.land, 1) := by decide +kernel
theorem dX11_times_38 : decode cX11_times 38 = .ok (.l2i, 1) := by decide +kernel
theorem dX11_times_39 : decode cX11_times 39 = .ok (.iastore, 1) := by decide +kernel
theorem dX11_times_40 : decode cX11_times 40 = .ok (.lload_n 3, 1) := by decide +kernel
theorem dX11_times_41 : decode cX11_times 41 = .ok (.bipush 30, 2) := by decide +kernel
theorem dX11_times_43 : decode cX11_times 43 = .ok (.lshr, 1) := by decide +kernel
theorem dX11_times_44 : decode cX11_times 44 = .ok (.lstore_n 3, 1) := by decide +kernel
theorem dX11_times_45 : decode cX11_times 45 = .ok (.iinc 5 1, 3) := by decide +kernel
theorem dX11_times_48 : decode cX11_times 48 = .ok (.goto (-43), 3) := by decide +kernel
theorem dX11_times_51 : decode cX11_times 51 = .ok (.lload_n 3, 1) := by decide +kernel
theorem dX11_times_52 : decode cX11_times 52 = .ok (.lconst 0, 1) := by decide +kernel
theorem dX11_times_53 : decode cX11_times 53 = .ok (.lcmp, 1) := by decide +kernel
theorem dX11_times_54 : decode cX11_times 54 = .ok (.ifCond .eq 36, 3) := by decide +kernel
theorem dX11_times_57 : decode cX11_times 57 = .ok (.aload_n 0, 1) := by decide +kernel
theorem dX11_times_58 : decode cX11_times 58 = .ok (.getfield 9, 3) := by decide +kernel
theorem dX11_times_61 : decode cX11_times 61 = .ok (.aload_n 0, 1) := by decide +kernel
theorem dX11_times_62 : decode cX11_times 62 = .ok (.getfield 15, 3) := by decide +kernel
theorem dX11_times_65 : decode cX11_times 65 = .ok (.lload_n 3, 1) := by decide +kernel
theorem dX11_times_66 : decode cX11_times 66 = .ok (.ldc2_w 19, 3) := by decide +kernel
theorem dX11_times_69 : decode cX11_times 69 = .ok (.land, 1) := by decide +kernel
theorem dX11_times_70 : decode cX11_times 70 = .ok (.l2i, 1) := by decide +kernel
theorem dX11_times_71 : decode cX11_times 71 = .ok (.iastore, 1) := by decide +kernel
theorem dX11_times_72 : decode cX11_times 72 = .ok (.aload_n 0, 1) := by decide +kernel
theorem dX11_times_73 : decode cX11_times 73 = .ok (.dup, 1) := by decide +kernel
theorem dX11_times_74 : decode cX11_times 74 = .ok (.getfield 15, 3) := by decide +kernel
theorem dX11_times_77 : decode cX11_times 77 = .ok (.iconst 1, 1) := by decide +kernel
theorem dX11_times_78 : decode cX11_times 78 = .ok (.iadd, 1) := by decide +kernel
theorem dX11_times_79 : decode cX11_times 79 = .ok (.putfield 15, 3) := by decide +kernel
theorem dX11_times_82 : decode cX11_times 82 = .ok (.lload_n 3, 1) := by decide +kernel
theorem dX11_times_83 : decode cX11_times 83 = .ok (.bipush 30, 2) := by decide +kernel
theorem dX11_times_85 : decode cX11_times 85 = .ok (.lshr, 1) := by decide +kernel
theorem dX11_times_86 : decode cX11_times 86 = .ok (.lstore_n 3, 1) := by decide +kernel
theorem dX11_times_87 : decode cX11_times 87 = .ok (.goto (-36), 3) := by decide +kernel
theorem dX11_times_90 : decode cX11_times 90 = .ok (.aload_n 0, 1) := by decide +kernel
theorem dX11_times_91 : decode cX11_times 91 = .ok (.invokevirtual 21, 3) := by decide +kernel
theorem dX11_times_94 : decode cX11_times 94 = .ok (.return_, 1) := by decide +kernel
theorem dX11_trim_0 : decode cX11_trim 0 = .ok (.aload_n 0, 1) := by decide +kernel
theorem dX11_trim_1 : decode cX11_trim 1 = .ok (.getfield 15, 3) := by decide +kernel
theorem dX11_trim_4 : decode cX11_trim 4 = .ok (.ifCond .le 30, 3) := by decide +kernel
theorem dX11_trim_7 : decode cX11_trim 7 = .ok (.aload_n 0, 1) := by decide +kernel
theorem dX11_trim_8 : decode cX11_trim 8 = .ok (.getfield 9, 3) := by decide +kernel
theorem dX11_trim_11 : decode cX11_trim 11 = .ok (.aload_n 0, 1) := by decide +kernel
theorem dX11_trim_12 : decode cX11_trim 12 = .ok (.getfield 15, 3) := by decide +kernel
theorem dX11_trim_15 : decode cX11_trim 15 = .ok (.iconst 1, 1) := by decide +kernel
theorem dX11_trim_16 : decode cX11_trim 16 = .ok (.isub, 1) := by decide +kernel
theorem dX11_trim_17 : decode cX11_trim 17 = .ok (.iaload, 1) := by decide +kernel
theorem dX11_trim_18 : decode cX11_trim 18 = .ok (.ifCond .ne 16, 3) := by decide +kernel
theorem dX11_trim_21 : decode cX11_trim 21 = .ok (.aload_n 0, 1) := by decide +kernel
theorem dX11_trim_22 : decode cX11_trim 22 = .ok (.dup, 1) := by decide +kernel
theorem dX11_trim_23 : decode cX11_trim 23 = .ok (.getfield 15, 3) := by decide +kernel
theorem dX11_trim_26 : decode cX11_trim 26 = .ok (.iconst 1, 1) := by decide +kernel
theorem dX11_trim_27 : decode cX11_trim 27 = .ok (.isub, 1) := by decide +kernel
theorem dX11_trim_28 : decode cX11_trim 28 = .ok (.putfield 15, 3) := by decide +kernel
theorem dX11_trim_31 : decode cX11_trim 31 = .ok (.goto (-31), 3) := by decide +kernel
theorem dX11_trim_34 : decode cX11_trim 34 = .ok (.return_, 1) := by decide +kernel
set_option maxRecDepth 20000 in
theorem ggX11_add_X11_trim : GoodIn wsX11_add wsX11_trim := goodIn_r _ [12, 1, 6, 13, 14] rfl (by decide +kernel)
set_option maxRecDepth 20000 in
theorem gX11_add_X11_trim : GoodIn wsX11_add (wsV RX11 21 RX11 yX11_trim wsX11_trim) := goodIn_app (goodIn_r ([.methodLink RX11 21 yX11_trim, .instanceMethod yX11_trim, .selects RX11 yX11_trim yX11_trim, .initialized RX11] : List Cond) [8, 9, 10, 11] rfl (by decide +kernel)) ggX11_add_X11_trim
theorem dX11_add_0 : decode cX11_add 0 = .ok (.aload_n 0, 1) := by decide +kernel
theorem dX11_add_1 : decode cX11_add 1 = .ok (.getfield 15, 3) := by decide +kernel
theorem dX11_add_4 : decode cX11_add 4 = .ok (.aload_n 1, 1) := by decide +kernel
theorem dX11_add_5 : decode cX11_add 5 = .ok (.getfield 15, 3) := by decide +kernel
theorem dX11_add_8 : decode cX11_add 8 = .ok (.invokestatic 24, 3) := by decide +kernel
theorem dX11_add_11 : decode cX11_add 11 = .ok (.istore_n 2, 1) := by decide +kernel
theorem dX11_add_12 : decode cX11_add 12 = .ok (.iconst 0, 1) := by decide +kernel
theorem dX11_add_13 : decode cX11_add 13 = .ok (.istore_n 3, 1) := by decide +kernel
theorem dX11_add_14 : decode cX11_add 14 = .ok (.iconst 0, 1) := by decide +kernel
theorem dX11_add_15 : decode cX11_add 15 = .ok (.istore 4, 2) := by decide +kernel
theorem dX11_add_17 : decode cX11_add 17 = .ok (.iload 4, 2) := by decide +kernel
theorem dX11_add_19 : decode cX11_add 19 = .ok (.iload_n 2, 1) := by decide +kernel
theorem dX11_add_20 : decode cX11_add 20 = .ok (.if_icmp .ge 78, 3) := by decide +kernel
theorem dX11_add_23 : decode cX11_add 23 = .ok (.iload_n 3, 1) := by decide +kernel
theorem dX11_add_24 : decode cX11_add 24 = .ok (.i2l, 1) := by decide +kernel
theorem dX11_add_25 : decode cX11_add 25 = .ok (.iload 4, 2) := by decide +kernel
theorem dX11_add_27 : decode cX11_add 27 = .ok (.aload_n 0, 1) := by decide +kernel
theorem dX11_add_28 : decode cX11_add 28 = .ok (.getfield 15, 3) := by decide +kernel
theorem dX11_add_31 : decode cX11_add 31 = .ok (.if_icmp .ge 13, 3) := by decide +kernel
theorem dX11_add_34 : decode cX11_add 34 = .ok (.aload_n 0, 1) := by decide +kernel
theorem dX11_add_35 : decode cX11_add 35 = .ok (.getfield 9, 3) := by decide +kernel
theorem dX11_add_38 : decode cX11_add 38 = .ok (.iload 4, 2) := by decide +kernel
theorem dX11_add_40 : decode cX11_add 40 = .ok (.iaload, 1) := by decide +kernel
theorem dX11_add_41 : decode cX11_add 41 = .ok (.goto 4, 3) := by decide +kernel
theorem dX11_add_44 : decode cX11_add 44 = .ok (.iconst 0, 1) := by decide +kernel
theorem dX11_add_45 : decode cX11_add 45 = .ok (.i2l, 1) := by decide +kernel
theorem dX11_add_46 : decode cX11_add 46 = .ok (.ladd, 1) := by decide +kernel
theorem dX11_add_47 : decode cX11_add 47 = .ok (.iload 4, 2) := by decide +kernel
theorem dX11_add_49 : decode cX11_add 49 = .ok (.aload_n 1, 1) := by decide +kernel
theorem dX11_add_50 : decode cX11_add 50 = .ok (.getfield 15, 3) := by decide +kernel
theorem dX11_add_53 : decode cX11_add 53 = .ok (.if_icmp .ge 13, 3) := by decide +kernel
theorem dX11_add_56 : decode cX11_add 56 = .ok (.aload_n 1, 1) := by decide +kernel
theorem dX11_add_57 : decode cX11_add 57 = .ok (.getfield 9, 3) := by decide +kernel
theorem dX11_add_60 : decode cX11_add 60 = .ok (.iload 4, 2) := by decide +kernel
theorem dX11_add_62 : decode cX11_add 62 = .ok (.iaload, 1) := by decide +kernel
theorem dX11_add_63 : decode cX11_add 63 = .ok (.goto 4, 3) := by decide +kernel
theorem dX11_add_66 : decode cX11_add 66 = .ok (.iconst 0, 1) := by decide +kernel
theorem dX11_add_67 : decode cX11_add 67 = .ok (.i2l, 1) := by decide +kernel
theorem dX11_add_68 : decode cX11_add 68 = .ok (.ladd, 1) := by decide +kernel
theorem dX11_add_69 : decode cX11_add 69 = .ok (.lstore 5, 2) := by decide +kernel
theorem dX11_add_71 : decode cX11_add 71 = .ok (.aload_n 0, 1) := by decide +kernel
theorem dX11_add_72 : decode cX11_add 72 = .ok (.getfield 9, 3) := by decide +kernel
theorem dX11_add_75 : decode cX11_add 75 = .ok (.iload 4, 2) := by decide +kernel
theorem dX11_add_77 : decode cX11_add 77 = .ok (.lload 5, 2) := by decide +kernel
theorem dX11_add_79 : decode cX11_add 79 = .ok (.ldc2_w 19, 3) := by decide +kernel
theorem dX11_add_82 : decode cX11_add 82 = .ok (.land, 1) := by decide +kernel
theorem dX11_add_83 : decode cX11_add 83 = .ok (.l2i, 1) := by decide +kernel
theorem dX11_add_84 : decode cX11_add 84 = .ok (.iastore, 1) := by decide +kernel
theorem dX11_add_85 : decode cX11_add 85 = .ok (.lload 5, 2) := by decide +kernel
theorem dX11_add_87 : decode cX11_add 87 = .ok (.bipush 30, 2) := by decide +kernel
theorem dX11_add_89 : decode cX11_add 89 = .ok (.lshr, 1) := by decide +kernel
theorem dX11_add_90 : decode cX11_add 90 = .ok (.l2i, 1) := by decide +kernel
theorem dX11_add_91 : decode cX11_add 91 = .ok (.istore_n 3, 1) := by decide +kernel
theorem dX11_add_92 : decode cX11_add 92 = .ok (.iinc 4 1, 3) := by decide +kernel
theorem dX11_add_95 : decode cX11_add 95 = .ok (.goto (-78), 3) := by decide +kernel
theorem dX11_add_98 : decode cX11_add 98 = .ok (.aload_n 0, 1) := by decide +kernel
theorem dX11_add_99 : decode cX11_add 99 = .ok (.getfield 9, 3) := by decide +kernel
theorem dX11_add_102 : decode cX11_add 102 = .ok (.iload_n 2, 1) := by decide +kernel
theorem dX11_add_103 : decode cX11_add 103 = .ok (.iload_n 3, 1) := by decide +kernel
theorem dX11_add_104 : decode cX11_add 104 = .ok (.iastore, 1) := by decide +kernel
theorem dX11_add_105 : decode cX11_add 105 = .ok (.aload_n 0, 1) := by decide +kernel
theorem dX11_add_106 : decode cX11_add 106 = .ok (.iload_n 2, 1) := by decide +kernel
theorem dX11_add_107 : decode cX11_add 107 = .ok (.iconst 1, 1) := by decide +kernel
theorem dX11_add_108 : decode cX11_add 108 = .ok (.iadd, 1) := by decide +kernel
theorem dX11_add_109 : decode cX11_add 109 = .ok (.putfield 15, 3) := by decide +kernel
theorem dX11_add_112 : decode cX11_add 112 = .ok (.aload_n 0, 1) := by decide +kernel
theorem dX11_add_113 : decode cX11_add 113 = .ok (.invokevirtual 21, 3) := by decide +kernel
theorem dX11_add_116 : decode cX11_add 116 = .ok (.return_, 1) := by decide +kernel
set_option maxRecDepth 20000 in
theorem ggX11_less_X11_trim : GoodIn wsX11_less wsX11_trim := goodIn_r _ [8, 1, 2, 9, 10] rfl (by decide +kernel)
set_option maxRecDepth 20000 in
theorem gX11_less_X11_trim : GoodIn wsX11_less (wsV RX11 21 RX11 yX11_trim wsX11_trim) := goodIn_app (goodIn_r ([.methodLink RX11 21 yX11_trim, .instanceMethod yX11_trim, .selects RX11 yX11_trim yX11_trim, .initialized RX11] : List Cond) [4, 5, 6, 7] rfl (by decide +kernel)) ggX11_less_X11_trim
theorem dX11_less_0 : decode cX11_less 0 = .ok (.iconst 0, 1) := by decide +kernel
theorem dX11_less_1 : decode cX11_less 1 = .ok (.istore_n 2, 1) := by decide +kernel
theorem dX11_less_2 : decode cX11_less 2 = .ok (.iconst 0, 1) := by decide +kernel
theorem dX11_less_3 : decode cX11_less 3 = .ok (.istore_n 3, 1) := by decide +kernel
theorem dX11_less_4 : decode cX11_less 4 = .ok (.iload_n 3, 1) := by decide +kernel
theorem dX11_less_5 : decode cX11_less 5 = .ok (.aload_n 0, 1) := by decide +kernel
theorem dX11_less_6 : decode cX11_less 6 = .ok (.getfield 15, 3) := by decide +kernel
theorem dX11_less_9 : decode cX11_less 9 = .ok (.if_icmp .ge 60, 3) := by decide +kernel
theorem dX11_less_12 : decode cX11_less 12 = .ok (.aload_n 0, 1) := by decide +kernel
theorem dX11_less_13 : decode cX11_less 13 = .ok (.getfield 9, 3) := by decide +kernel
theorem dX11_less_16 : decode cX11_less 16 = .ok (.iload_n 3, 1) := by decide +kernel
theorem dX11_less_17 : decode cX11_less 17 = .ok (.iaload, 1) := by decide +kernel
theorem dX11_less_18 : decode cX11_less 18 = .ok (.iload_n 2, 1) := by decide +kernel
theorem dX11_less_19 : decode cX11_less 19 = .ok (.isub, 1) := by decide +kernel
theorem dX11_less_20 : decode cX11_less 20 = .ok (.iload_n 3, 1) := by decide +kernel
theorem dX11_less_21 : decode cX11_less 21 = .ok (.aload_n 1, 1) := by decide +kernel
theorem dX11_less_22 : decode cX11_less 22 = .ok (.getfield 15, 3) := by decide +kernel
theorem dX11_less_25 : decode cX11_less 25 = .ok (.if_icmp .ge 12, 3) := by decide +kernel
theorem dX11_less_28 : decode cX11_less 28 = .ok (.aload_n 1, 1) := by decide +kernel
theorem dX11_less_29 : decode cX11_less 29 = .ok (.getfield 9, 3) := by decide +kernel
theorem dX11_less_32 : decode cX11_less 32 = .ok (.iload_n 3, 1) := by decide +kernel
theorem dX11_less_33 : decode cX11_less 33 = .ok (.iaload, 1) := by decide +kernel
theorem dX11_less_34 : decode cX11_less 34 = .ok (.goto 4, 3) := by decide +kernel
theorem dX11_less_37 : decode cX11_less 37 = .ok (.iconst 0, 1) := by decide +kernel
theorem dX11_less_38 : decode cX11_less 38 = .ok (.isub, 1) := by decide +kernel
theorem dX11_less_39 : decode cX11_less 39 = .ok (.istore 4, 2) := by decide +kernel
theorem dX11_less_41 : decode cX11_less 41 = .ok (.iload 4, 2) := by decide +kernel
theorem dX11_less_43 : decode cX11_less 43 = .ok (.ifCond .ge 7, 3) := by decide +kernel
theorem dX11_less_46 : decode cX11_less 46 = .ok (.iconst 1, 1) := by decide +kernel
theorem dX11_less_47 : decode cX11_less 47 = .ok (.goto 4, 3) := by decide +kernel
theorem dX11_less_50 : decode cX11_less 50 = .ok (.iconst 0, 1) := by decide +kernel
theorem dX11_less_51 : decode cX11_less 51 = .ok (.istore_n 2, 1) := by decide +kernel
theorem dX11_less_52 : decode cX11_less 52 = .ok (.aload_n 0, 1) := by decide +kernel
theorem dX11_less_53 : decode cX11_less 53 = .ok (.getfield 9, 3) := by decide +kernel
theorem dX11_less_56 : decode cX11_less 56 = .ok (.iload_n 3, 1) := by decide +kernel
theorem dX11_less_57 : decode cX11_less 57 = .ok (.iload 4, 2) := by decide +kernel
theorem dX11_less_59 : decode cX11_less 59 = .ok (.ldc 30, 2) := by decide +kernel
theorem dX11_less_61 : decode cX11_less 61 = .ok (.iand, 1) := by decide +kernel
theorem dX11_less_62 : decode cX11_less 62 = .ok (.iastore, 1) := by decide +kernel
theorem dX11_less_63 : decode cX11_less 63 = .ok (.iinc 3 1, 3) := by decide +kernel
theorem dX11_less_66 : decode cX11_less 66 = .ok (.goto (-62), 3) := by decide +kernel
theorem dX11_less_69 : decode cX11_less 69 = .ok (.aload_n 0, 1) := by decide +kernel
theorem dX11_less_70 : decode cX11_less 70 = .ok (.invokevirtual 21, 3) := by decide +kernel
theorem dX11_less_73 : decode cX11_less 73 = .ok (.return_, 1) := by decide +kernel
theorem dX11_compare_0 : decode cX11_compare 0 = .ok (.aload_n 0, 1) := by decide +kernel
theorem dX11_compare_1 : decode cX11_compare 1 = .ok (.getfield 15, 3) := by decide +kernel
theorem dX11_compare_4 : decode cX11_compare 4 = .ok (.aload_n 1, 1) := by decide +kernel
theorem dX11_compare_5 : decode cX11_compare 5 = .ok (.getfield 15, 3) := by decide +kernel
theorem dX11_compare_8 : decode cX11_compare 8 = .ok (.if_icmp .eq 20, 3) := by decide +kernel
theorem dX11_compare_11 : decode cX11_compare 11 = .ok (.aload_n 0, 1) := by decide +kernel
theorem dX11_compare_12 : decode cX11_compare 12 = .ok (.getfield 15, 3) := by decide +kernel
theorem dX11_compare_15 : decode cX11_compare 15 = .ok (.aload_n 1, 1) := by decide +kernel
theorem dX11_compare_16 : decode cX11_compare 16 = .ok (.getfield 15, 3) := by decide +kernel
theorem dX11_compare_19 : decode cX11_compare 19 = .ok (.if_icmp .ge 7, 3) := by decide +kernel
theorem dX11_compare_22 : decode cX11_compare 22 = .ok (.iconst (-1), 1) := by decide +kernel
theorem dX11_compare_23 : decode cX11_compare 23 = .ok (.goto 4, 3) := by decide +kernel
theorem dX11_compare_26 : decode cX11_compare 26 = .ok (.iconst 1, 1) := by decide +kernel
theorem dX11_compare_27 : decode cX11_compare 27 = .ok (.ireturn, 1) := by decide +kernel
theorem dX11_compare_28 : decode cX11_compare 28 = .ok (.aload_n 0, 1) := by decide +kernel
theorem dX11_compare_29 : decode cX11_compare 29 = .ok (.getfield 15, 3) := by decide +kernel
theorem dX11_compare_32 : decode cX11_compare 32 = .ok (.iconst 1, 1) := by decide +kernel
theorem dX11_compare_33 : decode cX11_compare 33 = .ok (.isub, 1) := by decide +kernel
theorem dX11_compare_34 : decode cX11_compare 34 = .ok (.istore_n 2, 1) := by decide +kernel
theorem dX11_compare_35 : decode cX11_compare 35 = .ok (.iload_n 2, 1) := by decide +kernel
theorem dX11_compare_36 : decode cX11_compare 36 = .ok (.ifCond .lt 45, 3) := by decide +kernel
theorem dX11_compare_39 : decode cX11_compare 39 = .ok (.aload_n 0, 1) := by decide +kernel
theorem dX11_compare_40 : decode cX11_compare 40 = .ok (.getfield 9, 3) := by decide +kernel
theorem dX11_compare_43 : decode cX11_compare 43 = .ok (.iload_n 2, 1) := by decide +kernel
theorem dX11_compare_44 : decode cX11_compare 44 = .ok (.iaload, 1) := by decide +kernel
theorem dX11_compare_45 : decode cX11_compare 45 = .ok (.aload_n 1, 1) := by decide +kernel
theorem dX11_compare_46 : decode cX11_compare 46 = .ok (.getfield 9, 3) := by decide +kernel
theorem dX11_compare_49 : decode cX11_compare 49 = .ok (.iload_n 2, 1) := by decide +kernel
theorem dX11_compare_50 : decode cX11_compare 50 = .ok (.iaload, 1) := by decide +kernel
theorem dX11_compare_51 : decode cX11_compare 51 = .ok (.if_icmp .eq 24, 3) := by decide +kernel
theorem dX11_compare_54 : decode cX11_compare 54 = .ok (.aload_n 0, 1) := by decide +kernel
theorem dX11_compare_55 : decode cX11_compare 55 = .ok (.getfield 9, 3) := by decide +kernel
theorem dX11_compare_58 : decode cX11_compare 58 = .ok (.iload_n 2, 1) := by decide +kernel
theorem dX11_compare_59 : decode cX11_compare 59 = .ok (.iaload, 1) := by decide +kernel
theorem dX11_compare_60 : decode cX11_compare 60 = .ok (.aload_n 1, 1) := by decide +kernel
theorem dX11_compare_61 : decode cX11_compare 61 = .ok (.getfield 9, 3) := by decide +kernel
theorem dX11_compare_64 : decode cX11_compare 64 = .ok (.iload_n 2, 1) := by decide +kernel
theorem dX11_compare_65 : decode cX11_compare 65 = .ok (.iaload, 1) := by decide +kernel
theorem dX11_compare_66 : decode cX11_compare 66 = .ok (.if_icmp .ge 7, 3) := by decide +kernel
theorem dX11_compare_69 : decode cX11_compare 69 = .ok (.iconst (-1), 1) := by decide +kernel
theorem dX11_compare_70 : decode cX11_compare 70 = .ok (.goto 4, 3) := by decide +kernel
theorem dX11_compare_73 : decode cX11_compare 73 = .ok (.iconst 1, 1) := by decide +kernel
theorem dX11_compare_74 : decode cX11_compare 74 = .ok (.ireturn, 1) := by decide +kernel
theorem dX11_compare_75 : decode cX11_compare 75 = .ok (.iinc 2 (-1), 3) := by decide +kernel
theorem dX11_compare_78 : decode cX11_compare 78 = .ok (.goto (-43), 3) := by decide +kernel
theorem dX11_compare_81 : decode cX11_compare 81 = .ok (.iconst 0, 1) := by decide +kernel
theorem dX11_compare_82 : decode cX11_compare 82 = .ok (.ireturn, 1) := by decide +kernel
