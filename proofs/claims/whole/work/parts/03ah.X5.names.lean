set_option maxRecDepth 20000 in
theorem ggX5_init_X6_init : GoodIn wsX5_init wsX6_init := goodIn_r _ [13, 14, 2, 3, 15, 16, 17, 18, 19, 20, 21, 22, 23, 24, 25, 26, 9, 27, 28, 29, 30, 31, 32, 33, 34, 35, 36, 37, 38, 39, 40, 41, 42, 43, 44, 45, 51, 52, 53, 54, 49, 50, 55, 56, 57, 58, 59, 60, 61, 62, 63, 64, 65] rfl (by decide +kernel)
set_option maxRecDepth 20000 in
theorem gX5_init_X6_init : GoodIn wsX5_init (wsX6_init) := ggX5_init_X6_init
theorem dX5_init_0 : decode cX5_init 0 = .ok (.aload_n 0, 1) := by decide +kernel
theorem dX5_init_1 : decode cX5_init 1 = .ok (.invokespecial 3, 3) := by decide +kernel
theorem dX5_init_4 : decode cX5_init 4 = .ok (.aload_n 0, 1) := by decide +kernel
theorem dX5_init_5 : decode cX5_init 5 = .ok (.aload_n 1, 1) := by decide +kernel
theorem dX5_init_6 : decode cX5_init 6 = .ok (.putfield 9, 3) := by decide +kernel
theorem dX5_init_9 : decode cX5_init 9 = .ok (.aload_n 0, 1) := by decide +kernel
theorem dX5_init_10 : decode cX5_init 10 = .ok (.new 15, 3) := by decide +kernel
theorem dX5_init_13 : decode cX5_init 13 = .ok (.dup, 1) := by decide +kernel
theorem dX5_init_14 : decode cX5_init 14 = .ok (.invokespecial 17, 3) := by decide +kernel
theorem dX5_init_17 : decode cX5_init 17 = .ok (.putfield 18, 3) := by decide +kernel
theorem dX5_init_20 : decode cX5_init 20 = .ok (.aload_n 0, 1) := by decide +kernel
theorem dX5_init_21 : decode cX5_init 21 = .ok (.sipush 128, 3) := by decide +kernel
theorem dX5_init_24 : decode cX5_init 24 = .ok (.newarray .int, 2) := by decide +kernel
theorem dX5_init_26 : decode cX5_init 26 = .ok (.putfield 21, 3) := by decide +kernel
theorem dX5_init_29 : decode cX5_init 29 = .ok (.return_, 1) := by decide +kernel
set_option maxRecDepth 20000 in
theorem ggX5_turnings_X6_lay : GoodIn wsX5_turnings wsX6_lay := goodIn_r _ [8, 9, 10, 11, 12, 13, 14, 15, 16, 17, 18, 19, 20, 21, 22, 23, 24, 25, 26, 27, 28, 29, 30, 31, 32, 33, 34, 35, 36, 37, 38, 39, 40, 41, 42, 43, 44, 45, 46, 47, 48, 49, 50, 51, 52, 53, 54, 55, 56, 57, 58, 59, 60, 61, 62, 63, 64, 65, 66, 67, 68, 69, 70, 71, 72, 73, 74, 75, 76, 77, 78, 79, 80, 81, 82, 83, 84, 85, 86, 87, 88, 89, 90, 91, 92, 93, 94, 95, 96, 97, 98, 99, 100, 101, 102, 103, 104, 105, 106, 107, 108, 109, 110, 111, 112, 113, 114, 115, 116, 117, 118, 119, 120, 121, 122, 123, 124, 168, 169, 170, 171, 172, 173, 161, 162, 163, 164, 165, 166, 167, 174, 175, 176, 177, 178, 179, 180, 181, 182, 183, 184] rfl (by decide +kernel)
set_option maxRecDepth 20000 in
theorem gX5_turnings_X6_lay : GoodIn wsX5_turnings (wsV RX5 25 RX6 yX6_lay wsX6_lay) := goodIn_app (goodIn_r ([.methodLink RX5 25 yX6_lay, .instanceMethod yX6_lay, .selects RX6 yX6_lay yX6_lay, .initialized RX6] : List Cond) [4, 5, 6, 7] rfl (by decide +kernel)) ggX5_turnings_X6_lay
set_option maxRecDepth 20000 in
theorem ggX5_turnings_X5_fits : GoodIn wsX5_turnings wsX5_fits := goodIn_r _ [129, 130, 131, 132, 1, 133, 134, 135, 136, 137, 128, 138, 139, 140, 141, 142, 143, 144, 145, 146, 3, 2, 147, 148, 149, 14, 150, 16, 33, 34, 35, 151, 152, 153, 154, 155, 156, 157, 99, 100, 51, 101, 85, 87, 158, 159, 160, 168, 169, 170, 171, 172, 173, 174, 175, 176, 177, 178, 179, 180, 181, 182, 183, 184, 161, 162, 163, 164, 165, 166, 167] rfl (by decide +kernel)
set_option maxRecDepth 20000 in
theorem gX5_turnings_X5_fits : GoodIn wsX5_turnings (wsV RX5 38 RX5 yX5_fits wsX5_fits) := goodIn_app (goodIn_r ([.methodLink RX5 38 yX5_fits, .instanceMethod yX5_fits, .selects RX5 yX5_fits yX5_fits, .initialized RX5] : List Cond) [125, 126, 127, 128] rfl (by decide +kernel)) ggX5_turnings_X5_fits
theorem dX5_turnings_0 : decode cX5_turnings 0 = .ok (.aload_n 0, 1) := by decide +kernel
theorem dX5_turnings_1 : decode cX5_turnings 1 = .ok (.getfield 18, 3) := by decide +kernel
theorem dX5_turnings_4 : decode cX5_turnings 4 = .ok (.aload_n 2, 1) := by decide +kernel
theorem dX5_turnings_5 : decode cX5_turnings 5 = .ok (.invokevirtual 25, 3) := by decide +kernel
theorem dX5_turnings_8 : decode cX5_turnings 8 = .ok (.iconst 0, 1) := by decide +kernel
theorem dX5_turnings_9 : decode cX5_turnings 9 = .ok (.istore_n 3, 1) := by decide +kernel
theorem dX5_turnings_10 : decode cX5_turnings 10 = .ok (.iconst 0, 1) := by decide +kernel
theorem dX5_turnings_11 : decode cX5_turnings 11 = .ok (.istore 4, 2) := by decide +kernel
theorem dX5_turnings_13 : decode cX5_turnings 13 = .ok (.iload 4, 2) := by decide +kernel
theorem dX5_turnings_15 : decode cX5_turnings 15 = .ok (.iconst 4, 1) := by decide +kernel
theorem dX5_turnings_16 : decode cX5_turnings 16 = .ok (.if_icmp .ge 115, 3) := by decide +kernel
theorem dX5_turnings_19 : decode cX5_turnings 19 = .ok (.iload 4, 2) := by decide +kernel
theorem dX5_turnings_21 : decode cX5_turnings 21 = .ok (.iconst 2, 1) := by decide +kernel
theorem dX5_turnings_22 : decode cX5_turnings 22 = .ok (.irem, 1) := by decide +kernel
theorem dX5_turnings_23 : decode cX5_turnings 23 = .ok (.ifCond .eq 7, 3) := by decide +kernel
theorem dX5_turnings_26 : decode cX5_turnings 26 = .ok (.iconst 1, 1) := by decide +kernel
theorem dX5_turnings_27 : decode cX5_turnings 27 = .ok (.goto 4, 3) := by decide +kernel
theorem dX5_turnings_30 : decode cX5_turnings 30 = .ok (.iconst 0, 1) := by decide +kernel
theorem dX5_turnings_31 : decode cX5_turnings 31 = .ok (.istore 5, 2) := by decide +kernel
theorem dX5_turnings_33 : decode cX5_turnings 33 = .ok (.iload 5, 2) := by decide +kernel
theorem dX5_turnings_35 : decode cX5_turnings 35 = .ok (.ifCond .eq 10, 3) := by decide +kernel
theorem dX5_turnings_38 : decode cX5_turnings 38 = .ok (.aload_n 1, 1) := by decide +kernel
theorem dX5_turnings_39 : decode cX5_turnings 39 = .ok (.getfield 29, 3) := by decide +kernel
theorem dX5_turnings_42 : decode cX5_turnings 42 = .ok (.goto 7, 3) := by decide +kernel
theorem dX5_turnings_45 : decode cX5_turnings 45 = .ok (.aload_n 1, 1) := by decide +kernel
theorem dX5_turnings_46 : decode cX5_turnings 46 = .ok (.getfield 35, 3) := by decide +kernel
theorem dX5_turnings_49 : decode cX5_turnings 49 = .ok (.istore 6, 2) := by decide +kernel
theorem dX5_turnings_51 : decode cX5_turnings 51 = .ok (.iload 5, 2) := by decide +kernel
theorem dX5_turnings_53 : decode cX5_turnings 53 = .ok (.ifCond .eq 10, 3) := by decide +kernel
theorem dX5_turnings_56 : decode cX5_turnings 56 = .ok (.aload_n 1, 1) := by decide +kernel
theorem dX5_turnings_57 : decode cX5_turnings 57 = .ok (.getfield 35, 3) := by decide +kernel
theorem dX5_turnings_60 : decode cX5_turnings 60 = .ok (.goto 7, 3) := by decide +kernel
theorem dX5_turnings_63 : decode cX5_turnings 63 = .ok (.aload_n 1, 1) := by decide +kernel
theorem dX5_turnings_64 : decode cX5_turnings 64 = .ok (.getfield 29, 3) := by decide +kernel
theorem dX5_turnings_67 : decode cX5_turnings 67 = .ok (.istore 7, 2) := by decide +kernel
theorem dX5_turnings_69 : decode cX5_turnings 69 = .ok (.iload 6, 2) := by decide +kernel
theorem dX5_turnings_71 : decode cX5_turnings 71 = .ok (.aload_n 2, 1) := by decide +kernel
theorem dX5_turnings_72 : decode cX5_turnings 72 = .ok (.getfield 35, 3) := by decide +kernel
theorem dX5_turnings_75 : decode cX5_turnings 75 = .ok (.if_icmp .ne 50, 3) := by decide +kernel
theorem dX5_turnings_78 : decode cX5_turnings 78 = .ok (.iload 7, 2) := by decide +kernel
theorem dX5_turnings_80 : decode cX5_turnings 80 = .ok (.aload_n 2, 1) := by decide +kernel
theorem dX5_turnings_81 : decode cX5_turnings 81 = .ok (.getfield 29, 3) := by decide +kernel
theorem dX5_turnings_84 : decode cX5_turnings 84 = .ok (.if_icmp .ne 41, 3) := by decide +kernel
theorem dX5_turnings_87 : decode cX5_turnings 87 = .ok (.iload_n 3, 1) := by decide +kernel
theorem dX5_turnings_88 : decode cX5_turnings 88 = .ok (.aload_n 0, 1) := by decide +kernel
theorem dX5_turnings_89 : decode cX5_turnings 89 = .ok (.aload_n 1, 1) := by decide +kernel
theorem dX5_turnings_90 : decode cX5_turnings 90 = .ok (.iload 4, 2) := by decide +kernel
theorem dX5_turnings_92 : decode cX5_turnings 92 = .ok (.iconst 0, 1) := by decide +kernel
theorem dX5_turnings_93 : decode cX5_turnings 93 = .ok (.invokevirtual 38, 3) := by decide +kernel
theorem dX5_turnings_96 : decode cX5_turnings 96 = .ok (.ifCond .eq 7, 3) := by decide +kernel
theorem dX5_turnings_99 : decode cX5_turnings 99 = .ok (.iconst 1, 1) := by decide +kernel
theorem dX5_turnings_100 : decode cX5_turnings 100 = .ok (.goto 4, 3) := by decide +kernel
theorem dX5_turnings_103 : decode cX5_turnings 103 = .ok (.iconst 0, 1) := by decide +kernel
theorem dX5_turnings_104 : decode cX5_turnings 104 = .ok (.iadd, 1) := by decide +kernel
theorem dX5_turnings_105 : decode cX5_turnings 105 = .ok (.istore_n 3, 1) := by decide +kernel
theorem dX5_turnings_106 : decode cX5_turnings 106 = .ok (.iload_n 3, 1) := by decide +kernel
theorem dX5_turnings_107 : decode cX5_turnings 107 = .ok (.aload_n 0, 1) := by decide +kernel
theorem dX5_turnings_108 : decode cX5_turnings 108 = .ok (.aload_n 1, 1) := by decide +kernel
theorem dX5_turnings_109 : decode cX5_turnings 109 = .ok (.iload 4, 2) := by decide +kernel
theorem dX5_turnings_111 : decode cX5_turnings 111 = .ok (.iconst 1, 1) := by decide +kernel
theorem dX5_turnings_112 : decode cX5_turnings 112 = .ok (.invokevirtual 38, 3) := by decide +kernel
theorem dX5_turnings_115 : decode cX5_turnings 115 = .ok (.ifCond .eq 7, 3) := by decide +kernel
theorem dX5_turnings_118 : decode cX5_turnings 118 = .ok (.iconst 1, 1) := by decide +kernel
theorem dX5_turnings_119 : decode cX5_turnings 119 = .ok (.goto 4, 3) := by decide +kernel
theorem dX5_turnings_122 : decode cX5_turnings 122 = .ok (.iconst 0, 1) := by decide +kernel
theorem dX5_turnings_123 : decode cX5_turnings 123 = .ok (.iadd, 1) := by decide +kernel
theorem dX5_turnings_124 : decode cX5_turnings 124 = .ok (.istore_n 3, 1) := by decide +kernel
theorem dX5_turnings_125 : decode cX5_turnings 125 = .ok (.iinc 4 1, 3) := by decide +kernel
theorem dX5_turnings_128 : decode cX5_turnings 128 = .ok (.goto (-115), 3) := by decide +kernel
theorem dX5_turnings_131 : decode cX5_turnings 131 = .ok (.iload_n 3, 1) := by decide +kernel
theorem dX5_turnings_132 : decode cX5_turnings 132 = .ok (.ireturn, 1) := by decide +kernel
set_option maxRecDepth 20000 in
theorem ggX5_fits_X5_takesJoints : GoodIn wsX5_fits wsX5_takesJoints := goodIn_r _ [11, 1, 2, 3, 12, 13, 14, 15, 10, 16, 17, 18, 19, 20, 21, 4, 22, 23, 24, 25, 26, 27, 28, 29, 30, 44, 45, 46, 47, 48, 49, 50, 51, 52, 64, 65, 66, 67, 68, 69, 70] rfl (by decide +kernel)
set_option maxRecDepth 20000 in
theorem gX5_fits_X5_takesJoints : GoodIn wsX5_fits (wsV RX5 60 RX5 yX5_takesJoints wsX5_takesJoints) := goodIn_app (goodIn_r ([.methodLink RX5 60 yX5_takesJoints, .instanceMethod yX5_takesJoints, .selects RX5 yX5_takesJoints yX5_takesJoints, .initialized RX5] : List Cond) [7, 8, 9, 10] rfl (by decide +kernel)) ggX5_fits_X5_takesJoints
set_option maxRecDepth 20000 in
theorem ggX5_fits_X5_takesPieces : GoodIn wsX5_fits wsX5_takesPieces := goodIn_r _ [34, 1, 5, 6, 4, 12, 35, 36, 37, 38, 39, 40, 41, 42, 43, 44, 45, 46, 47, 48, 53, 54, 55, 56, 57, 58, 59, 60, 61, 62, 63] rfl (by decide +kernel)
set_option maxRecDepth 20000 in
theorem gX5_fits_X5_takesPieces : GoodIn wsX5_fits (wsV RX5 63 RX5 yX5_takesPieces wsX5_takesPieces) := goodIn_app (goodIn_r ([.methodLink RX5 63 yX5_takesPieces, .instanceMethod yX5_takesPieces, .selects RX5 yX5_takesPieces yX5_takesPieces, .initialized RX5] : List Cond) [31, 32, 33, 10] rfl (by decide +kernel)) ggX5_fits_X5_takesPieces
theorem dX5_fits_0 : decode cX5_fits 0 = .ok (.aload_n 0, 1) := by decide +kernel
theorem dX5_fits_1 : decode cX5_fits 1 = .ok (.getfield 9, 3) := by decide +kernel
theorem dX5_fits_4 : decode cX5_fits 4 = .ok (.getfield 42, 3) := by decide +kernel
theorem dX5_fits_7 : decode cX5_fits 7 = .ok (.getfield 46, 3) := by decide +kernel
theorem dX5_fits_10 : decode cX5_fits 10 = .ok (.aload_n 0, 1) := by decide +kernel
theorem dX5_fits_11 : decode cX5_fits 11 = .ok (.getfield 18, 3) := by decide +kernel
theorem dX5_fits_14 : decode cX5_fits 14 = .ok (.getfield 42, 3) := by decide +kernel
theorem dX5_fits_17 : decode cX5_fits 17 = .ok (.getfield 46, 3) := by decide +kernel
theorem dX5_fits_20 : decode cX5_fits 20 = .ok (.if_icmp .ne 47, 3) := by decide +kernel
theorem dX5_fits_23 : decode cX5_fits 23 = .ok (.aload_n 0, 1) := by decide +kernel
theorem dX5_fits_24 : decode cX5_fits 24 = .ok (.getfield 9, 3) := by decide +kernel
theorem dX5_fits_27 : decode cX5_fits 27 = .ok (.getfield 51, 3) := by decide +kernel
theorem dX5_fits_30 : decode cX5_fits 30 = .ok (.getfield 55, 3) := by decide +kernel
theorem dX5_fits_33 : decode cX5_fits 33 = .ok (.aload_n 0, 1) := by decide +kernel
theorem dX5_fits_34 : decode cX5_fits 34 = .ok (.getfield 18, 3) := by decide +kernel
theorem dX5_fits_37 : decode cX5_fits 37 = .ok (.getfield 51, 3) := by decide +kernel
theorem dX5_fits_40 : decode cX5_fits 40 = .ok (.getfield 55, 3) := by decide +kernel
theorem dX5_fits_43 : decode cX5_fits 43 = .ok (.if_icmp .ne 24, 3) := by decide +kernel
theorem dX5_fits_46 : decode cX5_fits 46 = .ok (.aload_n 0, 1) := by decide +kernel
theorem dX5_fits_47 : decode cX5_fits 47 = .ok (.aload_n 1, 1) := by decide +kernel
theorem dX5_fits_48 : decode cX5_fits 48 = .ok (.iload_n 2, 1) := by decide +kernel
theorem dX5_fits_49 : decode cX5_fits 49 = .ok (.iload_n 3, 1) := by decide +kernel
theorem dX5_fits_50 : decode cX5_fits 50 = .ok (.invokevirtual 60, 3) := by decide +kernel
theorem dX5_fits_53 : decode cX5_fits 53 = .ok (.ifCond .eq 14, 3) := by decide +kernel
theorem dX5_fits_56 : decode cX5_fits 56 = .ok (.aload_n 0, 1) := by decide +kernel
theorem dX5_fits_57 : decode cX5_fits 57 = .ok (.invokevirtual 63, 3) := by decide +kernel
theorem dX5_fits_60 : decode cX5_fits 60 = .ok (.ifCond .eq 7, 3) := by decide +kernel
theorem dX5_fits_63 : decode cX5_fits 63 = .ok (.iconst 1, 1) := by decide +kernel
theorem dX5_fits_64 : decode cX5_fits 64 = .ok (.goto 4, 3) := by decide +kernel
theorem dX5_fits_67 : decode cX5_fits 67 = .ok (.iconst 0, 1) := by decide +kernel
theorem dX5_fits_68 : decode cX5_fits 68 = .ok (.ireturn, 1) := by decide +kernel
set_option maxRecDepth 20000 in
theorem ggX5_takesJoints_X5_imageOf : GoodIn wsX5_takesJoints wsX5_imageOf := goodIn_r _ [9, 1, 2, 10, 11, 12, 13, 14, 15, 16, 17, 18, 19, 20, 21, 22, 23, 24, 25, 26, 27, 28, 29, 30, 31, 32, 33, 34, 35, 36, 37, 38, 39, 40] rfl (by decide +kernel)
set_option maxRecDepth 20000 in
theorem gX5_takesJoints_X5_imageOf : GoodIn wsX5_takesJoints (wsV RX5 67 RX5 yX5_imageOf wsX5_imageOf) := goodIn_app (goodIn_r ([.methodLink RX5 67 yX5_imageOf, .instanceMethod yX5_imageOf, .selects RX5 yX5_imageOf yX5_imageOf, .initialized RX5] : List Cond) [5, 6, 7, 8] rfl (by decide +kernel)) ggX5_takesJoints_X5_imageOf
theorem dX5_takesJoints_0 : decode cX5_takesJoints 0 = .ok (.iconst 0, 1) := by decide +kernel
theorem dX5_takesJoints_1 : decode cX5_takesJoints 1 = .ok (.istore 4, 2) := by decide +kernel
theorem dX5_takesJoints_3 : decode cX5_takesJoints 3 = .ok (.iload 4, 2) := by decide +kernel
theorem dX5_takesJoints_5 : decode cX5_takesJoints 5 = .ok (.aload_n 0, 1) := by decide +kernel
theorem dX5_takesJoints_6 : decode cX5_takesJoints 6 = .ok (.getfield 9, 3) := by decide +kernel
theorem dX5_takesJoints_9 : decode cX5_takesJoints 9 = .ok (.getfield 42, 3) := by decide +kernel
theorem dX5_takesJoints_12 : decode cX5_takesJoints 12 = .ok (.getfield 46, 3) := by decide +kernel
theorem dX5_takesJoints_15 : decode cX5_takesJoints 15 = .ok (.if_icmp .ge 37, 3) := by decide +kernel
theorem dX5_takesJoints_18 : decode cX5_takesJoints 18 = .ok (.aload_n 0, 1) := by decide +kernel
theorem dX5_takesJoints_19 : decode cX5_takesJoints 19 = .ok (.getfield 21, 3) := by decide +kernel
theorem dX5_takesJoints_22 : decode cX5_takesJoints 22 = .ok (.iload 4, 2) := by decide +kernel
theorem dX5_takesJoints_24 : decode cX5_takesJoints 24 = .ok (.aload_n 0, 1) := by decide +kernel
theorem dX5_takesJoints_25 : decode cX5_takesJoints 25 = .ok (.iload 4, 2) := by decide +kernel
theorem dX5_takesJoints_27 : decode cX5_takesJoints 27 = .ok (.aload_n 1, 1) := by decide +kernel
theorem dX5_takesJoints_28 : decode cX5_takesJoints 28 = .ok (.iload_n 2, 1) := by decide +kernel
theorem dX5_takesJoints_29 : decode cX5_takesJoints 29 = .ok (.iload_n 3, 1) := by decide +kernel
theorem dX5_takesJoints_30 : decode cX5_takesJoints 30 = .ok (.invokevirtual 67, 3) := by decide +kernel
theorem dX5_takesJoints_33 : decode cX5_takesJoints 33 = .ok (.iastore, 1) := by decide +kernel
theorem dX5_takesJoints_34 : decode cX5_takesJoints 34 = .ok (.aload_n 0, 1) := by decide +kernel
theorem dX5_takesJoints_35 : decode cX5_takesJoints 35 = .ok (.getfield 21, 3) := by decide +kernel
theorem dX5_takesJoints_38 : decode cX5_takesJoints 38 = .ok (.iload 4, 2) := by decide +kernel
theorem dX5_takesJoints_40 : decode cX5_takesJoints 40 = .ok (.iaload, 1) := by decide +kernel
theorem dX5_takesJoints_41 : decode cX5_takesJoints 41 = .ok (.ifCond .ge 5, 3) := by decide +kernel
theorem dX5_takesJoints_44 : decode cX5_takesJoints 44 = .ok (.iconst 0, 1) := by decide +kernel
theorem dX5_takesJoints_45 : decode cX5_takesJoints 45 = .ok (.ireturn, 1) := by decide +kernel
theorem dX5_takesJoints_46 : decode cX5_takesJoints 46 = .ok (.iinc 4 1, 3) := by decide +kernel
theorem dX5_takesJoints_49 : decode cX5_takesJoints 49 = .ok (.goto (-46), 3) := by decide +kernel
theorem dX5_takesJoints_52 : decode cX5_takesJoints 52 = .ok (.iconst 1, 1) := by decide +kernel
theorem dX5_takesJoints_53 : decode cX5_takesJoints 53 = .ok (.ireturn, 1) := by decide +kernel
set_option maxRecDepth 20000 in
theorem ggX5_imageOf_X4_indexOf : GoodIn wsX5_imageOf wsX4_indexOf := goodIn_r _ [13, 14, 15, 16, 17, 23, 24, 25, 26] rfl (by decide +kernel)
set_option maxRecDepth 20000 in
theorem gX5_imageOf_X4_indexOf : GoodIn wsX5_imageOf (wsV RX5 80 RX4 yX4_indexOf wsX4_indexOf) := goodIn_app (goodIn_r ([.methodLink RX5 80 yX4_indexOf, .instanceMethod yX4_indexOf, .selects RX4 yX4_indexOf yX4_indexOf, .initialized RX4] : List Cond) [9, 10, 11, 12] rfl (by decide +kernel)) ggX5_imageOf_X4_indexOf
theorem dX5_imageOf_0 : decode cX5_imageOf 0 = .ok (.aload_n 0, 1) := by decide +kernel
theorem dX5_imageOf_1 : decode cX5_imageOf 1 = .ok (.getfield 9, 3) := by decide +kernel
theorem dX5_imageOf_4 : decode cX5_imageOf 4 = .ok (.getfield 42, 3) := by decide +kernel
theorem dX5_imageOf_7 : decode cX5_imageOf 7 = .ok (.getfield 71, 3) := by decide +kernel
theorem dX5_imageOf_10 : decode cX5_imageOf 10 = .ok (.iload_n 1, 1) := by decide +kernel
theorem dX5_imageOf_11 : decode cX5_imageOf 11 = .ok (.iaload, 1) := by decide +kernel
theorem dX5_imageOf_12 : decode cX5_imageOf 12 = .ok (.istore 5, 2) := by decide +kernel
theorem dX5_imageOf_14 : decode cX5_imageOf 14 = .ok (.aload_n 0, 1) := by decide +kernel
theorem dX5_imageOf_15 : decode cX5_imageOf 15 = .ok (.getfield 9, 3) := by decide +kernel
theorem dX5_imageOf_18 : decode cX5_imageOf 18 = .ok (.getfield 42, 3) := by decide +kernel
theorem dX5_imageOf_21 : decode cX5_imageOf 21 = .ok (.getfield 74, 3) := by decide +kernel
theorem dX5_imageOf_24 : decode cX5_imageOf 24 = .ok (.iload_n 1, 1) := by decide +kernel
theorem dX5_imageOf_25 : decode cX5_imageOf 25 = .ok (.iaload, 1) := by decide +kernel
theorem dX5_imageOf_26 : decode cX5_imageOf 26 = .ok (.istore 6, 2) := by decide +kernel
theorem dX5_imageOf_28 : decode cX5_imageOf 28 = .ok (.aload_n 0, 1) := by decide +kernel
theorem dX5_imageOf_29 : decode cX5_imageOf 29 = .ok (.getfield 9, 3) := by decide +kernel
theorem dX5_imageOf_32 : decode cX5_imageOf 32 = .ok (.getfield 42, 3) := by decide +kernel
theorem dX5_imageOf_35 : decode cX5_imageOf 35 = .ok (.getfield 77, 3) := by decide +kernel
theorem dX5_imageOf_38 : decode cX5_imageOf 38 = .ok (.iload_n 1, 1) := by decide +kernel
theorem dX5_imageOf_39 : decode cX5_imageOf 39 = .ok (.iaload, 1) := by decide +kernel
theorem dX5_imageOf_40 : decode cX5_imageOf 40 = .ok (.istore 7, 2) := by decide +kernel
theorem dX5_imageOf_42 : decode cX5_imageOf 42 = .ok (.aload_n 2, 1) := by decide +kernel
theorem dX5_imageOf_43 : decode cX5_imageOf 43 = .ok (.getfield 35, 3) := by decide +kernel
theorem dX5_imageOf_46 : decode cX5_imageOf 46 = .ok (.iload 5, 2) := by decide +kernel
theorem dX5_imageOf_48 : decode cX5_imageOf 48 = .ok (.imul, 1) := by decide +kernel
theorem dX5_imageOf_49 : decode cX5_imageOf 49 = .ok (.istore 8, 2) := by decide +kernel
theorem dX5_imageOf_51 : decode cX5_imageOf 51 = .ok (.aload_n 2, 1) := by decide +kernel
theorem dX5_imageOf_52 : decode cX5_imageOf 52 = .ok (.getfield 29, 3) := by decide +kernel
theorem dX5_imageOf_55 : decode cX5_imageOf 55 = .ok (.iload 5, 2) := by decide +kernel
theorem dX5_imageOf_57 : decode cX5_imageOf 57 = .ok (.imul, 1) := by decide +kernel
theorem dX5_imageOf_58 : decode cX5_imageOf 58 = .ok (.istore 9, 2) := by decide +kernel
theorem dX5_imageOf_60 : decode cX5_imageOf 60 = .ok (.iconst 0, 1) := by decide +kernel
theorem dX5_imageOf_61 : decode cX5_imageOf 61 = .ok (.istore 10, 2) := by decide +kernel
theorem dX5_imageOf_63 : decode cX5_imageOf 63 = .ok (.iload 10, 2) := by decide +kernel
theorem dX5_imageOf_65 : decode cX5_imageOf 65 = .ok (.iload_n 3, 1) := by decide +kernel
theorem dX5_imageOf_66 : decode cX5_imageOf 66 = .ok (.if_icmp .ge 36, 3) := by decide +kernel
theorem dX5_imageOf_69 : decode cX5_imageOf 69 = .ok (.iload 9, 2) := by decide +kernel
theorem dX5_imageOf_71 : decode cX5_imageOf 71 = .ok (.iload 7, 2) := by decide +kernel
theorem dX5_imageOf_73 : decode cX5_imageOf 73 = .ok (.isub, 1) := by decide +kernel
theorem dX5_imageOf_74 : decode cX5_imageOf 74 = .ok (.istore 11, 2) := by decide +kernel
theorem dX5_imageOf_76 : decode cX5_imageOf 76 = .ok (.iload 6, 2) := by decide +kernel
theorem dX5_imageOf_78 : decode cX5_imageOf 78 = .ok (.istore 7, 2) := by decide +kernel
theorem dX5_imageOf_80 : decode cX5_imageOf 80 = .ok (.iload 11, 2) := by decide +kernel
theorem dX5_imageOf_82 : decode cX5_imageOf 82 = .ok (.istore 6, 2) := by decide +kernel
theorem dX5_imageOf_84 : decode cX5_imageOf 84 = .ok (.iload 9, 2) := by decide +kernel
theorem dX5_imageOf_86 : decode cX5_imageOf 86 = .ok (.istore 12, 2) := by decide +kernel
theorem dX5_imageOf_88 : decode cX5_imageOf 88 = .ok (.iload 8, 2) := by decide +kernel
theorem dX5_imageOf_90 : decode cX5_imageOf 90 = .ok (.istore 9, 2) := by decide +kernel
theorem dX5_imageOf_92 : decode cX5_imageOf 92 = .ok (.iload 12, 2) := by decide +kernel
theorem dX5_imageOf_94 : decode cX5_imageOf 94 = .ok (.istore 8, 2) := by decide +kernel
theorem dX5_imageOf_96 : decode cX5_imageOf 96 = .ok (.iinc 10 1, 3) := by decide +kernel
theorem dX5_imageOf_99 : decode cX5_imageOf 99 = .ok (.goto (-36), 3) := by decide +kernel
theorem dX5_imageOf_102 : decode cX5_imageOf 102 = .ok (.aload_n 0, 1) := by decide +kernel
theorem dX5_imageOf_103 : decode cX5_imageOf 103 = .ok (.getfield 18, 3) := by decide +kernel
theorem dX5_imageOf_106 : decode cX5_imageOf 106 = .ok (.getfield 42, 3) := by decide +kernel
theorem dX5_imageOf_109 : decode cX5_imageOf 109 = .ok (.iload 4, 2) := by decide +kernel
theorem dX5_imageOf_111 : decode cX5_imageOf 111 = .ok (.ifCond .eq 11, 3) := by decide +kernel
theorem dX5_imageOf_114 : decode cX5_imageOf 114 = .ok (.iload 8, 2) := by decide +kernel
theorem dX5_imageOf_116 : decode cX5_imageOf 116 = .ok (.iload 6, 2) := by decide +kernel
theorem dX5_imageOf_118 : decode cX5_imageOf 118 = .ok (.isub, 1) := by decide +kernel
theorem dX5_imageOf_119 : decode cX5_imageOf 119 = .ok (.goto 5, 3) := by decide +kernel
theorem dX5_imageOf_122 : decode cX5_imageOf 122 = .ok (.iload 6, 2) := by decide +kernel
theorem dX5_imageOf_124 : decode cX5_imageOf 124 = .ok (.iload 7, 2) := by decide +kernel
theorem dX5_imageOf_126 : decode cX5_imageOf 126 = .ok (.iload 5, 2) := by decide +kernel
theorem dX5_imageOf_128 : decode cX5_imageOf 128 = .ok (.invokevirtual 80, 3) := by decide +kernel
theorem dX5_imageOf_131 : decode cX5_imageOf 131 = .ok (.ireturn, 1) := by decide +kernel
set_option maxRecDepth 20000 in
theorem ggX5_takesPieces_X8_stepBetween : GoodIn wsX5_takesPieces wsX8_stepBetween := goodIn_r _ [12, 13, 14, 20, 21, 22, 23, 24, 25, 26, 27, 28, 29, 30] rfl (by decide +kernel)
set_option maxRecDepth 20000 in
theorem gX5_takesPieces_X8_stepBetween : GoodIn wsX5_takesPieces (wsV RX5 90 RX8 yX8_stepBetween wsX8_stepBetween) := goodIn_app (goodIn_r ([.methodLink RX5 90 yX8_stepBetween, .instanceMethod yX8_stepBetween, .selects RX8 yX8_stepBetween yX8_stepBetween, .initialized RX8] : List Cond) [8, 9, 10, 11] rfl (by decide +kernel)) ggX5_takesPieces_X8_stepBetween
theorem dX5_takesPieces_0 : decode cX5_takesPieces 0 = .ok (.aload_n 0, 1) := by decide +kernel
theorem dX5_takesPieces_1 : decode cX5_takesPieces 1 = .ok (.getfield 9, 3) := by decide +kernel
theorem dX5_takesPieces_4 : decode cX5_takesPieces 4 = .ok (.getfield 51, 3) := by decide +kernel
theorem dX5_takesPieces_7 : decode cX5_takesPieces 7 = .ok (.astore_n 1, 1) := by decide +kernel
theorem dX5_takesPieces_8 : decode cX5_takesPieces 8 = .ok (.iconst 0, 1) := by decide +kernel
theorem dX5_takesPieces_9 : decode cX5_takesPieces 9 = .ok (.istore_n 2, 1) := by decide +kernel
theorem dX5_takesPieces_10 : decode cX5_takesPieces 10 = .ok (.iload_n 2, 1) := by decide +kernel
theorem dX5_takesPieces_11 : decode cX5_takesPieces 11 = .ok (.aload_n 1, 1) := by decide +kernel
theorem dX5_takesPieces_12 : decode cX5_takesPieces 12 = .ok (.getfield 55, 3) := by decide +kernel
theorem dX5_takesPieces_15 : decode cX5_takesPieces 15 = .ok (.if_icmp .ge 46, 3) := by decide +kernel
theorem dX5_takesPieces_18 : decode cX5_takesPieces 18 = .ok (.aload_n 0, 1) := by decide +kernel
theorem dX5_takesPieces_19 : decode cX5_takesPieces 19 = .ok (.getfield 18, 3) := by decide +kernel
theorem dX5_takesPieces_22 : decode cX5_takesPieces 22 = .ok (.getfield 51, 3) := by decide +kernel
theorem dX5_takesPieces_25 : decode cX5_takesPieces 25 = .ok (.aload_n 0, 1) := by decide +kernel
theorem dX5_takesPieces_26 : decode cX5_takesPieces 26 = .ok (.getfield 21, 3) := by decide +kernel
theorem dX5_takesPieces_29 : decode cX5_takesPieces 29 = .ok (.aload_n 1, 1) := by decide +kernel
theorem dX5_takesPieces_30 : decode cX5_takesPieces 30 = .ok (.getfield 84, 3) := by decide +kernel
theorem dX5_takesPieces_33 : decode cX5_takesPieces 33 = .ok (.iload_n 2, 1) := by decide +kernel
theorem dX5_takesPieces_34 : decode cX5_takesPieces 34 = .ok (.iaload, 1) := by decide +kernel
theorem dX5_takesPieces_35 : decode cX5_takesPieces 35 = .ok (.iaload, 1) := by decide +kernel
theorem dX5_takesPieces_36 : decode cX5_takesPieces 36 = .ok (.aload_n 0, 1) := by decide +kernel
theorem dX5_takesPieces_37 : decode cX5_takesPieces 37 = .ok (.getfield 21, 3) := by decide +kernel
theorem dX5_takesPieces_40 : decode cX5_takesPieces 40 = .ok (.aload_n 1, 1) := by decide +kernel
theorem dX5_takesPieces_41 : decode cX5_takesPieces 41 = .ok (.getfield 87, 3) := by decide +kernel
theorem dX5_takesPieces_44 : decode cX5_takesPieces 44 = .ok (.iload_n 2, 1) := by decide +kernel
theorem dX5_takesPieces_45 : decode cX5_takesPieces 45 = .ok (.iaload, 1) := by decide +kernel
theorem dX5_takesPieces_46 : decode cX5_takesPieces 46 = .ok (.iaload, 1) := by decide +kernel
theorem dX5_takesPieces_47 : decode cX5_takesPieces 47 = .ok (.invokevirtual 90, 3) := by decide +kernel
theorem dX5_takesPieces_50 : decode cX5_takesPieces 50 = .ok (.ifCond .ge 5, 3) := by decide +kernel
theorem dX5_takesPieces_53 : decode cX5_takesPieces 53 = .ok (.iconst 0, 1) := by decide +kernel
theorem dX5_takesPieces_54 : decode cX5_takesPieces 54 = .ok (.ireturn, 1) := by decide +kernel
theorem dX5_takesPieces_55 : decode cX5_takesPieces 55 = .ok (.iinc 2 1, 3) := by decide +kernel
theorem dX5_takesPieces_58 : decode cX5_takesPieces 58 = .ok (.goto (-48), 3) := by decide +kernel
theorem dX5_takesPieces_61 : decode cX5_takesPieces 61 = .ok (.iconst 1, 1) := by decide +kernel
theorem dX5_takesPieces_62 : decode cX5_takesPieces 62 = .ok (.ireturn, 1) := by decide +kernel
