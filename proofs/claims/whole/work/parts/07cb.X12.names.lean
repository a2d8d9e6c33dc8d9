theorem dX12_count_133 : decode cX12_count 133 = .ok (.getfield 16, 3) := by decide +kernel
theorem dX12_count_136 : decode cX12_count 136 = .ok (.getfield 205, 3) := by decide +kernel
theorem dX12_count_139 : decode cX12_count 139 = .ok (.goto 35, 3) := by decide +kernel
theorem dX12_count_142 : decode cX12_count 142 = .ok (.iload_n 1, 1) := by decide +kernel
theorem dX12_count_143 : decode cX12_count 143 = .ok (.iconst 4, 1) := by decide +kernel
theorem dX12_count_144 : decode cX12_count 144 = .ok (.if_icmp .ne 13, 3) := by decide +kernel
theorem dX12_count_147 : decode cX12_count 147 = .ok (.aload_n 0, 1) := by decide +kernel
theorem dX12_count_148 : decode cX12_count 148 = .ok (.getfield 16, 3) := by decide +kernel
theorem dX12_count_151 : decode cX12_count 151 = .ok (.getfield 137, 3) := by decide +kernel
theorem dX12_count_154 : decode cX12_count 154 = .ok (.goto 20, 3) := by decide +kernel
theorem dX12_count_157 : decode cX12_count 157 = .ok (.iload_n 1, 1) := by decide +kernel
theorem dX12_count_158 : decode cX12_count 158 = .ok (.bipush 6, 2) := by decide +kernel
theorem dX12_count_160 : decode cX12_count 160 = .ok (.if_icmp .ne 10, 3) := by decide +kernel
theorem dX12_count_163 : decode cX12_count 163 = .ok (.aload_n 0, 1) := by decide +kernel
theorem dX12_count_164 : decode cX12_count 164 = .ok (.getfield 155, 3) := by decide +kernel
theorem dX12_count_167 : decode cX12_count 167 = .ok (.goto 7, 3) := by decide +kernel
theorem dX12_count_170 : decode cX12_count 170 = .ok (.aload_n 0, 1) := by decide +kernel
theorem dX12_count_171 : decode cX12_count 171 = .ok (.getfield 172, 3) := by decide +kernel
theorem dX12_count_174 : decode cX12_count 174 = .ok (.ireturn, 1) := by decide +kernel
theorem dX12_isJoint_0 : decode cX12_isJoint 0 = .ok (.iload_n 1, 1) := by decide +kernel
theorem dX12_isJoint_1 : decode cX12_isJoint 1 = .ok (.ifCond .lt 18, 3) := by decide +kernel
theorem dX12_isJoint_4 : decode cX12_isJoint 4 = .ok (.iload_n 1, 1) := by decide +kernel
theorem dX12_isJoint_5 : decode cX12_isJoint 5 = .ok (.aload_n 0, 1) := by decide +kernel
theorem dX12_isJoint_6 : decode cX12_isJoint 6 = .ok (.getfield 16, 3) := by decide +kernel
theorem dX12_isJoint_9 : decode cX12_isJoint 9 = .ok (.getfield 205, 3) := by decide +kernel
theorem dX12_isJoint_12 : decode cX12_isJoint 12 = .ok (.if_icmp .ge 7, 3) := by decide +kernel
theorem dX12_isJoint_15 : decode cX12_isJoint 15 = .ok (.iconst 1, 1) := by decide +kernel
theorem dX12_isJoint_16 : decode cX12_isJoint 16 = .ok (.goto 4, 3) := by decide +kernel
theorem dX12_isJoint_19 : decode cX12_isJoint 19 = .ok (.iconst 0, 1) := by decide +kernel
theorem dX12_isJoint_20 : decode cX12_isJoint 20 = .ok (.ireturn, 1) := by decide +kernel
set_option maxRecDepth 20000 in
theorem ggX12_joint_X12_isJoint : GoodIn wsX12_joint wsX12_isJoint := goodIn_r _ [7, 2, 29, 30, 31, 32, 33, 34, 35, 36, 37, 38, 39, 40, 41, 42, 43, 44, 45, 46, 47, 48, 49, 50, 51, 52, 53, 54, 55, 56, 57, 58, 59, 60, 61, 62, 63, 64, 65, 66, 67, 68, 69, 70, 71, 72, 73, 74, 75, 76] rfl (by decide +kernel)
set_option maxRecDepth 20000 in
theorem gX12_joint_X12_isJoint : GoodIn wsX12_joint (wsV RX12 208 RX12 yX12_isJoint wsX12_isJoint) := goodIn_app (goodIn_r ([.methodLink RX12 208 yX12_isJoint, .instanceMethod yX12_isJoint, .selects RX12 yX12_isJoint yX12_isJoint, .initialized RX12] : List Cond) [3, 4, 5, 6] rfl (by decide +kernel)) ggX12_joint_X12_isJoint
set_option maxRecDepth 20000 in
theorem ggX12_joint_X12_answer : GoodIn wsX12_joint wsX12_answer := goodIn_r _ [11, 12, 29, 30, 31, 32, 33, 34, 35, 36, 37, 38, 39, 40, 41, 42, 43, 44, 45, 46, 47, 48, 49, 50, 51, 52, 53, 54, 55, 56, 57, 58, 59, 60] rfl (by decide +kernel)
set_option maxRecDepth 20000 in
theorem gX12_joint_X12_answer : GoodIn wsX12_joint (wsV RX12 179 RX12 yX12_answer wsX12_answer) := goodIn_app (goodIn_r ([.methodLink RX12 179 yX12_answer, .instanceMethod yX12_answer, .selects RX12 yX12_answer yX12_answer, .initialized RX12] : List Cond) [8, 9, 10, 6] rfl (by decide +kernel)) ggX12_joint_X12_answer
set_option maxRecDepth 20000 in
theorem ggX12_joint_X10_ends : GoodIn wsX12_joint wsX10_ends := goodIn_r _ [17, 18, 19, 20, 21, 61, 62, 63, 64, 65, 66, 67, 68, 69, 70, 71, 72, 73, 74, 75, 76] rfl (by decide +kernel)
set_option maxRecDepth 20000 in
theorem gX12_joint_X10_ends : GoodIn wsX12_joint (wsV RX12 211 RX10 yX10_ends wsX10_ends) := goodIn_app (goodIn_r ([.methodLink RX12 211 yX10_ends, .instanceMethod yX10_ends, .selects RX10 yX10_ends yX10_ends, .initialized RX10] : List Cond) [13, 14, 15, 16] rfl (by decide +kernel)) ggX12_joint_X10_ends
set_option maxRecDepth 20000 in
theorem ggX12_joint_X12_gcd : GoodIn wsX12_joint wsX12_gcd := goodIn_r _ [24, 25, 26, 27, 28] rfl (by decide +kernel)
set_option maxRecDepth 20000 in
theorem gX12_joint_X12_gcd : GoodIn wsX12_joint (va_wsS RX12 215 yX12_gcd wsX12_gcd) := goodIn_app (goodIn_r ([.methodLink RX12 215 yX12_gcd, .static yX12_gcd, .initialized yX12_gcd.cls] : List Cond) [22, 23, 6] rfl (by decide +kernel)) ggX12_joint_X12_gcd
theorem dX12_joint_0 : decode cX12_joint 0 = .ok (.aload_n 0, 1) := by decide +kernel
theorem dX12_joint_1 : decode cX12_joint 1 = .ok (.getfield 182, 3) := by decide +kernel
theorem dX12_joint_4 : decode cX12_joint 4 = .ok (.ifCond .eq 20, 3) := by decide +kernel
theorem dX12_joint_7 : decode cX12_joint 7 = .ok (.aload_n 0, 1) := by decide +kernel
theorem dX12_joint_8 : decode cX12_joint 8 = .ok (.iload_n 1, 1) := by decide +kernel
theorem dX12_joint_9 : decode cX12_joint 9 = .ok (.invokevirtual 208, 3) := by decide +kernel
theorem dX12_joint_12 : decode cX12_joint 12 = .ok (.ifCond .eq 12, 3) := by decide +kernel
theorem dX12_joint_15 : decode cX12_joint 15 = .ok (.iload_n 2, 1) := by decide +kernel
theorem dX12_joint_16 : decode cX12_joint 16 = .ok (.ifCond .lt 8, 3) := by decide +kernel
theorem dX12_joint_19 : decode cX12_joint 19 = .ok (.iload_n 2, 1) := by decide +kernel
theorem dX12_joint_20 : decode cX12_joint 20 = .ok (.iconst 5, 1) := by decide +kernel
theorem dX12_joint_21 : decode cX12_joint 21 = .ok (.if_icmp .le 21, 3) := by decide +kernel
theorem dX12_joint_24 : decode cX12_joint 24 = .ok (.aload_n 0, 1) := by decide +kernel
theorem dX12_joint_25 : decode cX12_joint 25 = .ok (.aload_n 0, 1) := by decide +kernel
theorem dX12_joint_26 : decode cX12_joint 26 = .ok (.getfield 182, 3) := by decide +kernel
theorem dX12_joint_29 : decode cX12_joint 29 = .ok (.ifCond .ne 8, 3) := by decide +kernel
theorem dX12_joint_32 : decode cX12_joint 32 = .ok (.bipush (-4), 2) := by decide +kernel
theorem dX12_joint_34 : decode cX12_joint 34 = .ok (.goto 4, 3) := by decide +kernel
theorem dX12_joint_37 : decode cX12_joint 37 = .ok (.iconst (-1), 1) := by decide +kernel
theorem dX12_joint_38 : decode cX12_joint 38 = .ok (.invokevirtual 179, 3) := by decide +kernel
theorem dX12_joint_41 : decode cX12_joint 41 = .ok (.ireturn, 1) := by decide +kernel
theorem dX12_joint_42 : decode cX12_joint 42 = .ok (.iload_n 2, 1) := by decide +kernel
theorem dX12_joint_43 : decode cX12_joint 43 = .ok (.iconst 3, 1) := by decide +kernel
theorem dX12_joint_44 : decode cX12_joint 44 = .ok (.if_icmp .le 22, 3) := by decide +kernel
theorem dX12_joint_47 : decode cX12_joint 47 = .ok (.aload_n 0, 1) := by decide +kernel
theorem dX12_joint_48 : decode cX12_joint 48 = .ok (.getfield 16, 3) := by decide +kernel
theorem dX12_joint_51 : decode cX12_joint 51 = .ok (.iload_n 1, 1) := by decide +kernel
theorem dX12_joint_52 : decode cX12_joint 52 = .ok (.iload_n 2, 1) := by decide +kernel
theorem dX12_joint_53 : decode cX12_joint 53 = .ok (.iconst 5, 1) := by decide +kernel
theorem dX12_joint_54 : decode cX12_joint 54 = .ok (.if_icmp .ne 7, 3) := by decide +kernel
theorem dX12_joint_57 : decode cX12_joint 57 = .ok (.iconst 1, 1) := by decide +kernel
theorem dX12_joint_58 : decode cX12_joint 58 = .ok (.goto 4, 3) := by decide +kernel
theorem dX12_joint_61 : decode cX12_joint 61 = .ok (.iconst 0, 1) := by decide +kernel
theorem dX12_joint_62 : decode cX12_joint 62 = .ok (.invokevirtual 211, 3) := by decide +kernel
theorem dX12_joint_65 : decode cX12_joint 65 = .ok (.ireturn, 1) := by decide +kernel
theorem dX12_joint_66 : decode cX12_joint 66 = .ok (.iload_n 2, 1) := by decide +kernel
theorem dX12_joint_67 : decode cX12_joint 67 = .ok (.iconst 2, 1) := by decide +kernel
theorem dX12_joint_68 : decode cX12_joint 68 = .ok (.if_icmp .ge 15, 3) := by decide +kernel
theorem dX12_joint_71 : decode cX12_joint 71 = .ok (.aload_n 0, 1) := by decide +kernel
theorem dX12_joint_72 : decode cX12_joint 72 = .ok (.getfield 16, 3) := by decide +kernel
theorem dX12_joint_75 : decode cX12_joint 75 = .ok (.getfield 117, 3) := by decide +kernel
theorem dX12_joint_78 : decode cX12_joint 78 = .ok (.iload_n 1, 1) := by decide +kernel
theorem dX12_joint_79 : decode cX12_joint 79 = .ok (.laload, 1) := by decide +kernel
theorem dX12_joint_80 : decode cX12_joint 80 = .ok (.goto 12, 3) := by decide +kernel
theorem dX12_joint_83 : decode cX12_joint 83 = .ok (.aload_n 0, 1) := by decide +kernel
theorem dX12_joint_84 : decode cX12_joint 84 = .ok (.getfield 16, 3) := by decide +kernel
theorem dX12_joint_87 : decode cX12_joint 87 = .ok (.getfield 124, 3) := by decide +kernel
theorem dX12_joint_90 : decode cX12_joint 90 = .ok (.iload_n 1, 1) := by decide +kernel
theorem dX12_joint_91 : decode cX12_joint 91 = .ok (.laload, 1) := by decide +kernel
theorem dX12_joint_92 : decode cX12_joint 92 = .ok (.lstore_n 3, 1) := by decide +kernel
theorem dX12_joint_93 : decode cX12_joint 93 = .ok (.lload_n 3, 1) := by decide +kernel
theorem dX12_joint_94 : decode cX12_joint 94 = .ok (.aload_n 0, 1) := by decide +kernel
theorem dX12_joint_95 : decode cX12_joint 95 = .ok (.getfield 16, 3) := by decide +kernel
theorem dX12_joint_98 : decode cX12_joint 98 = .ok (.getfield 121, 3) := by decide +kernel
theorem dX12_joint_101 : decode cX12_joint 101 = .ok (.iload_n 1, 1) := by decide +kernel
theorem dX12_joint_102 : decode cX12_joint 102 = .ok (.laload, 1) := by decide +kernel
theorem dX12_joint_103 : decode cX12_joint 103 = .ok (.invokestatic 215, 3) := by decide +kernel
theorem dX12_joint_106 : decode cX12_joint 106 = .ok (.lstore 5, 2) := by decide +kernel
theorem dX12_joint_108 : decode cX12_joint 108 = .ok (.iload_n 2, 1) := by decide +kernel
theorem dX12_joint_109 : decode cX12_joint 109 = .ok (.iconst 1, 1) := by decide +kernel
theorem dX12_joint_110 : decode cX12_joint 110 = .ok (.iand, 1) := by decide +kernel
theorem dX12_joint_111 : decode cX12_joint 111 = .ok (.ifCond .ne 10, 3) := by decide +kernel
theorem dX12_joint_114 : decode cX12_joint 114 = .ok (.lload_n 3, 1) := by decide +kernel
theorem dX12_joint_115 : decode cX12_joint 115 = .ok (.lload 5, 2) := by decide +kernel
theorem dX12_joint_117 : decode cX12_joint 117 = .ok (.ldiv, 1) := by decide +kernel
theorem dX12_joint_118 : decode cX12_joint 118 = .ok (.goto 15, 3) := by decide +kernel
theorem dX12_joint_121 : decode cX12_joint 121 = .ok (.aload_n 0, 1) := by decide +kernel
theorem dX12_joint_122 : decode cX12_joint 122 = .ok (.getfield 16, 3) := by decide +kernel
theorem dX12_joint_125 : decode cX12_joint 125 = .ok (.getfield 121, 3) := by decide +kernel
theorem dX12_joint_128 : decode cX12_joint 128 = .ok (.iload_n 1, 1) := by decide +kernel
theorem dX12_joint_129 : decode cX12_joint 129 = .ok (.laload, 1) := by decide +kernel
theorem dX12_joint_130 : decode cX12_joint 130 = .ok (.lload 5, 2) := by decide +kernel
theorem dX12_joint_132 : decode cX12_joint 132 = .ok (.ldiv, 1) := by decide +kernel
theorem dX12_joint_133 : decode cX12_joint 133 = .ok (.l2i, 1) := by decide +kernel
theorem dX12_joint_134 : decode cX12_joint 134 = .ok (.ireturn, 1) := by decide +kernel
set_option maxRecDepth 20000 in
theorem ggX12_piece_X12_isJoint : GoodIn wsX12_piece wsX12_isJoint := goodIn_r _ [7, 2, 21, 22, 23, 24, 25, 26, 27, 28, 29, 30, 31, 32, 33, 34, 35, 36, 37, 38, 39, 40, 41, 42, 43, 44, 45, 46, 47, 48, 49, 50, 51, 52, 53, 54, 55, 56, 57, 58, 59, 60, 61, 62, 63, 64, 65, 66, 67, 68] rfl (by decide +kernel)
set_option maxRecDepth 20000 in
theorem gX12_piece_X12_isJoint : GoodIn wsX12_piece (wsV RX12 208 RX12 yX12_isJoint wsX12_isJoint) := goodIn_app (goodIn_r ([.methodLink RX12 208 yX12_isJoint, .instanceMethod yX12_isJoint, .selects RX12 yX12_isJoint yX12_isJoint, .initialized RX12] : List Cond) [3, 4, 5, 6] rfl (by decide +kernel)) ggX12_piece_X12_isJoint
set_option maxRecDepth 20000 in
theorem ggX12_piece_X12_answer : GoodIn wsX12_piece wsX12_answer := goodIn_r _ [11, 12, 21, 22, 23, 24, 25, 26, 27, 28, 29, 30, 31, 32, 33, 34, 35, 36, 37, 38, 39, 40, 41, 42, 43, 44, 45, 46, 47, 48, 49, 50, 51, 52] rfl (by decide +kernel)
set_option maxRecDepth 20000 in
theorem gX12_piece_X12_answer : GoodIn wsX12_piece (wsV RX12 179 RX12 yX12_answer wsX12_answer) := goodIn_app (goodIn_r ([.methodLink RX12 179 yX12_answer, .instanceMethod yX12_answer, .selects RX12 yX12_answer yX12_answer, .initialized RX12] : List Cond) [8, 9, 10, 6] rfl (by decide +kernel)) ggX12_piece_X12_answer
set_option maxRecDepth 20000 in
theorem ggX12_piece_X10_piece : GoodIn wsX12_piece wsX10_piece := goodIn_r _ [17, 18, 19, 20, 53, 54, 55, 56, 57, 58, 59, 60, 61, 62, 63, 64, 65, 66, 67, 68] rfl (by decide +kernel)
set_option maxRecDepth 20000 in
theorem gX12_piece_X10_piece : GoodIn wsX12_piece (wsV RX12 219 RX10 yX10_piece wsX10_piece) := goodIn_app (goodIn_r ([.methodLink RX12 219 yX10_piece, .instanceMethod yX10_piece, .selects RX10 yX10_piece yX10_piece, .initialized RX10] : List Cond) [13, 14, 15, 16] rfl (by decide +kernel)) ggX12_piece_X10_piece
theorem dX12_piece_0 : decode cX12_piece 0 = .ok (.aload_n 0, 1) := by decide +kernel
theorem dX12_piece_1 : decode cX12_piece 1 = .ok (.getfield 182, 3) := by decide +kernel
theorem dX12_piece_4 : decode cX12_piece 4 = .ok (.ifCond .eq 19, 3) := by decide +kernel
theorem dX12_piece_7 : decode cX12_piece 7 = .ok (.aload_n 0, 1) := by decide +kernel
theorem dX12_piece_8 : decode cX12_piece 8 = .ok (.iload_n 1, 1) := by decide +kernel
theorem dX12_piece_9 : decode cX12_piece 9 = .ok (.invokevirtual 208, 3) := by decide +kernel
theorem dX12_piece_12 : decode cX12_piece 12 = .ok (.ifCond .eq 11, 3) := by decide +kernel
theorem dX12_piece_15 : decode cX12_piece 15 = .ok (.aload_n 0, 1) := by decide +kernel
theorem dX12_piece_16 : decode cX12_piece 16 = .ok (.iload_n 2, 1) := by decide +kernel
theorem dX12_piece_17 : decode cX12_piece 17 = .ok (.invokevirtual 208, 3) := by decide +kernel
theorem dX12_piece_20 : decode cX12_piece 20 = .ok (.ifCond .ne 21, 3) := by decide +kernel
theorem dX12_piece_23 : decode cX12_piece 23 = .ok (.aload_n 0, 1) := by decide +kernel
theorem dX12_piece_24 : decode cX12_piece 24 = .ok (.aload_n 0, 1) := by decide +kernel
theorem dX12_piece_25 : decode cX12_piece 25 = .ok (.getfield 182, 3) := by decide +kernel
theorem dX12_piece_28 : decode cX12_piece 28 = .ok (.ifCond .ne 8, 3) := by decide +kernel
theorem dX12_piece_31 : decode cX12_piece 31 = .ok (.bipush (-4), 2) := by decide +kernel
theorem dX12_piece_33 : decode cX12_piece 33 = .ok (.goto 4, 3) := by decide +kernel
theorem dX12_piece_36 : decode cX12_piece 36 = .ok (.iconst (-1), 1) := by decide +kernel
theorem dX12_piece_37 : decode cX12_piece 37 = .ok (.invokevirtual 179, 3) := by decide +kernel
theorem dX12_piece_40 : decode cX12_piece 40 = .ok (.ireturn, 1) := by decide +kernel
theorem dX12_piece_41 : decode cX12_piece 41 = .ok (.aload_n 0, 1) := by decide +kernel
theorem dX12_piece_42 : decode cX12_piece 42 = .ok (.getfield 16, 3) := by decide +kernel
theorem dX12_piece_45 : decode cX12_piece 45 = .ok (.iload_n 1, 1) := by decide +kernel
theorem dX12_piece_46 : decode cX12_piece 46 = .ok (.iload_n 2, 1) := by decide +kernel
theorem dX12_piece_47 : decode cX12_piece 47 = .ok (.invokevirtual 219, 3) := by decide +kernel
theorem dX12_piece_50 : decode cX12_piece 50 = .ok (.istore_n 3, 1) := by decide +kernel
theorem dX12_piece_51 : decode cX12_piece 51 = .ok (.iload_n 3, 1) := by decide +kernel
theorem dX12_piece_52 : decode cX12_piece 52 = .ok (.ifCond .ge 7, 3) := by decide +kernel
theorem dX12_piece_55 : decode cX12_piece 55 = .ok (.iconst 0, 1) := by decide +kernel
theorem dX12_piece_56 : decode cX12_piece 56 = .ok (.goto 20, 3) := by decide +kernel
theorem dX12_piece_59 : decode cX12_piece 59 = .ok (.aload_n 0, 1) := by decide +kernel
theorem dX12_piece_60 : decode cX12_piece 60 = .ok (.getfield 16, 3) := by decide +kernel
theorem dX12_piece_63 : decode cX12_piece 63 = .ok (.getfield 141, 3) := by decide +kernel
theorem dX12_piece_66 : decode cX12_piece 66 = .ok (.iload_n 3, 1) := by decide +kernel
theorem dX12_piece_67 : decode cX12_piece 67 = .ok (.baload, 1) := by decide +kernel
theorem dX12_piece_68 : decode cX12_piece 68 = .ok (.ifCond .eq 7, 3) := by decide +kernel
theorem dX12_piece_71 : decode cX12_piece 71 = .ok (.iconst 2, 1) := by decide +kernel
theorem dX12_piece_72 : decode cX12_piece 72 = .ok (.goto 4, 3) := by decide +kernel
theorem dX12_piece_75 : decode cX12_piece 75 = .ok (.iconst 1, 1) := by decide +kernel
theorem dX12_piece_76 : decode cX12_piece 76 = .ok (.ireturn, 1) := by decide +kernel
theorem dX12_isPane_0 : decode cX12_isPane 0 = .ok (.iload_n 1, 1) := by decide +kernel
theorem dX12_isPane_1 : decode cX12_isPane 1 = .ok (.ifCond .lt 15, 3) := by decide +kernel
theorem dX12_isPane_4 : decode cX12_isPane 4 = .ok (.iload_n 1, 1) := by decide +kernel
theorem dX12_isPane_5 : decode cX12_isPane 5 = .ok (.aload_n 0, 1) := by decide +kernel
theorem dX12_isPane_6 : decode cX12_isPane 6 = .ok (.getfield 155, 3) := by decide +kernel
theorem dX12_isPane_9 : decode cX12_isPane 9 = .ok (.if_icmp .ge 7, 3) := by decide +kernel
theorem dX12_isPane_12 : decode cX12_isPane 12 = .ok (.iconst 1, 1) := by decide +kernel
theorem dX12_isPane_13 : decode cX12_isPane 13 = .ok (.goto 4, 3) := by decide +kernel
theorem dX12_isPane_16 : decode cX12_isPane 16 = .ok (.iconst 0, 1) := by decide +kernel
theorem dX12_isPane_17 : decode cX12_isPane 17 = .ok (.ireturn, 1) := by decide +kernel
set_option maxRecDepth 20000 in
theorem ggX12_corners_X12_next : GoodIn wsX12_corners wsX12_next := goodIn_r _ [6, 7, 8, 9, 10, 5, 11, 12, 13, 14, 15, 16, 17, 18, 19, 20, 21, 22, 23, 24, 25, 26, 27, 28, 29, 30, 31, 32, 33, 34, 35, 36, 37, 38, 39, 40, 41, 42, 43, 44, 45, 46, 47, 48, 49, 50, 51, 52, 53, 54, 55, 56, 57, 58, 59, 60, 61, 62, 63, 64, 65, 66, 67, 68, 69, 70, 71, 72, 73, 74, 75, 76, 77, 78] rfl (by decide +kernel)
set_option maxRecDepth 20000 in
theorem gX12_corners_X12_next : GoodIn wsX12_corners (wsV RX12 166 RX12 yX12_next wsX12_next) := goodIn_app (goodIn_r ([.methodLink RX12 166 yX12_next, .instanceMethod yX12_next, .selects RX12 yX12_next yX12_next, .initialized RX12] : List Cond) [2, 3, 4, 5] rfl (by decide +kernel)) ggX12_corners_X12_next
theorem dX12_corners_0 : decode cX12_corners 0 = .ok (.iconst 0, 1) := by decide +kernel
theorem dX12_corners_1 : decode cX12_corners 1 = .ok (.istore_n 2, 1) := by decide +kernel
theorem dX12_corners_2 : decode cX12_corners 2 = .ok (.aload_n 0, 1) := by decide +kernel
theorem dX12_corners_3 : decode cX12_corners 3 = .ok (.getfield 34, 3) := by decide +kernel
theorem dX12_corners_6 : decode cX12_corners 6 = .ok (.iload_n 1, 1) := by decide +kernel
theorem dX12_corners_7 : decode cX12_corners 7 = .ok (.iaload, 1) := by decide +kernel
theorem dX12_corners_8 : decode cX12_corners 8 = .ok (.istore_n 3, 1) := by decide +kernel
theorem dX12_corners_9 : decode cX12_corners 9 = .ok (.iinc 2 1, 3) := by decide +kernel
theorem dX12_corners_12 : decode cX12_corners 12 = .ok (.aload_n 0, 1) := by decide +kernel
theorem dX12_corners_13 : decode cX12_corners 13 = .ok (.iload_n 3, 1) := by decide +kernel
theorem dX12_corners_14 : decode cX12_corners 14 = .ok (.invokevirtual 166, 3) := by decide +kernel
theorem dX12_corners_17 : decode cX12_corners 17 = .ok (.istore_n 3, 1) := by decide +kernel
theorem dX12_corners_18 : decode cX12_corners 18 = .ok (.iload_n 3, 1) := by decide +kernel
theorem dX12_corners_19 : decode cX12_corners 19 = .ok (.aload_n 0, 1) := by decide +kernel
theorem dX12_corners_20 : decode cX12_corners 20 = .ok (.getfield 34, 3) := by decide +kernel
theorem dX12_corners_23 : decode cX12_corners 23 = .ok (.iload_n 1, 1) := by decide +kernel
theorem dX12_corners_24 : decode cX12_corners 24 = .ok (.iaload, 1) := by decide +kernel
theorem dX12_corners_25 : decode cX12_corners 25 = .ok (.if_icmp .ne (-16), 3) := by decide +kernel
theorem dX12_corners_28 : decode cX12_corners 28 = .ok (.iload_n 2, 1) := by decide +kernel
theorem dX12_corners_29 : decode cX12_corners 29 = .ok (.ireturn, 1) := by decide +kernel
set_option maxRecDepth 20000 in
theorem ggX12_corner_X12_isPane : GoodIn wsX12_corner wsX12_isPane := goodIn_r _ [7, 8, 46, 47, 48, 49, 50, 51, 52, 53, 54, 55, 56, 57, 58, 59, 60, 61, 62, 63, 64, 65, 66, 67, 68, 69, 70, 71, 72, 73, 74, 75, 76, 77] rfl (by decide +kernel)
set_option maxRecDepth 20000 in
theorem gX12_corner_X12_isPane : GoodIn wsX12_corner (wsV RX12 223 RX12 yX12_isPane wsX12_isPane) := goodIn_app (goodIn_r ([.methodLink RX12 223 yX12_isPane, .instanceMethod yX12_isPane, .selects RX12 yX12_isPane yX12_isPane, .initialized RX12] : List Cond) [3, 4, 5, 6] rfl (by decide +kernel)) ggX12_corner_X12_isPane
set_option maxRecDepth 20000 in
theorem ggX12_corner_X12_corners : GoodIn wsX12_corner wsX12_corners := goodIn_r _ [12, 2, 13, 14, 15, 6, 16, 17, 18, 19, 20, 21, 22, 23, 24, 25, 26, 27, 28, 29, 30, 31, 32, 33, 34, 35, 36, 37, 38, 39, 40, 46, 47, 48, 49, 50, 51, 52, 53, 54, 55, 56, 57, 58, 59, 60, 61, 62, 63, 64, 65, 66, 67, 68, 69, 70, 71, 72, 73, 74, 75, 76, 77, 78, 79, 80, 81, 82, 83, 84, 85, 86, 87, 88, 89, 90, 91, 92, 93] rfl (by decide +kernel)
set_option maxRecDepth 20000 in
theorem gX12_corner_X12_corners : GoodIn wsX12_corner (wsV RX12 226 RX12 yX12_corners wsX12_corners) := goodIn_app (goodIn_r ([.methodLink RX12 226 yX12_corners, .instanceMethod yX12_corners, .selects RX12 yX12_corners yX12_corners, .initialized RX12] : List Cond) [9, 10, 11, 6] rfl (by decide +kernel)) ggX12_corner_X12_corners
set_option maxRecDepth 20000 in
theorem ggX12_corner_X12_answer : GoodIn wsX12_corner wsX12_answer := goodIn_r _ [44, 45, 46, 47, 48, 49, 50, 51, 52, 53, 54, 55, 56, 57, 58, 59, 60, 61, 62, 63, 64, 65, 66, 67, 68, 69, 70, 71, 72, 73, 74, 75, 76, 77] rfl (by decide +kernel)
set_option maxRecDepth 20000 in
theorem gX12_corner_X12_answer : GoodIn wsX12_corner (wsV RX12 179 RX12 yX12_answer wsX12_answer) := goodIn_app (goodIn_r ([.methodLink RX12 179 yX12_answer, .instanceMethod yX12_answer, .selects RX12 yX12_answer yX12_answer, .initialized RX12] : List Cond) [41, 42, 43, 6] rfl (by decide +kernel)) ggX12_corner_X12_answer
set_option maxRecDepth 20000 in
theorem ggX12_corner_X12_next : GoodIn wsX12_corner wsX12_next := goodIn_r _ [16, 17, 18, 19, 20, 6, 21, 22, 23, 24, 25, 26, 27, 28, 29, 30, 31, 32, 33, 34, 35, 36, 37, 38, 39, 40, 46, 47, 48, 49, 50, 51, 52, 53, 54, 55, 56, 57, 58, 59, 60, 61, 62, 63, 64, 65, 66, 67, 68, 69, 70, 71, 72, 73, 74, 75, 76, 77, 78, 79, 80, 81, 82, 83, 84, 85, 86, 87, 88, 89, 90, 91, 92, 93] rfl (by decide +kernel)
set_option maxRecDepth 20000 in
theorem gX12_corner_X12_next : GoodIn wsX12_corner (wsV RX12 166 RX12 yX12_next wsX12_next) := goodIn_app (goodIn_r ([.methodLink RX12 166 yX12_next, .instanceMethod yX12_next, .selects RX12 yX12_next yX12_next, .initialized RX12] : List Cond) [13, 14, 15, 6] rfl (by decide +kernel)) ggX12_corner_X12_next
set_option maxRecDepth 20000 in
theorem ggX12_corner_X12_beginOf : GoodIn wsX12_corner wsX12_beginOf := goodIn_r _ [21, 17, 46, 47, 48, 49, 50, 51, 52, 53, 54, 55, 56, 57, 58, 59, 60, 61, 62, 63, 64, 65, 66, 67, 68, 69, 70, 71, 72, 73, 74, 75, 76, 77, 78, 79, 80, 81, 82, 83, 84, 85, 86, 87, 88, 89, 90, 91, 92, 93] rfl (by decide +kernel)
set_option maxRecDepth 20000 in
theorem gX12_corner_X12_beginOf : GoodIn wsX12_corner (wsV RX12 113 RX12 yX12_beginOf wsX12_beginOf) := goodIn_app (goodIn_r ([.methodLink RX12 113 yX12_beginOf, .instanceMethod yX12_beginOf, .selects RX12 yX12_beginOf yX12_beginOf, .initialized RX12] : List Cond) [18, 19, 20, 6] rfl (by decide +kernel)) ggX12_corner_X12_beginOf
theorem dX12_corner_0 : decode cX12_corner 0 = .ok (.aload_n 0, 1) := by decide +kernel
theorem dX12_corner_1 : decode cX12_corner 1 = .ok (.getfield 182, 3) := by decide +kernel
theorem dX12_corner_4 : decode cX12_corner 4 = .ok (.ifCond .eq 24, 3) := by decide +kernel
theorem dX12_corner_7 : decode cX12_corner 7 = .ok (.aload_n 0, 1) := by decide +kernel
theorem dX12_corner_8 : decode cX12_corner 8 = .ok (.iload_n 1, 1) := by decide +kernel
theorem dX12_corner_9 : decode cX12_corner 9 = .ok (.invokevirtual 223, 3) := by decide +kernel
theorem dX12_corner_12 : decode cX12_corner 12 = .ok (.ifCond .eq 16, 3) := by decide +kernel
theorem dX12_corner_15 : decode cX12_corner 15 = .ok (.iload_n 2, 1) := by decide +kernel
theorem dX12_corner_16 : decode cX12_corner 16 = .ok (.ifCond .lt 12, 3) := by decide +kernel
theorem dX12_corner_19 : decode cX12_corner 19 = .ok (.iload_n 2, 1) := by decide +kernel
theorem dX12_corner_20 : decode cX12_corner 20 = .ok (.aload_n 0, 1) := by decide +kernel
theorem dX12_corner_21 : decode cX12_corner 21 = .ok (.iload_n 1, 1) := by decide +kernel
theorem dX12_corner_22 : decode cX12_corner 22 = .ok (.invokevirtual 226, 3) := by decide +kernel
theorem dX12_corner_25 : decode cX12_corner 25 = .ok (.if_icmp .lt 21, 3) := by decide +kernel
theorem dX12_corner_28 : decode cX12_corner 28 = .ok (.aload_n 0, 1) := by decide +kernel
theorem dX12_corner_29 : decode cX12_corner 29 = .ok (.aload_n 0, 1) := by decide +kernel
theorem dX12_corner_30 : decode cX12_corner 30 = .ok (.getfield 182, 3) := by decide +kernel
theorem dX12_corner_33 : decode cX12_corner 33 = .ok (.ifCond .ne 8, 3) := by decide +kernel
theorem dX12_corner_36 : decode cX12_corner 36 = .ok (.bipush (-4), 2) := by decide +kernel
theorem dX12_corner_38 : decode cX12_corner 38 = .ok (.goto 4, 3) := by decide +kernel
theorem dX12_corner_41 : decode cX12_corner 41 = .ok (.iconst (-1), 1) := by decide +kernel
theorem dX12_corner_42 : decode cX12_corner 42 = .ok (.invokevirtual 179, 3) := by decide +kernel
theorem dX12_corner_45 : decode cX12_corner 45 = .ok (.ireturn, 1) := by decide +kernel
theorem dX12_corner_46 : decode cX12_corner 46 = .ok (.aload_n 0, 1) := by decide +kernel
theorem dX12_corner_47 : decode cX12_corner 47 = .ok (.getfield 34, 3) := by decide +kernel
theorem dX12_corner_50 : decode cX12_corner 50 = .ok (.iload_n 1, 1) := by decide +kernel
theorem dX12_corner_51 : decode cX12_corner 51 = .ok (.iaload, 1) := by decide +kernel
theorem dX12_corner_52 : decode cX12_corner 52 = .ok (.istore_n 3, 1) := by decide +kernel
theorem dX12_corner_53 : decode cX12_corner 53 = .ok (.iconst 0, 1) := by decide +kernel
theorem dX12_corner_54 : decode cX12_corner 54 = .ok (.istore 4, 2) := by decide +kernel
theorem dX12_corner_56 : decode cX12_corner 56 = .ok (.iload 4, 2) := by decide +kernel
theorem dX12_corner_58 : decode cX12_corner 58 = .ok (.iload_n 2, 1) := by decide +kernel
theorem dX12_corner_59 : decode cX12_corner 59 = .ok (.if_icmp .ge 15, 3) := by decide +kernel
theorem dX12_corner_62 : decode cX12_corner 62 = .ok (.aload_n 0, 1) := by decide +kernel
theorem dX12_corner_63 : decode cX12_corner 63 = .ok (.iload_n 3, 1) := by decide +kernel
theorem dX12_corner_64 : decode cX12_corner 64 = .ok (.invokevirtual 166, 3) := by decide +kernel
theorem dX12_corner_67 : decode cX12_corner 67 = .ok (.istore_n 3, 1) := by decide +kernel
theorem dX12_corner_68 : decode cX12_corner 68 = .ok (.iinc 4 1, 3) := by decide +kernel
theorem dX12_corner_71 : decode cX12_corner 71 = .ok (.goto (-15), 3) := by decide +kernel
theorem dX12_corner_74 : decode cX12_corner 74 = .ok (.aload_n 0, 1) := by decide +kernel
theorem dX12_corner_75 : decode cX12_corner 75 = .ok (.iload_n 3, 1) := by decide +kernel
theorem dX12_corner_76 : decode cX12_corner 76 = .ok (.invokevirtual 113, 3) := by decide +kernel
theorem dX12_corner_79 : decode cX12_corner 79 = .ok (.ireturn, 1) := by decide +kernel
theorem dX12_touched_0 : decode cX12_touched 0 = .ok (.iconst 0, 1) := by decide +kernel
theorem dX12_touched_1 : decode cX12_touched 1 = .ok (.istore_n 3, 1) := by decide +kernel
theorem dX12_touched_2 : decode cX12_touched 2 = .ok (.iconst 0, 1) := by decide +kernel
theorem dX12_touched_3 : decode cX12_touched 3 = .ok (.istore 4, 2) := by decide +kernel
theorem dX12_touched_5 : decode cX12_touched 5 = .ok (.iload 4, 2) := by decide +kernel
theorem dX12_touched_7 : decode cX12_touched 7 = .ok (.aload_n 0, 1) := by decide +kernel
theorem dX12_touched_8 : decode cX12_touched 8 = .ok (.getfield 16, 3) := by decide +kernel
theorem dX12_touched_11 : decode cX12_touched 11 = .ok (.getfield 137, 3) := by decide +kernel
theorem dX12_touched_14 : decode cX12_touched 14 = .ok (.if_icmp .ge 78, 3) := by decide +kernel
theorem dX12_touched_17 : decode cX12_touched 17 = .ok (.aload_n 0, 1) := by decide +kernel
theorem dX12_touched_18 : decode cX12_touched 18 = .ok (.getfield 16, 3) := by decide +kernel
theorem dX12_touched_21 : decode cX12_touched 21 = .ok (.getfield 141, 3) := by decide +kernel
theorem dX12_touched_24 : decode cX12_touched 24 = .ok (.iload 4, 2) := by decide +kernel
theorem dX12_touched_26 : decode cX12_touched 26 = .ok (.baload, 1) := by decide +kernel
theorem dX12_touched_27 : decode cX12_touched 27 = .ok (.ifCond .eq 59, 3) := by decide +kernel
theorem dX12_touched_30 : decode cX12_touched 30 = .ok (.aload_n 0, 1) := by decide +kernel
theorem dX12_touched_31 : decode cX12_touched 31 = .ok (.getfield 30, 3) := by decide +kernel
theorem dX12_touched_34 : decode cX12_touched 34 = .ok (.iconst 2, 1) := by decide +kernel
theorem dX12_touched_35 : decode cX12_touched 35 = .ok (.iload 4, 2) := by decide +kernel
theorem dX12_touched_37 : decode cX12_touched 37 = .ok (.imul, 1) := by decide +kernel
theorem dX12_touched_38 : decode cX12_touched 38 = .ok (.iaload, 1) := by decide +kernel
theorem dX12_touched_39 : decode cX12_touched 39 = .ok (.istore 5, 2) := by decide +kernel
theorem dX12_touched_41 : decode cX12_touched 41 = .ok (.aload_n 0, 1) := by decide +kernel
theorem dX12_touched_42 : decode cX12_touched 42 = .ok (.getfield 30, 3) := by decide +kernel
theorem dX12_touched_45 : decode cX12_touched 45 = .ok (.iconst 2, 1) := by decide +kernel
theorem dX12_touched_46 : decode cX12_touched 46 = .ok (.iload 4, 2) := by decide +kernel
theorem dX12_touched_48 : decode cX12_touched 48 = .ok (.imul, 1) := by decide +kernel
theorem dX12_touched_49 : decode cX12_touched 49 = .ok (.iconst 1, 1) := by decide +kernel
theorem dX12_touched_50 : decode cX12_touched 50 = .ok (.iadd, 1) := by decide +kernel
theorem dX12_touched_51 : decode cX12_touched 51 = .ok (.iaload, 1) := by decide +kernel
theorem dX12_touched_52 : decode cX12_touched 52 = .ok (.istore 6, 2) := by decide +kernel
theorem dX12_touched_54 : decode cX12_touched 54 = .ok (.iload_n 3, 1) := by decide +kernel
theorem dX12_touched_55 : decode cX12_touched 55 = .ok (.iload 5, 2) := by decide +kernel
theorem dX12_touched_57 : decode cX12_touched 57 = .ok (.iload_n 1, 1) := by decide +kernel
theorem dX12_touched_58 : decode cX12_touched 58 = .ok (.if_icmp .ne 9, 3) := by decide +kernel
theorem dX12_touched_61 : decode cX12_touched 61 = .ok (.iload 6, 2) := by decide +kernel
theorem dX12_touched_63 : decode cX12_touched 63 = .ok (.iload_n 2, 1) := by decide +kernel
theorem dX12_touched_64 : decode cX12_touched 64 = .ok (.if_icmp .eq 15, 3) := by decide +kernel
theorem dX12_touched_67 : decode cX12_touched 67 = .ok (.iload 5, 2) := by decide +kernel
theorem dX12_touched_69 : decode cX12_touched 69 = .ok (.iload_n 2, 1) := by decide +kernel
theorem dX12_touched_70 : decode cX12_touched 70 = .ok (.if_icmp .ne 13, 3) := by decide +kernel
theorem dX12_touched_73 : decode cX12_touched 73 = .ok (.iload 6, 2) := by decide +kernel
theorem dX12_touched_75 : decode cX12_touched 75 = .ok (.iload_n 1, 1) := by decide +kernel
theorem dX12_touched_76 : decode cX12_touched 76 = .ok (.if_icmp .ne 7, 3) := by decide +kernel
theorem dX12_touched_79 : decode cX12_touched 79 = .ok (.iconst 1, 1) := by decide +kernel
theorem dX12_touched_80 : decode cX12_touched 80 = .ok (.goto 4, 3) := by decide +kernel
theorem dX12_touched_83 : decode cX12_touched 83 = .ok (.iconst 0, 1) := by decide +kernel
theorem dX12_touched_84 : decode cX12_touched 84 = .ok (.iadd, 1) := by decide +kernel
theorem dX12_touched_85 : decode cX12_touched 85 = .ok (.istore_n 3, 1) := by decide +kernel
theorem dX12_touched_86 : decode cX12_touched 86 = .ok (.iinc 4 1, 3) := by decide +kernel
theorem dX12_touched_89 : decode cX12_touched 89 = .ok (.goto (-84), 3) := by decide +kernel
theorem dX12_touched_92 : decode cX12_touched 92 = .ok (.iload_n 3, 1) := by decide +kernel
theorem dX12_touched_93 : decode cX12_touched 93 = .ok (.ireturn, 1) := by decide +kernel
set_option maxRecDepth 20000 in
theorem ggX12_side_X12_beginOf : GoodIn wsX12_side wsX12_beginOf := goodIn_r _ [14, 2, 38, 39, 40, 41, 42, 43, 44, 45, 46, 47, 48, 49, 50, 51, 52, 53, 54, 55, 56, 57, 58, 59, 60, 61, 62, 63, 64, 65, 66, 67, 68, 69, 70, 71, 72, 73, 74, 75, 76, 77, 78, 79, 80, 81, 82, 83, 84, 85] rfl (by decide +kernel)
set_option maxRecDepth 20000 in
theorem gX12_side_X12_beginOf : GoodIn wsX12_side (wsV RX12 113 RX12 yX12_beginOf wsX12_beginOf) := goodIn_app (goodIn_r ([.methodLink RX12 113 yX12_beginOf, .instanceMethod yX12_beginOf, .selects RX12 yX12_beginOf yX12_beginOf, .initialized RX12] : List Cond) [10, 11, 12, 13] rfl (by decide +kernel)) ggX12_side_X12_beginOf
set_option maxRecDepth 20000 in
theorem ggX12_side_X12_next : GoodIn wsX12_side wsX12_next := goodIn_r _ [18, 2, 10, 11, 12, 13, 14, 19, 20, 21, 22, 23, 24, 25, 26, 27, 28, 29, 30, 31, 32, 33, 34, 35, 36, 37, 38, 39, 40, 41, 42, 43, 44, 45, 46, 47, 48, 49, 50, 51, 52, 53, 54, 55, 56, 57, 58, 59, 60, 61, 62, 63, 64, 65, 66, 67, 68, 69, 70, 71, 72, 73, 74, 75, 76, 77, 78, 79, 80, 81, 82, 83, 84, 85] rfl (by decide +kernel)
set_option maxRecDepth 20000 in
theorem gX12_side_X12_next : GoodIn wsX12_side (wsV RX12 166 RX12 yX12_next wsX12_next) := goodIn_app (goodIn_r ([.methodLink RX12 166 yX12_next, .instanceMethod yX12_next, .selects RX12 yX12_next yX12_next, .initialized RX12] : List Cond) [15, 16, 17, 13] rfl (by decide +kernel)) ggX12_side_X12_next
theorem dX12_side_0 : decode cX12_side 0 = .ok (.iload_n 3, 1) := by decide +kernel
theorem dX12_side_1 : decode cX12_side 1 = .ok (.ifCond .eq 7, 3) := by decide +kernel
theorem dX12_side_4 : decode cX12_side 4 = .ok (.iconst 0, 1) := by decide +kernel
theorem dX12_side_5 : decode cX12_side 5 = .ok (.goto 5, 3) := by decide +kernel
theorem dX12_side_8 : decode cX12_side 8 = .ok (.bipush 12, 2) := by decide +kernel
theorem dX12_side_10 : decode cX12_side 10 = .ok (.istore 4, 2) := by decide +kernel
theorem dX12_side_12 : decode cX12_side 12 = .ok (.aload_n 0, 1) := by decide +kernel
theorem dX12_side_13 : decode cX12_side 13 = .ok (.getfield 34, 3) := by decide +kernel
theorem dX12_side_16 : decode cX12_side 16 = .ok (.iload_n 1, 1) := by decide +kernel
theorem dX12_side_17 : decode cX12_side 17 = .ok (.iaload, 1) := by decide +kernel
theorem dX12_side_18 : decode cX12_side 18 = .ok (.istore 5, 2) := by decide +kernel
theorem dX12_side_20 : decode cX12_side 20 = .ok (.aload_n 0, 1) := by decide +kernel
theorem dX12_side_21 : decode cX12_side 21 = .ok (.iload 5, 2) := by decide +kernel
theorem dX12_side_23 : decode cX12_side 23 = .ok (.invokevirtual 113, 3) := by decide +kernel
theorem dX12_side_26 : decode cX12_side 26 = .ok (.istore 6, 2) := by decide +kernel
theorem dX12_side_28 : decode cX12_side 28 = .ok (.iload_n 2, 1) := by decide +kernel
theorem dX12_side_29 : decode cX12_side 29 = .ok (.ifCond .eq 16, 3) := by decide +kernel
theorem dX12_side_32 : decode cX12_side 32 = .ok (.aload_n 0, 1) := by decide +kernel
theorem dX12_side_33 : decode cX12_side 33 = .ok (.getfield 16, 3) := by decide +kernel
theorem dX12_side_36 : decode cX12_side 36 = .ok (.getfield 117, 3) := by decide +kernel
theorem dX12_side_39 : decode cX12_side 39 = .ok (.iload 6, 2) := by decide +kernel
theorem dX12_side_41 : decode cX12_side 41 = .ok (.laload, 1) := by decide +kernel
theorem dX12_side_42 : decode cX12_side 42 = .ok (.goto 13, 3) := by decide +kernel
theorem dX12_side_45 : decode cX12_side 45 = .ok (.aload_n 0, 1) := by decide +kernel
theorem dX12_side_46 : decode cX12_side 46 = .ok (.getfield 16, 3) := by decide +kernel
theorem dX12_side_49 : decode cX12_side 49 = .ok (.getfield 124, 3) := by decide +kernel
theorem dX12_side_52 : decode cX12_side 52 = .ok (.iload 6, 2) := by decide +kernel
theorem dX12_side_54 : decode cX12_side 54 = .ok (.laload, 1) := by decide +kernel
theorem dX12_side_55 : decode cX12_side 55 = .ok (.lstore 7, 2) := by decide +kernel
theorem dX12_side_57 : decode cX12_side 57 = .ok (.iload_n 3, 1) := by decide +kernel
theorem dX12_side_58 : decode cX12_side 58 = .ok (.ifCond .eq 32, 3) := by decide +kernel
theorem dX12_side_61 : decode cX12_side 61 = .ok (.lload 7, 2) := by decide +kernel
theorem dX12_side_63 : decode cX12_side 63 = .ok (.aload_n 0, 1) := by decide +kernel
theorem dX12_side_64 : decode cX12_side 64 = .ok (.getfield 16, 3) := by decide +kernel
theorem dX12_side_67 : decode cX12_side 67 = .ok (.getfield 121, 3) := by decide +kernel
theorem dX12_side_70 : decode cX12_side 70 = .ok (.iload 6, 2) := by decide +kernel
theorem dX12_side_72 : decode cX12_side 72 = .ok (.laload, 1) := by decide +kernel
theorem dX12_side_73 : decode cX12_side 73 = .ok (.ladd, 1) := by decide +kernel
theorem dX12_side_74 : decode cX12_side 74 = .ok (.lconst 1, 1) := by decide +kernel
theorem dX12_side_75 : decode cX12_side 75 = .ok (.lsub, 1) := by decide +kernel
theorem dX12_side_76 : decode cX12_side 76 = .ok (.aload_n 0, 1) := by decide +kernel
theorem dX12_side_77 : decode cX12_side 77 = .ok (.getfield 16, 3) := by decide +kernel
theorem dX12_side_80 : decode cX12_side 80 = .ok (.getfield 121, 3) := by decide +kernel
theorem dX12_side_83 : decode cX12_side 83 = .ok (.iload 6, 2) := by decide +kernel
theorem dX12_side_85 : decode cX12_side 85 = .ok (.laload, 1) := by decide +kernel
theorem dX12_side_86 : decode cX12_side 86 = .ok (.ldiv, 1) := by decide +kernel
theorem dX12_side_87 : decode cX12_side 87 = .ok (.goto 16, 3) := by decide +kernel
theorem dX12_side_90 : decode cX12_side 90 = .ok (.lload 7, 2) := by decide +kernel
theorem dX12_side_92 : decode cX12_side 92 = .ok (.aload_n 0, 1) := by decide +kernel
theorem dX12_side_93 : decode cX12_side 93 = .ok (.getfield 16, 3) := by decide +kernel
theorem dX12_side_96 : decode cX12_side 96 = .ok (.getfield 121, 3) := by decide +kernel
theorem dX12_side_99 : decode cX12_side 99 = .ok (.iload 6, 2) := by decide +kernel
theorem dX12_side_101 : decode cX12_side 101 = .ok (.laload, 1) := by decide +kernel
theorem dX12_side_102 : decode cX12_side 102 = .ok (.ldiv, 1) := by decide +kernel
theorem dX12_side_103 : decode cX12_side 103 = .ok (.l2i, 1) := by decide +kernel
theorem dX12_side_104 : decode cX12_side 104 = .ok (.istore 9, 2) := by decide +kernel
theorem dX12_side_106 : decode cX12_side 106 = .ok (.iload_n 3, 1) := by decide +kernel
theorem dX12_side_107 : decode cX12_side 107 = .ok (.ifCond .eq 13, 3) := by decide +kernel
theorem dX12_side_110 : decode cX12_side 110 = .ok (.iload 4, 2) := by decide +kernel
theorem dX12_side_112 : decode cX12_side 112 = .ok (.iload 9, 2) := by decide +kernel
theorem dX12_side_114 : decode cX12_side 114 = .ok (.invokestatic 229, 3) := by decide +kernel
theorem dX12_side_117 : decode cX12_side 117 = .ok (.goto 10, 3) := by decide +kernel
theorem dX12_side_120 : decode cX12_side 120 = .ok (.iload 4, 2) := by decide +kernel
theorem dX12_side_122 : decode cX12_side 122 = .ok (.iload 9, 2) := by decide +kernel
theorem dX12_side_124 : decode cX12_side 124 = .ok (.invokestatic 232, 3) := by decide +kernel
theorem dX12_side_127 : decode cX12_side 127 = .ok (.istore 4, 2) := by decide +kernel
theorem dX12_side_129 : decode cX12_side 129 = .ok (.aload_n 0, 1) := by decide +kernel
theorem dX12_side_130 : decode cX12_side 130 = .ok (.iload 5, 2) := by decide +kernel
theorem dX12_side_132 : decode cX12_side 132 = .ok (.invokevirtual 166, 3) := by decide +kernel
theorem dX12_side_135 : decode cX12_side 135 = .ok (.istore 5, 2) := by decide +kernel
theorem dX12_side_137 : decode cX12_side 137 = .ok (.iload 5, 2) := by decide +kernel
theorem dX12_side_139 : decode cX12_side 139 = .ok (.aload_n 0, 1) := by decide +kernel
theorem dX12_side_140 : decode cX12_side 140 = .ok (.getfield 34, 3) := by decide +kernel
theorem dX12_side_143 : decode cX12_side 143 = .ok (.iload_n 1, 1) := by decide +kernel
theorem dX12_side_144 : decode cX12_side 144 = .ok (.iaload, 1) := by decide +kernel
theorem dX12_side_145 : decode cX12_side 145 = .ok (.if_icmp .ne (-125), 3) := by decide +kernel
theorem dX12_side_148 : decode cX12_side 148 = .ok (.iload 4, 2) := by decide +kernel
theorem dX12_side_150 : decode cX12_side 150 = .ok (.ireturn, 1) := by decide +kernel
set_option maxRecDepth 20000 in
theorem ggX12_wide_X12_side : GoodIn wsX12_wide wsX12_side := goodIn_r _ [5, 6, 7, 8, 9, 10, 11, 12, 13, 14, 15, 16, 17, 4, 18, 19, 20, 21, 22, 23, 24, 25, 26, 27, 28, 29, 30, 31, 32, 33, 34, 35, 36, 37, 38, 39, 40, 41, 42, 43, 44, 45, 46, 47, 48, 49, 50, 51, 52, 53, 54, 55, 56, 57, 58, 59, 60, 61, 62, 63, 64, 65, 66, 67, 68, 69, 70, 71, 72, 73, 74, 75, 76, 77, 78, 79, 80, 81, 82, 83, 84, 85, 86, 87, 88, 89] rfl (by decide +kernel)
set_option maxRecDepth 20000 in
theorem gX12_wide_X12_side : GoodIn wsX12_wide (wsV RX12 235 RX12 yX12_side wsX12_side) := goodIn_app (goodIn_r ([.methodLink RX12 235 yX12_side, .instanceMethod yX12_side, .selects RX12 yX12_side yX12_side, .initialized RX12] : List Cond) [1, 2, 3, 4] rfl (by decide +kernel)) ggX12_wide_X12_side
theorem dX12_wide_0 : decode cX12_wide 0 = .ok (.aload_n 0, 1) := by decide +kernel
theorem dX12_wide_1 : decode cX12_wide 1 = .ok (.iload_n 1, 1) := by decide +kernel
theorem dX12_wide_2 : decode cX12_wide 2 = .ok (.iconst 1, 1) := by decide +kernel
theorem dX12_wide_3 : decode cX12_wide 3 = .ok (.iconst 1, 1) := by decide +kernel
theorem dX12_wide_4 : decode cX12_wide 4 = .ok (.invokevirtual 235, 3) := by decide +kernel
theorem dX12_wide_7 : decode cX12_wide 7 = .ok (.aload_n 0, 1) := by decide +kernel
theorem dX12_wide_8 : decode cX12_wide 8 = .ok (.iload_n 1, 1) := by decide +kernel
theorem dX12_wide_9 : decode cX12_wide 9 = .ok (.iconst 1, 1) := by decide +kernel
theorem dX12_wide_10 : decode cX12_wide 10 = .ok (.iconst 0, 1) := by decide +kernel
theorem dX12_wide_11 : decode cX12_wide 11 = .ok (.invokevirtual 235, 3) := by decide +kernel
theorem dX12_wide_14 : decode cX12_wide 14 = .ok (.isub, 1) := by decide +kernel
theorem dX12_wide_15 : decode cX12_wide 15 = .ok (.ireturn, 1) := by decide +kernel
set_option maxRecDepth 20000 in
theorem ggX12_tall_X12_side : GoodIn wsX12_tall wsX12_side := goodIn_r _ [5, 6, 7, 8, 9, 10, 11, 12, 13, 14, 15, 16, 17, 4, 18, 19, 20, 21, 22, 23, 24, 25, 26, 27, 28, 29, 30, 31, 32, 33, 34, 35, 36, 37, 38, 39, 40, 41, 42, 43, 44, 45, 46, 47, 48, 49, 50, 51, 52, 53, 54, 55, 56, 57, 58, 59, 60, 61, 62, 63, 64, 65, 66, 67, 68, 69, 70, 71, 72, 73, 74, 75, 76, 77, 78, 79, 80, 81, 82, 83, 84, 85, 86, 87, 88, 89] rfl (by decide +kernel)
set_option maxRecDepth 20000 in
theorem gX12_tall_X12_side : GoodIn wsX12_tall (wsV RX12 235 RX12 yX12_side wsX12_side) := goodIn_app (goodIn_r ([.methodLink RX12 235 yX12_side, .instanceMethod yX12_side, .selects RX12 yX12_side yX12_side, .initialized RX12] : List Cond) [1, 2, 3, 4] rfl (by decide +kernel)) ggX12_tall_X12_side
theorem dX12_tall_0 : decode cX12_tall 0 = .ok (.aload_n 0, 1) := by decide +kernel
theorem dX12_tall_1 : decode cX12_tall 1 = .ok (.iload_n 1, 1) := by decide +kernel
theorem dX12_tall_2 : decode cX12_tall 2 = .ok (.iconst 0, 1) := by decide +kernel
theorem dX12_tall_3 : decode cX12_tall 3 = .ok (.iconst 1, 1) := by decide +kernel
theorem dX12_tall_4 : decode cX12_tall 4 = .ok (.invokevirtual 235, 3) := by decide +kernel
theorem dX12_tall_7 : decode cX12_tall 7 = .ok (.aload_n 0, 1) := by decide +kernel
theorem dX12_tall_8 : decode cX12_tall 8 = .ok (.iload_n 1, 1) := by decide +kernel
theorem dX12_tall_9 : decode cX12_tall 9 = .ok (.iconst 0, 1) := by decide +kernel
theorem dX12_tall_10 : decode cX12_tall 10 = .ok (.iconst 0, 1) := by decide +kernel
theorem dX12_tall_11 : decode cX12_tall 11 = .ok (.invokevirtual 235, 3) := by decide +kernel
theorem dX12_tall_14 : decode cX12_tall 14 = .ok (.isub, 1) := by decide +kernel
theorem dX12_tall_15 : decode cX12_tall 15 = .ok (.ireturn, 1) := by decide +kernel
set_option maxRecDepth 20000 in
theorem ggX12_pane_X12_isPane : GoodIn wsX12_pane wsX12_isPane := goodIn_r _ [10, 5, 73, 74, 75, 76, 77, 78, 79, 80, 81, 82, 83, 84, 85, 86, 87, 88, 89, 90, 91, 92, 93, 94, 95, 96, 97, 98, 99, 100, 101, 102, 103, 104] rfl (by decide +kernel)
set_option maxRecDepth 20000 in
theorem gX12_pane_X12_isPane : GoodIn wsX12_pane (wsV RX12 223 RX12 yX12_isPane wsX12_isPane) := goodIn_app (goodIn_r ([.methodLink RX12 223 yX12_isPane, .instanceMethod yX12_isPane, .selects RX12 yX12_isPane yX12_isPane, .initialized RX12] : List Cond) [6, 7, 8, 9] rfl (by decide +kernel)) ggX12_pane_X12_isPane
set_option maxRecDepth 20000 in
theorem ggX12_pane_X12_answer : GoodIn wsX12_pane wsX12_answer := goodIn_r _ [14, 15, 73, 74, 75, 76, 77, 78, 79, 80, 81, 82, 83, 84, 85, 86, 87, 88, 89, 90, 91, 92, 93, 94, 95, 96, 97, 98, 99, 100, 101, 102, 103, 104] rfl (by decide +kernel)
set_option maxRecDepth 20000 in
theorem gX12_pane_X12_answer : GoodIn wsX12_pane (wsV RX12 179 RX12 yX12_answer wsX12_answer) := goodIn_app (goodIn_r ([.methodLink RX12 179 yX12_answer, .instanceMethod yX12_answer, .selects RX12 yX12_answer yX12_answer, .initialized RX12] : List Cond) [11, 12, 13, 9] rfl (by decide +kernel)) ggX12_pane_X12_answer
set_option maxRecDepth 20000 in
theorem ggX12_pane_X12_corners : GoodIn wsX12_pane wsX12_corners := goodIn_r _ [19, 20, 21, 22, 23, 9, 24, 25, 26, 27, 28, 29, 30, 31, 32, 33, 34, 35, 36, 37, 38, 39, 40, 41, 42, 43, 44, 45, 46, 47, 48, 73, 74, 75, 76, 77, 78, 79, 80, 81, 82, 83, 84, 85, 86, 87, 88, 89, 90, 91, 92, 93, 94, 95, 96, 97, 98, 99, 100, 101, 102, 103, 104, 105, 106, 107, 108, 109, 110, 111, 112, 113, 114, 115, 116, 117, 118, 119, 120] rfl (by decide +kernel)
set_option maxRecDepth 20000 in
theorem gX12_pane_X12_corners : GoodIn wsX12_pane (wsV RX12 226 RX12 yX12_corners wsX12_corners) := goodIn_app (goodIn_r ([.methodLink RX12 226 yX12_corners, .instanceMethod yX12_corners, .selects RX12 yX12_corners yX12_corners, .initialized RX12] : List Cond) [16, 17, 18, 9] rfl (by decide +kernel)) ggX12_pane_X12_corners
set_option maxRecDepth 20000 in
theorem ggX12_pane_X12_side : GoodIn wsX12_pane wsX12_side := goodIn_r _ [52, 20, 25, 53, 54, 55, 56, 57, 58, 59, 26, 27, 28, 9, 29, 21, 22, 23, 24, 30, 31, 32, 33, 34, 35, 36, 37, 38, 39, 40, 41, 42, 43, 44, 45, 46, 47, 48, 73, 74, 75, 76, 77, 78, 79, 80, 81, 82, 83, 84, 85, 86, 87, 88, 89, 90, 91, 92, 93, 94, 95, 96, 97, 98, 99, 100, 101, 102, 103, 104, 105, 106, 107, 108, 109, 110, 111, 112, 113, 114, 115, 116, 117, 118, 119, 120] rfl (by decide +kernel)
set_option maxRecDepth 20000 in
theorem gX12_pane_X12_side : GoodIn wsX12_pane (wsV RX12 235 RX12 yX12_side wsX12_side) := goodIn_app (goodIn_r ([.methodLink RX12 235 yX12_side, .instanceMethod yX12_side, .selects RX12 yX12_side yX12_side, .initialized RX12] : List Cond) [49, 50, 51, 9] rfl (by decide +kernel)) ggX12_pane_X12_side
set_option maxRecDepth 20000 in
theorem ggX12_pane_X12_wide : GoodIn wsX12_pane wsX12_wide := goodIn_r _ [63, 49, 50, 51, 9, 52, 20, 25, 53, 54, 55, 56, 57, 58, 59, 26, 27, 28, 29, 21, 22, 23, 24, 30, 31, 32, 33, 34, 35, 36, 37, 38, 39, 40, 41, 42, 43, 44, 45, 46, 47, 48, 73, 74, 75, 76, 77, 78, 79, 80, 81, 82, 83, 84, 85, 86, 87, 88, 89, 90, 91, 92, 93, 94, 95, 96, 97, 98, 99, 100, 101, 102, 103, 104, 105, 106, 107, 108, 109, 110, 111, 112, 113, 114, 115, 116, 117, 118, 119, 120] rfl (by decide +kernel)
set_option maxRecDepth 20000 in
theorem gX12_pane_X12_wide : GoodIn wsX12_pane (wsV RX12 239 RX12 yX12_wide wsX12_wide) := goodIn_app (goodIn_r ([.methodLink RX12 239 yX12_wide, .instanceMethod yX12_wide, .selects RX12 yX12_wide yX12_wide, .initialized RX12] : List Cond) [60, 61, 62, 9] rfl (by decide +kernel)) ggX12_pane_X12_wide
set_option maxRecDepth 20000 in
theorem ggX12_pane_X12_tall : GoodIn wsX12_pane wsX12_tall := goodIn_r _ [67, 49, 50, 51, 9, 52, 20, 25, 53, 54, 55, 56, 57, 58, 59, 26, 27, 28, 29, 21, 22, 23, 24, 30, 31, 32, 33, 34, 35, 36, 37, 38, 39, 40, 41, 42, 43, 44, 45, 46, 47, 48, 73, 74, 75, 76, 77, 78, 79, 80, 81, 82, 83, 84, 85, 86, 87, 88, 89, 90, 91, 92, 93, 94, 95, 96, 97, 98, 99, 100, 101, 102, 103, 104, 105, 106, 107, 108, 109, 110, 111, 112, 113, 114, 115, 116, 117, 118, 119, 120] rfl (by decide +kernel)
set_option maxRecDepth 20000 in
theorem gX12_pane_X12_tall : GoodIn wsX12_pane (wsV RX12 242 RX12 yX12_tall wsX12_tall) := goodIn_app (goodIn_r ([.methodLink RX12 242 yX12_tall, .instanceMethod yX12_tall, .selects RX12 yX12_tall yX12_tall, .initialized RX12] : List Cond) [64, 65, 66, 9] rfl (by decide +kernel)) ggX12_pane_X12_tall
set_option maxRecDepth 20000 in
theorem ggX12_pane_X12_touched : GoodIn wsX12_pane wsX12_touched := goodIn_r _ [71, 25, 72, 73, 74, 75, 76, 77, 78, 79, 80, 81, 82, 83, 84, 85, 86, 87, 88, 89, 90, 91, 92, 93, 94, 95, 96, 97, 98, 99, 100, 101, 102, 103, 104, 105, 106, 107, 108, 109, 110, 111, 112, 113, 114, 115, 116, 117, 118, 119, 120] rfl (by decide +kernel)
set_option maxRecDepth 20000 in
theorem gX12_pane_X12_touched : GoodIn wsX12_pane (wsV RX12 245 RX12 yX12_touched wsX12_touched) := goodIn_app (goodIn_r ([.methodLink RX12 245 yX12_touched, .instanceMethod yX12_touched, .selects RX12 yX12_touched yX12_touched, .initialized RX12] : List Cond) [68, 69, 70, 9] rfl (by decide +kernel)) ggX12_pane_X12_touched
theorem dX12_pane_0 : decode cX12_pane 0 = .ok (.aload_n 0, 1) := by decide +kernel
theorem dX12_pane_1 : decode cX12_pane 1 = .ok (.getfield 182, 3) := by decide +kernel
theorem dX12_pane_4 : decode cX12_pane 4 = .ok (.ifCond .eq 21, 3) := by decide +kernel
theorem dX12_pane_7 : decode cX12_pane 7 = .ok (.aload_n 0, 1) := by decide +kernel
theorem dX12_pane_8 : decode cX12_pane 8 = .ok (.iload_n 1, 1) := by decide +kernel
theorem dX12_pane_9 : decode cX12_pane 9 = .ok (.invokevirtual 223, 3) := by decide +kernel
theorem dX12_pane_12 : decode cX12_pane 12 = .ok (.ifCond .eq 13, 3) := by decide +kernel
theorem dX12_pane_15 : decode cX12_pane 15 = .ok (.iload_n 2, 1) := by decide +kernel
theorem dX12_pane_16 : decode cX12_pane 16 = .ok (.ifCond .lt 9, 3) := by decide +kernel
theorem dX12_pane_19 : decode cX12_pane 19 = .ok (.iload_n 2, 1) := by decide +kernel
theorem dX12_pane_20 : decode cX12_pane 20 = .ok (.bipush 9, 2) := by decide +kernel
theorem dX12_pane_22 : decode cX12_pane 22 = .ok (.if_icmp .le 21, 3) := by decide +kernel
theorem dX12_pane_25 : decode cX12_pane 25 = .ok (.aload_n 0, 1) := by decide +kernel
theorem dX12_pane_26 : decode cX12_pane 26 = .ok (.aload_n 0, 1) := by decide +kernel
theorem dX12_pane_27 : decode cX12_pane 27 = .ok (.getfield 182, 3) := by decide +kernel
theorem dX12_pane_30 : decode cX12_pane 30 = .ok (.ifCond .ne 8, 3) := by decide +kernel
theorem dX12_pane_33 : decode cX12_pane 33 = .ok (.bipush (-4), 2) := by decide +kernel
theorem dX12_pane_35 : decode cX12_pane 35 = .ok (.goto 4, 3) := by decide +kernel
theorem dX12_pane_38 : decode cX12_pane 38 = .ok (.iconst (-1), 1) := by decide +kernel
theorem dX12_pane_39 : decode cX12_pane 39 = .ok (.invokevirtual 179, 3) := by decide +kernel
theorem dX12_pane_42 : decode cX12_pane 42 = .ok (.ireturn, 1) := by decide +kernel
theorem dX12_pane_43 : decode cX12_pane 43 = .ok (.iload_n 2, 1) := by decide +kernel
theorem dX12_pane_44 : decode cX12_pane 44 = .ok (.tableswitch 149 0 8 #[52, 58, 66, 74, 80, 86, 93, 100, 107], 52) := by decide +kernel
theorem dX12_pane_96 : decode cX12_pane 96 = .ok (.aload_n 0, 1) := by decide +kernel
theorem dX12_pane_97 : decode cX12_pane 97 = .ok (.iload_n 1, 1) := by decide +kernel
theorem dX12_pane_98 : decode cX12_pane 98 = .ok (.invokevirtual 226, 3) := by decide +kernel
theorem dX12_pane_101 : decode cX12_pane 101 = .ok (.ireturn, 1) := by decide +kernel
theorem dX12_pane_102 : decode cX12_pane 102 = .ok (.aload_n 0, 1) := by decide +kernel
theorem dX12_pane_103 : decode cX12_pane 103 = .ok (.iload_n 1, 1) := by decide +kernel
theorem dX12_pane_104 : decode cX12_pane 104 = .ok (.iconst 1, 1) := by decide +kernel
theorem dX12_pane_105 : decode cX12_pane 105 = .ok (.iconst 0, 1) := by decide +kernel
theorem dX12_pane_106 : decode cX12_pane 106 = .ok (.invokevirtual 235, 3) := by decide +kernel
theorem dX12_pane_109 : decode cX12_pane 109 = .ok (.ireturn, 1) := by decide +kernel
theorem dX12_pane_110 : decode cX12_pane 110 = .ok (.aload_n 0, 1) := by decide +kernel
theorem dX12_pane_111 : decode cX12_pane 111 = .ok (.iload_n 1, 1) := by decide +kernel
theorem dX12_pane_112 : decode cX12_pane 112 = .ok (.iconst 0, 1) := by decide +kernel
theorem dX12_pane_113 : decode cX12_pane 113 = .ok (.iconst 0, 1) := by decide +kernel
theorem dX12_pane_114 : decode cX12_pane 114 = .ok (.invokevirtual 235, 3) := by decide +kernel
theorem dX12_pane_117 : decode cX12_pane 117 = .ok (.ireturn, 1) := by decide +kernel
theorem dX12_pane_118 : decode cX12_pane 118 = .ok (.aload_n 0, 1) := by decide +kernel
theorem dX12_pane_119 : decode cX12_pane 119 = .ok (.iload_n 1, 1) := by decide +kernel
theorem dX12_pane_120 : decode cX12_pane 120 = .ok (.invokevirtual 239, 3) := by decide +kernel
theorem dX12_pane_123 : decode cX12_pane 123 = .ok (.ireturn, 1) := by decide +kernel
theorem dX12_pane_124 : decode cX12_pane 124 = .ok (.aload_n 0, 1) := by decide +kernel
theorem dX12_pane_125 : decode cX12_pane 125 = .ok (.iload_n 1, 1) := by decide +kernel
theorem dX12_pane_126 : decode cX12_pane 126 = .ok (.invokevirtual 242, 3) := by decide +kernel
theorem dX12_pane_129 : decode cX12_pane 129 = .ok (.ireturn, 1) := by decide +kernel
theorem dX12_pane_130 : decode cX12_pane 130 = .ok (.aload_n 0, 1) := by decide +kernel
theorem dX12_pane_131 : decode cX12_pane 131 = .ok (.getfield 37, 3) := by decide +kernel
theorem dX12_pane_134 : decode cX12_pane 134 = .ok (.iload_n 1, 1) := by decide +kernel
theorem dX12_pane_135 : decode cX12_pane 135 = .ok (.iaload, 1) := by decide +kernel
theorem dX12_pane_136 : decode cX12_pane 136 = .ok (.ireturn, 1) := by decide +kernel
theorem dX12_pane_137 : decode cX12_pane 137 = .ok (.aload_n 0, 1) := by decide +kernel
theorem dX12_pane_138 : decode cX12_pane 138 = .ok (.getfield 40, 3) := by decide +kernel
theorem dX12_pane_141 : decode cX12_pane 141 = .ok (.iload_n 1, 1) := by decide +kernel
theorem dX12_pane_142 : decode cX12_pane 142 = .ok (.iaload, 1) := by decide +kernel
theorem dX12_pane_143 : decode cX12_pane 143 = .ok (.ireturn, 1) := by decide +kernel
theorem dX12_pane_144 : decode cX12_pane 144 = .ok (.aload_n 0, 1) := by decide +kernel
theorem dX12_pane_145 : decode cX12_pane 145 = .ok (.getfield 43, 3) := by decide +kernel
theorem dX12_pane_148 : decode cX12_pane 148 = .ok (.iload_n 1, 1) := by decide +kernel
theorem dX12_pane_149 : decode cX12_pane 149 = .ok (.iaload, 1) := by decide +kernel
theorem dX12_pane_150 : decode cX12_pane 150 = .ok (.ireturn, 1) := by decide +kernel
theorem dX12_pane_151 : decode cX12_pane 151 = .ok (.iconst 0, 1) := by decide +kernel
theorem dX12_pane_152 : decode cX12_pane 152 = .ok (.istore_n 3, 1) := by decide +kernel
theorem dX12_pane_153 : decode cX12_pane 153 = .ok (.iconst 0, 1) := by decide +kernel
theorem dX12_pane_154 : decode cX12_pane 154 = .ok (.istore 4, 2) := by decide +kernel
theorem dX12_pane_156 : decode cX12_pane 156 = .ok (.iload 4, 2) := by decide +kernel
theorem dX12_pane_158 : decode cX12_pane 158 = .ok (.aload_n 0, 1) := by decide +kernel
theorem dX12_pane_159 : decode cX12_pane 159 = .ok (.getfield 155, 3) := by decide +kernel
theorem dX12_pane_162 : decode cX12_pane 162 = .ok (.if_icmp .ge 29, 3) := by decide +kernel
theorem dX12_pane_165 : decode cX12_pane 165 = .ok (.iload_n 3, 1) := by decide +kernel
theorem dX12_pane_166 : decode cX12_pane 166 = .ok (.iload 4, 2) := by decide +kernel
theorem dX12_pane_168 : decode cX12_pane 168 = .ok (.iload_n 1, 1) := by decide +kernel
theorem dX12_pane_169 : decode cX12_pane 169 = .ok (.if_icmp .ne 7, 3) := by decide +kernel
theorem dX12_pane_172 : decode cX12_pane 172 = .ok (.iconst 0, 1) := by decide +kernel
theorem dX12_pane_173 : decode cX12_pane 173 = .ok (.goto 10, 3) := by decide +kernel
theorem dX12_pane_176 : decode cX12_pane 176 = .ok (.aload_n 0, 1) := by decide +kernel
theorem dX12_pane_177 : decode cX12_pane 177 = .ok (.iload_n 1, 1) := by decide +kernel
theorem dX12_pane_178 : decode cX12_pane 178 = .ok (.iload 4, 2) := by decide +kernel
theorem dX12_pane_180 : decode cX12_pane 180 = .ok (.invokevirtual 245, 3) := by decide +kernel
theorem dX12_pane_183 : decode cX12_pane 183 = .ok (.iadd, 1) := by decide +kernel
theorem dX12_pane_184 : decode cX12_pane 184 = .ok (.istore_n 3, 1) := by decide +kernel
theorem dX12_pane_185 : decode cX12_pane 185 = .ok (.iinc 4 1, 3) := by decide +kernel
theorem dX12_pane_188 : decode cX12_pane 188 = .ok (.goto (-32), 3) := by decide +kernel
theorem dX12_pane_191 : decode cX12_pane 191 = .ok (.iload_n 3, 1) := by decide +kernel
theorem dX12_pane_192 : decode cX12_pane 192 = .ok (.ireturn, 1) := by decide +kernel
theorem dX12_pane_193 : decode cX12_pane 193 = .ok (.aload_n 0, 1) := by decide +kernel
theorem dX12_pane_194 : decode cX12_pane 194 = .ok (.iload_n 1, 1) := by decide +kernel
theorem dX12_pane_195 : decode cX12_pane 195 = .ok (.iload_n 1, 1) := by decide +kernel
theorem dX12_pane_196 : decode cX12_pane 196 = .ok (.invokevirtual 245, 3) := by decide +kernel
theorem dX12_pane_199 : decode cX12_pane 199 = .ok (.ireturn, 1) := by decide +kernel
set_option maxRecDepth 20000 in
theorem ggX12_area_X12_isPane : GoodIn wsX12_area wsX12_isPane := goodIn_r _ [19, 20, 89, 90, 91, 92, 93, 94, 95, 96, 97, 98, 99, 100, 101, 102, 103, 104, 105, 106, 107, 108, 109, 110, 111, 112, 113, 114, 115, 116, 117, 118, 119, 120] rfl (by decide +kernel)
set_option maxRecDepth 20000 in
theorem gX12_area_X12_isPane : GoodIn wsX12_area (wsV RX12 223 RX12 yX12_isPane wsX12_isPane) := goodIn_app (goodIn_r ([.methodLink RX12 223 yX12_isPane, .instanceMethod yX12_isPane, .selects RX12 yX12_isPane yX12_isPane, .initialized RX12] : List Cond) [15, 16, 17, 18] rfl (by decide +kernel)) ggX12_area_X12_isPane
set_option maxRecDepth 20000 in
theorem ggX12_area_X12_answer : GoodIn wsX12_area wsX12_answer := goodIn_r _ [24, 25, 89, 90, 91, 92, 93, 94, 95, 96, 97, 98, 99, 100, 101, 102, 103, 104, 105, 106, 107, 108, 109, 110, 111, 112, 113, 114, 115, 116, 117, 118, 119, 120] rfl (by decide +kernel)
set_option maxRecDepth 20000 in
theorem gX12_area_X12_answer : GoodIn wsX12_area (wsV RX12 179 RX12 yX12_answer wsX12_answer) := goodIn_app (goodIn_r ([.methodLink RX12 179 yX12_answer, .instanceMethod yX12_answer, .selects RX12 yX12_answer yX12_answer, .initialized RX12] : List Cond) [21, 22, 23, 18] rfl (by decide +kernel)) ggX12_area_X12_answer
set_option maxRecDepth 20000 in
theorem ggX12_area_X11_set : GoodIn wsX12_area wsX11_set := goodIn_r _ [30, 31, 32, 33, 137, 138] rfl (by decide +kernel)
set_option maxRecDepth 20000 in
theorem gX12_area_X11_set : GoodIn wsX12_area (wsV RX12 248 RX11 yX11_set wsX11_set) := goodIn_app (goodIn_r ([.methodLink RX12 248 yX11_set, .instanceMethod yX11_set, .selects RX11 yX11_set yX11_set, .initialized RX11] : List Cond) [26, 27, 28, 29] rfl (by decide +kernel)) ggX12_area_X11_set
set_option maxRecDepth 20000 in
theorem ggX12_area_X12_beginOf : GoodIn wsX12_area wsX12_beginOf := goodIn_r _ [37, 6, 89, 90, 91, 92, 93, 94, 95, 96, 97, 98, 99, 100, 101, 102, 103, 104, 105, 106, 107, 108, 109, 110, 111, 112, 113, 114, 115, 116, 117, 118, 119, 120, 121, 122, 123, 124, 125, 126, 127, 128, 129, 130, 131, 132, 133, 134, 135, 136] rfl (by decide +kernel)
set_option maxRecDepth 20000 in
theorem gX12_area_X12_beginOf : GoodIn wsX12_area (wsV RX12 113 RX12 yX12_beginOf wsX12_beginOf) := goodIn_app (goodIn_r ([.methodLink RX12 113 yX12_beginOf, .instanceMethod yX12_beginOf, .selects RX12 yX12_beginOf yX12_beginOf, .initialized RX12] : List Cond) [34, 35, 36, 18] rfl (by decide +kernel)) ggX12_area_X12_beginOf
set_option maxRecDepth 20000 in
theorem ggX12_area_X12_endOf : GoodIn wsX12_area wsX12_endOf := goodIn_r _ [41, 34, 35, 36, 18, 37, 6, 89, 90, 91, 92, 93, 94, 95, 96, 97, 98, 99, 100, 101, 102, 103, 104, 105, 106, 107, 108, 109, 110, 111, 112, 113, 114, 115, 116, 117, 118, 119, 120, 121, 122, 123, 124, 125, 126, 127, 128, 129, 130, 131, 132, 133, 134, 135, 136] rfl (by decide +kernel)
set_option maxRecDepth 20000 in
theorem gX12_area_X12_endOf : GoodIn wsX12_area (wsV RX12 127 RX12 yX12_endOf wsX12_endOf) := goodIn_app (goodIn_r ([.methodLink RX12 127 yX12_endOf, .instanceMethod yX12_endOf, .selects RX12 yX12_endOf yX12_endOf, .initialized RX12] : List Cond) [38, 39, 40, 18] rfl (by decide +kernel)) ggX12_area_X12_endOf
set_option maxRecDepth 20000 in
theorem ggX12_area_X11_times : GoodIn wsX12_area wsX11_times := goodIn_r _ [45, 31, 32, 33, 46, 47, 48, 29, 49, 137, 138] rfl (by decide +kernel)
set_option maxRecDepth 20000 in
theorem gX12_area_X11_times : GoodIn wsX12_area (wsV RX12 252 RX11 yX11_times wsX11_times) := goodIn_app (goodIn_r ([.methodLink RX12 252 yX11_times, .instanceMethod yX11_times, .selects RX11 yX11_times yX11_times, .initialized RX11] : List Cond) [42, 43, 44, 29] rfl (by decide +kernel)) ggX12_area_X11_times
set_option maxRecDepth 20000 in
theorem ggX12_area_X11_copy : GoodIn wsX12_area wsX11_copy := goodIn_r _ [53, 31, 32, 137, 138] rfl (by decide +kernel)
set_option maxRecDepth 20000 in
theorem gX12_area_X11_copy : GoodIn wsX12_area (wsV RX12 255 RX11 yX11_copy wsX11_copy) := goodIn_app (goodIn_r ([.methodLink RX12 255 yX11_copy, .instanceMethod yX11_copy, .selects RX11 yX11_copy yX11_copy, .initialized RX11] : List Cond) [50, 51, 52, 29] rfl (by decide +kernel)) ggX12_area_X11_copy
set_option maxRecDepth 20000 in
theorem ggX12_area_X11_add : GoodIn wsX12_area wsX11_add := goodIn_r _ [57, 31, 58, 59, 10, 60, 32, 33, 46, 47, 48, 29, 49, 137, 138] rfl (by decide +kernel)
set_option maxRecDepth 20000 in
theorem gX12_area_X11_add : GoodIn wsX12_area (wsV RX12 259 RX11 yX11_add wsX11_add) := goodIn_app (goodIn_r ([.methodLink RX12 259 yX11_add, .instanceMethod yX11_add, .selects RX11 yX11_add yX11_add, .initialized RX11] : List Cond) [54, 55, 56, 29] rfl (by decide +kernel)) ggX12_area_X11_add
set_option maxRecDepth 20000 in
theorem ggX12_area_X12_next : GoodIn wsX12_area wsX12_next := goodIn_r _ [64, 6, 34, 35, 36, 18, 37, 38, 39, 40, 41, 65, 66, 67, 68, 69, 70, 71, 72, 73, 74, 75, 76, 77, 78, 79, 89, 90, 91, 92, 93, 94, 95, 96, 97, 98, 99, 100, 101, 102, 103, 104, 105, 106, 107, 108, 109, 110, 111, 112, 113, 114, 115, 116, 117, 118, 119, 120, 121, 122, 123, 124, 125, 126, 127, 128, 129, 130, 131, 132, 133, 134, 135, 136] rfl (by decide +kernel)
set_option maxRecDepth 20000 in
theorem gX12_area_X12_next : GoodIn wsX12_area (wsV RX12 166 RX12 yX12_next wsX12_next) := goodIn_app (goodIn_r ([.methodLink RX12 166 yX12_next, .instanceMethod yX12_next, .selects RX12 yX12_next yX12_next, .initialized RX12] : List Cond) [61, 62, 63, 18] rfl (by decide +kernel)) ggX12_area_X12_next
set_option maxRecDepth 20000 in
theorem ggX12_area_X11_less : GoodIn wsX12_area wsX11_less := goodIn_r _ [83, 31, 32, 84, 46, 47, 48, 29, 49, 137, 138] rfl (by decide +kernel)
set_option maxRecDepth 20000 in
theorem gX12_area_X11_less : GoodIn wsX12_area (wsV RX12 262 RX11 yX11_less wsX11_less) := goodIn_app (goodIn_r ([.methodLink RX12 262 yX11_less, .instanceMethod yX11_less, .selects RX11 yX11_less yX11_less, .initialized RX11] : List Cond) [80, 81, 82, 29] rfl (by decide +kernel)) ggX12_area_X11_less
set_option maxRecDepth 20000 in
theorem ggX12_area_X11_compare : GoodIn wsX12_area wsX11_compare := goodIn_r _ [88, 31, 32, 137, 138] rfl (by decide +kernel)
set_option maxRecDepth 20000 in
theorem gX12_area_X11_compare : GoodIn wsX12_area (wsV RX12 271 RX11 yX11_compare wsX11_compare) := goodIn_app (goodIn_r ([.methodLink RX12 271 yX11_compare, .instanceMethod yX11_compare, .selects RX11 yX11_compare yX11_compare, .initialized RX11] : List Cond) [85, 86, 87, 29] rfl (by decide +kernel)) ggX12_area_X11_compare
theorem dX12_area_0 : decode cX12_area 0 = .ok (.aload_n 0, 1) := by decide +kernel
theorem dX12_area_1 : decode cX12_area 1 = .ok (.getfield 182, 3) := by decide +kernel
theorem dX12_area_4 : decode cX12_area 4 = .ok (.ifCond .eq 11, 3) := by decide +kernel
theorem dX12_area_7 : decode cX12_area 7 = .ok (.aload_n 0, 1) := by decide +kernel
theorem dX12_area_8 : decode cX12_area 8 = .ok (.iload_n 1, 1) := by decide +kernel
theorem dX12_area_9 : decode cX12_area 9 = .ok (.invokevirtual 223, 3) := by decide +kernel
theorem dX12_area_12 : decode cX12_area 12 = .ok (.ifCond .ne 22, 3) := by decide +kernel
theorem dX12_area_15 : decode cX12_area 15 = .ok (.aload_n 0, 1) := by decide +kernel
theorem dX12_area_16 : decode cX12_area 16 = .ok (.aload_n 0, 1) := by decide +kernel
theorem dX12_area_17 : decode cX12_area 17 = .ok (.getfield 182, 3) := by decide +kernel
theorem dX12_area_20 : decode cX12_area 20 = .ok (.ifCond .ne 8, 3) := by decide +kernel
theorem dX12_area_23 : decode cX12_area 23 = .ok (.bipush (-4), 2) := by decide +kernel
theorem dX12_area_25 : decode cX12_area 25 = .ok (.goto 4, 3) := by decide +kernel
theorem dX12_area_28 : decode cX12_area 28 = .ok (.iconst (-1), 1) := by decide +kernel
theorem dX12_area_29 : decode cX12_area 29 = .ok (.invokevirtual 179, 3) := by decide +kernel
theorem dX12_area_32 : decode cX12_area 32 = .ok (.i2l, 1) := by decide +kernel
theorem dX12_area_33 : decode cX12_area 33 = .ok (.lreturn, 1) := by decide +kernel
theorem dX12_area_34 : decode cX12_area 34 = .ok (.aload_n 0, 1) := by decide +kernel
theorem dX12_area_35 : decode cX12_area 35 = .ok (.getfield 64, 3) := by decide +kernel
theorem dX12_area_38 : decode cX12_area 38 = .ok (.lconst 0, 1) := by decide +kernel
theorem dX12_area_39 : decode cX12_area 39 = .ok (.invokevirtual 248, 3) := by decide +kernel
theorem dX12_area_42 : decode cX12_area 42 = .ok (.aload_n 0, 1) := by decide +kernel
theorem dX12_area_43 : decode cX12_area 43 = .ok (.getfield 68, 3) := by decide +kernel
theorem dX12_area_46 : decode cX12_area 46 = .ok (.lconst 0, 1) := by decide +kernel
theorem dX12_area_47 : decode cX12_area 47 = .ok (.invokevirtual 248, 3) := by decide +kernel
theorem dX12_area_50 : decode cX12_area 50 = .ok (.aload_n 0, 1) := by decide +kernel
theorem dX12_area_51 : decode cX12_area 51 = .ok (.getfield 71, 3) := by decide +kernel
theorem dX12_area_54 : decode cX12_area 54 = .ok (.lconst 1, 1) := by decide +kernel
theorem dX12_area_55 : decode cX12_area 55 = .ok (.invokevirtual 248, 3) := by decide +kernel
theorem dX12_area_58 : decode cX12_area 58 = .ok (.aload_n 0, 1) := by decide +kernel
theorem dX12_area_59 : decode cX12_area 59 = .ok (.getfield 34, 3) := by decide +kernel
theorem dX12_area_62 : decode cX12_area 62 = .ok (.iload_n 1, 1) := by decide +kernel
theorem dX12_area_63 : decode cX12_area 63 = .ok (.iaload, 1) := by decide +kernel
theorem dX12_area_64 : decode cX12_area 64 = .ok (.istore_n 2, 1) := by decide +kernel
theorem dX12_area_65 : decode cX12_area 65 = .ok (.aload_n 0, 1) := by decide +kernel
theorem dX12_area_66 : decode cX12_area 66 = .ok (.iload_n 2, 1) := by decide +kernel
theorem dX12_area_67 : decode cX12_area 67 = .ok (.invokevirtual 113, 3) := by decide +kernel
theorem dX12_area_70 : decode cX12_area 70 = .ok (.istore_n 3, 1) := by decide +kernel
theorem dX12_area_71 : decode cX12_area 71 = .ok (.aload_n 0, 1) := by decide +kernel
theorem dX12_area_72 : decode cX12_area 72 = .ok (.iload_n 2, 1) := by decide +kernel
theorem dX12_area_73 : decode cX12_area 73 = .ok (.invokevirtual 127, 3) := by decide +kernel
theorem dX12_area_76 : decode cX12_area 76 = .ok (.istore 4, 2) := by decide +kernel
theorem dX12_area_78 : decode cX12_area 78 = .ok (.aload_n 0, 1) := by decide +kernel
theorem dX12_area_79 : decode cX12_area 79 = .ok (.getfield 16, 3) := by decide +kernel
theorem dX12_area_82 : decode cX12_area 82 = .ok (.getfield 117, 3) := by decide +kernel
theorem dX12_area_85 : decode cX12_area 85 = .ok (.iload_n 3, 1) := by decide +kernel
theorem dX12_area_86 : decode cX12_area 86 = .ok (.laload, 1) := by decide +kernel
theorem dX12_area_87 : decode cX12_area 87 = .ok (.aload_n 0, 1) := by decide +kernel
theorem dX12_area_88 : decode cX12_area 88 = .ok (.getfield 16, 3) := by decide +kernel
theorem dX12_area_91 : decode cX12_area 91 = .ok (.getfield 124, 3) := by decide +kernel
theorem dX12_area_94 : decode cX12_area 94 = .ok (.iload 4, 2) := by decide +kernel
theorem dX12_area_96 : decode cX12_area 96 = .ok (.laload, 1) := by decide +kernel
theorem dX12_area_97 : decode cX12_area 97 = .ok (.lmul, 1) := by decide +kernel
theorem dX12_area_98 : decode cX12_area 98 = .ok (.aload_n 0, 1) := by decide +kernel
theorem dX12_area_99 : decode cX12_area 99 = .ok (.getfield 16, 3) := by decide +kernel
theorem dX12_area_102 : decode cX12_area 102 = .ok (.getfield 117, 3) := by decide +kernel
theorem dX12_area_105 : decode cX12_area 105 = .ok (.iload 4, 2) := by decide +kernel
theorem dX12_area_107 : decode cX12_area 107 = .ok (.laload, 1) := by decide +kernel
theorem dX12_area_108 : decode cX12_area 108 = .ok (.aload_n 0, 1) := by decide +kernel
theorem dX12_area_109 : decode cX12_area 109 = .ok (.getfield 16, 3) := by decide +kernel
theorem dX12_area_112 : decode cX12_area 112 = .ok (.getfield 124, 3) := by decide +kernel
theorem dX12_area_115 : decode cX12_area 115 = .ok (.iload_n 3, 1) := by decide +kernel
theorem dX12_area_116 : decode cX12_area 116 = .ok (.laload, 1) := by decide +kernel
theorem dX12_area_117 : decode cX12_area 117 = .ok (.lmul, 1) := by decide +kernel
theorem dX12_area_118 : decode cX12_area 118 = .ok (.lsub, 1) := by decide +kernel
theorem dX12_area_119 : decode cX12_area 119 = .ok (.lstore 5, 2) := by decide +kernel
theorem dX12_area_121 : decode cX12_area 121 = .ok (.aload_n 0, 1) := by decide +kernel
theorem dX12_area_122 : decode cX12_area 122 = .ok (.getfield 64, 3) := by decide +kernel
theorem dX12_area_125 : decode cX12_area 125 = .ok (.aload_n 0, 1) := by decide +kernel
theorem dX12_area_126 : decode cX12_area 126 = .ok (.getfield 16, 3) := by decide +kernel
theorem dX12_area_129 : decode cX12_area 129 = .ok (.getfield 121, 3) := by decide +kernel
theorem dX12_area_132 : decode cX12_area 132 = .ok (.iload_n 3, 1) := by decide +kernel
theorem dX12_area_133 : decode cX12_area 133 = .ok (.laload, 1) := by decide +kernel
theorem dX12_area_134 : decode cX12_area 134 = .ok (.invokevirtual 252, 3) := by decide +kernel
theorem dX12_area_137 : decode cX12_area 137 = .ok (.aload_n 0, 1) := by decide +kernel
theorem dX12_area_138 : decode cX12_area 138 = .ok (.getfield 64, 3) := by decide +kernel
theorem dX12_area_141 : decode cX12_area 141 = .ok (.aload_n 0, 1) := by decide +kernel
theorem dX12_area_142 : decode cX12_area 142 = .ok (.getfield 16, 3) := by decide +kernel
theorem dX12_area_145 : decode cX12_area 145 = .ok (.getfield 121, 3) := by decide +kernel
theorem dX12_area_148 : decode cX12_area 148 = .ok (.iload 4, 2) := by decide +kernel
theorem dX12_area_150 : decode cX12_area 150 = .ok (.laload, 1) := by decide +kernel
theorem dX12_area_151 : decode cX12_area 151 = .ok (.invokevirtual 252, 3) := by decide +kernel
theorem dX12_area_154 : decode cX12_area 154 = .ok (.aload_n 0, 1) := by decide +kernel
theorem dX12_area_155 : decode cX12_area 155 = .ok (.getfield 68, 3) := by decide +kernel
theorem dX12_area_158 : decode cX12_area 158 = .ok (.aload_n 0, 1) := by decide +kernel
theorem dX12_area_159 : decode cX12_area 159 = .ok (.getfield 16, 3) := by decide +kernel
theorem dX12_area_162 : decode cX12_area 162 = .ok (.getfield 121, 3) := by decide +kernel
theorem dX12_area_165 : decode cX12_area 165 = .ok (.iload_n 3, 1) := by decide +kernel
theorem dX12_area_166 : decode cX12_area 166 = .ok (.laload, 1) := by decide +kernel
theorem dX12_area_167 : decode cX12_area 167 = .ok (.invokevirtual 252, 3) := by decide +kernel
theorem dX12_area_170 : decode cX12_area 170 = .ok (.aload_n 0, 1) := by decide +kernel
theorem dX12_area_171 : decode cX12_area 171 = .ok (.getfield 68, 3) := by decide +kernel
theorem dX12_area_174 : decode cX12_area 174 = .ok (.aload_n 0, 1) := by decide +kernel
theorem dX12_area_175 : decode cX12_area 175 = .ok (.getfield 16, 3) := by decide +kernel
theorem dX12_area_178 : decode cX12_area 178 = .ok (.getfield 121, 3) := by decide +kernel
theorem dX12_area_181 : decode cX12_area 181 = .ok (.iload 4, 2) := by decide +kernel
theorem dX12_area_183 : decode cX12_area 183 = .ok (.laload, 1) := by decide +kernel
theorem dX12_area_184 : decode cX12_area 184 = .ok (.invokevirtual 252, 3) := by decide +kernel
theorem dX12_area_187 : decode cX12_area 187 = .ok (.aload_n 0, 1) := by decide +kernel
theorem dX12_area_188 : decode cX12_area 188 = .ok (.getfield 74, 3) := by decide +kernel
theorem dX12_area_191 : decode cX12_area 191 = .ok (.aload_n 0, 1) := by decide +kernel
theorem dX12_area_192 : decode cX12_area 192 = .ok (.getfield 71, 3) := by decide +kernel
theorem dX12_area_195 : decode cX12_area 195 = .ok (.invokevirtual 255, 3) := by decide +kernel
theorem dX12_area_198 : decode cX12_area 198 = .ok (.aload_n 0, 1) := by decide +kernel
theorem dX12_area_199 : decode cX12_area 199 = .ok (.getfield 74, 3) := by decide +kernel
theorem dX12_area_202 : decode cX12_area 202 = .ok (.lload 5, 2) := by decide +kernel
theorem dX12_area_204 : decode cX12_area 204 = .ok (.invokestatic 1, 3) := by decide +kernel
theorem dX12_area_207 : decode cX12_area 207 = .ok (.invokevirtual 252, 3) := by decide +kernel
theorem dX12_area_210 : decode cX12_area 210 = .ok (.lload 5, 2) := by decide +kernel
theorem dX12_area_212 : decode cX12_area 212 = .ok (.lconst 0, 1) := by decide +kernel
theorem dX12_area_213 : decode cX12_area 213 = .ok (.lcmp, 1) := by decide +kernel
theorem dX12_area_214 : decode cX12_area 214 = .ok (.ifCond .le 17, 3) := by decide +kernel
theorem dX12_area_217 : decode cX12_area 217 = .ok (.aload_n 0, 1) := by decide +kernel
theorem dX12_area_218 : decode cX12_area 218 = .ok (.getfield 64, 3) := by decide +kernel
theorem dX12_area_221 : decode cX12_area 221 = .ok (.aload_n 0, 1) := by decide +kernel
theorem dX12_area_222 : decode cX12_area 222 = .ok (.getfield 74, 3) := by decide +kernel
theorem dX12_area_225 : decode cX12_area 225 = .ok (.invokevirtual 259, 3) := by decide +kernel
theorem dX12_area_228 : decode cX12_area 228 = .ok (.goto 14, 3) := by decide +kernel
theorem dX12_area_231 : decode cX12_area 231 = .ok (.aload_n 0, 1) := by decide +kernel
theorem dX12_area_232 : decode cX12_area 232 = .ok (.getfield 68, 3) := by decide +kernel
theorem dX12_area_235 : decode cX12_area 235 = .ok (.aload_n 0, 1) := by decide +kernel
theorem dX12_area_236 : decode cX12_area 236 = .ok (.getfield 74, 3) := by decide +kernel
theorem dX12_area_239 : decode cX12_area 239 = .ok (.invokevirtual 259, 3) := by decide +kernel
theorem dX12_area_242 : decode cX12_area 242 = .ok (.aload_n 0, 1) := by decide +kernel
theorem dX12_area_243 : decode cX12_area 243 = .ok (.getfield 71, 3) := by decide +kernel
theorem dX12_area_246 : decode cX12_area 246 = .ok (.aload_n 0, 1) := by decide +kernel
theorem dX12_area_247 : decode cX12_area 247 = .ok (.getfield 16, 3) := by decide +kernel
theorem dX12_area_250 : decode cX12_area 250 = .ok (.getfield 121, 3) := by decide +kernel
theorem dX12_area_253 : decode cX12_area 253 = .ok (.iload_n 3, 1) := by decide +kernel
theorem dX12_area_254 : decode cX12_area 254 = .ok (.laload, 1) := by decide +kernel
theorem dX12_area_255 : decode cX12_area 255 = .ok (.invokevirtual 252, 3) := by decide +kernel
theorem dX12_area_258 : decode cX12_area 258 = .ok (.aload_n 0, 1) := by decide +kernel
theorem dX12_area_259 : decode cX12_area 259 = .ok (.getfield 71, 3) := by decide +kernel
theorem dX12_area_262 : decode cX12_area 262 = .ok (.aload_n 0, 1) := by decide +kernel
theorem dX12_area_263 : decode cX12_area 263 = .ok (.getfield 16, 3) := by decide +kernel
theorem dX12_area_266 : decode cX12_area 266 = .ok (.getfield 121, 3) := by decide +kernel
theorem dX12_area_269 : decode cX12_area 269 = .ok (.iload 4, 2) := by decide +kernel
theorem dX12_area_271 : decode cX12_area 271 = .ok (.laload, 1) := by decide +kernel
theorem dX12_area_272 : decode cX12_area 272 = .ok (.invokevirtual 252, 3) := by decide +kernel
theorem dX12_area_275 : decode cX12_area 275 = .ok (.aload_n 0, 1) := by decide +kernel
theorem dX12_area_276 : decode cX12_area 276 = .ok (.iload_n 2, 1) := by decide +kernel
theorem dX12_area_277 : decode cX12_area 277 = .ok (.invokevirtual 166, 3) := by decide +kernel
theorem dX12_area_280 : decode cX12_area 280 = .ok (.istore_n 2, 1) := by decide +kernel
theorem dX12_area_281 : decode cX12_area 281 = .ok (.iload_n 2, 1) := by decide +kernel
theorem dX12_area_282 : decode cX12_area 282 = .ok (.aload_n 0, 1) := by decide +kernel
theorem dX12_area_283 : decode cX12_area 283 = .ok (.getfield 34, 3) := by decide +kernel
theorem dX12_area_286 : decode cX12_area 286 = .ok (.iload_n 1, 1) := by decide +kernel
theorem dX12_area_287 : decode cX12_area 287 = .ok (.iaload, 1) := by decide +kernel
theorem dX12_area_288 : decode cX12_area 288 = .ok (.if_icmp .ne (-223), 3) := by decide +kernel
theorem dX12_area_291 : decode cX12_area 291 = .ok (.aload_n 0, 1) := by decide +kernel
theorem dX12_area_292 : decode cX12_area 292 = .ok (.getfield 64, 3) := by decide +kernel
theorem dX12_area_295 : decode cX12_area 295 = .ok (.aload_n 0, 1) := by decide +kernel
theorem dX12_area_296 : decode cX12_area 296 = .ok (.getfield 68, 3) := by decide +kernel
theorem dX12_area_299 : decode cX12_area 299 = .ok (.invokevirtual 262, 3) := by decide +kernel
theorem dX12_area_302 : decode cX12_area 302 = .ok (.aload_n 0, 1) := by decide +kernel
theorem dX12_area_303 : decode cX12_area 303 = .ok (.getfield 64, 3) := by decide +kernel
theorem dX12_area_306 : decode cX12_area 306 = .ok (.ldc2_w 265, 3) := by decide +kernel
theorem dX12_area_309 : decode cX12_area 309 = .ok (.invokevirtual 252, 3) := by decide +kernel
theorem dX12_area_312 : decode cX12_area 312 = .ok (.lconst 0, 1) := by decide +kernel
theorem dX12_area_313 : decode cX12_area 313 = .ok (.lstore_n 3, 1) := by decide +kernel
theorem dX12_area_314 : decode cX12_area 314 = .ok (.ldc2_w 267, 3) := by decide +kernel
theorem dX12_area_317 : decode cX12_area 317 = .ok (.lstore 5, 2) := by decide +kernel
theorem dX12_area_319 : decode cX12_area 319 = .ok (.lload 5, 2) := by decide +kernel
theorem dX12_area_321 : decode cX12_area 321 = .ok (.lload_n 3, 1) := by decide +kernel
theorem dX12_area_322 : decode cX12_area 322 = .ok (.lsub, 1) := by decide +kernel
theorem dX12_area_323 : decode cX12_area 323 = .ok (.lconst 1, 1) := by decide +kernel
theorem dX12_area_324 : decode cX12_area 324 = .ok (.lcmp, 1) := by decide +kernel
theorem dX12_area_325 : decode cX12_area 325 = .ok (.ifCond .le 60, 3) := by decide +kernel
theorem dX12_area_328 : decode cX12_area 328 = .ok (.lload_n 3, 1) := by decide +kernel
theorem dX12_area_329 : decode cX12_area 329 = .ok (.lload 5, 2) := by decide +kernel
theorem dX12_area_331 : decode cX12_area 331 = .ok (.ladd, 1) := by decide +kernel
theorem dX12_area_332 : decode cX12_area 332 = .ok (.ldc2_w 269, 3) := by decide +kernel
theorem dX12_area_335 : decode cX12_area 335 = .ok (.ldiv, 1) := by decide +kernel
theorem dX12_area_336 : decode cX12_area 336 = .ok (.lstore 7, 2) := by decide +kernel
theorem dX12_area_338 : decode cX12_area 338 = .ok (.aload_n 0, 1) := by decide +kernel
theorem dX12_area_339 : decode cX12_area 339 = .ok (.getfield 74, 3) := by decide +kernel
theorem dX12_area_342 : decode cX12_area 342 = .ok (.aload_n 0, 1) := by decide +kernel
theorem dX12_area_343 : decode cX12_area 343 = .ok (.getfield 71, 3) := by decide +kernel
theorem dX12_area_346 : decode cX12_area 346 = .ok (.invokevirtual 255, 3) := by decide +kernel
theorem dX12_area_349 : decode cX12_area 349 = .ok (.aload_n 0, 1) := by decide +kernel
theorem dX12_area_350 : decode cX12_area 350 = .ok (.getfield 74, 3) := by decide +kernel
theorem dX12_area_353 : decode cX12_area 353 = .ok (.lload 7, 2) := by decide +kernel
theorem dX12_area_355 : decode cX12_area 355 = .ok (.invokevirtual 252, 3) := by decide +kernel
theorem dX12_area_358 : decode cX12_area 358 = .ok (.aload_n 0, 1) := by decide +kernel
theorem dX12_area_359 : decode cX12_area 359 = .ok (.getfield 74, 3) := by decide +kernel
theorem dX12_area_362 : decode cX12_area 362 = .ok (.aload_n 0, 1) := by decide +kernel
theorem dX12_area_363 : decode cX12_area 363 = .ok (.getfield 64, 3) := by decide +kernel
theorem dX12_area_366 : decode cX12_area 366 = .ok (.invokevirtual 271, 3) := by decide +kernel
theorem dX12_area_369 : decode cX12_area 369 = .ok (.ifCond .gt 9, 3) := by decide +kernel
theorem dX12_area_372 : decode cX12_area 372 = .ok (.lload 7, 2) := by decide +kernel
theorem dX12_area_374 : decode cX12_area 374 = .ok (.lstore_n 3, 1) := by decide +kernel
theorem dX12_area_375 : decode cX12_area 375 = .ok (.goto 7, 3) := by decide +kernel
theorem dX12_area_378 : decode cX12_area 378 = .ok (.lload 7, 2) := by decide +kernel
theorem dX12_area_380 : decode cX12_area 380 = .ok (.lstore 5, 2) := by decide +kernel
theorem dX12_area_382 : decode cX12_area 382 = .ok (.goto (-63), 3) := by decide +kernel
theorem dX12_area_385 : decode cX12_area 385 = .ok (.lload_n 3, 1) := by decide +kernel
theorem dX12_area_386 : decode cX12_area 386 = .ok (.lreturn, 1) := by decide +kernel
set_option maxRecDepth 20000 in
theorem ggX12_touch_X12_isPane : GoodIn wsX12_touch wsX12_isPane := goodIn_r _ [6, 7, 19, 20, 21, 22, 23, 24, 25, 26, 27, 28, 29, 30, 31, 32, 33, 34, 35, 36, 37, 38, 39, 40, 41, 42, 43, 44, 45, 46, 47, 48, 49, 50] rfl (by decide +kernel)
set_option maxRecDepth 20000 in
theorem gX12_touch_X12_isPane : GoodIn wsX12_touch (wsV RX12 223 RX12 yX12_isPane wsX12_isPane) := goodIn_app (goodIn_r ([.methodLink RX12 223 yX12_isPane, .instanceMethod yX12_isPane, .selects RX12 yX12_isPane yX12_isPane, .initialized RX12] : List Cond) [2, 3, 4, 5] rfl (by decide +kernel)) ggX12_touch_X12_isPane
set_option maxRecDepth 20000 in
theorem ggX12_touch_X12_answer : GoodIn wsX12_touch wsX12_answer := goodIn_r _ [11, 12, 19, 20, 21, 22, 23, 24, 25, 26, 27, 28, 29, 30, 31, 32, 33, 34, 35, 36, 37, 38, 39, 40, 41, 42, 43, 44, 45, 46, 47, 48, 49, 50] rfl (by decide +kernel)
set_option maxRecDepth 20000 in
theorem gX12_touch_X12_answer : GoodIn wsX12_touch (wsV RX12 179 RX12 yX12_answer wsX12_answer) := goodIn_app (goodIn_r ([.methodLink RX12 179 yX12_answer, .instanceMethod yX12_answer, .selects RX12 yX12_answer yX12_answer, .initialized RX12] : List Cond) [8, 9, 10, 5] rfl (by decide +kernel)) ggX12_touch_X12_answer
set_option maxRecDepth 20000 in
theorem ggX12_touch_X12_touched : GoodIn wsX12_touch wsX12_touched := goodIn_r _ [16, 17, 18, 19, 20, 21, 22, 23, 24, 25, 26, 27, 28, 29, 30, 31, 32, 33, 34, 35, 36, 37, 38, 39, 40, 41, 42, 43, 44, 45, 46, 47, 48, 49, 50, 51, 52, 53, 54, 55, 56, 57, 58, 59, 60, 61, 62, 63, 64, 65, 66] rfl (by decide +kernel)
set_option maxRecDepth 20000 in
theorem gX12_touch_X12_touched : GoodIn wsX12_touch (wsV RX12 245 RX12 yX12_touched wsX12_touched) := goodIn_app (goodIn_r ([.methodLink RX12 245 yX12_touched, .instanceMethod yX12_touched, .selects RX12 yX12_touched yX12_touched, .initialized RX12] : List Cond) [13, 14, 15, 5] rfl (by decide +kernel)) ggX12_touch_X12_touched
theorem dX12_touch_0 : decode cX12_touch 0 = .ok (.aload_n 0, 1) := by decide +kernel
theorem dX12_touch_1 : decode cX12_touch 1 = .ok (.getfield 182, 3) := by decide +kernel
theorem dX12_touch_4 : decode cX12_touch 4 = .ok (.ifCond .eq 19, 3) := by decide +kernel
theorem dX12_touch_7 : decode cX12_touch 7 = .ok (.aload_n 0, 1) := by decide +kernel
theorem dX12_touch_8 : decode cX12_touch 8 = .ok (.iload_n 1, 1) := by decide +kernel
theorem dX12_touch_9 : decode cX12_touch 9 = .ok (.invokevirtual 223, 3) := by decide +kernel
theorem dX12_touch_12 : decode cX12_touch 12 = .ok (.ifCond .eq 11, 3) := by decide +kernel
theorem dX12_touch_15 : decode cX12_touch 15 = .ok (.aload_n 0, 1) := by decide +kernel
theorem dX12_touch_16 : decode cX12_touch 16 = .ok (.iload_n 2, 1) := by decide +kernel
theorem dX12_touch_17 : decode cX12_touch 17 = .ok (.invokevirtual 223, 3) := by decide +kernel
theorem dX12_touch_20 : decode cX12_touch 20 = .ok (.ifCond .ne 21, 3) := by decide +kernel
theorem dX12_touch_23 : decode cX12_touch 23 = .ok (.aload_n 0, 1) := by decide +kernel
theorem dX12_touch_24 : decode cX12_touch 24 = .ok (.aload_n 0, 1) := by decide +kernel
theorem dX12_touch_25 : decode cX12_touch 25 = .ok (.getfield 182, 3) := by decide +kernel
theorem dX12_touch_28 : decode cX12_touch 28 = .ok (.ifCond .ne 8, 3) := by decide +kernel
theorem dX12_touch_31 : decode cX12_touch 31 = .ok (.bipush (-4), 2) := by decide +kernel
theorem dX12_touch_33 : decode cX12_touch 33 = .ok (.goto 4, 3) := by decide +kernel
theorem dX12_touch_36 : decode cX12_touch 36 = .ok (.iconst (-1), 1) := by decide +kernel
theorem dX12_touch_37 : decode cX12_touch 37 = .ok (.invokevirtual 179, 3) := by decide +kernel
theorem dX12_touch_40 : decode cX12_touch 40 = .ok (.ireturn, 1) := by decide +kernel
theorem dX12_touch_41 : decode cX12_touch 41 = .ok (.aload_n 0, 1) := by decide +kernel
theorem dX12_touch_42 : decode cX12_touch 42 = .ok (.iload_n 1, 1) := by decide +kernel
theorem dX12_touch_43 : decode cX12_touch 43 = .ok (.iload_n 2, 1) := by decide +kernel
theorem dX12_touch_44 : decode cX12_touch 44 = .ok (.invokevirtual 245, 3) := by decide +kernel
theorem dX12_touch_47 : decode cX12_touch 47 = .ok (.ireturn, 1) := by decide +kernel
set_option maxRecDepth 20000 in
theorem ggX12_isOnPiece_X12_wayX : GoodIn wsX12_isOnPiece wsX12_wayX := goodIn_r _ [7, 1, 12, 13, 14, 15, 16, 17, 18, 19, 20, 21, 22, 23, 24, 25, 26, 27, 28, 29, 30, 31, 32, 33, 34, 35, 36, 37, 38, 39, 40, 41, 42, 43, 44, 45, 46, 47, 48, 49, 50, 51, 52, 53, 54, 55, 56, 57, 58, 59] rfl (by decide +kernel)
set_option maxRecDepth 20000 in
theorem gX12_isOnPiece_X12_wayX : GoodIn wsX12_isOnPiece (wsV RX12 130 RX12 yX12_wayX wsX12_wayX) := goodIn_app (goodIn_r ([.methodLink RX12 130 yX12_wayX, .instanceMethod yX12_wayX, .selects RX12 yX12_wayX yX12_wayX, .initialized RX12] : List Cond) [3, 4, 5, 6] rfl (by decide +kernel)) ggX12_isOnPiece_X12_wayX
set_option maxRecDepth 20000 in
theorem ggX12_isOnPiece_X12_wayY : GoodIn wsX12_isOnPiece wsX12_wayY := goodIn_r _ [11, 1, 12, 13, 14, 15, 16, 17, 18, 19, 20, 21, 22, 23, 24, 25, 26, 27, 28, 29, 30, 31, 32, 33, 34, 35, 36, 37, 38, 39, 40, 41, 42, 43, 44, 45, 46, 47, 48, 49, 50, 51, 52, 53, 54, 55, 56, 57, 58, 59] rfl (by decide +kernel)
set_option maxRecDepth 20000 in
theorem gX12_isOnPiece_X12_wayY : GoodIn wsX12_isOnPiece (wsV RX12 134 RX12 yX12_wayY wsX12_wayY) := goodIn_app (goodIn_r ([.methodLink RX12 134 yX12_wayY, .instanceMethod yX12_wayY, .selects RX12 yX12_wayY yX12_wayY, .initialized RX12] : List Cond) [8, 9, 10, 6] rfl (by decide +kernel)) ggX12_isOnPiece_X12_wayY
theorem dX12_isOnPiece_0 : decode cX12_isOnPiece 0 = .ok (.aload_n 0, 1) := by decide +kernel
theorem dX12_isOnPiece_1 : decode cX12_isOnPiece 1 = .ok (.getfield 16, 3) := by decide +kernel
theorem dX12_isOnPiece_4 : decode cX12_isOnPiece 4 = .ok (.getfield 107, 3) := by decide +kernel
theorem dX12_isOnPiece_7 : decode cX12_isOnPiece 7 = .ok (.iload_n 1, 1) := by decide +kernel
theorem dX12_isOnPiece_8 : decode cX12_isOnPiece 8 = .ok (.iaload, 1) := by decide +kernel
theorem dX12_isOnPiece_9 : decode cX12_isOnPiece 9 = .ok (.istore 6, 2) := by decide +kernel
theorem dX12_isOnPiece_11 : decode cX12_isOnPiece 11 = .ok (.aload_n 0, 1) := by decide +kernel
theorem dX12_isOnPiece_12 : decode cX12_isOnPiece 12 = .ok (.getfield 16, 3) := by decide +kernel
theorem dX12_isOnPiece_15 : decode cX12_isOnPiece 15 = .ok (.getfield 110, 3) := by decide +kernel
theorem dX12_isOnPiece_18 : decode cX12_isOnPiece 18 = .ok (.iload_n 1, 1) := by decide +kernel
theorem dX12_isOnPiece_19 : decode cX12_isOnPiece 19 = .ok (.iaload, 1) := by decide +kernel
theorem dX12_isOnPiece_20 : decode cX12_isOnPiece 20 = .ok (.istore 7, 2) := by decide +kernel
theorem dX12_isOnPiece_22 : decode cX12_isOnPiece 22 = .ok (.aload_n 0, 1) := by decide +kernel
theorem dX12_isOnPiece_23 : decode cX12_isOnPiece 23 = .ok (.iload 6, 2) := by decide +kernel
theorem dX12_isOnPiece_25 : decode cX12_isOnPiece 25 = .ok (.iload 7, 2) := by decide +kernel
theorem dX12_isOnPiece_27 : decode cX12_isOnPiece 27 = .ok (.invokevirtual 130, 3) := by decide +kernel
theorem dX12_isOnPiece_30 : decode cX12_isOnPiece 30 = .ok (.lstore 8, 2) := by decide +kernel
theorem dX12_isOnPiece_32 : decode cX12_isOnPiece 32 = .ok (.aload_n 0, 1) := by decide +kernel
theorem dX12_isOnPiece_33 : decode cX12_isOnPiece 33 = .ok (.iload 6, 2) := by decide +kernel
theorem dX12_isOnPiece_35 : decode cX12_isOnPiece 35 = .ok (.iload 7, 2) := by decide +kernel
theorem dX12_isOnPiece_37 : decode cX12_isOnPiece 37 = .ok (.invokevirtual 134, 3) := by decide +kernel
theorem dX12_isOnPiece_40 : decode cX12_isOnPiece 40 = .ok (.lstore 10, 2) := by decide +kernel
theorem dX12_isOnPiece_42 : decode cX12_isOnPiece 42 = .ok (.lload_n 2, 1) := by decide +kernel
theorem dX12_isOnPiece_43 : decode cX12_isOnPiece 43 = .ok (.aload_n 0, 1) := by decide +kernel
theorem dX12_isOnPiece_44 : decode cX12_isOnPiece 44 = .ok (.getfield 16, 3) := by decide +kernel
theorem dX12_isOnPiece_47 : decode cX12_isOnPiece 47 = .ok (.getfield 121, 3) := by decide +kernel
theorem dX12_isOnPiece_50 : decode cX12_isOnPiece 50 = .ok (.iload 6, 2) := by decide +kernel
theorem dX12_isOnPiece_52 : decode cX12_isOnPiece 52 = .ok (.laload, 1) := by decide +kernel
theorem dX12_isOnPiece_53 : decode cX12_isOnPiece 53 = .ok (.lmul, 1) := by decide +kernel
theorem dX12_isOnPiece_54 : decode cX12_isOnPiece 54 = .ok (.ldc2_w 269, 3) := by decide +kernel
theorem dX12_isOnPiece_57 : decode cX12_isOnPiece 57 = .ok (.aload_n 0, 1) := by decide +kernel
theorem dX12_isOnPiece_58 : decode cX12_isOnPiece 58 = .ok (.getfield 16, 3) := by decide +kernel
theorem dX12_isOnPiece_61 : decode cX12_isOnPiece 61 = .ok (.getfield 117, 3) := by decide +kernel
theorem dX12_isOnPiece_64 : decode cX12_isOnPiece 64 = .ok (.iload 6, 2) := by decide +kernel
theorem dX12_isOnPiece_66 : decode cX12_isOnPiece 66 = .ok (.laload, 1) := by decide +kernel
theorem dX12_isOnPiece_67 : decode cX12_isOnPiece 67 = .ok (.lmul, 1) := by decide +kernel
theorem dX12_isOnPiece_68 : decode cX12_isOnPiece 68 = .ok (.lsub, 1) := by decide +kernel
theorem dX12_isOnPiece_69 : decode cX12_isOnPiece 69 = .ok (.lstore 12, 2) := by decide +kernel
theorem dX12_isOnPiece_71 : decode cX12_isOnPiece 71 = .ok (.lload 4, 2) := by decide +kernel
theorem dX12_isOnPiece_73 : decode cX12_isOnPiece 73 = .ok (.aload_n 0, 1) := by decide +kernel
theorem dX12_isOnPiece_74 : decode cX12_isOnPiece 74 = .ok (.getfield 16, 3) := by decide +kernel
theorem dX12_isOnPiece_77 : decode cX12_isOnPiece 77 = .ok (.getfield 121, 3) := by decide +kernel
theorem dX12_isOnPiece_80 : decode cX12_isOnPiece 80 = .ok (.iload 6, 2) := by decide +kernel
theorem dX12_isOnPiece_82 : decode cX12_isOnPiece 82 = .ok (.laload, 1) := by decide +kernel
theorem dX12_isOnPiece_83 : decode cX12_isOnPiece 83 = .ok (.lmul, 1) := by decide +kernel
theorem dX12_isOnPiece_84 : decode cX12_isOnPiece 84 = .ok (.ldc2_w 269, 3) := by decide +kernel
theorem dX12_isOnPiece_87 : decode cX12_isOnPiece 87 = .ok (.aload_n 0, 1) := by decide +kernel
theorem dX12_isOnPiece_88 : decode cX12_isOnPiece 88 = .ok (.getfield 16, 3) := by decide +kernel
theorem dX12_isOnPiece_91 : decode cX12_isOnPiece 91 = .ok (.getfield 124, 3) := by decide +kernel
theorem dX12_isOnPiece_94 : decode cX12_isOnPiece 94 = .ok (.iload 6, 2) := by decide +kernel
theorem dX12_isOnPiece_96 : decode cX12_isOnPiece 96 = .ok (.laload, 1) := by decide +kernel
theorem dX12_isOnPiece_97 : decode cX12_isOnPiece 97 = .ok (.lmul, 1) := by decide +kernel
theorem dX12_isOnPiece_98 : decode cX12_isOnPiece 98 = .ok (.lsub, 1) := by decide +kernel
theorem dX12_isOnPiece_99 : decode cX12_isOnPiece 99 = .ok (.lstore 14, 2) := by decide +kernel
theorem dX12_isOnPiece_101 : decode cX12_isOnPiece 101 = .ok (.lload 12, 2) := by decide +kernel
theorem dX12_isOnPiece_103 : decode cX12_isOnPiece 103 = .ok (.lload 8, 2) := by decide +kernel
theorem dX12_isOnPiece_105 : decode cX12_isOnPiece 105 = .ok (.lmul, 1) := by decide +kernel
theorem dX12_isOnPiece_106 : decode cX12_isOnPiece 106 = .ok (.lload 14, 2) := by decide +kernel
theorem dX12_isOnPiece_108 : decode cX12_isOnPiece 108 = .ok (.lload 10, 2) := by decide +kernel
theorem dX12_isOnPiece_110 : decode cX12_isOnPiece 110 = .ok (.lmul, 1) := by decide +kernel
theorem dX12_isOnPiece_111 : decode cX12_isOnPiece 111 = .ok (.ladd, 1) := by decide +kernel
theorem dX12_isOnPiece_112 : decode cX12_isOnPiece 112 = .ok (.lstore 16, 2) := by decide +kernel
theorem dX12_isOnPiece_114 : decode cX12_isOnPiece 114 = .ok (.lload 12, 2) := by decide +kernel
theorem dX12_isOnPiece_116 : decode cX12_isOnPiece 116 = .ok (.lload 10, 2) := by decide +kernel
theorem dX12_isOnPiece_118 : decode cX12_isOnPiece 118 = .ok (.lmul, 1) := by decide +kernel
theorem dX12_isOnPiece_119 : decode cX12_isOnPiece 119 = .ok (.lload 14, 2) := by decide +kernel
theorem dX12_isOnPiece_121 : decode cX12_isOnPiece 121 = .ok (.lload 8, 2) := by decide +kernel
theorem dX12_isOnPiece_123 : decode cX12_isOnPiece 123 = .ok (.lmul, 1) := by decide +kernel
theorem dX12_isOnPiece_124 : decode cX12_isOnPiece 124 = .ok (.lcmp, 1) := by decide +kernel
theorem dX12_isOnPiece_125 : decode cX12_isOnPiece 125 = .ok (.ifCond .ne 46, 3) := by decide +kernel
theorem dX12_isOnPiece_128 : decode cX12_isOnPiece 128 = .ok (.lload 16, 2) := by decide +kernel
theorem dX12_isOnPiece_130 : decode cX12_isOnPiece 130 = .ok (.lconst 0, 1) := by decide +kernel
theorem dX12_isOnPiece_131 : decode cX12_isOnPiece 131 = .ok (.lcmp, 1) := by decide +kernel
theorem dX12_isOnPiece_132 : decode cX12_isOnPiece 132 = .ok (.ifCond .lt 39, 3) := by decide +kernel
theorem dX12_isOnPiece_135 : decode cX12_isOnPiece 135 = .ok (.lload 16, 2) := by decide +kernel
theorem dX12_isOnPiece_137 : decode cX12_isOnPiece 137 = .ok (.aload_n 0, 1) := by decide +kernel
theorem dX12_isOnPiece_138 : decode cX12_isOnPiece 138 = .ok (.getfield 16, 3) := by decide +kernel
theorem dX12_isOnPiece_141 : decode cX12_isOnPiece 141 = .ok (.getfield 121, 3) := by decide +kernel
theorem dX12_isOnPiece_144 : decode cX12_isOnPiece 144 = .ok (.iload 7, 2) := by decide +kernel
theorem dX12_isOnPiece_146 : decode cX12_isOnPiece 146 = .ok (.laload, 1) := by decide +kernel
theorem dX12_isOnPiece_147 : decode cX12_isOnPiece 147 = .ok (.lmul, 1) := by decide +kernel
theorem dX12_isOnPiece_148 : decode cX12_isOnPiece 148 = .ok (.ldc2_w 269, 3) := by decide +kernel
theorem dX12_isOnPiece_151 : decode cX12_isOnPiece 151 = .ok (.lload 8, 2) := by decide +kernel
theorem dX12_isOnPiece_153 : decode cX12_isOnPiece 153 = .ok (.lload 8, 2) := by decide +kernel
theorem dX12_isOnPiece_155 : decode cX12_isOnPiece 155 = .ok (.lmul, 1) := by decide +kernel
theorem dX12_isOnPiece_156 : decode cX12_isOnPiece 156 = .ok (.lload 10, 2) := by decide +kernel
theorem dX12_isOnPiece_158 : decode cX12_isOnPiece 158 = .ok (.lload 10, 2) := by decide +kernel
theorem dX12_isOnPiece_160 : decode cX12_isOnPiece 160 = .ok (.lmul, 1) := by decide +kernel
theorem dX12_isOnPiece_161 : decode cX12_isOnPiece 161 = .ok (.ladd, 1) := by decide +kernel
theorem dX12_isOnPiece_162 : decode cX12_isOnPiece 162 = .ok (.lmul, 1) := by decide +kernel
theorem dX12_isOnPiece_163 : decode cX12_isOnPiece 163 = .ok (.lcmp, 1) := by decide +kernel
theorem dX12_isOnPiece_164 : decode cX12_isOnPiece 164 = .ok (.ifCond .gt 7, 3) := by decide +kernel
theorem dX12_isOnPiece_167 : decode cX12_isOnPiece 167 = .ok (.iconst 1, 1) := by decide +kernel
theorem dX12_isOnPiece_168 : decode cX12_isOnPiece 168 = .ok (.goto 4, 3) := by decide +kernel
theorem dX12_isOnPiece_171 : decode cX12_isOnPiece 171 = .ok (.iconst 0, 1) := by decide +kernel
theorem dX12_isOnPiece_172 : decode cX12_isOnPiece 172 = .ok (.ireturn, 1) := by decide +kernel
set_option maxRecDepth 20000 in
theorem ggX12_rounds_X12_beginOf : GoodIn wsX12_rounds wsX12_beginOf := goodIn_r _ [8, 3, 32, 33, 34, 35, 36, 37, 38, 39, 40, 41, 42, 43, 44, 45, 46, 47, 48, 49, 50, 51, 52, 53, 54, 55, 56, 57, 58, 59, 60, 61, 62, 63, 64, 65, 66, 67, 68, 69, 70, 71, 72, 73, 74, 75, 76, 77, 78, 79] rfl (by decide +kernel)
set_option maxRecDepth 20000 in
theorem gX12_rounds_X12_beginOf : GoodIn wsX12_rounds (wsV RX12 113 RX12 yX12_beginOf wsX12_beginOf) := goodIn_app (goodIn_r ([.methodLink RX12 113 yX12_beginOf, .instanceMethod yX12_beginOf, .selects RX12 yX12_beginOf yX12_beginOf, .initialized RX12] : List Cond) [4, 5, 6, 7] rfl (by decide +kernel)) ggX12_rounds_X12_beginOf
set_option maxRecDepth 20000 in
theorem ggX12_rounds_X12_endOf : GoodIn wsX12_rounds wsX12_endOf := goodIn_r _ [12, 4, 5, 6, 7, 8, 3, 32, 33, 34, 35, 36, 37, 38, 39, 40, 41, 42, 43, 44, 45, 46, 47, 48, 49, 50, 51, 52, 53, 54, 55, 56, 57, 58, 59, 60, 61, 62, 63, 64, 65, 66, 67, 68, 69, 70, 71, 72, 73, 74, 75, 76, 77, 78, 79] rfl (by decide +kernel)
set_option maxRecDepth 20000 in
theorem gX12_rounds_X12_endOf : GoodIn wsX12_rounds (wsV RX12 127 RX12 yX12_endOf wsX12_endOf) := goodIn_app (goodIn_r ([.methodLink RX12 127 yX12_endOf, .instanceMethod yX12_endOf, .selects RX12 yX12_endOf yX12_endOf, .initialized RX12] : List Cond) [9, 10, 11, 7] rfl (by decide +kernel)) ggX12_rounds_X12_endOf
set_option maxRecDepth 20000 in
theorem ggX12_rounds_X12_wayX : GoodIn wsX12_rounds wsX12_wayX := goodIn_r _ [16, 3, 32, 33, 34, 35, 36, 37, 38, 39, 40, 41, 42, 43, 44, 45, 46, 47, 48, 49, 50, 51, 52, 53, 54, 55, 56, 57, 58, 59, 60, 61, 62, 63, 64, 65, 66, 67, 68, 69, 70, 71, 72, 73, 74, 75, 76, 77, 78, 79] rfl (by decide +kernel)
set_option maxRecDepth 20000 in
theorem gX12_rounds_X12_wayX : GoodIn wsX12_rounds (wsV RX12 130 RX12 yX12_wayX wsX12_wayX) := goodIn_app (goodIn_r ([.methodLink RX12 130 yX12_wayX, .instanceMethod yX12_wayX, .selects RX12 yX12_wayX yX12_wayX, .initialized RX12] : List Cond) [13, 14, 15, 7] rfl (by decide +kernel)) ggX12_rounds_X12_wayX
set_option maxRecDepth 20000 in
theorem ggX12_rounds_X12_wayY : GoodIn wsX12_rounds wsX12_wayY := goodIn_r _ [20, 3, 32, 33, 34, 35, 36, 37, 38, 39, 40, 41, 42, 43, 44, 45, 46, 47, 48, 49, 50, 51, 52, 53, 54, 55, 56, 57, 58, 59, 60, 61, 62, 63, 64, 65, 66, 67, 68, 69, 70, 71, 72, 73, 74, 75, 76, 77, 78, 79] rfl (by decide +kernel)
set_option maxRecDepth 20000 in
theorem gX12_rounds_X12_wayY : GoodIn wsX12_rounds (wsV RX12 134 RX12 yX12_wayY wsX12_wayY) := goodIn_app (goodIn_r ([.methodLink RX12 134 yX12_wayY, .instanceMethod yX12_wayY, .selects RX12 yX12_wayY yX12_wayY, .initialized RX12] : List Cond) [17, 18, 19, 7] rfl (by decide +kernel)) ggX12_rounds_X12_wayY
set_option maxRecDepth 20000 in
theorem ggX12_rounds_X12_next : GoodIn wsX12_rounds wsX12_next := goodIn_r _ [24, 3, 4, 5, 6, 7, 8, 9, 10, 11, 12, 13, 14, 15, 16, 17, 18, 19, 20, 25, 26, 27, 28, 29, 30, 31, 32, 33, 34, 35, 36, 37, 38, 39, 40, 41, 42, 43, 44, 45, 46, 47, 48, 49, 50, 51, 52, 53, 54, 55, 56, 57, 58, 59, 60, 61, 62, 63, 64, 65, 66, 67, 68, 69, 70, 71, 72, 73, 74, 75, 76, 77, 78, 79] rfl (by decide +kernel)
set_option maxRecDepth 20000 in
theorem gX12_rounds_X12_next : GoodIn wsX12_rounds (wsV RX12 166 RX12 yX12_next wsX12_next) := goodIn_app (goodIn_r ([.methodLink RX12 166 yX12_next, .instanceMethod yX12_next, .selects RX12 yX12_next yX12_next, .initialized RX12] : List Cond) [21, 22, 23, 7] rfl (by decide +kernel)) ggX12_rounds_X12_next
theorem dX12_rounds_0 : decode cX12_rounds 0 = .ok (.iconst 0, 1) := by decide +kernel
theorem dX12_rounds_1 : decode cX12_rounds 1 = .ok (.istore 6, 2) := by decide +kernel
theorem dX12_rounds_3 : decode cX12_rounds 3 = .ok (.aload_n 0, 1) := by decide +kernel
theorem dX12_rounds_4 : decode cX12_rounds 4 = .ok (.getfield 34, 3) := by decide +kernel
theorem dX12_rounds_7 : decode cX12_rounds 7 = .ok (.iload_n 1, 1) := by decide +kernel
theorem dX12_rounds_8 : decode cX12_rounds 8 = .ok (.iaload, 1) := by decide +kernel
theorem dX12_rounds_9 : decode cX12_rounds 9 = .ok (.istore 7, 2) := by decide +kernel
theorem dX12_rounds_11 : decode cX12_rounds 11 = .ok (.aload_n 0, 1) := by decide +kernel
theorem dX12_rounds_12 : decode cX12_rounds 12 = .ok (.iload 7, 2) := by decide +kernel
theorem dX12_rounds_14 : decode cX12_rounds 14 = .ok (.invokevirtual 113, 3) := by decide +kernel
theorem dX12_rounds_17 : decode cX12_rounds 17 = .ok (.istore 8, 2) := by decide +kernel
theorem dX12_rounds_19 : decode cX12_rounds 19 = .ok (.aload_n 0, 1) := by decide +kernel
theorem dX12_rounds_20 : decode cX12_rounds 20 = .ok (.iload 7, 2) := by decide +kernel
theorem dX12_rounds_22 : decode cX12_rounds 22 = .ok (.invokevirtual 127, 3) := by decide +kernel
theorem dX12_rounds_25 : decode cX12_rounds 25 = .ok (.istore 9, 2) := by decide +kernel
theorem dX12_rounds_27 : decode cX12_rounds 27 = .ok (.ldc2_w 269, 3) := by decide +kernel
theorem dX12_rounds_30 : decode cX12_rounds 30 = .ok (.aload_n 0, 1) := by decide +kernel
theorem dX12_rounds_31 : decode cX12_rounds 31 = .ok (.getfield 16, 3) := by decide +kernel
theorem dX12_rounds_34 : decode cX12_rounds 34 = .ok (.getfield 124, 3) := by decide +kernel
theorem dX12_rounds_37 : decode cX12_rounds 37 = .ok (.iload 8, 2) := by decide +kernel
theorem dX12_rounds_39 : decode cX12_rounds 39 = .ok (.laload, 1) := by decide +kernel
theorem dX12_rounds_40 : decode cX12_rounds 40 = .ok (.lmul, 1) := by decide +kernel
theorem dX12_rounds_41 : decode cX12_rounds 41 = .ok (.lload 4, 2) := by decide +kernel
theorem dX12_rounds_43 : decode cX12_rounds 43 = .ok (.aload_n 0, 1) := by decide +kernel
theorem dX12_rounds_44 : decode cX12_rounds 44 = .ok (.getfield 16, 3) := by decide +kernel
theorem dX12_rounds_47 : decode cX12_rounds 47 = .ok (.getfield 121, 3) := by decide +kernel
theorem dX12_rounds_50 : decode cX12_rounds 50 = .ok (.iload 8, 2) := by decide +kernel
theorem dX12_rounds_52 : decode cX12_rounds 52 = .ok (.laload, 1) := by decide +kernel
