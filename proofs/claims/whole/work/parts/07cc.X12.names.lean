theorem dX12_rounds_53 : decode cX12_rounds 53 = .ok (.lmul, 1) := by decide +kernel
theorem dX12_rounds_54 : decode cX12_rounds 54 = .ok (.lcmp, 1) := by decide +kernel
theorem dX12_rounds_55 : decode cX12_rounds 55 = .ok (.ifCond .gt 7, 3) := by decide +kernel
theorem dX12_rounds_58 : decode cX12_rounds 58 = .ok (.iconst 1, 1) := by decide +kernel
theorem dX12_rounds_59 : decode cX12_rounds 59 = .ok (.goto 4, 3) := by decide +kernel
theorem dX12_rounds_62 : decode cX12_rounds 62 = .ok (.iconst 0, 1) := by decide +kernel
theorem dX12_rounds_63 : decode cX12_rounds 63 = .ok (.istore 10, 2) := by decide +kernel
theorem dX12_rounds_65 : decode cX12_rounds 65 = .ok (.ldc2_w 269, 3) := by decide +kernel
theorem dX12_rounds_68 : decode cX12_rounds 68 = .ok (.aload_n 0, 1) := by decide +kernel
theorem dX12_rounds_69 : decode cX12_rounds 69 = .ok (.getfield 16, 3) := by decide +kernel
theorem dX12_rounds_72 : decode cX12_rounds 72 = .ok (.getfield 124, 3) := by decide +kernel
theorem dX12_rounds_75 : decode cX12_rounds 75 = .ok (.iload 9, 2) := by decide +kernel
theorem dX12_rounds_77 : decode cX12_rounds 77 = .ok (.laload, 1) := by decide +kernel
theorem dX12_rounds_78 : decode cX12_rounds 78 = .ok (.lmul, 1) := by decide +kernel
theorem dX12_rounds_79 : decode cX12_rounds 79 = .ok (.lload 4, 2) := by decide +kernel
theorem dX12_rounds_81 : decode cX12_rounds 81 = .ok (.aload_n 0, 1) := by decide +kernel
theorem dX12_rounds_82 : decode cX12_rounds 82 = .ok (.getfield 16, 3) := by decide +kernel
theorem dX12_rounds_85 : decode cX12_rounds 85 = .ok (.getfield 121, 3) := by decide +kernel
theorem dX12_rounds_88 : decode cX12_rounds 88 = .ok (.iload 9, 2) := by decide +kernel
theorem dX12_rounds_90 : decode cX12_rounds 90 = .ok (.laload, 1) := by decide +kernel
theorem dX12_rounds_91 : decode cX12_rounds 91 = .ok (.lmul, 1) := by decide +kernel
theorem dX12_rounds_92 : decode cX12_rounds 92 = .ok (.lcmp, 1) := by decide +kernel
theorem dX12_rounds_93 : decode cX12_rounds 93 = .ok (.ifCond .gt 7, 3) := by decide +kernel
theorem dX12_rounds_96 : decode cX12_rounds 96 = .ok (.iconst 1, 1) := by decide +kernel
theorem dX12_rounds_97 : decode cX12_rounds 97 = .ok (.goto 4, 3) := by decide +kernel
theorem dX12_rounds_100 : decode cX12_rounds 100 = .ok (.iconst 0, 1) := by decide +kernel
theorem dX12_rounds_101 : decode cX12_rounds 101 = .ok (.istore 11, 2) := by decide +kernel
theorem dX12_rounds_103 : decode cX12_rounds 103 = .ok (.iload 10, 2) := by decide +kernel
theorem dX12_rounds_105 : decode cX12_rounds 105 = .ok (.iload 11, 2) := by decide +kernel
theorem dX12_rounds_107 : decode cX12_rounds 107 = .ok (.if_icmp .eq 117, 3) := by decide +kernel
theorem dX12_rounds_110 : decode cX12_rounds 110 = .ok (.aload_n 0, 1) := by decide +kernel
theorem dX12_rounds_111 : decode cX12_rounds 111 = .ok (.iload 8, 2) := by decide +kernel
theorem dX12_rounds_113 : decode cX12_rounds 113 = .ok (.iload 9, 2) := by decide +kernel
theorem dX12_rounds_115 : decode cX12_rounds 115 = .ok (.invokevirtual 130, 3) := by decide +kernel
theorem dX12_rounds_118 : decode cX12_rounds 118 = .ok (.lload 4, 2) := by decide +kernel
theorem dX12_rounds_120 : decode cX12_rounds 120 = .ok (.aload_n 0, 1) := by decide +kernel
theorem dX12_rounds_121 : decode cX12_rounds 121 = .ok (.getfield 16, 3) := by decide +kernel
theorem dX12_rounds_124 : decode cX12_rounds 124 = .ok (.getfield 121, 3) := by decide +kernel
theorem dX12_rounds_127 : decode cX12_rounds 127 = .ok (.iload 8, 2) := by decide +kernel
theorem dX12_rounds_129 : decode cX12_rounds 129 = .ok (.laload, 1) := by decide +kernel
theorem dX12_rounds_130 : decode cX12_rounds 130 = .ok (.lmul, 1) := by decide +kernel
theorem dX12_rounds_131 : decode cX12_rounds 131 = .ok (.ldc2_w 269, 3) := by decide +kernel
theorem dX12_rounds_134 : decode cX12_rounds 134 = .ok (.aload_n 0, 1) := by decide +kernel
theorem dX12_rounds_135 : decode cX12_rounds 135 = .ok (.getfield 16, 3) := by decide +kernel
theorem dX12_rounds_138 : decode cX12_rounds 138 = .ok (.getfield 124, 3) := by decide +kernel
theorem dX12_rounds_141 : decode cX12_rounds 141 = .ok (.iload 8, 2) := by decide +kernel
theorem dX12_rounds_143 : decode cX12_rounds 143 = .ok (.laload, 1) := by decide +kernel
theorem dX12_rounds_144 : decode cX12_rounds 144 = .ok (.lmul, 1) := by decide +kernel
theorem dX12_rounds_145 : decode cX12_rounds 145 = .ok (.lsub, 1) := by decide +kernel
theorem dX12_rounds_146 : decode cX12_rounds 146 = .ok (.lmul, 1) := by decide +kernel
theorem dX12_rounds_147 : decode cX12_rounds 147 = .ok (.aload_n 0, 1) := by decide +kernel
theorem dX12_rounds_148 : decode cX12_rounds 148 = .ok (.iload 8, 2) := by decide +kernel
theorem dX12_rounds_150 : decode cX12_rounds 150 = .ok (.iload 9, 2) := by decide +kernel
theorem dX12_rounds_152 : decode cX12_rounds 152 = .ok (.invokevirtual 134, 3) := by decide +kernel
theorem dX12_rounds_155 : decode cX12_rounds 155 = .ok (.lload_n 2, 1) := by decide +kernel
theorem dX12_rounds_156 : decode cX12_rounds 156 = .ok (.aload_n 0, 1) := by decide +kernel
theorem dX12_rounds_157 : decode cX12_rounds 157 = .ok (.getfield 16, 3) := by decide +kernel
theorem dX12_rounds_160 : decode cX12_rounds 160 = .ok (.getfield 121, 3) := by decide +kernel
theorem dX12_rounds_163 : decode cX12_rounds 163 = .ok (.iload 8, 2) := by decide +kernel
theorem dX12_rounds_165 : decode cX12_rounds 165 = .ok (.laload, 1) := by decide +kernel
theorem dX12_rounds_166 : decode cX12_rounds 166 = .ok (.lmul, 1) := by decide +kernel
theorem dX12_rounds_167 : decode cX12_rounds 167 = .ok (.ldc2_w 269, 3) := by decide +kernel
theorem dX12_rounds_170 : decode cX12_rounds 170 = .ok (.aload_n 0, 1) := by decide +kernel
theorem dX12_rounds_171 : decode cX12_rounds 171 = .ok (.getfield 16, 3) := by decide +kernel
theorem dX12_rounds_174 : decode cX12_rounds 174 = .ok (.getfield 117, 3) := by decide +kernel
theorem dX12_rounds_177 : decode cX12_rounds 177 = .ok (.iload 8, 2) := by decide +kernel
theorem dX12_rounds_179 : decode cX12_rounds 179 = .ok (.laload, 1) := by decide +kernel
theorem dX12_rounds_180 : decode cX12_rounds 180 = .ok (.lmul, 1) := by decide +kernel
theorem dX12_rounds_181 : decode cX12_rounds 181 = .ok (.lsub, 1) := by decide +kernel
theorem dX12_rounds_182 : decode cX12_rounds 182 = .ok (.lmul, 1) := by decide +kernel
theorem dX12_rounds_183 : decode cX12_rounds 183 = .ok (.lsub, 1) := by decide +kernel
theorem dX12_rounds_184 : decode cX12_rounds 184 = .ok (.lstore 12, 2) := by decide +kernel
theorem dX12_rounds_186 : decode cX12_rounds 186 = .ok (.iload 6, 2) := by decide +kernel
theorem dX12_rounds_188 : decode cX12_rounds 188 = .ok (.iload 10, 2) := by decide +kernel
theorem dX12_rounds_190 : decode cX12_rounds 190 = .ok (.ifCond .eq 14, 3) := by decide +kernel
theorem dX12_rounds_193 : decode cX12_rounds 193 = .ok (.lload 12, 2) := by decide +kernel
theorem dX12_rounds_195 : decode cX12_rounds 195 = .ok (.lconst 0, 1) := by decide +kernel
theorem dX12_rounds_196 : decode cX12_rounds 196 = .ok (.lcmp, 1) := by decide +kernel
theorem dX12_rounds_197 : decode cX12_rounds 197 = .ok (.ifCond .le 7, 3) := by decide +kernel
theorem dX12_rounds_200 : decode cX12_rounds 200 = .ok (.iconst 1, 1) := by decide +kernel
theorem dX12_rounds_201 : decode cX12_rounds 201 = .ok (.goto 20, 3) := by decide +kernel
theorem dX12_rounds_204 : decode cX12_rounds 204 = .ok (.iload 10, 2) := by decide +kernel
theorem dX12_rounds_206 : decode cX12_rounds 206 = .ok (.ifCond .ne 14, 3) := by decide +kernel
theorem dX12_rounds_209 : decode cX12_rounds 209 = .ok (.lload 12, 2) := by decide +kernel
theorem dX12_rounds_211 : decode cX12_rounds 211 = .ok (.lconst 0, 1) := by decide +kernel
theorem dX12_rounds_212 : decode cX12_rounds 212 = .ok (.lcmp, 1) := by decide +kernel
theorem dX12_rounds_213 : decode cX12_rounds 213 = .ok (.ifCond .ge 7, 3) := by decide +kernel
theorem dX12_rounds_216 : decode cX12_rounds 216 = .ok (.iconst (-1), 1) := by decide +kernel
theorem dX12_rounds_217 : decode cX12_rounds 217 = .ok (.goto 4, 3) := by decide +kernel
theorem dX12_rounds_220 : decode cX12_rounds 220 = .ok (.iconst 0, 1) := by decide +kernel
theorem dX12_rounds_221 : decode cX12_rounds 221 = .ok (.iadd, 1) := by decide +kernel
theorem dX12_rounds_222 : decode cX12_rounds 222 = .ok (.istore 6, 2) := by decide +kernel
theorem dX12_rounds_224 : decode cX12_rounds 224 = .ok (.aload_n 0, 1) := by decide +kernel
theorem dX12_rounds_225 : decode cX12_rounds 225 = .ok (.iload 7, 2) := by decide +kernel
theorem dX12_rounds_227 : decode cX12_rounds 227 = .ok (.invokevirtual 166, 3) := by decide +kernel
theorem dX12_rounds_230 : decode cX12_rounds 230 = .ok (.istore 7, 2) := by decide +kernel
theorem dX12_rounds_232 : decode cX12_rounds 232 = .ok (.iload 7, 2) := by decide +kernel
theorem dX12_rounds_234 : decode cX12_rounds 234 = .ok (.aload_n 0, 1) := by decide +kernel
theorem dX12_rounds_235 : decode cX12_rounds 235 = .ok (.getfield 34, 3) := by decide +kernel
theorem dX12_rounds_238 : decode cX12_rounds 238 = .ok (.iload_n 1, 1) := by decide +kernel
theorem dX12_rounds_239 : decode cX12_rounds 239 = .ok (.iaload, 1) := by decide +kernel
theorem dX12_rounds_240 : decode cX12_rounds 240 = .ok (.if_icmp .ne (-229), 3) := by decide +kernel
theorem dX12_rounds_243 : decode cX12_rounds 243 = .ok (.iload 6, 2) := by decide +kernel
theorem dX12_rounds_245 : decode cX12_rounds 245 = .ok (.ireturn, 1) := by decide +kernel
set_option maxRecDepth 20000 in
theorem ggX12_at_X12_answer : GoodIn wsX12_at wsX12_answer := goodIn_r _ [7, 8, 46, 47, 48, 49, 50, 51, 52, 53, 54, 55, 56, 57, 58, 59, 60, 61, 62, 63, 64, 65, 66, 67, 68, 69, 70, 71, 72, 73, 74, 75, 76, 77] rfl (by decide +kernel)
set_option maxRecDepth 20000 in
theorem gX12_at_X12_answer : GoodIn wsX12_at (wsV RX12 179 RX12 yX12_answer wsX12_answer) := goodIn_app (goodIn_r ([.methodLink RX12 179 yX12_answer, .instanceMethod yX12_answer, .selects RX12 yX12_answer yX12_answer, .initialized RX12] : List Cond) [3, 4, 5, 6] rfl (by decide +kernel)) ggX12_at_X12_answer
set_option maxRecDepth 20000 in
theorem ggX12_at_X12_isOnPiece : GoodIn wsX12_at wsX12_isOnPiece := goodIn_r _ [12, 2, 13, 14, 15, 16, 6, 17, 18, 19, 20, 21, 46, 47, 48, 49, 50, 51, 52, 53, 54, 55, 56, 57, 58, 59, 60, 61, 62, 63, 64, 65, 66, 67, 68, 69, 70, 71, 72, 73, 74, 75, 76, 77, 78, 79, 80, 81, 82, 83, 84, 85, 86, 87, 88, 89, 90, 91, 92, 93] rfl (by decide +kernel)
set_option maxRecDepth 20000 in
theorem gX12_at_X12_isOnPiece : GoodIn wsX12_at (wsV RX12 275 RX12 yX12_isOnPiece wsX12_isOnPiece) := goodIn_app (goodIn_r ([.methodLink RX12 275 yX12_isOnPiece, .instanceMethod yX12_isOnPiece, .selects RX12 yX12_isOnPiece yX12_isOnPiece, .initialized RX12] : List Cond) [9, 10, 11, 6] rfl (by decide +kernel)) ggX12_at_X12_isOnPiece
set_option maxRecDepth 20000 in
theorem ggX12_at_X12_rounds : GoodIn wsX12_at wsX12_rounds := goodIn_r _ [25, 26, 13, 2, 27, 28, 29, 6, 30, 31, 32, 33, 34, 14, 15, 16, 17, 18, 19, 20, 21, 35, 36, 37, 38, 39, 40, 41, 42, 43, 44, 45, 46, 47, 48, 49, 50, 51, 52, 53, 54, 55, 56, 57, 58, 59, 60, 61, 62, 63, 64, 65, 66, 67, 68, 69, 70, 71, 72, 73, 74, 75, 76, 77, 78, 79, 80, 81, 82, 83, 84, 85, 86, 87, 88, 89, 90, 91, 92, 93] rfl (by decide +kernel)
set_option maxRecDepth 20000 in
theorem gX12_at_X12_rounds : GoodIn wsX12_at (wsV RX12 279 RX12 yX12_rounds wsX12_rounds) := goodIn_app (goodIn_r ([.methodLink RX12 279 yX12_rounds, .instanceMethod yX12_rounds, .selects RX12 yX12_rounds yX12_rounds, .initialized RX12] : List Cond) [22, 23, 24, 6] rfl (by decide +kernel)) ggX12_at_X12_rounds
theorem dX12_at_0 : decode cX12_at 0 = .ok (.aload_n 0, 1) := by decide +kernel
theorem dX12_at_1 : decode cX12_at 1 = .ok (.getfield 182, 3) := by decide +kernel
theorem dX12_at_4 : decode cX12_at 4 = .ok (.ifCond .eq 37, 3) := by decide +kernel
theorem dX12_at_7 : decode cX12_at 7 = .ok (.iload_n 1, 1) := by decide +kernel
theorem dX12_at_8 : decode cX12_at 8 = .ok (.ifCond .le 33, 3) := by decide +kernel
theorem dX12_at_11 : decode cX12_at 11 = .ok (.iload_n 2, 1) := by decide +kernel
theorem dX12_at_12 : decode cX12_at 12 = .ok (.ifCond .le 29, 3) := by decide +kernel
theorem dX12_at_15 : decode cX12_at 15 = .ok (.iload_n 1, 1) := by decide +kernel
theorem dX12_at_16 : decode cX12_at 16 = .ok (.iconst 2, 1) := by decide +kernel
theorem dX12_at_17 : decode cX12_at 17 = .ok (.aload_n 0, 1) := by decide +kernel
theorem dX12_at_18 : decode cX12_at 18 = .ok (.getfield 16, 3) := by decide +kernel
theorem dX12_at_21 : decode cX12_at 21 = .ok (.getfield 185, 3) := by decide +kernel
theorem dX12_at_24 : decode cX12_at 24 = .ok (.imul, 1) := by decide +kernel
theorem dX12_at_25 : decode cX12_at 25 = .ok (.if_icmp .ge 16, 3) := by decide +kernel
theorem dX12_at_28 : decode cX12_at 28 = .ok (.iload_n 2, 1) := by decide +kernel
theorem dX12_at_29 : decode cX12_at 29 = .ok (.iconst 2, 1) := by decide +kernel
theorem dX12_at_30 : decode cX12_at 30 = .ok (.aload_n 0, 1) := by decide +kernel
theorem dX12_at_31 : decode cX12_at 31 = .ok (.getfield 16, 3) := by decide +kernel
theorem dX12_at_34 : decode cX12_at 34 = .ok (.getfield 188, 3) := by decide +kernel
theorem dX12_at_37 : decode cX12_at 37 = .ok (.imul, 1) := by decide +kernel
theorem dX12_at_38 : decode cX12_at 38 = .ok (.if_icmp .lt 21, 3) := by decide +kernel
theorem dX12_at_41 : decode cX12_at 41 = .ok (.aload_n 0, 1) := by decide +kernel
theorem dX12_at_42 : decode cX12_at 42 = .ok (.aload_n 0, 1) := by decide +kernel
theorem dX12_at_43 : decode cX12_at 43 = .ok (.getfield 182, 3) := by decide +kernel
theorem dX12_at_46 : decode cX12_at 46 = .ok (.ifCond .ne 8, 3) := by decide +kernel
theorem dX12_at_49 : decode cX12_at 49 = .ok (.bipush (-4), 2) := by decide +kernel
theorem dX12_at_51 : decode cX12_at 51 = .ok (.goto 4, 3) := by decide +kernel
theorem dX12_at_54 : decode cX12_at 54 = .ok (.iconst (-1), 1) := by decide +kernel
theorem dX12_at_55 : decode cX12_at 55 = .ok (.invokevirtual 179, 3) := by decide +kernel
theorem dX12_at_58 : decode cX12_at 58 = .ok (.ireturn, 1) := by decide +kernel
theorem dX12_at_59 : decode cX12_at 59 = .ok (.iconst 0, 1) := by decide +kernel
theorem dX12_at_60 : decode cX12_at 60 = .ok (.istore_n 3, 1) := by decide +kernel
theorem dX12_at_61 : decode cX12_at 61 = .ok (.iload_n 3, 1) := by decide +kernel
theorem dX12_at_62 : decode cX12_at 62 = .ok (.aload_n 0, 1) := by decide +kernel
theorem dX12_at_63 : decode cX12_at 63 = .ok (.getfield 16, 3) := by decide +kernel
theorem dX12_at_66 : decode cX12_at 66 = .ok (.getfield 137, 3) := by decide +kernel
theorem dX12_at_69 : decode cX12_at 69 = .ok (.if_icmp .ge 40, 3) := by decide +kernel
theorem dX12_at_72 : decode cX12_at 72 = .ok (.aload_n 0, 1) := by decide +kernel
theorem dX12_at_73 : decode cX12_at 73 = .ok (.getfield 16, 3) := by decide +kernel
theorem dX12_at_76 : decode cX12_at 76 = .ok (.getfield 141, 3) := by decide +kernel
theorem dX12_at_79 : decode cX12_at 79 = .ok (.iload_n 3, 1) := by decide +kernel
theorem dX12_at_80 : decode cX12_at 80 = .ok (.baload, 1) := by decide +kernel
theorem dX12_at_81 : decode cX12_at 81 = .ok (.ifCond .eq 22, 3) := by decide +kernel
theorem dX12_at_84 : decode cX12_at 84 = .ok (.aload_n 0, 1) := by decide +kernel
theorem dX12_at_85 : decode cX12_at 85 = .ok (.iload_n 3, 1) := by decide +kernel
theorem dX12_at_86 : decode cX12_at 86 = .ok (.iload_n 1, 1) := by decide +kernel
theorem dX12_at_87 : decode cX12_at 87 = .ok (.i2l, 1) := by decide +kernel
theorem dX12_at_88 : decode cX12_at 88 = .ok (.iload_n 2, 1) := by decide +kernel
theorem dX12_at_89 : decode cX12_at 89 = .ok (.i2l, 1) := by decide +kernel
theorem dX12_at_90 : decode cX12_at 90 = .ok (.invokevirtual 275, 3) := by decide +kernel
theorem dX12_at_93 : decode cX12_at 93 = .ok (.ifCond .eq 10, 3) := by decide +kernel
theorem dX12_at_96 : decode cX12_at 96 = .ok (.aload_n 0, 1) := by decide +kernel
theorem dX12_at_97 : decode cX12_at 97 = .ok (.bipush (-7), 2) := by decide +kernel
theorem dX12_at_99 : decode cX12_at 99 = .ok (.invokevirtual 179, 3) := by decide +kernel
theorem dX12_at_102 : decode cX12_at 102 = .ok (.ireturn, 1) := by decide +kernel
theorem dX12_at_103 : decode cX12_at 103 = .ok (.iinc 3 1, 3) := by decide +kernel
theorem dX12_at_106 : decode cX12_at 106 = .ok (.goto (-45), 3) := by decide +kernel
theorem dX12_at_109 : decode cX12_at 109 = .ok (.iconst 0, 1) := by decide +kernel
theorem dX12_at_110 : decode cX12_at 110 = .ok (.istore_n 3, 1) := by decide +kernel
theorem dX12_at_111 : decode cX12_at 111 = .ok (.aload_n 0, 1) := by decide +kernel
theorem dX12_at_112 : decode cX12_at 112 = .ok (.iload_n 3, 1) := by decide +kernel
theorem dX12_at_113 : decode cX12_at 113 = .ok (.iload_n 1, 1) := by decide +kernel
theorem dX12_at_114 : decode cX12_at 114 = .ok (.i2l, 1) := by decide +kernel
theorem dX12_at_115 : decode cX12_at 115 = .ok (.iload_n 2, 1) := by decide +kernel
theorem dX12_at_116 : decode cX12_at 116 = .ok (.i2l, 1) := by decide +kernel
theorem dX12_at_117 : decode cX12_at 117 = .ok (.invokevirtual 279, 3) := by decide +kernel
theorem dX12_at_120 : decode cX12_at 120 = .ok (.ifCond .ne 9, 3) := by decide +kernel
theorem dX12_at_123 : decode cX12_at 123 = .ok (.iinc 3 1, 3) := by decide +kernel
theorem dX12_at_126 : decode cX12_at 126 = .ok (.goto (-15), 3) := by decide +kernel
theorem dX12_at_129 : decode cX12_at 129 = .ok (.iload_n 3, 1) := by decide +kernel
theorem dX12_at_130 : decode cX12_at 130 = .ok (.ireturn, 1) := by decide +kernel
set_option maxRecDepth 20000 in
theorem ggX12_glass_X12_isPane : GoodIn wsX12_glass wsX12_isPane := goodIn_r _ [9, 10, 16, 17, 18, 19, 20, 21, 22, 23, 24, 25, 26, 27, 28, 29, 30, 31, 32, 33, 34, 35, 36, 37, 38, 39, 40, 41, 42, 43, 44, 45, 46, 47] rfl (by decide +kernel)
set_option maxRecDepth 20000 in
theorem gX12_glass_X12_isPane : GoodIn wsX12_glass (wsV RX12 223 RX12 yX12_isPane wsX12_isPane) := goodIn_app (goodIn_r ([.methodLink RX12 223 yX12_isPane, .instanceMethod yX12_isPane, .selects RX12 yX12_isPane yX12_isPane, .initialized RX12] : List Cond) [5, 6, 7, 8] rfl (by decide +kernel)) ggX12_glass_X12_isPane
set_option maxRecDepth 20000 in
theorem ggX12_glass_X12_answer : GoodIn wsX12_glass wsX12_answer := goodIn_r _ [14, 15, 16, 17, 18, 19, 20, 21, 22, 23, 24, 25, 26, 27, 28, 29, 30, 31, 32, 33, 34, 35, 36, 37, 38, 39, 40, 41, 42, 43, 44, 45, 46, 47] rfl (by decide +kernel)
set_option maxRecDepth 20000 in
theorem gX12_glass_X12_answer : GoodIn wsX12_glass (wsV RX12 179 RX12 yX12_answer wsX12_answer) := goodIn_app (goodIn_r ([.methodLink RX12 179 yX12_answer, .instanceMethod yX12_answer, .selects RX12 yX12_answer yX12_answer, .initialized RX12] : List Cond) [11, 12, 13, 8] rfl (by decide +kernel)) ggX12_glass_X12_answer
theorem dX12_glass_0 : decode cX12_glass 0 = .ok (.aload_n 0, 1) := by decide +kernel
theorem dX12_glass_1 : decode cX12_glass 1 = .ok (.getfield 182, 3) := by decide +kernel
theorem dX12_glass_4 : decode cX12_glass 4 = .ok (.ifCond .eq 11, 3) := by decide +kernel
theorem dX12_glass_7 : decode cX12_glass 7 = .ok (.aload_n 0, 1) := by decide +kernel
theorem dX12_glass_8 : decode cX12_glass 8 = .ok (.iload_n 1, 1) := by decide +kernel
theorem dX12_glass_9 : decode cX12_glass 9 = .ok (.invokevirtual 223, 3) := by decide +kernel
theorem dX12_glass_12 : decode cX12_glass 12 = .ok (.ifCond .ne 21, 3) := by decide +kernel
theorem dX12_glass_15 : decode cX12_glass 15 = .ok (.aload_n 0, 1) := by decide +kernel
theorem dX12_glass_16 : decode cX12_glass 16 = .ok (.aload_n 0, 1) := by decide +kernel
theorem dX12_glass_17 : decode cX12_glass 17 = .ok (.getfield 182, 3) := by decide +kernel
theorem dX12_glass_20 : decode cX12_glass 20 = .ok (.ifCond .ne 8, 3) := by decide +kernel
theorem dX12_glass_23 : decode cX12_glass 23 = .ok (.bipush (-4), 2) := by decide +kernel
theorem dX12_glass_25 : decode cX12_glass 25 = .ok (.goto 4, 3) := by decide +kernel
theorem dX12_glass_28 : decode cX12_glass 28 = .ok (.iconst (-1), 1) := by decide +kernel
theorem dX12_glass_29 : decode cX12_glass 29 = .ok (.invokevirtual 179, 3) := by decide +kernel
theorem dX12_glass_32 : decode cX12_glass 32 = .ok (.ireturn, 1) := by decide +kernel
theorem dX12_glass_33 : decode cX12_glass 33 = .ok (.iload_n 2, 1) := by decide +kernel
theorem dX12_glass_34 : decode cX12_glass 34 = .ok (.ifCond .lt 8, 3) := by decide +kernel
theorem dX12_glass_37 : decode cX12_glass 37 = .ok (.iload_n 2, 1) := by decide +kernel
theorem dX12_glass_38 : decode cX12_glass 38 = .ok (.iconst 2, 1) := by decide +kernel
theorem dX12_glass_39 : decode cX12_glass 39 = .ok (.if_icmp .le 10, 3) := by decide +kernel
theorem dX12_glass_42 : decode cX12_glass 42 = .ok (.aload_n 0, 1) := by decide +kernel
theorem dX12_glass_43 : decode cX12_glass 43 = .ok (.bipush (-5), 2) := by decide +kernel
theorem dX12_glass_45 : decode cX12_glass 45 = .ok (.invokevirtual 179, 3) := by decide +kernel
theorem dX12_glass_48 : decode cX12_glass 48 = .ok (.ireturn, 1) := by decide +kernel
theorem dX12_glass_49 : decode cX12_glass 49 = .ok (.aload_n 0, 1) := by decide +kernel
theorem dX12_glass_50 : decode cX12_glass 50 = .ok (.getfield 37, 3) := by decide +kernel
theorem dX12_glass_53 : decode cX12_glass 53 = .ok (.iload_n 1, 1) := by decide +kernel
theorem dX12_glass_54 : decode cX12_glass 54 = .ok (.iload_n 2, 1) := by decide +kernel
theorem dX12_glass_55 : decode cX12_glass 55 = .ok (.iastore, 1) := by decide +kernel
theorem dX12_glass_56 : decode cX12_glass 56 = .ok (.aload_n 0, 1) := by decide +kernel
theorem dX12_glass_57 : decode cX12_glass 57 = .ok (.getfield 40, 3) := by decide +kernel
theorem dX12_glass_60 : decode cX12_glass 60 = .ok (.iload_n 1, 1) := by decide +kernel
theorem dX12_glass_61 : decode cX12_glass 61 = .ok (.iload_n 2, 1) := by decide +kernel
theorem dX12_glass_62 : decode cX12_glass 62 = .ok (.ifCond .ne 9, 3) := by decide +kernel
theorem dX12_glass_65 : decode cX12_glass 65 = .ok (.sipush 255, 3) := by decide +kernel
theorem dX12_glass_68 : decode cX12_glass 68 = .ok (.goto 8, 3) := by decide +kernel
theorem dX12_glass_71 : decode cX12_glass 71 = .ok (.iload_n 3, 1) := by decide +kernel
theorem dX12_glass_72 : decode cX12_glass 72 = .ok (.sipush 255, 3) := by decide +kernel
theorem dX12_glass_75 : decode cX12_glass 75 = .ok (.iand, 1) := by decide +kernel
theorem dX12_glass_76 : decode cX12_glass 76 = .ok (.iastore, 1) := by decide +kernel
theorem dX12_glass_77 : decode cX12_glass 77 = .ok (.aload_n 0, 1) := by decide +kernel
theorem dX12_glass_78 : decode cX12_glass 78 = .ok (.getfield 43, 3) := by decide +kernel
theorem dX12_glass_81 : decode cX12_glass 81 = .ok (.iload_n 1, 1) := by decide +kernel
theorem dX12_glass_82 : decode cX12_glass 82 = .ok (.bipush 8, 2) := by decide +kernel
theorem dX12_glass_84 : decode cX12_glass 84 = .ok (.iastore, 1) := by decide +kernel
theorem dX12_glass_85 : decode cX12_glass 85 = .ok (.iconst 1, 1) := by decide +kernel
theorem dX12_glass_86 : decode cX12_glass 86 = .ok (.ireturn, 1) := by decide +kernel
theorem dX12_gatherTouches_0 : decode cX12_gatherTouches 0 = .ok (.iconst 0, 1) := by decide +kernel
theorem dX12_gatherTouches_1 : decode cX12_gatherTouches 1 = .ok (.istore_n 1, 1) := by decide +kernel
theorem dX12_gatherTouches_2 : decode cX12_gatherTouches 2 = .ok (.iload_n 1, 1) := by decide +kernel
theorem dX12_gatherTouches_3 : decode cX12_gatherTouches 3 = .ok (.sipush 25600, 3) := by decide +kernel
theorem dX12_gatherTouches_6 : decode cX12_gatherTouches 6 = .ok (.if_icmp .ge 16, 3) := by decide +kernel
theorem dX12_gatherTouches_9 : decode cX12_gatherTouches 9 = .ok (.aload_n 0, 1) := by decide +kernel
theorem dX12_gatherTouches_10 : decode cX12_gatherTouches 10 = .ok (.getfield 86, 3) := by decide +kernel
theorem dX12_gatherTouches_13 : decode cX12_gatherTouches 13 = .ok (.iload_n 1, 1) := by decide +kernel
theorem dX12_gatherTouches_14 : decode cX12_gatherTouches 14 = .ok (.iconst 0, 1) := by decide +kernel
theorem dX12_gatherTouches_15 : decode cX12_gatherTouches 15 = .ok (.bastore, 1) := by decide +kernel
theorem dX12_gatherTouches_16 : decode cX12_gatherTouches 16 = .ok (.iinc 1 1, 3) := by decide +kernel
theorem dX12_gatherTouches_19 : decode cX12_gatherTouches 19 = .ok (.goto (-17), 3) := by decide +kernel
theorem dX12_gatherTouches_22 : decode cX12_gatherTouches 22 = .ok (.iconst 0, 1) := by decide +kernel
theorem dX12_gatherTouches_23 : decode cX12_gatherTouches 23 = .ok (.istore_n 1, 1) := by decide +kernel
theorem dX12_gatherTouches_24 : decode cX12_gatherTouches 24 = .ok (.iload_n 1, 1) := by decide +kernel
theorem dX12_gatherTouches_25 : decode cX12_gatherTouches 25 = .ok (.aload_n 0, 1) := by decide +kernel
theorem dX12_gatherTouches_26 : decode cX12_gatherTouches 26 = .ok (.getfield 16, 3) := by decide +kernel
theorem dX12_gatherTouches_29 : decode cX12_gatherTouches 29 = .ok (.getfield 137, 3) := by decide +kernel
theorem dX12_gatherTouches_32 : decode cX12_gatherTouches 32 = .ok (.if_icmp .ge 100, 3) := by decide +kernel
theorem dX12_gatherTouches_35 : decode cX12_gatherTouches 35 = .ok (.aload_n 0, 1) := by decide +kernel
theorem dX12_gatherTouches_36 : decode cX12_gatherTouches 36 = .ok (.getfield 16, 3) := by decide +kernel
theorem dX12_gatherTouches_39 : decode cX12_gatherTouches 39 = .ok (.getfield 141, 3) := by decide +kernel
theorem dX12_gatherTouches_42 : decode cX12_gatherTouches 42 = .ok (.iload_n 1, 1) := by decide +kernel
theorem dX12_gatherTouches_43 : decode cX12_gatherTouches 43 = .ok (.baload, 1) := by decide +kernel
theorem dX12_gatherTouches_44 : decode cX12_gatherTouches 44 = .ok (.ifCond .eq 14, 3) := by decide +kernel
theorem dX12_gatherTouches_47 : decode cX12_gatherTouches 47 = .ok (.aload_n 0, 1) := by decide +kernel
theorem dX12_gatherTouches_48 : decode cX12_gatherTouches 48 = .ok (.getfield 30, 3) := by decide +kernel
theorem dX12_gatherTouches_51 : decode cX12_gatherTouches 51 = .ok (.iconst 2, 1) := by decide +kernel
theorem dX12_gatherTouches_52 : decode cX12_gatherTouches 52 = .ok (.iload_n 1, 1) := by decide +kernel
theorem dX12_gatherTouches_53 : decode cX12_gatherTouches 53 = .ok (.imul, 1) := by decide +kernel
theorem dX12_gatherTouches_54 : decode cX12_gatherTouches 54 = .ok (.iaload, 1) := by decide +kernel
theorem dX12_gatherTouches_55 : decode cX12_gatherTouches 55 = .ok (.goto 4, 3) := by decide +kernel
theorem dX12_gatherTouches_58 : decode cX12_gatherTouches 58 = .ok (.iconst (-1), 1) := by decide +kernel
theorem dX12_gatherTouches_59 : decode cX12_gatherTouches 59 = .ok (.istore_n 2, 1) := by decide +kernel
theorem dX12_gatherTouches_60 : decode cX12_gatherTouches 60 = .ok (.aload_n 0, 1) := by decide +kernel
theorem dX12_gatherTouches_61 : decode cX12_gatherTouches 61 = .ok (.getfield 16, 3) := by decide +kernel
theorem dX12_gatherTouches_64 : decode cX12_gatherTouches 64 = .ok (.getfield 141, 3) := by decide +kernel
theorem dX12_gatherTouches_67 : decode cX12_gatherTouches 67 = .ok (.iload_n 1, 1) := by decide +kernel
theorem dX12_gatherTouches_68 : decode cX12_gatherTouches 68 = .ok (.baload, 1) := by decide +kernel
theorem dX12_gatherTouches_69 : decode cX12_gatherTouches 69 = .ok (.ifCond .eq 16, 3) := by decide +kernel
theorem dX12_gatherTouches_72 : decode cX12_gatherTouches 72 = .ok (.aload_n 0, 1) := by decide +kernel
theorem dX12_gatherTouches_73 : decode cX12_gatherTouches 73 = .ok (.getfield 30, 3) := by decide +kernel
theorem dX12_gatherTouches_76 : decode cX12_gatherTouches 76 = .ok (.iconst 2, 1) := by decide +kernel
theorem dX12_gatherTouches_77 : decode cX12_gatherTouches 77 = .ok (.iload_n 1, 1) := by decide +kernel
theorem dX12_gatherTouches_78 : decode cX12_gatherTouches 78 = .ok (.imul, 1) := by decide +kernel
theorem dX12_gatherTouches_79 : decode cX12_gatherTouches 79 = .ok (.iconst 1, 1) := by decide +kernel
theorem dX12_gatherTouches_80 : decode cX12_gatherTouches 80 = .ok (.iadd, 1) := by decide +kernel
theorem dX12_gatherTouches_81 : decode cX12_gatherTouches 81 = .ok (.iaload, 1) := by decide +kernel
theorem dX12_gatherTouches_82 : decode cX12_gatherTouches 82 = .ok (.goto 4, 3) := by decide +kernel
theorem dX12_gatherTouches_85 : decode cX12_gatherTouches 85 = .ok (.iconst (-1), 1) := by decide +kernel
theorem dX12_gatherTouches_86 : decode cX12_gatherTouches 86 = .ok (.istore_n 3, 1) := by decide +kernel
theorem dX12_gatherTouches_87 : decode cX12_gatherTouches 87 = .ok (.iload_n 2, 1) := by decide +kernel
theorem dX12_gatherTouches_88 : decode cX12_gatherTouches 88 = .ok (.ifCond .lt 38, 3) := by decide +kernel
theorem dX12_gatherTouches_91 : decode cX12_gatherTouches 91 = .ok (.iload_n 3, 1) := by decide +kernel
theorem dX12_gatherTouches_92 : decode cX12_gatherTouches 92 = .ok (.ifCond .lt 34, 3) := by decide +kernel
theorem dX12_gatherTouches_95 : decode cX12_gatherTouches 95 = .ok (.iload_n 2, 1) := by decide +kernel
theorem dX12_gatherTouches_96 : decode cX12_gatherTouches 96 = .ok (.iload_n 3, 1) := by decide +kernel
theorem dX12_gatherTouches_97 : decode cX12_gatherTouches 97 = .ok (.if_icmp .eq 29, 3) := by decide +kernel
theorem dX12_gatherTouches_100 : decode cX12_gatherTouches 100 = .ok (.aload_n 0, 1) := by decide +kernel
theorem dX12_gatherTouches_101 : decode cX12_gatherTouches 101 = .ok (.getfield 86, 3) := by decide +kernel
theorem dX12_gatherTouches_104 : decode cX12_gatherTouches 104 = .ok (.sipush 160, 3) := by decide +kernel
theorem dX12_gatherTouches_107 : decode cX12_gatherTouches 107 = .ok (.iload_n 2, 1) := by decide +kernel
theorem dX12_gatherTouches_108 : decode cX12_gatherTouches 108 = .ok (.imul, 1) := by decide +kernel
theorem dX12_gatherTouches_109 : decode cX12_gatherTouches 109 = .ok (.iload_n 3, 1) := by decide +kernel
theorem dX12_gatherTouches_110 : decode cX12_gatherTouches 110 = .ok (.iadd, 1) := by decide +kernel
theorem dX12_gatherTouches_111 : decode cX12_gatherTouches 111 = .ok (.iconst 1, 1) := by decide +kernel
theorem dX12_gatherTouches_112 : decode cX12_gatherTouches 112 = .ok (.bastore, 1) := by decide +kernel
theorem dX12_gatherTouches_113 : decode cX12_gatherTouches 113 = .ok (.aload_n 0, 1) := by decide +kernel
theorem dX12_gatherTouches_114 : decode cX12_gatherTouches 114 = .ok (.getfield 86, 3) := by decide +kernel
theorem dX12_gatherTouches_117 : decode cX12_gatherTouches 117 = .ok (.sipush 160, 3) := by decide +kernel
theorem dX12_gatherTouches_120 : decode cX12_gatherTouches 120 = .ok (.iload_n 3, 1) := by decide +kernel
theorem dX12_gatherTouches_121 : decode cX12_gatherTouches 121 = .ok (.imul, 1) := by decide +kernel
theorem dX12_gatherTouches_122 : decode cX12_gatherTouches 122 = .ok (.iload_n 2, 1) := by decide +kernel
theorem dX12_gatherTouches_123 : decode cX12_gatherTouches 123 = .ok (.iadd, 1) := by decide +kernel
theorem dX12_gatherTouches_124 : decode cX12_gatherTouches 124 = .ok (.iconst 1, 1) := by decide +kernel
theorem dX12_gatherTouches_125 : decode cX12_gatherTouches 125 = .ok (.bastore, 1) := by decide +kernel
theorem dX12_gatherTouches_126 : decode cX12_gatherTouches 126 = .ok (.iinc 1 1, 3) := by decide +kernel
theorem dX12_gatherTouches_129 : decode cX12_gatherTouches 129 = .ok (.goto (-105), 3) := by decide +kernel
theorem dX12_gatherTouches_132 : decode cX12_gatherTouches 132 = .ok (.return_, 1) := by decide +kernel
theorem dX12_search_0 : decode cX12_search 0 = .ok (.iload_n 1, 1) := by decide +kernel
theorem dX12_search_1 : decode cX12_search 1 = .ok (.istore_n 2, 1) := by decide +kernel
theorem dX12_search_2 : decode cX12_search 2 = .ok (.iconst 0, 1) := by decide +kernel
theorem dX12_search_3 : decode cX12_search 3 = .ok (.istore_n 3, 1) := by decide +kernel
theorem dX12_search_4 : decode cX12_search 4 = .ok (.aload_n 0, 1) := by decide +kernel
theorem dX12_search_5 : decode cX12_search 5 = .ok (.getfield 283, 3) := by decide +kernel
theorem dX12_search_8 : decode cX12_search 8 = .ok (.ifCond .ne 5, 3) := by decide +kernel
theorem dX12_search_11 : decode cX12_search 11 = .ok (.iconst 1, 1) := by decide +kernel
theorem dX12_search_12 : decode cX12_search 12 = .ok (.ireturn, 1) := by decide +kernel
theorem dX12_search_13 : decode cX12_search 13 = .ok (.aload_n 0, 1) := by decide +kernel
theorem dX12_search_14 : decode cX12_search 14 = .ok (.getfield 83, 3) := by decide +kernel
theorem dX12_search_17 : decode cX12_search 17 = .ok (.aload_n 0, 1) := by decide +kernel
theorem dX12_search_18 : decode cX12_search 18 = .ok (.getfield 80, 3) := by decide +kernel
theorem dX12_search_21 : decode cX12_search 21 = .ok (.iconst 0, 1) := by decide +kernel
theorem dX12_search_22 : decode cX12_search 22 = .ok (.iaload, 1) := by decide +kernel
theorem dX12_search_23 : decode cX12_search 23 = .ok (.iconst (-1), 1) := by decide +kernel
theorem dX12_search_24 : decode cX12_search 24 = .ok (.iastore, 1) := by decide +kernel
theorem dX12_search_25 : decode cX12_search 25 = .ok (.iload_n 3, 1) := by decide +kernel
theorem dX12_search_26 : decode cX12_search 26 = .ok (.ifCond .lt 196, 3) := by decide +kernel
theorem dX12_search_29 : decode cX12_search 29 = .ok (.aload_n 0, 1) := by decide +kernel
theorem dX12_search_30 : decode cX12_search 30 = .ok (.getfield 80, 3) := by decide +kernel
theorem dX12_search_33 : decode cX12_search 33 = .ok (.iload_n 3, 1) := by decide +kernel
theorem dX12_search_34 : decode cX12_search 34 = .ok (.iaload, 1) := by decide +kernel
theorem dX12_search_35 : decode cX12_search 35 = .ok (.istore 4, 2) := by decide +kernel
theorem dX12_search_37 : decode cX12_search 37 = .ok (.iconst 0, 1) := by decide +kernel
theorem dX12_search_38 : decode cX12_search 38 = .ok (.istore 5, 2) := by decide +kernel
theorem dX12_search_40 : decode cX12_search 40 = .ok (.aload_n 0, 1) := by decide +kernel
theorem dX12_search_41 : decode cX12_search 41 = .ok (.getfield 83, 3) := by decide +kernel
theorem dX12_search_44 : decode cX12_search 44 = .ok (.iload 4, 2) := by decide +kernel
theorem dX12_search_46 : decode cX12_search 46 = .ok (.iaload, 1) := by decide +kernel
theorem dX12_search_47 : decode cX12_search 47 = .ok (.iconst 1, 1) := by decide +kernel
theorem dX12_search_48 : decode cX12_search 48 = .ok (.iadd, 1) := by decide +kernel
theorem dX12_search_49 : decode cX12_search 49 = .ok (.istore 6, 2) := by decide +kernel
theorem dX12_search_51 : decode cX12_search 51 = .ok (.iload 6, 2) := by decide +kernel
theorem dX12_search_53 : decode cX12_search 53 = .ok (.bipush 8, 2) := by decide +kernel
theorem dX12_search_55 : decode cX12_search 55 = .ok (.if_icmp .ge 128, 3) := by decide +kernel
theorem dX12_search_58 : decode cX12_search 58 = .ok (.iload 5, 2) := by decide +kernel
theorem dX12_search_60 : decode cX12_search 60 = .ok (.ifCond .ne 123, 3) := by decide +kernel
theorem dX12_search_63 : decode cX12_search 63 = .ok (.aload_n 0, 1) := by decide +kernel
theorem dX12_search_64 : decode cX12_search 64 = .ok (.getfield 40, 3) := by decide +kernel
theorem dX12_search_67 : decode cX12_search 67 = .ok (.iload 4, 2) := by decide +kernel
theorem dX12_search_69 : decode cX12_search 69 = .ok (.iaload, 1) := by decide +kernel
theorem dX12_search_70 : decode cX12_search 70 = .ok (.iload 6, 2) := by decide +kernel
theorem dX12_search_72 : decode cX12_search 72 = .ok (.ishr, 1) := by decide +kernel
theorem dX12_search_73 : decode cX12_search 73 = .ok (.iconst 1, 1) := by decide +kernel
theorem dX12_search_74 : decode cX12_search 74 = .ok (.iand, 1) := by decide +kernel
theorem dX12_search_75 : decode cX12_search 75 = .ok (.ifCond .ne 6, 3) := by decide +kernel
theorem dX12_search_78 : decode cX12_search 78 = .ok (.goto 99, 3) := by decide +kernel
theorem dX12_search_81 : decode cX12_search 81 = .ok (.iload_n 2, 1) := by decide +kernel
theorem dX12_search_82 : decode cX12_search 82 = .ok (.ifCond .ne 6, 3) := by decide +kernel
theorem dX12_search_85 : decode cX12_search 85 = .ok (.bipush (-6), 2) := by decide +kernel
theorem dX12_search_87 : decode cX12_search 87 = .ok (.ireturn, 1) := by decide +kernel
theorem dX12_search_88 : decode cX12_search 88 = .ok (.iinc 2 (-1), 3) := by decide +kernel
theorem dX12_search_91 : decode cX12_search 91 = .ok (.iconst 1, 1) := by decide +kernel
theorem dX12_search_92 : decode cX12_search 92 = .ok (.istore 7, 2) := by decide +kernel
theorem dX12_search_94 : decode cX12_search 94 = .ok (.iconst 0, 1) := by decide +kernel
theorem dX12_search_95 : decode cX12_search 95 = .ok (.istore 8, 2) := by decide +kernel
theorem dX12_search_97 : decode cX12_search 97 = .ok (.iload 8, 2) := by decide +kernel
theorem dX12_search_99 : decode cX12_search 99 = .ok (.iload_n 3, 1) := by decide +kernel
theorem dX12_search_100 : decode cX12_search 100 = .ok (.if_icmp .ge 60, 3) := by decide +kernel
theorem dX12_search_103 : decode cX12_search 103 = .ok (.iload 7, 2) := by decide +kernel
theorem dX12_search_105 : decode cX12_search 105 = .ok (.ifCond .eq 55, 3) := by decide +kernel
theorem dX12_search_108 : decode cX12_search 108 = .ok (.aload_n 0, 1) := by decide +kernel
theorem dX12_search_109 : decode cX12_search 109 = .ok (.getfield 86, 3) := by decide +kernel
theorem dX12_search_112 : decode cX12_search 112 = .ok (.sipush 160, 3) := by decide +kernel
theorem dX12_search_115 : decode cX12_search 115 = .ok (.iload 4, 2) := by decide +kernel
theorem dX12_search_117 : decode cX12_search 117 = .ok (.imul, 1) := by decide +kernel
theorem dX12_search_118 : decode cX12_search 118 = .ok (.aload_n 0, 1) := by decide +kernel
theorem dX12_search_119 : decode cX12_search 119 = .ok (.getfield 80, 3) := by decide +kernel
theorem dX12_search_122 : decode cX12_search 122 = .ok (.iload 8, 2) := by decide +kernel
theorem dX12_search_124 : decode cX12_search 124 = .ok (.iaload, 1) := by decide +kernel
theorem dX12_search_125 : decode cX12_search 125 = .ok (.iadd, 1) := by decide +kernel
theorem dX12_search_126 : decode cX12_search 126 = .ok (.baload, 1) := by decide +kernel
theorem dX12_search_127 : decode cX12_search 127 = .ok (.ifCond .eq 20, 3) := by decide +kernel
theorem dX12_search_130 : decode cX12_search 130 = .ok (.aload_n 0, 1) := by decide +kernel
theorem dX12_search_131 : decode cX12_search 131 = .ok (.getfield 83, 3) := by decide +kernel
theorem dX12_search_134 : decode cX12_search 134 = .ok (.aload_n 0, 1) := by decide +kernel
theorem dX12_search_135 : decode cX12_search 135 = .ok (.getfield 80, 3) := by decide +kernel
theorem dX12_search_138 : decode cX12_search 138 = .ok (.iload 8, 2) := by decide +kernel
theorem dX12_search_140 : decode cX12_search 140 = .ok (.iaload, 1) := by decide +kernel
theorem dX12_search_141 : decode cX12_search 141 = .ok (.iaload, 1) := by decide +kernel
theorem dX12_search_142 : decode cX12_search 142 = .ok (.iload 6, 2) := by decide +kernel
theorem dX12_search_144 : decode cX12_search 144 = .ok (.if_icmp .eq 7, 3) := by decide +kernel
theorem dX12_search_147 : decode cX12_search 147 = .ok (.iconst 1, 1) := by decide +kernel
theorem dX12_search_148 : decode cX12_search 148 = .ok (.goto 4, 3) := by decide +kernel
theorem dX12_search_151 : decode cX12_search 151 = .ok (.iconst 0, 1) := by decide +kernel
theorem dX12_search_152 : decode cX12_search 152 = .ok (.istore 7, 2) := by decide +kernel
theorem dX12_search_154 : decode cX12_search 154 = .ok (.iinc 8 1, 3) := by decide +kernel
theorem dX12_search_157 : decode cX12_search 157 = .ok (.goto (-60), 3) := by decide +kernel
theorem dX12_search_160 : decode cX12_search 160 = .ok (.iload 7, 2) := by decide +kernel
theorem dX12_search_162 : decode cX12_search 162 = .ok (.ifCond .eq 15, 3) := by decide +kernel
theorem dX12_search_165 : decode cX12_search 165 = .ok (.aload_n 0, 1) := by decide +kernel
theorem dX12_search_166 : decode cX12_search 166 = .ok (.getfield 83, 3) := by decide +kernel
theorem dX12_search_169 : decode cX12_search 169 = .ok (.iload 4, 2) := by decide +kernel
theorem dX12_search_171 : decode cX12_search 171 = .ok (.iload 6, 2) := by decide +kernel
theorem dX12_search_173 : decode cX12_search 173 = .ok (.iastore, 1) := by decide +kernel
theorem dX12_search_174 : decode cX12_search 174 = .ok (.iconst 1, 1) := by decide +kernel
theorem dX12_search_175 : decode cX12_search 175 = .ok (.istore 5, 2) := by decide +kernel
theorem dX12_search_177 : decode cX12_search 177 = .ok (.iinc 6 1, 3) := by decide +kernel
theorem dX12_search_180 : decode cX12_search 180 = .ok (.goto (-129), 3) := by decide +kernel
theorem dX12_search_183 : decode cX12_search 183 = .ok (.iload 5, 2) := by decide +kernel
theorem dX12_search_185 : decode cX12_search 185 = .ok (.ifCond .ne 9, 3) := by decide +kernel
theorem dX12_search_188 : decode cX12_search 188 = .ok (.iinc 3 (-1), 3) := by decide +kernel
theorem dX12_search_191 : decode cX12_search 191 = .ok (.goto 28, 3) := by decide +kernel
theorem dX12_search_194 : decode cX12_search 194 = .ok (.iinc 3 1, 3) := by decide +kernel
theorem dX12_search_197 : decode cX12_search 197 = .ok (.iload_n 3, 1) := by decide +kernel
theorem dX12_search_198 : decode cX12_search 198 = .ok (.aload_n 0, 1) := by decide +kernel
theorem dX12_search_199 : decode cX12_search 199 = .ok (.getfield 283, 3) := by decide +kernel
theorem dX12_search_202 : decode cX12_search 202 = .ok (.if_icmp .ne 5, 3) := by decide +kernel
theorem dX12_search_205 : decode cX12_search 205 = .ok (.iconst 1, 1) := by decide +kernel
theorem dX12_search_206 : decode cX12_search 206 = .ok (.ireturn, 1) := by decide +kernel
theorem dX12_search_207 : decode cX12_search 207 = .ok (.aload_n 0, 1) := by decide +kernel
theorem dX12_search_208 : decode cX12_search 208 = .ok (.getfield 83, 3) := by decide +kernel
theorem dX12_search_211 : decode cX12_search 211 = .ok (.aload_n 0, 1) := by decide +kernel
theorem dX12_search_212 : decode cX12_search 212 = .ok (.getfield 80, 3) := by decide +kernel
theorem dX12_search_215 : decode cX12_search 215 = .ok (.iload_n 3, 1) := by decide +kernel
theorem dX12_search_216 : decode cX12_search 216 = .ok (.iaload, 1) := by decide +kernel
theorem dX12_search_217 : decode cX12_search 217 = .ok (.iconst (-1), 1) := by decide +kernel
theorem dX12_search_218 : decode cX12_search 218 = .ok (.iastore, 1) := by decide +kernel
theorem dX12_search_219 : decode cX12_search 219 = .ok (.goto (-194), 3) := by decide +kernel
theorem dX12_search_222 : decode cX12_search 222 = .ok (.iconst 0, 1) := by decide +kernel
theorem dX12_search_223 : decode cX12_search 223 = .ok (.ireturn, 1) := by decide +kernel
theorem dX12_orderAll_0 : decode cX12_orderAll 0 = .ok (.aload_n 0, 1) := by decide +kernel
theorem dX12_orderAll_1 : decode cX12_orderAll 1 = .ok (.iconst 0, 1) := by decide +kernel
theorem dX12_orderAll_2 : decode cX12_orderAll 2 = .ok (.putfield 283, 3) := by decide +kernel
theorem dX12_orderAll_5 : decode cX12_orderAll 5 = .ok (.iconst 0, 1) := by decide +kernel
theorem dX12_orderAll_6 : decode cX12_orderAll 6 = .ok (.istore_n 2, 1) := by decide +kernel
theorem dX12_orderAll_7 : decode cX12_orderAll 7 = .ok (.iload_n 2, 1) := by decide +kernel
theorem dX12_orderAll_8 : decode cX12_orderAll 8 = .ok (.aload_n 0, 1) := by decide +kernel
theorem dX12_orderAll_9 : decode cX12_orderAll 9 = .ok (.getfield 155, 3) := by decide +kernel
theorem dX12_orderAll_12 : decode cX12_orderAll 12 = .ok (.if_icmp .ge 35, 3) := by decide +kernel
theorem dX12_orderAll_15 : decode cX12_orderAll 15 = .ok (.aload_n 1, 1) := by decide +kernel
theorem dX12_orderAll_16 : decode cX12_orderAll 16 = .ok (.iload_n 2, 1) := by decide +kernel
theorem dX12_orderAll_17 : decode cX12_orderAll 17 = .ok (.baload, 1) := by decide +kernel
theorem dX12_orderAll_18 : decode cX12_orderAll 18 = .ok (.ifCond .ne 23, 3) := by decide +kernel
theorem dX12_orderAll_21 : decode cX12_orderAll 21 = .ok (.aload_n 0, 1) := by decide +kernel
theorem dX12_orderAll_22 : decode cX12_orderAll 22 = .ok (.getfield 80, 3) := by decide +kernel
theorem dX12_orderAll_25 : decode cX12_orderAll 25 = .ok (.aload_n 0, 1) := by decide +kernel
theorem dX12_orderAll_26 : decode cX12_orderAll 26 = .ok (.getfield 283, 3) := by decide +kernel
theorem dX12_orderAll_29 : decode cX12_orderAll 29 = .ok (.iload_n 2, 1) := by decide +kernel
theorem dX12_orderAll_30 : decode cX12_orderAll 30 = .ok (.iastore, 1) := by decide +kernel
theorem dX12_orderAll_31 : decode cX12_orderAll 31 = .ok (.aload_n 0, 1) := by decide +kernel
theorem dX12_orderAll_32 : decode cX12_orderAll 32 = .ok (.dup, 1) := by decide +kernel
theorem dX12_orderAll_33 : decode cX12_orderAll 33 = .ok (.getfield 283, 3) := by decide +kernel
theorem dX12_orderAll_36 : decode cX12_orderAll 36 = .ok (.iconst 1, 1) := by decide +kernel
theorem dX12_orderAll_37 : decode cX12_orderAll 37 = .ok (.iadd, 1) := by decide +kernel
theorem dX12_orderAll_38 : decode cX12_orderAll 38 = .ok (.putfield 283, 3) := by decide +kernel
theorem dX12_orderAll_41 : decode cX12_orderAll 41 = .ok (.iinc 2 1, 3) := by decide +kernel
theorem dX12_orderAll_44 : decode cX12_orderAll 44 = .ok (.goto (-37), 3) := by decide +kernel
theorem dX12_orderAll_47 : decode cX12_orderAll 47 = .ok (.return_, 1) := by decide +kernel
set_option maxRecDepth 20000 in
theorem ggX12_colours_X12_answer : GoodIn wsX12_colours wsX12_answer := goodIn_r _ [11, 12, 31, 32, 33, 34, 35, 36, 37, 38, 39, 40, 41, 42, 43, 44, 45, 46, 47, 48, 49, 50, 51, 52, 53, 54, 55, 56, 57, 58, 59, 60, 61, 62] rfl (by decide +kernel)
set_option maxRecDepth 20000 in
theorem gX12_colours_X12_answer : GoodIn wsX12_colours (wsV RX12 179 RX12 yX12_answer wsX12_answer) := goodIn_app (goodIn_r ([.methodLink RX12 179 yX12_answer, .instanceMethod yX12_answer, .selects RX12 yX12_answer yX12_answer, .initialized RX12] : List Cond) [7, 8, 9, 10] rfl (by decide +kernel)) ggX12_colours_X12_answer
set_option maxRecDepth 20000 in
theorem ggX12_colours_X12_gatherTouches : GoodIn wsX12_colours wsX12_gatherTouches := goodIn_r _ [16, 17, 18, 19, 31, 32, 33, 34, 35, 36, 37, 38, 39, 40, 41, 42, 43, 44, 45, 46, 47, 48, 49, 50, 51, 52, 53, 54, 55, 56, 57, 58, 59, 60, 61, 62, 63, 64, 65, 66, 67, 68, 69, 70, 71, 72, 73, 74, 75, 76, 77, 78] rfl (by decide +kernel)
set_option maxRecDepth 20000 in
theorem gX12_colours_X12_gatherTouches : GoodIn wsX12_colours (wsV RX12 287 RX12 yX12_gatherTouches wsX12_gatherTouches) := goodIn_app (goodIn_r ([.methodLink RX12 287 yX12_gatherTouches, .instanceMethod yX12_gatherTouches, .selects RX12 yX12_gatherTouches yX12_gatherTouches, .initialized RX12] : List Cond) [13, 14, 15, 10] rfl (by decide +kernel)) ggX12_colours_X12_gatherTouches
set_option maxRecDepth 20000 in
theorem ggX12_colours_X12_orderAll : GoodIn wsX12_colours wsX12_orderAll := goodIn_r _ [23, 24, 4, 25, 31, 32, 33, 34, 35, 36, 37, 38, 39, 40, 41, 42, 43, 44, 45, 46, 47, 48, 49, 50, 51, 52, 53, 54, 55, 56, 57, 58, 59, 60, 61, 62] rfl (by decide +kernel)
set_option maxRecDepth 20000 in
theorem gX12_colours_X12_orderAll : GoodIn wsX12_colours (wsV RX12 290 RX12 yX12_orderAll wsX12_orderAll) := goodIn_app (goodIn_r ([.methodLink RX12 290 yX12_orderAll, .instanceMethod yX12_orderAll, .selects RX12 yX12_orderAll yX12_orderAll, .initialized RX12] : List Cond) [20, 21, 22, 10] rfl (by decide +kernel)) ggX12_colours_X12_orderAll
set_option maxRecDepth 20000 in
theorem ggX12_colours_X12_search : GoodIn wsX12_colours wsX12_search := goodIn_r _ [29, 24, 6, 25, 30, 17, 31, 32, 33, 34, 35, 36, 37, 38, 39, 40, 41, 42, 43, 44, 45, 46, 47, 48, 49, 50, 51, 52, 53, 54, 55, 56, 57, 58, 59, 60, 61, 62] rfl (by decide +kernel)
set_option maxRecDepth 20000 in
theorem gX12_colours_X12_search : GoodIn wsX12_colours (wsV RX12 294 RX12 yX12_search wsX12_search) := goodIn_app (goodIn_r ([.methodLink RX12 294 yX12_search, .instanceMethod yX12_search, .selects RX12 yX12_search yX12_search, .initialized RX12] : List Cond) [26, 27, 28, 10] rfl (by decide +kernel)) ggX12_colours_X12_search
theorem dX12_colours_0 : decode cX12_colours 0 = .ok (.aload_n 0, 1) := by decide +kernel
theorem dX12_colours_1 : decode cX12_colours 1 = .ok (.getfield 182, 3) := by decide +kernel
theorem dX12_colours_4 : decode cX12_colours 4 = .ok (.ifCond .eq 14, 3) := by decide +kernel
theorem dX12_colours_7 : decode cX12_colours 7 = .ok (.iload_n 1, 1) := by decide +kernel
theorem dX12_colours_8 : decode cX12_colours 8 = .ok (.ifCond .lt 10, 3) := by decide +kernel
theorem dX12_colours_11 : decode cX12_colours 11 = .ok (.iload_n 1, 1) := by decide +kernel
theorem dX12_colours_12 : decode cX12_colours 12 = .ok (.ldc_w 286, 3) := by decide +kernel
theorem dX12_colours_15 : decode cX12_colours 15 = .ok (.if_icmp .le 21, 3) := by decide +kernel
theorem dX12_colours_18 : decode cX12_colours 18 = .ok (.aload_n 0, 1) := by decide +kernel
theorem dX12_colours_19 : decode cX12_colours 19 = .ok (.aload_n 0, 1) := by decide +kernel
theorem dX12_colours_20 : decode cX12_colours 20 = .ok (.getfield 182, 3) := by decide +kernel
theorem dX12_colours_23 : decode cX12_colours 23 = .ok (.ifCond .ne 8, 3) := by decide +kernel
theorem dX12_colours_26 : decode cX12_colours 26 = .ok (.bipush (-4), 2) := by decide +kernel
theorem dX12_colours_28 : decode cX12_colours 28 = .ok (.goto 4, 3) := by decide +kernel
theorem dX12_colours_31 : decode cX12_colours 31 = .ok (.iconst (-1), 1) := by decide +kernel
theorem dX12_colours_32 : decode cX12_colours 32 = .ok (.invokevirtual 179, 3) := by decide +kernel
theorem dX12_colours_35 : decode cX12_colours 35 = .ok (.ireturn, 1) := by decide +kernel
theorem dX12_colours_36 : decode cX12_colours 36 = .ok (.aload_n 0, 1) := by decide +kernel
theorem dX12_colours_37 : decode cX12_colours 37 = .ok (.invokevirtual 287, 3) := by decide +kernel
theorem dX12_colours_40 : decode cX12_colours 40 = .ok (.iconst 0, 1) := by decide +kernel
theorem dX12_colours_41 : decode cX12_colours 41 = .ok (.istore_n 2, 1) := by decide +kernel
theorem dX12_colours_42 : decode cX12_colours 42 = .ok (.iload_n 2, 1) := by decide +kernel
theorem dX12_colours_43 : decode cX12_colours 43 = .ok (.sipush 160, 3) := by decide +kernel
theorem dX12_colours_46 : decode cX12_colours 46 = .ok (.if_icmp .ge 16, 3) := by decide +kernel
theorem dX12_colours_49 : decode cX12_colours 49 = .ok (.aload_n 0, 1) := by decide +kernel
theorem dX12_colours_50 : decode cX12_colours 50 = .ok (.getfield 89, 3) := by decide +kernel
theorem dX12_colours_53 : decode cX12_colours 53 = .ok (.iload_n 2, 1) := by decide +kernel
theorem dX12_colours_54 : decode cX12_colours 54 = .ok (.iconst 0, 1) := by decide +kernel
theorem dX12_colours_55 : decode cX12_colours 55 = .ok (.bastore, 1) := by decide +kernel
theorem dX12_colours_56 : decode cX12_colours 56 = .ok (.iinc 2 1, 3) := by decide +kernel
theorem dX12_colours_59 : decode cX12_colours 59 = .ok (.goto (-17), 3) := by decide +kernel
theorem dX12_colours_62 : decode cX12_colours 62 = .ok (.aload_n 0, 1) := by decide +kernel
theorem dX12_colours_63 : decode cX12_colours 63 = .ok (.aload_n 0, 1) := by decide +kernel
theorem dX12_colours_64 : decode cX12_colours 64 = .ok (.getfield 89, 3) := by decide +kernel
theorem dX12_colours_67 : decode cX12_colours 67 = .ok (.invokevirtual 290, 3) := by decide +kernel
theorem dX12_colours_70 : decode cX12_colours 70 = .ok (.aload_n 0, 1) := by decide +kernel
theorem dX12_colours_71 : decode cX12_colours 71 = .ok (.iload_n 1, 1) := by decide +kernel
theorem dX12_colours_72 : decode cX12_colours 72 = .ok (.invokevirtual 294, 3) := by decide +kernel
theorem dX12_colours_75 : decode cX12_colours 75 = .ok (.istore_n 2, 1) := by decide +kernel
theorem dX12_colours_76 : decode cX12_colours 76 = .ok (.iload_n 2, 1) := by decide +kernel
theorem dX12_colours_77 : decode cX12_colours 77 = .ok (.bipush (-6), 2) := by decide +kernel
theorem dX12_colours_79 : decode cX12_colours 79 = .ok (.if_icmp .ne 10, 3) := by decide +kernel
theorem dX12_colours_82 : decode cX12_colours 82 = .ok (.aload_n 0, 1) := by decide +kernel
theorem dX12_colours_83 : decode cX12_colours 83 = .ok (.bipush (-6), 2) := by decide +kernel
theorem dX12_colours_85 : decode cX12_colours 85 = .ok (.invokevirtual 179, 3) := by decide +kernel
theorem dX12_colours_88 : decode cX12_colours 88 = .ok (.ireturn, 1) := by decide +kernel
theorem dX12_colours_89 : decode cX12_colours 89 = .ok (.iconst 0, 1) := by decide +kernel
theorem dX12_colours_90 : decode cX12_colours 90 = .ok (.istore_n 3, 1) := by decide +kernel
theorem dX12_colours_91 : decode cX12_colours 91 = .ok (.iload_n 3, 1) := by decide +kernel
theorem dX12_colours_92 : decode cX12_colours 92 = .ok (.aload_n 0, 1) := by decide +kernel
theorem dX12_colours_93 : decode cX12_colours 93 = .ok (.getfield 155, 3) := by decide +kernel
theorem dX12_colours_96 : decode cX12_colours 96 = .ok (.if_icmp .ge 31, 3) := by decide +kernel
theorem dX12_colours_99 : decode cX12_colours 99 = .ok (.aload_n 0, 1) := by decide +kernel
theorem dX12_colours_100 : decode cX12_colours 100 = .ok (.getfield 43, 3) := by decide +kernel
theorem dX12_colours_103 : decode cX12_colours 103 = .ok (.iload_n 3, 1) := by decide +kernel
theorem dX12_colours_104 : decode cX12_colours 104 = .ok (.iload_n 2, 1) := by decide +kernel
theorem dX12_colours_105 : decode cX12_colours 105 = .ok (.iconst 1, 1) := by decide +kernel
theorem dX12_colours_106 : decode cX12_colours 106 = .ok (.if_icmp .ne 12, 3) := by decide +kernel
theorem dX12_colours_109 : decode cX12_colours 109 = .ok (.aload_n 0, 1) := by decide +kernel
theorem dX12_colours_110 : decode cX12_colours 110 = .ok (.getfield 83, 3) := by decide +kernel
theorem dX12_colours_113 : decode cX12_colours 113 = .ok (.iload_n 3, 1) := by decide +kernel
theorem dX12_colours_114 : decode cX12_colours 114 = .ok (.iaload, 1) := by decide +kernel
theorem dX12_colours_115 : decode cX12_colours 115 = .ok (.goto 5, 3) := by decide +kernel
theorem dX12_colours_118 : decode cX12_colours 118 = .ok (.bipush 8, 2) := by decide +kernel
theorem dX12_colours_120 : decode cX12_colours 120 = .ok (.iastore, 1) := by decide +kernel
theorem dX12_colours_121 : decode cX12_colours 121 = .ok (.iinc 3 1, 3) := by decide +kernel
theorem dX12_colours_124 : decode cX12_colours 124 = .ok (.goto (-33), 3) := by decide +kernel
theorem dX12_colours_127 : decode cX12_colours 127 = .ok (.iload_n 2, 1) := by decide +kernel
theorem dX12_colours_128 : decode cX12_colours 128 = .ok (.ireturn, 1) := by decide +kernel
set_option maxRecDepth 20000 in
theorem ggX12_lack_X12_answer : GoodIn wsX12_lack wsX12_answer := goodIn_r _ [10, 11, 31, 32, 33, 34, 35, 36, 37, 38, 39, 40, 41, 42, 43, 44, 45, 46, 47, 48, 49, 50, 51, 52, 53, 54, 55, 56, 57, 58, 59, 60, 61, 62] rfl (by decide +kernel)
set_option maxRecDepth 20000 in
theorem gX12_lack_X12_answer : GoodIn wsX12_lack (wsV RX12 179 RX12 yX12_answer wsX12_answer) := goodIn_app (goodIn_r ([.methodLink RX12 179 yX12_answer, .instanceMethod yX12_answer, .selects RX12 yX12_answer yX12_answer, .initialized RX12] : List Cond) [6, 7, 8, 9] rfl (by decide +kernel)) ggX12_lack_X12_answer
set_option maxRecDepth 20000 in
theorem ggX12_lack_X12_gatherTouches : GoodIn wsX12_lack wsX12_gatherTouches := goodIn_r _ [15, 16, 17, 18, 31, 32, 33, 34, 35, 36, 37, 38, 39, 40, 41, 42, 43, 44, 45, 46, 47, 48, 49, 50, 51, 52, 53, 54, 55, 56, 57, 58, 59, 60, 61, 62, 63, 64, 65, 66, 67, 68, 69, 70, 71, 72, 73, 74, 75, 76, 77, 78] rfl (by decide +kernel)
set_option maxRecDepth 20000 in
theorem gX12_lack_X12_gatherTouches : GoodIn wsX12_lack (wsV RX12 287 RX12 yX12_gatherTouches wsX12_gatherTouches) := goodIn_app (goodIn_r ([.methodLink RX12 287 yX12_gatherTouches, .instanceMethod yX12_gatherTouches, .selects RX12 yX12_gatherTouches yX12_gatherTouches, .initialized RX12] : List Cond) [12, 13, 14, 9] rfl (by decide +kernel)) ggX12_lack_X12_gatherTouches
set_option maxRecDepth 20000 in
theorem ggX12_lack_X12_orderAll : GoodIn wsX12_lack wsX12_orderAll := goodIn_r _ [22, 23, 3, 24, 31, 32, 33, 34, 35, 36, 37, 38, 39, 40, 41, 42, 43, 44, 45, 46, 47, 48, 49, 50, 51, 52, 53, 54, 55, 56, 57, 58, 59, 60, 61, 62] rfl (by decide +kernel)
set_option maxRecDepth 20000 in
theorem gX12_lack_X12_orderAll : GoodIn wsX12_lack (wsV RX12 290 RX12 yX12_orderAll wsX12_orderAll) := goodIn_app (goodIn_r ([.methodLink RX12 290 yX12_orderAll, .instanceMethod yX12_orderAll, .selects RX12 yX12_orderAll yX12_orderAll, .initialized RX12] : List Cond) [19, 20, 21, 9] rfl (by decide +kernel)) ggX12_lack_X12_orderAll
set_option maxRecDepth 20000 in
theorem ggX12_lack_X12_search : GoodIn wsX12_lack wsX12_search := goodIn_r _ [28, 23, 29, 24, 30, 16, 31, 32, 33, 34, 35, 36, 37, 38, 39, 40, 41, 42, 43, 44, 45, 46, 47, 48, 49, 50, 51, 52, 53, 54, 55, 56, 57, 58, 59, 60, 61, 62] rfl (by decide +kernel)
set_option maxRecDepth 20000 in
theorem gX12_lack_X12_search : GoodIn wsX12_lack (wsV RX12 294 RX12 yX12_search wsX12_search) := goodIn_app (goodIn_r ([.methodLink RX12 294 yX12_search, .instanceMethod yX12_search, .selects RX12 yX12_search yX12_search, .initialized RX12] : List Cond) [25, 26, 27, 9] rfl (by decide +kernel)) ggX12_lack_X12_search
theorem dX12_lack_0 : decode cX12_lack 0 = .ok (.aload_n 0, 1) := by decide +kernel
theorem dX12_lack_1 : decode cX12_lack 1 = .ok (.getfield 182, 3) := by decide +kernel
theorem dX12_lack_4 : decode cX12_lack 4 = .ok (.ifCond .eq 14, 3) := by decide +kernel
theorem dX12_lack_7 : decode cX12_lack 7 = .ok (.iload_n 1, 1) := by decide +kernel
theorem dX12_lack_8 : decode cX12_lack 8 = .ok (.ifCond .lt 10, 3) := by decide +kernel
theorem dX12_lack_11 : decode cX12_lack 11 = .ok (.iload_n 1, 1) := by decide +kernel
theorem dX12_lack_12 : decode cX12_lack 12 = .ok (.sipush 20000, 3) := by decide +kernel
theorem dX12_lack_15 : decode cX12_lack 15 = .ok (.if_icmp .le 21, 3) := by decide +kernel
theorem dX12_lack_18 : decode cX12_lack 18 = .ok (.aload_n 0, 1) := by decide +kernel
theorem dX12_lack_19 : decode cX12_lack 19 = .ok (.aload_n 0, 1) := by decide +kernel
theorem dX12_lack_20 : decode cX12_lack 20 = .ok (.getfield 182, 3) := by decide +kernel
theorem dX12_lack_23 : decode cX12_lack 23 = .ok (.ifCond .ne 8, 3) := by decide +kernel
theorem dX12_lack_26 : decode cX12_lack 26 = .ok (.bipush (-4), 2) := by decide +kernel
theorem dX12_lack_28 : decode cX12_lack 28 = .ok (.goto 4, 3) := by decide +kernel
theorem dX12_lack_31 : decode cX12_lack 31 = .ok (.iconst (-1), 1) := by decide +kernel
theorem dX12_lack_32 : decode cX12_lack 32 = .ok (.invokevirtual 179, 3) := by decide +kernel
theorem dX12_lack_35 : decode cX12_lack 35 = .ok (.ireturn, 1) := by decide +kernel
theorem dX12_lack_36 : decode cX12_lack 36 = .ok (.aload_n 0, 1) := by decide +kernel
theorem dX12_lack_37 : decode cX12_lack 37 = .ok (.invokevirtual 287, 3) := by decide +kernel
theorem dX12_lack_40 : decode cX12_lack 40 = .ok (.iconst 0, 1) := by decide +kernel
theorem dX12_lack_41 : decode cX12_lack 41 = .ok (.istore_n 2, 1) := by decide +kernel
theorem dX12_lack_42 : decode cX12_lack 42 = .ok (.iload_n 2, 1) := by decide +kernel
theorem dX12_lack_43 : decode cX12_lack 43 = .ok (.sipush 160, 3) := by decide +kernel
theorem dX12_lack_46 : decode cX12_lack 46 = .ok (.if_icmp .ge 16, 3) := by decide +kernel
theorem dX12_lack_49 : decode cX12_lack 49 = .ok (.aload_n 0, 1) := by decide +kernel
theorem dX12_lack_50 : decode cX12_lack 50 = .ok (.getfield 89, 3) := by decide +kernel
theorem dX12_lack_53 : decode cX12_lack 53 = .ok (.iload_n 2, 1) := by decide +kernel
theorem dX12_lack_54 : decode cX12_lack 54 = .ok (.iconst 0, 1) := by decide +kernel
theorem dX12_lack_55 : decode cX12_lack 55 = .ok (.bastore, 1) := by decide +kernel
theorem dX12_lack_56 : decode cX12_lack 56 = .ok (.iinc 2 1, 3) := by decide +kernel
theorem dX12_lack_59 : decode cX12_lack 59 = .ok (.goto (-17), 3) := by decide +kernel
theorem dX12_lack_62 : decode cX12_lack 62 = .ok (.aload_n 0, 1) := by decide +kernel
theorem dX12_lack_63 : decode cX12_lack 63 = .ok (.aload_n 0, 1) := by decide +kernel
theorem dX12_lack_64 : decode cX12_lack 64 = .ok (.getfield 89, 3) := by decide +kernel
theorem dX12_lack_67 : decode cX12_lack 67 = .ok (.invokevirtual 290, 3) := by decide +kernel
theorem dX12_lack_70 : decode cX12_lack 70 = .ok (.aload_n 0, 1) := by decide +kernel
theorem dX12_lack_71 : decode cX12_lack 71 = .ok (.iload_n 1, 1) := by decide +kernel
theorem dX12_lack_72 : decode cX12_lack 72 = .ok (.invokevirtual 294, 3) := by decide +kernel
theorem dX12_lack_75 : decode cX12_lack 75 = .ok (.istore_n 2, 1) := by decide +kernel
theorem dX12_lack_76 : decode cX12_lack 76 = .ok (.iload_n 2, 1) := by decide +kernel
theorem dX12_lack_77 : decode cX12_lack 77 = .ok (.ifCond .eq 20, 3) := by decide +kernel
theorem dX12_lack_80 : decode cX12_lack 80 = .ok (.aload_n 0, 1) := by decide +kernel
theorem dX12_lack_81 : decode cX12_lack 81 = .ok (.iload_n 2, 1) := by decide +kernel
theorem dX12_lack_82 : decode cX12_lack 82 = .ok (.iconst 1, 1) := by decide +kernel
theorem dX12_lack_83 : decode cX12_lack 83 = .ok (.if_icmp .ne 8, 3) := by decide +kernel
theorem dX12_lack_86 : decode cX12_lack 86 = .ok (.bipush (-7), 2) := by decide +kernel
theorem dX12_lack_88 : decode cX12_lack 88 = .ok (.goto 5, 3) := by decide +kernel
theorem dX12_lack_91 : decode cX12_lack 91 = .ok (.bipush (-6), 2) := by decide +kernel
theorem dX12_lack_93 : decode cX12_lack 93 = .ok (.invokevirtual 179, 3) := by decide +kernel
theorem dX12_lack_96 : decode cX12_lack 96 = .ok (.ireturn, 1) := by decide +kernel
theorem dX12_lack_97 : decode cX12_lack 97 = .ok (.aload_n 0, 1) := by decide +kernel
theorem dX12_lack_98 : decode cX12_lack 98 = .ok (.getfield 155, 3) := by decide +kernel
theorem dX12_lack_101 : decode cX12_lack 101 = .ok (.istore_n 3, 1) := by decide +kernel
theorem dX12_lack_102 : decode cX12_lack 102 = .ok (.iconst 0, 1) := by decide +kernel
theorem dX12_lack_103 : decode cX12_lack 103 = .ok (.istore 4, 2) := by decide +kernel
theorem dX12_lack_105 : decode cX12_lack 105 = .ok (.iload 4, 2) := by decide +kernel
theorem dX12_lack_107 : decode cX12_lack 107 = .ok (.aload_n 0, 1) := by decide +kernel
theorem dX12_lack_108 : decode cX12_lack 108 = .ok (.getfield 155, 3) := by decide +kernel
theorem dX12_lack_111 : decode cX12_lack 111 = .ok (.if_icmp .ge 72, 3) := by decide +kernel
theorem dX12_lack_114 : decode cX12_lack 114 = .ok (.aload_n 0, 1) := by decide +kernel
theorem dX12_lack_115 : decode cX12_lack 115 = .ok (.getfield 89, 3) := by decide +kernel
theorem dX12_lack_118 : decode cX12_lack 118 = .ok (.iload 4, 2) := by decide +kernel
theorem dX12_lack_120 : decode cX12_lack 120 = .ok (.iconst 1, 1) := by decide +kernel
theorem dX12_lack_121 : decode cX12_lack 121 = .ok (.bastore, 1) := by decide +kernel
theorem dX12_lack_122 : decode cX12_lack 122 = .ok (.aload_n 0, 1) := by decide +kernel
theorem dX12_lack_123 : decode cX12_lack 123 = .ok (.aload_n 0, 1) := by decide +kernel
theorem dX12_lack_124 : decode cX12_lack 124 = .ok (.getfield 89, 3) := by decide +kernel
theorem dX12_lack_127 : decode cX12_lack 127 = .ok (.invokevirtual 290, 3) := by decide +kernel
theorem dX12_lack_130 : decode cX12_lack 130 = .ok (.aload_n 0, 1) := by decide +kernel
theorem dX12_lack_131 : decode cX12_lack 131 = .ok (.iload_n 1, 1) := by decide +kernel
theorem dX12_lack_132 : decode cX12_lack 132 = .ok (.invokevirtual 294, 3) := by decide +kernel
theorem dX12_lack_135 : decode cX12_lack 135 = .ok (.istore_n 2, 1) := by decide +kernel
theorem dX12_lack_136 : decode cX12_lack 136 = .ok (.iload_n 2, 1) := by decide +kernel
theorem dX12_lack_137 : decode cX12_lack 137 = .ok (.bipush (-6), 2) := by decide +kernel
theorem dX12_lack_139 : decode cX12_lack 139 = .ok (.if_icmp .ne 10, 3) := by decide +kernel
theorem dX12_lack_142 : decode cX12_lack 142 = .ok (.aload_n 0, 1) := by decide +kernel
theorem dX12_lack_143 : decode cX12_lack 143 = .ok (.bipush (-6), 2) := by decide +kernel
theorem dX12_lack_145 : decode cX12_lack 145 = .ok (.invokevirtual 179, 3) := by decide +kernel
theorem dX12_lack_148 : decode cX12_lack 148 = .ok (.ireturn, 1) := by decide +kernel
theorem dX12_lack_149 : decode cX12_lack 149 = .ok (.aload_n 0, 1) := by decide +kernel
theorem dX12_lack_150 : decode cX12_lack 150 = .ok (.getfield 89, 3) := by decide +kernel
theorem dX12_lack_153 : decode cX12_lack 153 = .ok (.iload 4, 2) := by decide +kernel
theorem dX12_lack_155 : decode cX12_lack 155 = .ok (.iload_n 2, 1) := by decide +kernel
theorem dX12_lack_156 : decode cX12_lack 156 = .ok (.ifCond .ne 7, 3) := by decide +kernel
theorem dX12_lack_159 : decode cX12_lack 159 = .ok (.iconst 1, 1) := by decide +kernel
theorem dX12_lack_160 : decode cX12_lack 160 = .ok (.goto 4, 3) := by decide +kernel
theorem dX12_lack_163 : decode cX12_lack 163 = .ok (.iconst 0, 1) := by decide +kernel
theorem dX12_lack_164 : decode cX12_lack 164 = .ok (.bastore, 1) := by decide +kernel
theorem dX12_lack_165 : decode cX12_lack 165 = .ok (.iload_n 3, 1) := by decide +kernel
theorem dX12_lack_166 : decode cX12_lack 166 = .ok (.iload_n 2, 1) := by decide +kernel
theorem dX12_lack_167 : decode cX12_lack 167 = .ok (.ifCond .ne 7, 3) := by decide +kernel
theorem dX12_lack_170 : decode cX12_lack 170 = .ok (.iconst 1, 1) := by decide +kernel
theorem dX12_lack_171 : decode cX12_lack 171 = .ok (.goto 4, 3) := by decide +kernel
theorem dX12_lack_174 : decode cX12_lack 174 = .ok (.iconst 0, 1) := by decide +kernel
theorem dX12_lack_175 : decode cX12_lack 175 = .ok (.isub, 1) := by decide +kernel
theorem dX12_lack_176 : decode cX12_lack 176 = .ok (.istore_n 3, 1) := by decide +kernel
theorem dX12_lack_177 : decode cX12_lack 177 = .ok (.iinc 4 1, 3) := by decide +kernel
theorem dX12_lack_180 : decode cX12_lack 180 = .ok (.goto (-75), 3) := by decide +kernel
theorem dX12_lack_183 : decode cX12_lack 183 = .ok (.aload_n 0, 1) := by decide +kernel
theorem dX12_lack_184 : decode cX12_lack 184 = .ok (.iconst 1, 1) := by decide +kernel
theorem dX12_lack_185 : decode cX12_lack 185 = .ok (.putfield 175, 3) := by decide +kernel
theorem dX12_lack_188 : decode cX12_lack 188 = .ok (.iconst 0, 1) := by decide +kernel
theorem dX12_lack_189 : decode cX12_lack 189 = .ok (.istore 4, 2) := by decide +kernel
theorem dX12_lack_191 : decode cX12_lack 191 = .ok (.iload 4, 2) := by decide +kernel
theorem dX12_lack_193 : decode cX12_lack 193 = .ok (.aload_n 0, 1) := by decide +kernel
theorem dX12_lack_194 : decode cX12_lack 194 = .ok (.getfield 155, 3) := by decide +kernel
theorem dX12_lack_197 : decode cX12_lack 197 = .ok (.if_icmp .ge 31, 3) := by decide +kernel
theorem dX12_lack_200 : decode cX12_lack 200 = .ok (.aload_n 0, 1) := by decide +kernel
theorem dX12_lack_201 : decode cX12_lack 201 = .ok (.getfield 49, 3) := by decide +kernel
theorem dX12_lack_204 : decode cX12_lack 204 = .ok (.iload 4, 2) := by decide +kernel
theorem dX12_lack_206 : decode cX12_lack 206 = .ok (.aload_n 0, 1) := by decide +kernel
theorem dX12_lack_207 : decode cX12_lack 207 = .ok (.getfield 89, 3) := by decide +kernel
theorem dX12_lack_210 : decode cX12_lack 210 = .ok (.iload 4, 2) := by decide +kernel
theorem dX12_lack_212 : decode cX12_lack 212 = .ok (.baload, 1) := by decide +kernel
theorem dX12_lack_213 : decode cX12_lack 213 = .ok (.ifCond .ne 7, 3) := by decide +kernel
theorem dX12_lack_216 : decode cX12_lack 216 = .ok (.iconst 1, 1) := by decide +kernel
theorem dX12_lack_217 : decode cX12_lack 217 = .ok (.goto 4, 3) := by decide +kernel
theorem dX12_lack_220 : decode cX12_lack 220 = .ok (.iconst 0, 1) := by decide +kernel
theorem dX12_lack_221 : decode cX12_lack 221 = .ok (.bastore, 1) := by decide +kernel
theorem dX12_lack_222 : decode cX12_lack 222 = .ok (.iinc 4 1, 3) := by decide +kernel
theorem dX12_lack_225 : decode cX12_lack 225 = .ok (.goto (-34), 3) := by decide +kernel
theorem dX12_lack_228 : decode cX12_lack 228 = .ok (.iload_n 3, 1) := by decide +kernel
theorem dX12_lack_229 : decode cX12_lack 229 = .ok (.ireturn, 1) := by decide +kernel
set_option maxRecDepth 20000 in
theorem ggX12_bits_X12_answer : GoodIn wsX12_bits wsX12_answer := goodIn_r _ [9, 10, 11, 12, 13, 14, 15, 16, 17, 18, 19, 20, 21, 22, 23, 24, 25, 26, 27, 28, 29, 30, 31, 32, 33, 34, 35, 36, 37, 38, 39, 40, 41, 42] rfl (by decide +kernel)
set_option maxRecDepth 20000 in
theorem gX12_bits_X12_answer : GoodIn wsX12_bits (wsV RX12 179 RX12 yX12_answer wsX12_answer) := goodIn_app (goodIn_r ([.methodLink RX12 179 yX12_answer, .instanceMethod yX12_answer, .selects RX12 yX12_answer yX12_answer, .initialized RX12] : List Cond) [5, 6, 7, 8] rfl (by decide +kernel)) ggX12_bits_X12_answer
theorem dX12_bits_0 : decode cX12_bits 0 = .ok (.aload_n 0, 1) := by decide +kernel
theorem dX12_bits_1 : decode cX12_bits 1 = .ok (.getfield 182, 3) := by decide +kernel
theorem dX12_bits_4 : decode cX12_bits 4 = .ok (.ifCond .eq 13, 3) := by decide +kernel
theorem dX12_bits_7 : decode cX12_bits 7 = .ok (.iload_n 1, 1) := by decide +kernel
theorem dX12_bits_8 : decode cX12_bits 8 = .ok (.ifCond .lt 9, 3) := by decide +kernel
theorem dX12_bits_11 : decode cX12_bits 11 = .ok (.iload_n 1, 1) := by decide +kernel
theorem dX12_bits_12 : decode cX12_bits 12 = .ok (.bipush 9, 2) := by decide +kernel
theorem dX12_bits_14 : decode cX12_bits 14 = .ok (.if_icmp .le 21, 3) := by decide +kernel
theorem dX12_bits_17 : decode cX12_bits 17 = .ok (.aload_n 0, 1) := by decide +kernel
theorem dX12_bits_18 : decode cX12_bits 18 = .ok (.aload_n 0, 1) := by decide +kernel
theorem dX12_bits_19 : decode cX12_bits 19 = .ok (.getfield 182, 3) := by decide +kernel
theorem dX12_bits_22 : decode cX12_bits 22 = .ok (.ifCond .ne 8, 3) := by decide +kernel
theorem dX12_bits_25 : decode cX12_bits 25 = .ok (.bipush (-4), 2) := by decide +kernel
theorem dX12_bits_27 : decode cX12_bits 27 = .ok (.goto 4, 3) := by decide +kernel
theorem dX12_bits_30 : decode cX12_bits 30 = .ok (.iconst (-1), 1) := by decide +kernel
theorem dX12_bits_31 : decode cX12_bits 31 = .ok (.invokevirtual 179, 3) := by decide +kernel
theorem dX12_bits_34 : decode cX12_bits 34 = .ok (.ireturn, 1) := by decide +kernel
theorem dX12_bits_35 : decode cX12_bits 35 = .ok (.iconst 0, 1) := by decide +kernel
theorem dX12_bits_36 : decode cX12_bits 36 = .ok (.istore_n 2, 1) := by decide +kernel
theorem dX12_bits_37 : decode cX12_bits 37 = .ok (.iconst 0, 1) := by decide +kernel
theorem dX12_bits_38 : decode cX12_bits 38 = .ok (.istore_n 3, 1) := by decide +kernel
theorem dX12_bits_39 : decode cX12_bits 39 = .ok (.iload_n 3, 1) := by decide +kernel
theorem dX12_bits_40 : decode cX12_bits 40 = .ok (.bipush 30, 2) := by decide +kernel
theorem dX12_bits_42 : decode cX12_bits 42 = .ok (.if_icmp .ge 53, 3) := by decide +kernel
theorem dX12_bits_45 : decode cX12_bits 45 = .ok (.aload_n 0, 1) := by decide +kernel
theorem dX12_bits_46 : decode cX12_bits 46 = .ok (.getfield 175, 3) := by decide +kernel
theorem dX12_bits_49 : decode cX12_bits 49 = .ok (.ifCond .eq 46, 3) := by decide +kernel
theorem dX12_bits_52 : decode cX12_bits 52 = .ok (.bipush 30, 2) := by decide +kernel
theorem dX12_bits_54 : decode cX12_bits 54 = .ok (.iload_n 1, 1) := by decide +kernel
theorem dX12_bits_55 : decode cX12_bits 55 = .ok (.imul, 1) := by decide +kernel
theorem dX12_bits_56 : decode cX12_bits 56 = .ok (.iload_n 3, 1) := by decide +kernel
theorem dX12_bits_57 : decode cX12_bits 57 = .ok (.iadd, 1) := by decide +kernel
theorem dX12_bits_58 : decode cX12_bits 58 = .ok (.istore 4, 2) := by decide +kernel
theorem dX12_bits_60 : decode cX12_bits 60 = .ok (.iload_n 2, 1) := by decide +kernel
theorem dX12_bits_61 : decode cX12_bits 61 = .ok (.iload 4, 2) := by decide +kernel
theorem dX12_bits_63 : decode cX12_bits 63 = .ok (.aload_n 0, 1) := by decide +kernel
theorem dX12_bits_64 : decode cX12_bits 64 = .ok (.getfield 155, 3) := by decide +kernel
theorem dX12_bits_67 : decode cX12_bits 67 = .ok (.if_icmp .ge 19, 3) := by decide +kernel
theorem dX12_bits_70 : decode cX12_bits 70 = .ok (.aload_n 0, 1) := by decide +kernel
theorem dX12_bits_71 : decode cX12_bits 71 = .ok (.getfield 49, 3) := by decide +kernel
theorem dX12_bits_74 : decode cX12_bits 74 = .ok (.iload 4, 2) := by decide +kernel
theorem dX12_bits_76 : decode cX12_bits 76 = .ok (.baload, 1) := by decide +kernel
theorem dX12_bits_77 : decode cX12_bits 77 = .ok (.ifCond .eq 9, 3) := by decide +kernel
theorem dX12_bits_80 : decode cX12_bits 80 = .ok (.iconst 1, 1) := by decide +kernel
theorem dX12_bits_81 : decode cX12_bits 81 = .ok (.iload_n 3, 1) := by decide +kernel
theorem dX12_bits_82 : decode cX12_bits 82 = .ok (.ishl, 1) := by decide +kernel
theorem dX12_bits_83 : decode cX12_bits 83 = .ok (.goto 4, 3) := by decide +kernel
theorem dX12_bits_86 : decode cX12_bits 86 = .ok (.iconst 0, 1) := by decide +kernel
theorem dX12_bits_87 : decode cX12_bits 87 = .ok (.ior, 1) := by decide +kernel
theorem dX12_bits_88 : decode cX12_bits 88 = .ok (.istore_n 2, 1) := by decide +kernel
theorem dX12_bits_89 : decode cX12_bits 89 = .ok (.iinc 3 1, 3) := by decide +kernel
theorem dX12_bits_92 : decode cX12_bits 92 = .ok (.goto (-53), 3) := by decide +kernel
theorem dX12_bits_95 : decode cX12_bits 95 = .ok (.iload_n 2, 1) := by decide +kernel
theorem dX12_bits_96 : decode cX12_bits 96 = .ok (.ireturn, 1) := by decide +kernel
set_option maxRecDepth 20000 in
theorem ggX12_pick_X12_isPane : GoodIn wsX12_pick wsX12_isPane := goodIn_r _ [8, 9, 15, 16, 17, 18, 19, 20, 21, 22, 23, 24, 25, 26, 27, 28, 29, 30, 31, 32, 33, 34, 35, 36, 37, 38, 39, 40, 41, 42, 43, 44, 45, 46] rfl (by decide +kernel)
set_option maxRecDepth 20000 in
theorem gX12_pick_X12_isPane : GoodIn wsX12_pick (wsV RX12 223 RX12 yX12_isPane wsX12_isPane) := goodIn_app (goodIn_r ([.methodLink RX12 223 yX12_isPane, .instanceMethod yX12_isPane, .selects RX12 yX12_isPane yX12_isPane, .initialized RX12] : List Cond) [4, 5, 6, 7] rfl (by decide +kernel)) ggX12_pick_X12_isPane
set_option maxRecDepth 20000 in
theorem ggX12_pick_X12_answer : GoodIn wsX12_pick wsX12_answer := goodIn_r _ [13, 14, 15, 16, 17, 18, 19, 20, 21, 22, 23, 24, 25, 26, 27, 28, 29, 30, 31, 32, 33, 34, 35, 36, 37, 38, 39, 40, 41, 42, 43, 44, 45, 46] rfl (by decide +kernel)
set_option maxRecDepth 20000 in
theorem gX12_pick_X12_answer : GoodIn wsX12_pick (wsV RX12 179 RX12 yX12_answer wsX12_answer) := goodIn_app (goodIn_r ([.methodLink RX12 179 yX12_answer, .instanceMethod yX12_answer, .selects RX12 yX12_answer yX12_answer, .initialized RX12] : List Cond) [10, 11, 12, 7] rfl (by decide +kernel)) ggX12_pick_X12_answer
theorem dX12_pick_0 : decode cX12_pick 0 = .ok (.aload_n 0, 1) := by decide +kernel
theorem dX12_pick_1 : decode cX12_pick 1 = .ok (.getfield 182, 3) := by decide +kernel
theorem dX12_pick_4 : decode cX12_pick 4 = .ok (.ifCond .eq 11, 3) := by decide +kernel
theorem dX12_pick_7 : decode cX12_pick 7 = .ok (.aload_n 0, 1) := by decide +kernel
theorem dX12_pick_8 : decode cX12_pick 8 = .ok (.iload_n 1, 1) := by decide +kernel
theorem dX12_pick_9 : decode cX12_pick 9 = .ok (.invokevirtual 223, 3) := by decide +kernel
theorem dX12_pick_12 : decode cX12_pick 12 = .ok (.ifCond .ne 21, 3) := by decide +kernel
theorem dX12_pick_15 : decode cX12_pick 15 = .ok (.aload_n 0, 1) := by decide +kernel
theorem dX12_pick_16 : decode cX12_pick 16 = .ok (.aload_n 0, 1) := by decide +kernel
theorem dX12_pick_17 : decode cX12_pick 17 = .ok (.getfield 182, 3) := by decide +kernel
theorem dX12_pick_20 : decode cX12_pick 20 = .ok (.ifCond .ne 8, 3) := by decide +kernel
theorem dX12_pick_23 : decode cX12_pick 23 = .ok (.bipush (-4), 2) := by decide +kernel
theorem dX12_pick_25 : decode cX12_pick 25 = .ok (.goto 4, 3) := by decide +kernel
theorem dX12_pick_28 : decode cX12_pick 28 = .ok (.iconst (-1), 1) := by decide +kernel
theorem dX12_pick_29 : decode cX12_pick 29 = .ok (.invokevirtual 179, 3) := by decide +kernel
theorem dX12_pick_32 : decode cX12_pick 32 = .ok (.ireturn, 1) := by decide +kernel
theorem dX12_pick_33 : decode cX12_pick 33 = .ok (.aload_n 0, 1) := by decide +kernel
theorem dX12_pick_34 : decode cX12_pick 34 = .ok (.getfield 172, 3) := by decide +kernel
theorem dX12_pick_37 : decode cX12_pick 37 = .ok (.bipush 6, 2) := by decide +kernel
theorem dX12_pick_39 : decode cX12_pick 39 = .ok (.if_icmp .ne 10, 3) := by decide +kernel
theorem dX12_pick_42 : decode cX12_pick 42 = .ok (.aload_n 0, 1) := by decide +kernel
theorem dX12_pick_43 : decode cX12_pick 43 = .ok (.bipush (-3), 2) := by decide +kernel
theorem dX12_pick_45 : decode cX12_pick 45 = .ok (.invokevirtual 179, 3) := by decide +kernel
theorem dX12_pick_48 : decode cX12_pick 48 = .ok (.ireturn, 1) := by decide +kernel
theorem dX12_pick_49 : decode cX12_pick 49 = .ok (.aload_n 0, 1) := by decide +kernel
theorem dX12_pick_50 : decode cX12_pick 50 = .ok (.getfield 46, 3) := by decide +kernel
theorem dX12_pick_53 : decode cX12_pick 53 = .ok (.aload_n 0, 1) := by decide +kernel
theorem dX12_pick_54 : decode cX12_pick 54 = .ok (.getfield 172, 3) := by decide +kernel
theorem dX12_pick_57 : decode cX12_pick 57 = .ok (.iload_n 1, 1) := by decide +kernel
theorem dX12_pick_58 : decode cX12_pick 58 = .ok (.iastore, 1) := by decide +kernel
theorem dX12_pick_59 : decode cX12_pick 59 = .ok (.aload_n 0, 1) := by decide +kernel
theorem dX12_pick_60 : decode cX12_pick 60 = .ok (.dup, 1) := by decide +kernel
theorem dX12_pick_61 : decode cX12_pick 61 = .ok (.getfield 172, 3) := by decide +kernel
theorem dX12_pick_64 : decode cX12_pick 64 = .ok (.iconst 1, 1) := by decide +kernel
theorem dX12_pick_65 : decode cX12_pick 65 = .ok (.iadd, 1) := by decide +kernel
theorem dX12_pick_66 : decode cX12_pick 66 = .ok (.putfield 172, 3) := by decide +kernel
theorem dX12_pick_69 : decode cX12_pick 69 = .ok (.aload_n 0, 1) := by decide +kernel
theorem dX12_pick_70 : decode cX12_pick 70 = .ok (.getfield 172, 3) := by decide +kernel
theorem dX12_pick_73 : decode cX12_pick 73 = .ok (.ireturn, 1) := by decide +kernel
set_option maxRecDepth 20000 in
theorem ggX12_unpick_X12_answer : GoodIn wsX12_unpick wsX12_answer := goodIn_r _ [7, 8, 9, 10, 11, 12, 13, 14, 15, 16, 17, 18, 19, 20, 21, 22, 23, 24, 25, 26, 27, 28, 29, 30, 31, 32, 33, 34, 35, 36, 37, 38, 39, 40] rfl (by decide +kernel)
set_option maxRecDepth 20000 in
theorem gX12_unpick_X12_answer : GoodIn wsX12_unpick (wsV RX12 179 RX12 yX12_answer wsX12_answer) := goodIn_app (goodIn_r ([.methodLink RX12 179 yX12_answer, .instanceMethod yX12_answer, .selects RX12 yX12_answer yX12_answer, .initialized RX12] : List Cond) [3, 4, 5, 6] rfl (by decide +kernel)) ggX12_unpick_X12_answer
theorem dX12_unpick_0 : decode cX12_unpick 0 = .ok (.aload_n 0, 1) := by decide +kernel
theorem dX12_unpick_1 : decode cX12_unpick 1 = .ok (.getfield 182, 3) := by decide +kernel
theorem dX12_unpick_4 : decode cX12_unpick 4 = .ok (.ifCond .ne 10, 3) := by decide +kernel
theorem dX12_unpick_7 : decode cX12_unpick 7 = .ok (.aload_n 0, 1) := by decide +kernel
theorem dX12_unpick_8 : decode cX12_unpick 8 = .ok (.bipush (-4), 2) := by decide +kernel
theorem dX12_unpick_10 : decode cX12_unpick 10 = .ok (.invokevirtual 179, 3) := by decide +kernel
theorem dX12_unpick_13 : decode cX12_unpick 13 = .ok (.ireturn, 1) := by decide +kernel
theorem dX12_unpick_14 : decode cX12_unpick 14 = .ok (.aload_n 0, 1) := by decide +kernel
theorem dX12_unpick_15 : decode cX12_unpick 15 = .ok (.getfield 172, 3) := by decide +kernel
theorem dX12_unpick_18 : decode cX12_unpick 18 = .ok (.istore_n 1, 1) := by decide +kernel
theorem dX12_unpick_19 : decode cX12_unpick 19 = .ok (.aload_n 0, 1) := by decide +kernel
theorem dX12_unpick_20 : decode cX12_unpick 20 = .ok (.iconst 0, 1) := by decide +kernel
theorem dX12_unpick_21 : decode cX12_unpick 21 = .ok (.putfield 172, 3) := by decide +kernel
theorem dX12_unpick_24 : decode cX12_unpick 24 = .ok (.iload_n 1, 1) := by decide +kernel
theorem dX12_unpick_25 : decode cX12_unpick 25 = .ok (.ireturn, 1) := by decide +kernel
theorem dX12_place_0 : decode cX12_place 0 = .ok (.iload_n 0, 1) := by decide +kernel
theorem dX12_place_1 : decode cX12_place 1 = .ok (.bipush 13, 2) := by decide +kernel
theorem dX12_place_3 : decode cX12_place 3 = .ok (.imul, 1) := by decide +kernel
theorem dX12_place_4 : decode cX12_place 4 = .ok (.iload_n 1, 1) := by decide +kernel
theorem dX12_place_5 : decode cX12_place 5 = .ok (.iadd, 1) := by decide +kernel
theorem dX12_place_6 : decode cX12_place 6 = .ok (.bipush 13, 2) := by decide +kernel
theorem dX12_place_8 : decode cX12_place 8 = .ok (.imul, 1) := by decide +kernel
theorem dX12_place_9 : decode cX12_place 9 = .ok (.iload_n 2, 1) := by decide +kernel
theorem dX12_place_10 : decode cX12_place 10 = .ok (.iadd, 1) := by decide +kernel
theorem dX12_place_11 : decode cX12_place 11 = .ok (.ireturn, 1) := by decide +kernel
theorem dX12_isBox_0 : decode cX12_isBox 0 = .ok (.aload_n 0, 1) := by decide +kernel
theorem dX12_isBox_1 : decode cX12_isBox 1 = .ok (.getfield 95, 3) := by decide +kernel
theorem dX12_isBox_4 : decode cX12_isBox 4 = .ok (.iload_n 1, 1) := by decide +kernel
theorem dX12_isBox_5 : decode cX12_isBox 5 = .ok (.iaload, 1) := by decide +kernel
theorem dX12_isBox_6 : decode cX12_isBox 6 = .ok (.iload_n 2, 1) := by decide +kernel
theorem dX12_isBox_7 : decode cX12_isBox 7 = .ok (.if_icmp .ne 13, 3) := by decide +kernel
theorem dX12_isBox_10 : decode cX12_isBox 10 = .ok (.aload_n 0, 1) := by decide +kernel
theorem dX12_isBox_11 : decode cX12_isBox 11 = .ok (.getfield 98, 3) := by decide +kernel
theorem dX12_isBox_14 : decode cX12_isBox 14 = .ok (.iload_n 1, 1) := by decide +kernel
theorem dX12_isBox_15 : decode cX12_isBox 15 = .ok (.iaload, 1) := by decide +kernel
theorem dX12_isBox_16 : decode cX12_isBox 16 = .ok (.iload_n 3, 1) := by decide +kernel
theorem dX12_isBox_17 : decode cX12_isBox 17 = .ok (.if_icmp .eq 32, 3) := by decide +kernel
theorem dX12_isBox_20 : decode cX12_isBox 20 = .ok (.aload_n 0, 1) := by decide +kernel
theorem dX12_isBox_21 : decode cX12_isBox 21 = .ok (.getfield 101, 3) := by decide +kernel
theorem dX12_isBox_24 : decode cX12_isBox 24 = .ok (.iload_n 1, 1) := by decide +kernel
theorem dX12_isBox_25 : decode cX12_isBox 25 = .ok (.baload, 1) := by decide +kernel
theorem dX12_isBox_26 : decode cX12_isBox 26 = .ok (.ifCond .eq 27, 3) := by decide +kernel
theorem dX12_isBox_29 : decode cX12_isBox 29 = .ok (.aload_n 0, 1) := by decide +kernel
theorem dX12_isBox_30 : decode cX12_isBox 30 = .ok (.getfield 95, 3) := by decide +kernel
theorem dX12_isBox_33 : decode cX12_isBox 33 = .ok (.iload_n 1, 1) := by decide +kernel
theorem dX12_isBox_34 : decode cX12_isBox 34 = .ok (.iaload, 1) := by decide +kernel
theorem dX12_isBox_35 : decode cX12_isBox 35 = .ok (.iload_n 3, 1) := by decide +kernel
theorem dX12_isBox_36 : decode cX12_isBox 36 = .ok (.if_icmp .ne 17, 3) := by decide +kernel
theorem dX12_isBox_39 : decode cX12_isBox 39 = .ok (.aload_n 0, 1) := by decide +kernel
theorem dX12_isBox_40 : decode cX12_isBox 40 = .ok (.getfield 98, 3) := by decide +kernel
theorem dX12_isBox_43 : decode cX12_isBox 43 = .ok (.iload_n 1, 1) := by decide +kernel
theorem dX12_isBox_44 : decode cX12_isBox 44 = .ok (.iaload, 1) := by decide +kernel
theorem dX12_isBox_45 : decode cX12_isBox 45 = .ok (.iload_n 2, 1) := by decide +kernel
theorem dX12_isBox_46 : decode cX12_isBox 46 = .ok (.if_icmp .ne 7, 3) := by decide +kernel
theorem dX12_isBox_49 : decode cX12_isBox 49 = .ok (.iconst 1, 1) := by decide +kernel
theorem dX12_isBox_50 : decode cX12_isBox 50 = .ok (.goto 4, 3) := by decide +kernel
theorem dX12_isBox_53 : decode cX12_isBox 53 = .ok (.iconst 0, 1) := by decide +kernel
theorem dX12_isBox_54 : decode cX12_isBox 54 = .ok (.ireturn, 1) := by decide +kernel
set_option maxRecDepth 20000 in
theorem ggX12_isCut_X12_isBox : GoodIn wsX12_isCut wsX12_isBox := goodIn_r _ [7, 8, 9, 10, 14, 15, 16, 17, 18, 19, 20, 21, 22, 23, 24, 25, 26, 27, 28, 29, 30, 31, 32, 33, 34, 35, 36, 37, 38, 39, 40, 41, 42, 43, 44, 45] rfl (by decide +kernel)
set_option maxRecDepth 20000 in
theorem gX12_isCut_X12_isBox : GoodIn wsX12_isCut (wsV RX12 297 RX12 yX12_isBox wsX12_isBox) := goodIn_app (goodIn_r ([.methodLink RX12 297 yX12_isBox, .instanceMethod yX12_isBox, .selects RX12 yX12_isBox yX12_isBox, .initialized RX12] : List Cond) [3, 4, 5, 6] rfl (by decide +kernel)) ggX12_isCut_X12_isBox
set_option maxRecDepth 20000 in
theorem ggX12_isCut_X12_place : GoodIn wsX12_isCut wsX12_place := goodIn_r _ [13] rfl (by decide +kernel)
set_option maxRecDepth 20000 in
theorem gX12_isCut_X12_place : GoodIn wsX12_isCut (va_wsS RX12 301 yX12_place wsX12_place) := goodIn_app (goodIn_r ([.methodLink RX12 301 yX12_place, .static yX12_place, .initialized yX12_place.cls] : List Cond) [11, 12, 6] rfl (by decide +kernel)) ggX12_isCut_X12_place
theorem dX12_isCut_0 : decode cX12_isCut 0 = .ok (.iload_n 1, 1) := by decide +kernel
theorem dX12_isCut_1 : decode cX12_isCut 1 = .ok (.ifCond .ne 5, 3) := by decide +kernel
theorem dX12_isCut_4 : decode cX12_isCut 4 = .ok (.iconst 1, 1) := by decide +kernel
theorem dX12_isCut_5 : decode cX12_isCut 5 = .ok (.ireturn, 1) := by decide +kernel
theorem dX12_isCut_6 : decode cX12_isCut 6 = .ok (.iconst 0, 1) := by decide +kernel
theorem dX12_isCut_7 : decode cX12_isCut 7 = .ok (.istore 4, 2) := by decide +kernel
theorem dX12_isCut_9 : decode cX12_isCut 9 = .ok (.iload 4, 2) := by decide +kernel
theorem dX12_isCut_11 : decode cX12_isCut 11 = .ok (.aload_n 0, 1) := by decide +kernel
theorem dX12_isCut_12 : decode cX12_isCut 12 = .ok (.getfield 172, 3) := by decide +kernel
theorem dX12_isCut_15 : decode cX12_isCut 15 = .ok (.if_icmp .ge 30, 3) := by decide +kernel
theorem dX12_isCut_18 : decode cX12_isCut 18 = .ok (.iload_n 1, 1) := by decide +kernel
theorem dX12_isCut_19 : decode cX12_isCut 19 = .ok (.iconst 1, 1) := by decide +kernel
theorem dX12_isCut_20 : decode cX12_isCut 20 = .ok (.iload 4, 2) := by decide +kernel
theorem dX12_isCut_22 : decode cX12_isCut 22 = .ok (.ishl, 1) := by decide +kernel
theorem dX12_isCut_23 : decode cX12_isCut 23 = .ok (.if_icmp .ne 16, 3) := by decide +kernel
theorem dX12_isCut_26 : decode cX12_isCut 26 = .ok (.aload_n 0, 1) := by decide +kernel
theorem dX12_isCut_27 : decode cX12_isCut 27 = .ok (.iload 4, 2) := by decide +kernel
theorem dX12_isCut_29 : decode cX12_isCut 29 = .ok (.iload_n 2, 1) := by decide +kernel
theorem dX12_isCut_30 : decode cX12_isCut 30 = .ok (.iload_n 3, 1) := by decide +kernel
theorem dX12_isCut_31 : decode cX12_isCut 31 = .ok (.invokevirtual 297, 3) := by decide +kernel
theorem dX12_isCut_34 : decode cX12_isCut 34 = .ok (.ifCond .eq 5, 3) := by decide +kernel
theorem dX12_isCut_37 : decode cX12_isCut 37 = .ok (.iconst 1, 1) := by decide +kernel
theorem dX12_isCut_38 : decode cX12_isCut 38 = .ok (.ireturn, 1) := by decide +kernel
theorem dX12_isCut_39 : decode cX12_isCut 39 = .ok (.iinc 4 1, 3) := by decide +kernel
theorem dX12_isCut_42 : decode cX12_isCut 42 = .ok (.goto (-33), 3) := by decide +kernel
theorem dX12_isCut_45 : decode cX12_isCut 45 = .ok (.iload_n 1, 1) := by decide +kernel
theorem dX12_isCut_46 : decode cX12_isCut 46 = .ok (.istore 4, 2) := by decide +kernel
theorem dX12_isCut_48 : decode cX12_isCut 48 = .ok (.iload 4, 2) := by decide +kernel
theorem dX12_isCut_50 : decode cX12_isCut 50 = .ok (.ifCond .lt 133, 3) := by decide +kernel
theorem dX12_isCut_53 : decode cX12_isCut 53 = .ok (.iconst 1, 1) := by decide +kernel
theorem dX12_isCut_54 : decode cX12_isCut 54 = .ok (.istore 5, 2) := by decide +kernel
theorem dX12_isCut_56 : decode cX12_isCut 56 = .ok (.iload 5, 2) := by decide +kernel
theorem dX12_isCut_58 : decode cX12_isCut 58 = .ok (.iload_n 2, 1) := by decide +kernel
theorem dX12_isCut_59 : decode cX12_isCut 59 = .ok (.if_icmp .ge 49, 3) := by decide +kernel
theorem dX12_isCut_62 : decode cX12_isCut 62 = .ok (.aload_n 0, 1) := by decide +kernel
theorem dX12_isCut_63 : decode cX12_isCut 63 = .ok (.getfield 92, 3) := by decide +kernel
theorem dX12_isCut_66 : decode cX12_isCut 66 = .ok (.iload 4, 2) := by decide +kernel
theorem dX12_isCut_68 : decode cX12_isCut 68 = .ok (.iload 5, 2) := by decide +kernel
theorem dX12_isCut_70 : decode cX12_isCut 70 = .ok (.iload_n 3, 1) := by decide +kernel
theorem dX12_isCut_71 : decode cX12_isCut 71 = .ok (.invokestatic 301, 3) := by decide +kernel
theorem dX12_isCut_74 : decode cX12_isCut 74 = .ok (.baload, 1) := by decide +kernel
theorem dX12_isCut_75 : decode cX12_isCut 75 = .ok (.ifCond .eq 27, 3) := by decide +kernel
theorem dX12_isCut_78 : decode cX12_isCut 78 = .ok (.aload_n 0, 1) := by decide +kernel
theorem dX12_isCut_79 : decode cX12_isCut 79 = .ok (.getfield 92, 3) := by decide +kernel
theorem dX12_isCut_82 : decode cX12_isCut 82 = .ok (.iload_n 1, 1) := by decide +kernel
theorem dX12_isCut_83 : decode cX12_isCut 83 = .ok (.iload 4, 2) := by decide +kernel
theorem dX12_isCut_85 : decode cX12_isCut 85 = .ok (.iconst (-1), 1) := by decide +kernel
theorem dX12_isCut_86 : decode cX12_isCut 86 = .ok (.ixor, 1) := by decide +kernel
theorem dX12_isCut_87 : decode cX12_isCut 87 = .ok (.iand, 1) := by decide +kernel
theorem dX12_isCut_88 : decode cX12_isCut 88 = .ok (.iload_n 2, 1) := by decide +kernel
theorem dX12_isCut_89 : decode cX12_isCut 89 = .ok (.iload 5, 2) := by decide +kernel
theorem dX12_isCut_91 : decode cX12_isCut 91 = .ok (.isub, 1) := by decide +kernel
theorem dX12_isCut_92 : decode cX12_isCut 92 = .ok (.iload_n 3, 1) := by decide +kernel
theorem dX12_isCut_93 : decode cX12_isCut 93 = .ok (.invokestatic 301, 3) := by decide +kernel
theorem dX12_isCut_96 : decode cX12_isCut 96 = .ok (.baload, 1) := by decide +kernel
theorem dX12_isCut_97 : decode cX12_isCut 97 = .ok (.ifCond .eq 5, 3) := by decide +kernel
theorem dX12_isCut_100 : decode cX12_isCut 100 = .ok (.iconst 1, 1) := by decide +kernel
theorem dX12_isCut_101 : decode cX12_isCut 101 = .ok (.ireturn, 1) := by decide +kernel
theorem dX12_isCut_102 : decode cX12_isCut 102 = .ok (.iinc 5 1, 3) := by decide +kernel
theorem dX12_isCut_105 : decode cX12_isCut 105 = .ok (.goto (-49), 3) := by decide +kernel
theorem dX12_isCut_108 : decode cX12_isCut 108 = .ok (.iconst 1, 1) := by decide +kernel
theorem dX12_isCut_109 : decode cX12_isCut 109 = .ok (.istore 5, 2) := by decide +kernel
theorem dX12_isCut_111 : decode cX12_isCut 111 = .ok (.iload 5, 2) := by decide +kernel
theorem dX12_isCut_113 : decode cX12_isCut 113 = .ok (.iload_n 3, 1) := by decide +kernel
theorem dX12_isCut_114 : decode cX12_isCut 114 = .ok (.if_icmp .ge 49, 3) := by decide +kernel
theorem dX12_isCut_117 : decode cX12_isCut 117 = .ok (.aload_n 0, 1) := by decide +kernel
theorem dX12_isCut_118 : decode cX12_isCut 118 = .ok (.getfield 92, 3) := by decide +kernel
