theorem dX12_gcd_0 : decode cX12_gcd 0 = .ok (.lload_n 0, 1) := by decide +kernel
theorem dX12_gcd_1 : decode cX12_gcd 1 = .ok (.invokestatic 1, 3) := by decide +kernel
theorem dX12_gcd_4 : decode cX12_gcd 4 = .ok (.lstore 4, 2) := by decide +kernel
theorem dX12_gcd_6 : decode cX12_gcd 6 = .ok (.lload_n 2, 1) := by decide +kernel
theorem dX12_gcd_7 : decode cX12_gcd 7 = .ok (.invokestatic 1, 3) := by decide +kernel
theorem dX12_gcd_10 : decode cX12_gcd 10 = .ok (.lstore 6, 2) := by decide +kernel
theorem dX12_gcd_12 : decode cX12_gcd 12 = .ok (.lload 6, 2) := by decide +kernel
theorem dX12_gcd_14 : decode cX12_gcd 14 = .ok (.lconst 0, 1) := by decide +kernel
theorem dX12_gcd_15 : decode cX12_gcd 15 = .ok (.lcmp, 1) := by decide +kernel
theorem dX12_gcd_16 : decode cX12_gcd 16 = .ok (.ifCond .eq 21, 3) := by decide +kernel
theorem dX12_gcd_19 : decode cX12_gcd 19 = .ok (.lload 4, 2) := by decide +kernel
theorem dX12_gcd_21 : decode cX12_gcd 21 = .ok (.lload 6, 2) := by decide +kernel
theorem dX12_gcd_23 : decode cX12_gcd 23 = .ok (.lrem, 1) := by decide +kernel
theorem dX12_gcd_24 : decode cX12_gcd 24 = .ok (.lstore 8, 2) := by decide +kernel
theorem dX12_gcd_26 : decode cX12_gcd 26 = .ok (.lload 6, 2) := by decide +kernel
theorem dX12_gcd_28 : decode cX12_gcd 28 = .ok (.lstore 4, 2) := by decide +kernel
theorem dX12_gcd_30 : decode cX12_gcd 30 = .ok (.lload 8, 2) := by decide +kernel
theorem dX12_gcd_32 : decode cX12_gcd 32 = .ok (.lstore 6, 2) := by decide +kernel
theorem dX12_gcd_34 : decode cX12_gcd 34 = .ok (.goto (-22), 3) := by decide +kernel
theorem dX12_gcd_37 : decode cX12_gcd 37 = .ok (.lload 4, 2) := by decide +kernel
theorem dX12_gcd_39 : decode cX12_gcd 39 = .ok (.lreturn, 1) := by decide +kernel
set_option maxRecDepth 20000 in
theorem ggX12_init_X10_init : GoodIn wsX12_init wsX10_init := goodIn_r _ [40, 41, 2, 3, 11, 42, 43, 44, 45, 46, 47, 48, 49, 50, 51, 9, 52, 57, 58, 59, 60, 61, 62, 63, 64, 65, 66, 67, 68, 69, 70, 71, 72] rfl (by decide +kernel)
set_option maxRecDepth 20000 in
theorem gX12_init_X10_init_n15 : GoodIn wsX12_init (wsX10_init) := ggX12_init_X10_init
set_option maxRecDepth 20000 in
theorem ggX12_init_X11_init : GoodIn wsX12_init wsX11_init := goodIn_r _ [54, 55, 2, 3, 11, 56, 105, 106] rfl (by decide +kernel)
set_option maxRecDepth 20000 in
theorem gX12_init_X11_init_n63 : GoodIn wsX12_init (wsX11_init) := ggX12_init_X11_init
theorem dX12_init_0 : decode cX12_init 0 = .ok (.aload_n 0, 1) := by decide +kernel
theorem dX12_init_1 : decode cX12_init 1 = .ok (.invokespecial 7, 3) := by decide +kernel
theorem dX12_init_4 : decode cX12_init 4 = .ok (.aload_n 0, 1) := by decide +kernel
theorem dX12_init_5 : decode cX12_init 5 = .ok (.new 13, 3) := by decide +kernel
theorem dX12_init_8 : decode cX12_init 8 = .ok (.dup, 1) := by decide +kernel
theorem dX12_init_9 : decode cX12_init 9 = .ok (.invokespecial 15, 3) := by decide +kernel
theorem dX12_init_12 : decode cX12_init 12 = .ok (.putfield 16, 3) := by decide +kernel
theorem dX12_init_15 : decode cX12_init 15 = .ok (.aload_n 0, 1) := by decide +kernel
theorem dX12_init_16 : decode cX12_init 16 = .ok (.iconst 4, 1) := by decide +kernel
theorem dX12_init_17 : decode cX12_init 17 = .ok (.anewarray 13, 3) := by decide +kernel
theorem dX12_init_20 : decode cX12_init 20 = .ok (.putfield 22, 3) := by decide +kernel
theorem dX12_init_23 : decode cX12_init 23 = .ok (.aload_n 0, 1) := by decide +kernel
theorem dX12_init_24 : decode cX12_init 24 = .ok (.iconst 4, 1) := by decide +kernel
theorem dX12_init_25 : decode cX12_init 25 = .ok (.newarray .boolean, 2) := by decide +kernel
theorem dX12_init_27 : decode cX12_init 27 = .ok (.putfield 26, 3) := by decide +kernel
theorem dX12_init_30 : decode cX12_init 30 = .ok (.aload_n 0, 1) := by decide +kernel
theorem dX12_init_31 : decode cX12_init 31 = .ok (.sipush 1600, 3) := by decide +kernel
theorem dX12_init_34 : decode cX12_init 34 = .ok (.newarray .int, 2) := by decide +kernel
theorem dX12_init_36 : decode cX12_init 36 = .ok (.putfield 30, 3) := by decide +kernel
theorem dX12_init_39 : decode cX12_init 39 = .ok (.aload_n 0, 1) := by decide +kernel
theorem dX12_init_40 : decode cX12_init 40 = .ok (.sipush 160, 3) := by decide +kernel
theorem dX12_init_43 : decode cX12_init 43 = .ok (.newarray .int, 2) := by decide +kernel
theorem dX12_init_45 : decode cX12_init 45 = .ok (.putfield 34, 3) := by decide +kernel
theorem dX12_init_48 : decode cX12_init 48 = .ok (.aload_n 0, 1) := by decide +kernel
theorem dX12_init_49 : decode cX12_init 49 = .ok (.sipush 160, 3) := by decide +kernel
theorem dX12_init_52 : decode cX12_init 52 = .ok (.newarray .int, 2) := by decide +kernel
theorem dX12_init_54 : decode cX12_init 54 = .ok (.putfield 37, 3) := by decide +kernel
theorem dX12_init_57 : decode cX12_init 57 = .ok (.aload_n 0, 1) := by decide +kernel
theorem dX12_init_58 : decode cX12_init 58 = .ok (.sipush 160, 3) := by decide +kernel
theorem dX12_init_61 : decode cX12_init 61 = .ok (.newarray .int, 2) := by decide +kernel
theorem dX12_init_63 : decode cX12_init 63 = .ok (.putfield 40, 3) := by decide +kernel
theorem dX12_init_66 : decode cX12_init 66 = .ok (.aload_n 0, 1) := by decide +kernel
theorem dX12_init_67 : decode cX12_init 67 = .ok (.sipush 160, 3) := by decide +kernel
theorem dX12_init_70 : decode cX12_init 70 = .ok (.newarray .int, 2) := by decide +kernel
theorem dX12_init_72 : decode cX12_init 72 = .ok (.putfield 43, 3) := by decide +kernel
theorem dX12_init_75 : decode cX12_init 75 = .ok (.aload_n 0, 1) := by decide +kernel
theorem dX12_init_76 : decode cX12_init 76 = .ok (.bipush 6, 2) := by decide +kernel
theorem dX12_init_78 : decode cX12_init 78 = .ok (.newarray .int, 2) := by decide +kernel
theorem dX12_init_80 : decode cX12_init 80 = .ok (.putfield 46, 3) := by decide +kernel
theorem dX12_init_83 : decode cX12_init 83 = .ok (.aload_n 0, 1) := by decide +kernel
theorem dX12_init_84 : decode cX12_init 84 = .ok (.sipush 160, 3) := by decide +kernel
theorem dX12_init_87 : decode cX12_init 87 = .ok (.newarray .boolean, 2) := by decide +kernel
theorem dX12_init_89 : decode cX12_init 89 = .ok (.putfield 49, 3) := by decide +kernel
theorem dX12_init_92 : decode cX12_init 92 = .ok (.aload_n 0, 1) := by decide +kernel
theorem dX12_init_93 : decode cX12_init 93 = .ok (.iconst 4, 1) := by decide +kernel
theorem dX12_init_94 : decode cX12_init 94 = .ok (.newarray .int, 2) := by decide +kernel
theorem dX12_init_96 : decode cX12_init 96 = .ok (.putfield 52, 3) := by decide +kernel
theorem dX12_init_99 : decode cX12_init 99 = .ok (.aload_n 0, 1) := by decide +kernel
theorem dX12_init_100 : decode cX12_init 100 = .ok (.iconst 4, 1) := by decide +kernel
theorem dX12_init_101 : decode cX12_init 101 = .ok (.newarray .int, 2) := by decide +kernel
theorem dX12_init_103 : decode cX12_init 103 = .ok (.putfield 55, 3) := by decide +kernel
theorem dX12_init_106 : decode cX12_init 106 = .ok (.aload_n 0, 1) := by decide +kernel
theorem dX12_init_107 : decode cX12_init 107 = .ok (.bipush 8, 2) := by decide +kernel
theorem dX12_init_109 : decode cX12_init 109 = .ok (.newarray .int, 2) := by decide +kernel
theorem dX12_init_111 : decode cX12_init 111 = .ok (.putfield 58, 3) := by decide +kernel
theorem dX12_init_114 : decode cX12_init 114 = .ok (.aload_n 0, 1) := by decide +kernel
theorem dX12_init_115 : decode cX12_init 115 = .ok (.new 61, 3) := by decide +kernel
theorem dX12_init_118 : decode cX12_init 118 = .ok (.dup, 1) := by decide +kernel
theorem dX12_init_119 : decode cX12_init 119 = .ok (.invokespecial 63, 3) := by decide +kernel
theorem dX12_init_122 : decode cX12_init 122 = .ok (.putfield 64, 3) := by decide +kernel
theorem dX12_init_125 : decode cX12_init 125 = .ok (.aload_n 0, 1) := by decide +kernel
theorem dX12_init_126 : decode cX12_init 126 = .ok (.new 61, 3) := by decide +kernel
theorem dX12_init_129 : decode cX12_init 129 = .ok (.dup, 1) := by decide +kernel
theorem dX12_init_130 : decode cX12_init 130 = .ok (.invokespecial 63, 3) := by decide +kernel
theorem dX12_init_133 : decode cX12_init 133 = .ok (.putfield 68, 3) := by decide +kernel
theorem dX12_init_136 : decode cX12_init 136 = .ok (.aload_n 0, 1) := by decide +kernel
theorem dX12_init_137 : decode cX12_init 137 = .ok (.new 61, 3) := by decide +kernel
theorem dX12_init_140 : decode cX12_init 140 = .ok (.dup, 1) := by decide +kernel
theorem dX12_init_141 : decode cX12_init 141 = .ok (.invokespecial 63, 3) := by decide +kernel
theorem dX12_init_144 : decode cX12_init 144 = .ok (.putfield 71, 3) := by decide +kernel
theorem dX12_init_147 : decode cX12_init 147 = .ok (.aload_n 0, 1) := by decide +kernel
theorem dX12_init_148 : decode cX12_init 148 = .ok (.new 61, 3) := by decide +kernel
theorem dX12_init_151 : decode cX12_init 151 = .ok (.dup, 1) := by decide +kernel
theorem dX12_init_152 : decode cX12_init 152 = .ok (.invokespecial 63, 3) := by decide +kernel
theorem dX12_init_155 : decode cX12_init 155 = .ok (.putfield 74, 3) := by decide +kernel
theorem dX12_init_158 : decode cX12_init 158 = .ok (.aload_n 0, 1) := by decide +kernel
theorem dX12_init_159 : decode cX12_init 159 = .ok (.new 61, 3) := by decide +kernel
theorem dX12_init_162 : decode cX12_init 162 = .ok (.dup, 1) := by decide +kernel
theorem dX12_init_163 : decode cX12_init 163 = .ok (.invokespecial 63, 3) := by decide +kernel
theorem dX12_init_166 : decode cX12_init 166 = .ok (.putfield 77, 3) := by decide +kernel
theorem dX12_init_169 : decode cX12_init 169 = .ok (.aload_n 0, 1) := by decide +kernel
theorem dX12_init_170 : decode cX12_init 170 = .ok (.sipush 160, 3) := by decide +kernel
theorem dX12_init_173 : decode cX12_init 173 = .ok (.newarray .int, 2) := by decide +kernel
theorem dX12_init_175 : decode cX12_init 175 = .ok (.putfield 80, 3) := by decide +kernel
theorem dX12_init_178 : decode cX12_init 178 = .ok (.aload_n 0, 1) := by decide +kernel
theorem dX12_init_179 : decode cX12_init 179 = .ok (.sipush 160, 3) := by decide +kernel
theorem dX12_init_182 : decode cX12_init 182 = .ok (.newarray .int, 2) := by decide +kernel
theorem dX12_init_184 : decode cX12_init 184 = .ok (.putfield 83, 3) := by decide +kernel
theorem dX12_init_187 : decode cX12_init 187 = .ok (.aload_n 0, 1) := by decide +kernel
theorem dX12_init_188 : decode cX12_init 188 = .ok (.sipush 25600, 3) := by decide +kernel
theorem dX12_init_191 : decode cX12_init 191 = .ok (.newarray .boolean, 2) := by decide +kernel
theorem dX12_init_193 : decode cX12_init 193 = .ok (.putfield 86, 3) := by decide +kernel
theorem dX12_init_196 : decode cX12_init 196 = .ok (.aload_n 0, 1) := by decide +kernel
theorem dX12_init_197 : decode cX12_init 197 = .ok (.sipush 160, 3) := by decide +kernel
theorem dX12_init_200 : decode cX12_init 200 = .ok (.newarray .boolean, 2) := by decide +kernel
theorem dX12_init_202 : decode cX12_init 202 = .ok (.putfield 89, 3) := by decide +kernel
theorem dX12_init_205 : decode cX12_init 205 = .ok (.aload_n 0, 1) := by decide +kernel
theorem dX12_init_206 : decode cX12_init 206 = .ok (.sipush 10816, 3) := by decide +kernel
theorem dX12_init_209 : decode cX12_init 209 = .ok (.newarray .boolean, 2) := by decide +kernel
theorem dX12_init_211 : decode cX12_init 211 = .ok (.putfield 92, 3) := by decide +kernel
theorem dX12_init_214 : decode cX12_init 214 = .ok (.aload_n 0, 1) := by decide +kernel
theorem dX12_init_215 : decode cX12_init 215 = .ok (.bipush 6, 2) := by decide +kernel
theorem dX12_init_217 : decode cX12_init 217 = .ok (.newarray .int, 2) := by decide +kernel
theorem dX12_init_219 : decode cX12_init 219 = .ok (.putfield 95, 3) := by decide +kernel
theorem dX12_init_222 : decode cX12_init 222 = .ok (.aload_n 0, 1) := by decide +kernel
theorem dX12_init_223 : decode cX12_init 223 = .ok (.bipush 6, 2) := by decide +kernel
theorem dX12_init_225 : decode cX12_init 225 = .ok (.newarray .int, 2) := by decide +kernel
theorem dX12_init_227 : decode cX12_init 227 = .ok (.putfield 98, 3) := by decide +kernel
theorem dX12_init_230 : decode cX12_init 230 = .ok (.aload_n 0, 1) := by decide +kernel
theorem dX12_init_231 : decode cX12_init 231 = .ok (.bipush 6, 2) := by decide +kernel
theorem dX12_init_233 : decode cX12_init 233 = .ok (.newarray .boolean, 2) := by decide +kernel
theorem dX12_init_235 : decode cX12_init 235 = .ok (.putfield 101, 3) := by decide +kernel
theorem dX12_init_238 : decode cX12_init 238 = .ok (.aload_n 0, 1) := by decide +kernel
theorem dX12_init_239 : decode cX12_init 239 = .ok (.sipush 240, 3) := by decide +kernel
theorem dX12_init_242 : decode cX12_init 242 = .ok (.newarray .int, 2) := by decide +kernel
theorem dX12_init_244 : decode cX12_init 244 = .ok (.putfield 104, 3) := by decide +kernel
theorem dX12_init_247 : decode cX12_init 247 = .ok (.iconst 0, 1) := by decide +kernel
theorem dX12_init_248 : decode cX12_init 248 = .ok (.istore_n 1, 1) := by decide +kernel
theorem dX12_init_249 : decode cX12_init 249 = .ok (.iload_n 1, 1) := by decide +kernel
theorem dX12_init_250 : decode cX12_init 250 = .ok (.iconst 4, 1) := by decide +kernel
theorem dX12_init_251 : decode cX12_init 251 = .ok (.if_icmp .ge 29, 3) := by decide +kernel
theorem dX12_init_254 : decode cX12_init 254 = .ok (.aload_n 0, 1) := by decide +kernel
theorem dX12_init_255 : decode cX12_init 255 = .ok (.getfield 22, 3) := by decide +kernel
theorem dX12_init_258 : decode cX12_init 258 = .ok (.iload_n 1, 1) := by decide +kernel
theorem dX12_init_259 : decode cX12_init 259 = .ok (.new 13, 3) := by decide +kernel
theorem dX12_init_262 : decode cX12_init 262 = .ok (.dup, 1) := by decide +kernel
theorem dX12_init_263 : decode cX12_init 263 = .ok (.invokespecial 15, 3) := by decide +kernel
theorem dX12_init_266 : decode cX12_init 266 = .ok (.aastore, 1) := by decide +kernel
theorem dX12_init_267 : decode cX12_init 267 = .ok (.aload_n 0, 1) := by decide +kernel
theorem dX12_init_268 : decode cX12_init 268 = .ok (.getfield 52, 3) := by decide +kernel
theorem dX12_init_271 : decode cX12_init 271 = .ok (.iload_n 1, 1) := by decide +kernel
theorem dX12_init_272 : decode cX12_init 272 = .ok (.iconst (-1), 1) := by decide +kernel
theorem dX12_init_273 : decode cX12_init 273 = .ok (.iastore, 1) := by decide +kernel
theorem dX12_init_274 : decode cX12_init 274 = .ok (.iinc 1 1, 3) := by decide +kernel
theorem dX12_init_277 : decode cX12_init 277 = .ok (.goto (-28), 3) := by decide +kernel
theorem dX12_init_280 : decode cX12_init 280 = .ok (.return_, 1) := by decide +kernel
theorem dX12_answer_0 : decode cX12_answer 0 = .ok (.iload_n 1, 1) := by decide +kernel
theorem dX12_answer_1 : decode cX12_answer 1 = .ok (.ifCond .ge 14, 3) := by decide +kernel
theorem dX12_answer_4 : decode cX12_answer 4 = .ok (.aload_n 0, 1) := by decide +kernel
theorem dX12_answer_5 : decode cX12_answer 5 = .ok (.getfield 58, 3) := by decide +kernel
theorem dX12_answer_8 : decode cX12_answer 8 = .ok (.iload_n 1, 1) := by decide +kernel
theorem dX12_answer_9 : decode cX12_answer 9 = .ok (.ineg, 1) := by decide +kernel
theorem dX12_answer_10 : decode cX12_answer 10 = .ok (.dup2, 1) := by decide +kernel
theorem dX12_answer_11 : decode cX12_answer 11 = .ok (.iaload, 1) := by decide +kernel
theorem dX12_answer_12 : decode cX12_answer 12 = .ok (.iconst 1, 1) := by decide +kernel
theorem dX12_answer_13 : decode cX12_answer 13 = .ok (.iadd, 1) := by decide +kernel
theorem dX12_answer_14 : decode cX12_answer 14 = .ok (.iastore, 1) := by decide +kernel
theorem dX12_answer_15 : decode cX12_answer 15 = .ok (.iload_n 1, 1) := by decide +kernel
theorem dX12_answer_16 : decode cX12_answer 16 = .ok (.ireturn, 1) := by decide +kernel
theorem dX12_beginOf_0 : decode cX12_beginOf 0 = .ok (.iload_n 1, 1) := by decide +kernel
theorem dX12_beginOf_1 : decode cX12_beginOf 1 = .ok (.iconst 1, 1) := by decide +kernel
theorem dX12_beginOf_2 : decode cX12_beginOf 2 = .ok (.iand, 1) := by decide +kernel
theorem dX12_beginOf_3 : decode cX12_beginOf 3 = .ok (.ifCond .ne 17, 3) := by decide +kernel
theorem dX12_beginOf_6 : decode cX12_beginOf 6 = .ok (.aload_n 0, 1) := by decide +kernel
theorem dX12_beginOf_7 : decode cX12_beginOf 7 = .ok (.getfield 16, 3) := by decide +kernel
theorem dX12_beginOf_10 : decode cX12_beginOf 10 = .ok (.getfield 107, 3) := by decide +kernel
theorem dX12_beginOf_13 : decode cX12_beginOf 13 = .ok (.iload_n 1, 1) := by decide +kernel
theorem dX12_beginOf_14 : decode cX12_beginOf 14 = .ok (.iconst 2, 1) := by decide +kernel
theorem dX12_beginOf_15 : decode cX12_beginOf 15 = .ok (.idiv, 1) := by decide +kernel
theorem dX12_beginOf_16 : decode cX12_beginOf 16 = .ok (.iaload, 1) := by decide +kernel
theorem dX12_beginOf_17 : decode cX12_beginOf 17 = .ok (.goto 14, 3) := by decide +kernel
theorem dX12_beginOf_20 : decode cX12_beginOf 20 = .ok (.aload_n 0, 1) := by decide +kernel
theorem dX12_beginOf_21 : decode cX12_beginOf 21 = .ok (.getfield 16, 3) := by decide +kernel
theorem dX12_beginOf_24 : decode cX12_beginOf 24 = .ok (.getfield 110, 3) := by decide +kernel
theorem dX12_beginOf_27 : decode cX12_beginOf 27 = .ok (.iload_n 1, 1) := by decide +kernel
theorem dX12_beginOf_28 : decode cX12_beginOf 28 = .ok (.iconst 2, 1) := by decide +kernel
theorem dX12_beginOf_29 : decode cX12_beginOf 29 = .ok (.idiv, 1) := by decide +kernel
theorem dX12_beginOf_30 : decode cX12_beginOf 30 = .ok (.iaload, 1) := by decide +kernel
theorem dX12_beginOf_31 : decode cX12_beginOf 31 = .ok (.ireturn, 1) := by decide +kernel
set_option maxRecDepth 20000 in
theorem ggX12_endOf_X12_beginOf : GoodIn wsX12_endOf wsX12_beginOf := goodIn_r _ [5, 6, 7, 8, 9, 10, 11, 12, 13, 14, 15, 16, 17, 18, 19, 20, 21, 22, 23, 24, 25, 26, 27, 28, 29, 30, 31, 32, 33, 34, 35, 36, 37, 38, 39, 40, 41, 42, 43, 44, 45, 46, 47, 48, 49, 50, 51, 52, 53, 54] rfl (by decide +kernel)
set_option maxRecDepth 20000 in
theorem gX12_endOf_X12_beginOf : GoodIn wsX12_endOf (wsV RX12 113 RX12 yX12_beginOf wsX12_beginOf) := goodIn_app (goodIn_r ([.methodLink RX12 113 yX12_beginOf, .instanceMethod yX12_beginOf, .selects RX12 yX12_beginOf yX12_beginOf, .initialized RX12] : List Cond) [1, 2, 3, 4] rfl (by decide +kernel)) ggX12_endOf_X12_beginOf
theorem dX12_endOf_0 : decode cX12_endOf 0 = .ok (.aload_n 0, 1) := by decide +kernel
theorem dX12_endOf_1 : decode cX12_endOf 1 = .ok (.iload_n 1, 1) := by decide +kernel
theorem dX12_endOf_2 : decode cX12_endOf 2 = .ok (.iconst 1, 1) := by decide +kernel
theorem dX12_endOf_3 : decode cX12_endOf 3 = .ok (.ixor, 1) := by decide +kernel
theorem dX12_endOf_4 : decode cX12_endOf 4 = .ok (.invokevirtual 113, 3) := by decide +kernel
theorem dX12_endOf_7 : decode cX12_endOf 7 = .ok (.ireturn, 1) := by decide +kernel
theorem dX12_wayX_0 : decode cX12_wayX 0 = .ok (.aload_n 0, 1) := by decide +kernel
theorem dX12_wayX_1 : decode cX12_wayX 1 = .ok (.getfield 16, 3) := by decide +kernel
theorem dX12_wayX_4 : decode cX12_wayX 4 = .ok (.getfield 117, 3) := by decide +kernel
theorem dX12_wayX_7 : decode cX12_wayX 7 = .ok (.iload_n 2, 1) := by decide +kernel
theorem dX12_wayX_8 : decode cX12_wayX 8 = .ok (.laload, 1) := by decide +kernel
theorem dX12_wayX_9 : decode cX12_wayX 9 = .ok (.aload_n 0, 1) := by decide +kernel
theorem dX12_wayX_10 : decode cX12_wayX 10 = .ok (.getfield 16, 3) := by decide +kernel
theorem dX12_wayX_13 : decode cX12_wayX 13 = .ok (.getfield 121, 3) := by decide +kernel
theorem dX12_wayX_16 : decode cX12_wayX 16 = .ok (.iload_n 1, 1) := by decide +kernel
theorem dX12_wayX_17 : decode cX12_wayX 17 = .ok (.laload, 1) := by decide +kernel
theorem dX12_wayX_18 : decode cX12_wayX 18 = .ok (.lmul, 1) := by decide +kernel
theorem dX12_wayX_19 : decode cX12_wayX 19 = .ok (.aload_n 0, 1) := by decide +kernel
theorem dX12_wayX_20 : decode cX12_wayX 20 = .ok (.getfield 16, 3) := by decide +kernel
theorem dX12_wayX_23 : decode cX12_wayX 23 = .ok (.getfield 117, 3) := by decide +kernel
theorem dX12_wayX_26 : decode cX12_wayX 26 = .ok (.iload_n 1, 1) := by decide +kernel
theorem dX12_wayX_27 : decode cX12_wayX 27 = .ok (.laload, 1) := by decide +kernel
theorem dX12_wayX_28 : decode cX12_wayX 28 = .ok (.aload_n 0, 1) := by decide +kernel
theorem dX12_wayX_29 : decode cX12_wayX 29 = .ok (.getfield 16, 3) := by decide +kernel
theorem dX12_wayX_32 : decode cX12_wayX 32 = .ok (.getfield 121, 3) := by decide +kernel
theorem dX12_wayX_35 : decode cX12_wayX 35 = .ok (.iload_n 2, 1) := by decide +kernel
theorem dX12_wayX_36 : decode cX12_wayX 36 = .ok (.laload, 1) := by decide +kernel
theorem dX12_wayX_37 : decode cX12_wayX 37 = .ok (.lmul, 1) := by decide +kernel
theorem dX12_wayX_38 : decode cX12_wayX 38 = .ok (.lsub, 1) := by decide +kernel
theorem dX12_wayX_39 : decode cX12_wayX 39 = .ok (.lreturn, 1) := by decide +kernel
theorem dX12_wayY_0 : decode cX12_wayY 0 = .ok (.aload_n 0, 1) := by decide +kernel
theorem dX12_wayY_1 : decode cX12_wayY 1 = .ok (.getfield 16, 3) := by decide +kernel
theorem dX12_wayY_4 : decode cX12_wayY 4 = .ok (.getfield 124, 3) := by decide +kernel
theorem dX12_wayY_7 : decode cX12_wayY 7 = .ok (.iload_n 2, 1) := by decide +kernel
theorem dX12_wayY_8 : decode cX12_wayY 8 = .ok (.laload, 1) := by decide +kernel
theorem dX12_wayY_9 : decode cX12_wayY 9 = .ok (.aload_n 0, 1) := by decide +kernel
theorem dX12_wayY_10 : decode cX12_wayY 10 = .ok (.getfield 16, 3) := by decide +kernel
theorem dX12_wayY_13 : decode cX12_wayY 13 = .ok (.getfield 121, 3) := by decide +kernel
theorem dX12_wayY_16 : decode cX12_wayY 16 = .ok (.iload_n 1, 1) := by decide +kernel
theorem dX12_wayY_17 : decode cX12_wayY 17 = .ok (.laload, 1) := by decide +kernel
theorem dX12_wayY_18 : decode cX12_wayY 18 = .ok (.lmul, 1) := by decide +kernel
theorem dX12_wayY_19 : decode cX12_wayY 19 = .ok (.aload_n 0, 1) := by decide +kernel
theorem dX12_wayY_20 : decode cX12_wayY 20 = .ok (.getfield 16, 3) := by decide +kernel
theorem dX12_wayY_23 : decode cX12_wayY 23 = .ok (.getfield 124, 3) := by decide +kernel
theorem dX12_wayY_26 : decode cX12_wayY 26 = .ok (.iload_n 1, 1) := by decide +kernel
theorem dX12_wayY_27 : decode cX12_wayY 27 = .ok (.laload, 1) := by decide +kernel
theorem dX12_wayY_28 : decode cX12_wayY 28 = .ok (.aload_n 0, 1) := by decide +kernel
theorem dX12_wayY_29 : decode cX12_wayY 29 = .ok (.getfield 16, 3) := by decide +kernel
theorem dX12_wayY_32 : decode cX12_wayY 32 = .ok (.getfield 121, 3) := by decide +kernel
theorem dX12_wayY_35 : decode cX12_wayY 35 = .ok (.iload_n 2, 1) := by decide +kernel
theorem dX12_wayY_36 : decode cX12_wayY 36 = .ok (.laload, 1) := by decide +kernel
theorem dX12_wayY_37 : decode cX12_wayY 37 = .ok (.lmul, 1) := by decide +kernel
theorem dX12_wayY_38 : decode cX12_wayY 38 = .ok (.lsub, 1) := by decide +kernel
theorem dX12_wayY_39 : decode cX12_wayY 39 = .ok (.lreturn, 1) := by decide +kernel
theorem dX12_turnOf_0 : decode cX12_turnOf 0 = .ok (.lload_n 0, 1) := by decide +kernel
theorem dX12_turnOf_1 : decode cX12_turnOf 1 = .ok (.lload 6, 2) := by decide +kernel
theorem dX12_turnOf_3 : decode cX12_turnOf 3 = .ok (.lmul, 1) := by decide +kernel
theorem dX12_turnOf_4 : decode cX12_turnOf 4 = .ok (.lload_n 2, 1) := by decide +kernel
theorem dX12_turnOf_5 : decode cX12_turnOf 5 = .ok (.lload 4, 2) := by decide +kernel
theorem dX12_turnOf_7 : decode cX12_turnOf 7 = .ok (.lmul, 1) := by decide +kernel
theorem dX12_turnOf_8 : decode cX12_turnOf 8 = .ok (.lsub, 1) := by decide +kernel
theorem dX12_turnOf_9 : decode cX12_turnOf 9 = .ok (.lstore 8, 2) := by decide +kernel
theorem dX12_turnOf_11 : decode cX12_turnOf 11 = .ok (.lload 8, 2) := by decide +kernel
theorem dX12_turnOf_13 : decode cX12_turnOf 13 = .ok (.lconst 0, 1) := by decide +kernel
theorem dX12_turnOf_14 : decode cX12_turnOf 14 = .ok (.lcmp, 1) := by decide +kernel
theorem dX12_turnOf_15 : decode cX12_turnOf 15 = .ok (.ifCond .ge 7, 3) := by decide +kernel
theorem dX12_turnOf_18 : decode cX12_turnOf 18 = .ok (.iconst 0, 1) := by decide +kernel
theorem dX12_turnOf_19 : decode cX12_turnOf 19 = .ok (.goto 15, 3) := by decide +kernel
theorem dX12_turnOf_22 : decode cX12_turnOf 22 = .ok (.lload 8, 2) := by decide +kernel
theorem dX12_turnOf_24 : decode cX12_turnOf 24 = .ok (.lconst 0, 1) := by decide +kernel
theorem dX12_turnOf_25 : decode cX12_turnOf 25 = .ok (.lcmp, 1) := by decide +kernel
theorem dX12_turnOf_26 : decode cX12_turnOf 26 = .ok (.ifCond .ne 7, 3) := by decide +kernel
theorem dX12_turnOf_29 : decode cX12_turnOf 29 = .ok (.iconst 1, 1) := by decide +kernel
theorem dX12_turnOf_30 : decode cX12_turnOf 30 = .ok (.goto 4, 3) := by decide +kernel
theorem dX12_turnOf_33 : decode cX12_turnOf 33 = .ok (.iconst 2, 1) := by decide +kernel
theorem dX12_turnOf_34 : decode cX12_turnOf 34 = .ok (.ireturn, 1) := by decide +kernel
set_option maxRecDepth 20000 in
theorem ggX12_next_X12_beginOf : GoodIn wsX12_next wsX12_beginOf := goodIn_r _ [6, 1, 26, 27, 28, 29, 30, 31, 32, 33, 34, 35, 36, 37, 38, 39, 40, 41, 42, 43, 44, 45, 46, 47, 48, 49, 50, 51, 52, 53, 54, 55, 56, 57, 58, 59, 60, 61, 62, 63, 64, 65, 66, 67, 68, 69, 70, 71, 72, 73] rfl (by decide +kernel)
set_option maxRecDepth 20000 in
theorem gX12_next_X12_beginOf : GoodIn wsX12_next (wsV RX12 113 RX12 yX12_beginOf wsX12_beginOf) := goodIn_app (goodIn_r ([.methodLink RX12 113 yX12_beginOf, .instanceMethod yX12_beginOf, .selects RX12 yX12_beginOf yX12_beginOf, .initialized RX12] : List Cond) [2, 3, 4, 5] rfl (by decide +kernel)) ggX12_next_X12_beginOf
set_option maxRecDepth 20000 in
theorem ggX12_next_X12_endOf : GoodIn wsX12_next wsX12_endOf := goodIn_r _ [10, 2, 3, 4, 5, 6, 1, 26, 27, 28, 29, 30, 31, 32, 33, 34, 35, 36, 37, 38, 39, 40, 41, 42, 43, 44, 45, 46, 47, 48, 49, 50, 51, 52, 53, 54, 55, 56, 57, 58, 59, 60, 61, 62, 63, 64, 65, 66, 67, 68, 69, 70, 71, 72, 73] rfl (by decide +kernel)
set_option maxRecDepth 20000 in
theorem gX12_next_X12_endOf : GoodIn wsX12_next (wsV RX12 127 RX12 yX12_endOf wsX12_endOf) := goodIn_app (goodIn_r ([.methodLink RX12 127 yX12_endOf, .instanceMethod yX12_endOf, .selects RX12 yX12_endOf yX12_endOf, .initialized RX12] : List Cond) [7, 8, 9, 5] rfl (by decide +kernel)) ggX12_next_X12_endOf
set_option maxRecDepth 20000 in
theorem ggX12_next_X12_wayX : GoodIn wsX12_next wsX12_wayX := goodIn_r _ [14, 1, 26, 27, 28, 29, 30, 31, 32, 33, 34, 35, 36, 37, 38, 39, 40, 41, 42, 43, 44, 45, 46, 47, 48, 49, 50, 51, 52, 53, 54, 55, 56, 57, 58, 59, 60, 61, 62, 63, 64, 65, 66, 67, 68, 69, 70, 71, 72, 73] rfl (by decide +kernel)
set_option maxRecDepth 20000 in
theorem gX12_next_X12_wayX : GoodIn wsX12_next (wsV RX12 130 RX12 yX12_wayX wsX12_wayX) := goodIn_app (goodIn_r ([.methodLink RX12 130 yX12_wayX, .instanceMethod yX12_wayX, .selects RX12 yX12_wayX yX12_wayX, .initialized RX12] : List Cond) [11, 12, 13, 5] rfl (by decide +kernel)) ggX12_next_X12_wayX
set_option maxRecDepth 20000 in
theorem ggX12_next_X12_wayY : GoodIn wsX12_next wsX12_wayY := goodIn_r _ [18, 1, 26, 27, 28, 29, 30, 31, 32, 33, 34, 35, 36, 37, 38, 39, 40, 41, 42, 43, 44, 45, 46, 47, 48, 49, 50, 51, 52, 53, 54, 55, 56, 57, 58, 59, 60, 61, 62, 63, 64, 65, 66, 67, 68, 69, 70, 71, 72, 73] rfl (by decide +kernel)
set_option maxRecDepth 20000 in
theorem gX12_next_X12_wayY : GoodIn wsX12_next (wsV RX12 134 RX12 yX12_wayY wsX12_wayY) := goodIn_app (goodIn_r ([.methodLink RX12 134 yX12_wayY, .instanceMethod yX12_wayY, .selects RX12 yX12_wayY yX12_wayY, .initialized RX12] : List Cond) [15, 16, 17, 5] rfl (by decide +kernel)) ggX12_next_X12_wayY
set_option maxRecDepth 20000 in
theorem ggX12_next_X12_isSooner : GoodIn wsX12_next wsX12_isSooner := goodIn_r _ [22, 11, 12, 13, 5, 14, 1, 15, 16, 17, 18, 23, 24, 25, 26, 27, 28, 29, 30, 31, 32, 33, 34, 35, 36, 37, 38, 39, 40, 41, 42, 43, 44, 45, 46, 47, 48, 49, 50, 51, 52, 53, 54, 55, 56, 57, 58, 59, 60, 61, 62, 63, 64, 65, 66, 67, 68, 69, 70, 71, 72, 73] rfl (by decide +kernel)
set_option maxRecDepth 20000 in
theorem gX12_next_X12_isSooner : GoodIn wsX12_next (wsV RX12 144 RX12 yX12_isSooner wsX12_isSooner) := goodIn_app (goodIn_r ([.methodLink RX12 144 yX12_isSooner, .instanceMethod yX12_isSooner, .selects RX12 yX12_isSooner yX12_isSooner, .initialized RX12] : List Cond) [19, 20, 21, 5] rfl (by decide +kernel)) ggX12_next_X12_isSooner
theorem dX12_next_0 : decode cX12_next 0 = .ok (.aload_n 0, 1) := by decide +kernel
theorem dX12_next_1 : decode cX12_next 1 = .ok (.iload_n 1, 1) := by decide +kernel
theorem dX12_next_2 : decode cX12_next 2 = .ok (.invokevirtual 113, 3) := by decide +kernel
theorem dX12_next_5 : decode cX12_next 5 = .ok (.istore_n 2, 1) := by decide +kernel
theorem dX12_next_6 : decode cX12_next 6 = .ok (.aload_n 0, 1) := by decide +kernel
theorem dX12_next_7 : decode cX12_next 7 = .ok (.iload_n 1, 1) := by decide +kernel
theorem dX12_next_8 : decode cX12_next 8 = .ok (.invokevirtual 127, 3) := by decide +kernel
theorem dX12_next_11 : decode cX12_next 11 = .ok (.istore_n 3, 1) := by decide +kernel
theorem dX12_next_12 : decode cX12_next 12 = .ok (.aload_n 0, 1) := by decide +kernel
theorem dX12_next_13 : decode cX12_next 13 = .ok (.iload_n 3, 1) := by decide +kernel
theorem dX12_next_14 : decode cX12_next 14 = .ok (.iload_n 2, 1) := by decide +kernel
theorem dX12_next_15 : decode cX12_next 15 = .ok (.invokevirtual 130, 3) := by decide +kernel
theorem dX12_next_18 : decode cX12_next 18 = .ok (.lstore 4, 2) := by decide +kernel
theorem dX12_next_20 : decode cX12_next 20 = .ok (.aload_n 0, 1) := by decide +kernel
theorem dX12_next_21 : decode cX12_next 21 = .ok (.iload_n 3, 1) := by decide +kernel
theorem dX12_next_22 : decode cX12_next 22 = .ok (.iload_n 2, 1) := by decide +kernel
theorem dX12_next_23 : decode cX12_next 23 = .ok (.invokevirtual 134, 3) := by decide +kernel
theorem dX12_next_26 : decode cX12_next 26 = .ok (.lstore 6, 2) := by decide +kernel
theorem dX12_next_28 : decode cX12_next 28 = .ok (.iconst (-1), 1) := by decide +kernel
theorem dX12_next_29 : decode cX12_next 29 = .ok (.istore 8, 2) := by decide +kernel
theorem dX12_next_31 : decode cX12_next 31 = .ok (.iconst 0, 1) := by decide +kernel
theorem dX12_next_32 : decode cX12_next 32 = .ok (.istore 9, 2) := by decide +kernel
theorem dX12_next_34 : decode cX12_next 34 = .ok (.iload 9, 2) := by decide +kernel
theorem dX12_next_36 : decode cX12_next 36 = .ok (.iconst 2, 1) := by decide +kernel
theorem dX12_next_37 : decode cX12_next 37 = .ok (.aload_n 0, 1) := by decide +kernel
theorem dX12_next_38 : decode cX12_next 38 = .ok (.getfield 16, 3) := by decide +kernel
theorem dX12_next_41 : decode cX12_next 41 = .ok (.getfield 137, 3) := by decide +kernel
theorem dX12_next_44 : decode cX12_next 44 = .ok (.imul, 1) := by decide +kernel
theorem dX12_next_45 : decode cX12_next 45 = .ok (.if_icmp .ge 80, 3) := by decide +kernel
theorem dX12_next_48 : decode cX12_next 48 = .ok (.aload_n 0, 1) := by decide +kernel
theorem dX12_next_49 : decode cX12_next 49 = .ok (.getfield 16, 3) := by decide +kernel
theorem dX12_next_52 : decode cX12_next 52 = .ok (.getfield 141, 3) := by decide +kernel
theorem dX12_next_55 : decode cX12_next 55 = .ok (.iload 9, 2) := by decide +kernel
theorem dX12_next_57 : decode cX12_next 57 = .ok (.iconst 2, 1) := by decide +kernel
theorem dX12_next_58 : decode cX12_next 58 = .ok (.idiv, 1) := by decide +kernel
theorem dX12_next_59 : decode cX12_next 59 = .ok (.baload, 1) := by decide +kernel
theorem dX12_next_60 : decode cX12_next 60 = .ok (.ifCond .eq 59, 3) := by decide +kernel
theorem dX12_next_63 : decode cX12_next 63 = .ok (.aload_n 0, 1) := by decide +kernel
theorem dX12_next_64 : decode cX12_next 64 = .ok (.iload 9, 2) := by decide +kernel
theorem dX12_next_66 : decode cX12_next 66 = .ok (.invokevirtual 113, 3) := by decide +kernel
theorem dX12_next_69 : decode cX12_next 69 = .ok (.iload_n 3, 1) := by decide +kernel
theorem dX12_next_70 : decode cX12_next 70 = .ok (.if_icmp .ne 49, 3) := by decide +kernel
theorem dX12_next_73 : decode cX12_next 73 = .ok (.aload_n 0, 1) := by decide +kernel
theorem dX12_next_74 : decode cX12_next 74 = .ok (.iload 9, 2) := by decide +kernel
theorem dX12_next_76 : decode cX12_next 76 = .ok (.invokevirtual 127, 3) := by decide +kernel
theorem dX12_next_79 : decode cX12_next 79 = .ok (.iload_n 2, 1) := by decide +kernel
theorem dX12_next_80 : decode cX12_next 80 = .ok (.if_icmp .ne 6, 3) := by decide +kernel
theorem dX12_next_83 : decode cX12_next 83 = .ok (.goto 36, 3) := by decide +kernel
theorem dX12_next_86 : decode cX12_next 86 = .ok (.iload 8, 2) := by decide +kernel
theorem dX12_next_88 : decode cX12_next 88 = .ok (.ifCond .lt 27, 3) := by decide +kernel
theorem dX12_next_91 : decode cX12_next 91 = .ok (.aload_n 0, 1) := by decide +kernel
theorem dX12_next_92 : decode cX12_next 92 = .ok (.lload 4, 2) := by decide +kernel
theorem dX12_next_94 : decode cX12_next 94 = .ok (.lload 6, 2) := by decide +kernel
theorem dX12_next_96 : decode cX12_next 96 = .ok (.iload_n 3, 1) := by decide +kernel
theorem dX12_next_97 : decode cX12_next 97 = .ok (.aload_n 0, 1) := by decide +kernel
theorem dX12_next_98 : decode cX12_next 98 = .ok (.iload 9, 2) := by decide +kernel
theorem dX12_next_100 : decode cX12_next 100 = .ok (.invokevirtual 127, 3) := by decide +kernel
theorem dX12_next_103 : decode cX12_next 103 = .ok (.aload_n 0, 1) := by decide +kernel
theorem dX12_next_104 : decode cX12_next 104 = .ok (.iload 8, 2) := by decide +kernel
theorem dX12_next_106 : decode cX12_next 106 = .ok (.invokevirtual 127, 3) := by decide +kernel
theorem dX12_next_109 : decode cX12_next 109 = .ok (.invokevirtual 144, 3) := by decide +kernel
theorem dX12_next_112 : decode cX12_next 112 = .ok (.ifCond .eq 7, 3) := by decide +kernel
theorem dX12_next_115 : decode cX12_next 115 = .ok (.iload 9, 2) := by decide +kernel
theorem dX12_next_117 : decode cX12_next 117 = .ok (.istore 8, 2) := by decide +kernel
theorem dX12_next_119 : decode cX12_next 119 = .ok (.iinc 9 1, 3) := by decide +kernel
theorem dX12_next_122 : decode cX12_next 122 = .ok (.goto (-88), 3) := by decide +kernel
theorem dX12_next_125 : decode cX12_next 125 = .ok (.iload 8, 2) := by decide +kernel
theorem dX12_next_127 : decode cX12_next 127 = .ok (.ifCond .ge 9, 3) := by decide +kernel
theorem dX12_next_130 : decode cX12_next 130 = .ok (.iload_n 1, 1) := by decide +kernel
theorem dX12_next_131 : decode cX12_next 131 = .ok (.iconst 1, 1) := by decide +kernel
theorem dX12_next_132 : decode cX12_next 132 = .ok (.ixor, 1) := by decide +kernel
theorem dX12_next_133 : decode cX12_next 133 = .ok (.goto 5, 3) := by decide +kernel
theorem dX12_next_136 : decode cX12_next 136 = .ok (.iload 8, 2) := by decide +kernel
theorem dX12_next_138 : decode cX12_next 138 = .ok (.ireturn, 1) := by decide +kernel
set_option maxRecDepth 20000 in
theorem ggX12_isSooner_X12_wayX : GoodIn wsX12_isSooner wsX12_wayX := goodIn_r _ [5, 6, 14, 15, 16, 17, 18, 19, 20, 21, 22, 23, 24, 25, 26, 27, 28, 29, 30, 31, 32, 33, 34, 35, 36, 37, 38, 39, 40, 41, 42, 43, 44, 45, 46, 47, 48, 49, 50, 51, 52, 53, 54, 55, 56, 57, 58, 59, 60, 61] rfl (by decide +kernel)
set_option maxRecDepth 20000 in
theorem gX12_isSooner_X12_wayX : GoodIn wsX12_isSooner (wsV RX12 130 RX12 yX12_wayX wsX12_wayX) := goodIn_app (goodIn_r ([.methodLink RX12 130 yX12_wayX, .instanceMethod yX12_wayX, .selects RX12 yX12_wayX yX12_wayX, .initialized RX12] : List Cond) [1, 2, 3, 4] rfl (by decide +kernel)) ggX12_isSooner_X12_wayX
set_option maxRecDepth 20000 in
theorem ggX12_isSooner_X12_wayY : GoodIn wsX12_isSooner wsX12_wayY := goodIn_r _ [10, 6, 14, 15, 16, 17, 18, 19, 20, 21, 22, 23, 24, 25, 26, 27, 28, 29, 30, 31, 32, 33, 34, 35, 36, 37, 38, 39, 40, 41, 42, 43, 44, 45, 46, 47, 48, 49, 50, 51, 52, 53, 54, 55, 56, 57, 58, 59, 60, 61] rfl (by decide +kernel)
set_option maxRecDepth 20000 in
theorem gX12_isSooner_X12_wayY : GoodIn wsX12_isSooner (wsV RX12 134 RX12 yX12_wayY wsX12_wayY) := goodIn_app (goodIn_r ([.methodLink RX12 134 yX12_wayY, .instanceMethod yX12_wayY, .selects RX12 yX12_wayY yX12_wayY, .initialized RX12] : List Cond) [7, 8, 9, 4] rfl (by decide +kernel)) ggX12_isSooner_X12_wayY
set_option maxRecDepth 20000 in
theorem ggX12_isSooner_X12_turnOf : GoodIn wsX12_isSooner wsX12_turnOf := goodIn_r _ [13] rfl (by decide +kernel)
set_option maxRecDepth 20000 in
theorem gX12_isSooner_X12_turnOf : GoodIn wsX12_isSooner (va_wsS RX12 148 yX12_turnOf wsX12_turnOf) := goodIn_app (goodIn_r ([.methodLink RX12 148 yX12_turnOf, .static yX12_turnOf, .initialized yX12_turnOf.cls] : List Cond) [11, 12, 4] rfl (by decide +kernel)) ggX12_isSooner_X12_turnOf
theorem dX12_isSooner_0 : decode cX12_isSooner 0 = .ok (.lload_n 1, 1) := by decide +kernel
theorem dX12_isSooner_1 : decode cX12_isSooner 1 = .ok (.lload_n 3, 1) := by decide +kernel
theorem dX12_isSooner_2 : decode cX12_isSooner 2 = .ok (.aload_n 0, 1) := by decide +kernel
theorem dX12_isSooner_3 : decode cX12_isSooner 3 = .ok (.iload 5, 2) := by decide +kernel
theorem dX12_isSooner_5 : decode cX12_isSooner 5 = .ok (.iload 6, 2) := by decide +kernel
theorem dX12_isSooner_7 : decode cX12_isSooner 7 = .ok (.invokevirtual 130, 3) := by decide +kernel
theorem dX12_isSooner_10 : decode cX12_isSooner 10 = .ok (.aload_n 0, 1) := by decide +kernel
theorem dX12_isSooner_11 : decode cX12_isSooner 11 = .ok (.iload 5, 2) := by decide +kernel
theorem dX12_isSooner_13 : decode cX12_isSooner 13 = .ok (.iload 6, 2) := by decide +kernel
theorem dX12_isSooner_15 : decode cX12_isSooner 15 = .ok (.invokevirtual 134, 3) := by decide +kernel
theorem dX12_isSooner_18 : decode cX12_isSooner 18 = .ok (.invokestatic 148, 3) := by decide +kernel
theorem dX12_isSooner_21 : decode cX12_isSooner 21 = .ok (.istore 8, 2) := by decide +kernel
theorem dX12_isSooner_23 : decode cX12_isSooner 23 = .ok (.lload_n 1, 1) := by decide +kernel
theorem dX12_isSooner_24 : decode cX12_isSooner 24 = .ok (.lload_n 3, 1) := by decide +kernel
theorem dX12_isSooner_25 : decode cX12_isSooner 25 = .ok (.aload_n 0, 1) := by decide +kernel
theorem dX12_isSooner_26 : decode cX12_isSooner 26 = .ok (.iload 5, 2) := by decide +kernel
theorem dX12_isSooner_28 : decode cX12_isSooner 28 = .ok (.iload 7, 2) := by decide +kernel
theorem dX12_isSooner_30 : decode cX12_isSooner 30 = .ok (.invokevirtual 130, 3) := by decide +kernel
theorem dX12_isSooner_33 : decode cX12_isSooner 33 = .ok (.aload_n 0, 1) := by decide +kernel
theorem dX12_isSooner_34 : decode cX12_isSooner 34 = .ok (.iload 5, 2) := by decide +kernel
theorem dX12_isSooner_36 : decode cX12_isSooner 36 = .ok (.iload 7, 2) := by decide +kernel
theorem dX12_isSooner_38 : decode cX12_isSooner 38 = .ok (.invokevirtual 134, 3) := by decide +kernel
theorem dX12_isSooner_41 : decode cX12_isSooner 41 = .ok (.invokestatic 148, 3) := by decide +kernel
theorem dX12_isSooner_44 : decode cX12_isSooner 44 = .ok (.istore 9, 2) := by decide +kernel
theorem dX12_isSooner_46 : decode cX12_isSooner 46 = .ok (.iload 8, 2) := by decide +kernel
theorem dX12_isSooner_48 : decode cX12_isSooner 48 = .ok (.iload 9, 2) := by decide +kernel
theorem dX12_isSooner_50 : decode cX12_isSooner 50 = .ok (.if_icmp .eq 18, 3) := by decide +kernel
theorem dX12_isSooner_53 : decode cX12_isSooner 53 = .ok (.iload 8, 2) := by decide +kernel
theorem dX12_isSooner_55 : decode cX12_isSooner 55 = .ok (.iload 9, 2) := by decide +kernel
theorem dX12_isSooner_57 : decode cX12_isSooner 57 = .ok (.if_icmp .ge 7, 3) := by decide +kernel
theorem dX12_isSooner_60 : decode cX12_isSooner 60 = .ok (.iconst 1, 1) := by decide +kernel
theorem dX12_isSooner_61 : decode cX12_isSooner 61 = .ok (.goto 52, 3) := by decide +kernel
theorem dX12_isSooner_64 : decode cX12_isSooner 64 = .ok (.iconst 0, 1) := by decide +kernel
theorem dX12_isSooner_65 : decode cX12_isSooner 65 = .ok (.goto 48, 3) := by decide +kernel
theorem dX12_isSooner_68 : decode cX12_isSooner 68 = .ok (.aload_n 0, 1) := by decide +kernel
theorem dX12_isSooner_69 : decode cX12_isSooner 69 = .ok (.iload 5, 2) := by decide +kernel
theorem dX12_isSooner_71 : decode cX12_isSooner 71 = .ok (.iload 6, 2) := by decide +kernel
theorem dX12_isSooner_73 : decode cX12_isSooner 73 = .ok (.invokevirtual 130, 3) := by decide +kernel
theorem dX12_isSooner_76 : decode cX12_isSooner 76 = .ok (.aload_n 0, 1) := by decide +kernel
theorem dX12_isSooner_77 : decode cX12_isSooner 77 = .ok (.iload 5, 2) := by decide +kernel
theorem dX12_isSooner_79 : decode cX12_isSooner 79 = .ok (.iload 7, 2) := by decide +kernel
theorem dX12_isSooner_81 : decode cX12_isSooner 81 = .ok (.invokevirtual 134, 3) := by decide +kernel
theorem dX12_isSooner_84 : decode cX12_isSooner 84 = .ok (.lmul, 1) := by decide +kernel
theorem dX12_isSooner_85 : decode cX12_isSooner 85 = .ok (.aload_n 0, 1) := by decide +kernel
theorem dX12_isSooner_86 : decode cX12_isSooner 86 = .ok (.iload 5, 2) := by decide +kernel
theorem dX12_isSooner_88 : decode cX12_isSooner 88 = .ok (.iload 6, 2) := by decide +kernel
theorem dX12_isSooner_90 : decode cX12_isSooner 90 = .ok (.invokevirtual 134, 3) := by decide +kernel
theorem dX12_isSooner_93 : decode cX12_isSooner 93 = .ok (.aload_n 0, 1) := by decide +kernel
theorem dX12_isSooner_94 : decode cX12_isSooner 94 = .ok (.iload 5, 2) := by decide +kernel
theorem dX12_isSooner_96 : decode cX12_isSooner 96 = .ok (.iload 7, 2) := by decide +kernel
theorem dX12_isSooner_98 : decode cX12_isSooner 98 = .ok (.invokevirtual 130, 3) := by decide +kernel
theorem dX12_isSooner_101 : decode cX12_isSooner 101 = .ok (.lmul, 1) := by decide +kernel
theorem dX12_isSooner_102 : decode cX12_isSooner 102 = .ok (.lsub, 1) := by decide +kernel
theorem dX12_isSooner_103 : decode cX12_isSooner 103 = .ok (.lconst 0, 1) := by decide +kernel
theorem dX12_isSooner_104 : decode cX12_isSooner 104 = .ok (.lcmp, 1) := by decide +kernel
theorem dX12_isSooner_105 : decode cX12_isSooner 105 = .ok (.ifCond .ge 7, 3) := by decide +kernel
theorem dX12_isSooner_108 : decode cX12_isSooner 108 = .ok (.iconst 1, 1) := by decide +kernel
theorem dX12_isSooner_109 : decode cX12_isSooner 109 = .ok (.goto 4, 3) := by decide +kernel
theorem dX12_isSooner_112 : decode cX12_isSooner 112 = .ok (.iconst 0, 1) := by decide +kernel
theorem dX12_isSooner_113 : decode cX12_isSooner 113 = .ok (.ireturn, 1) := by decide +kernel
set_option maxRecDepth 20000 in
theorem ggX12_isOutside_X12_beginOf : GoodIn wsX12_isOutside wsX12_beginOf := goodIn_r _ [6, 1, 15, 16, 17, 18, 19, 20, 21, 22, 23, 24, 25, 26, 27, 28, 29, 30, 31, 32, 33, 34, 35, 36, 37, 38, 39, 40, 41, 42, 43, 44, 45, 46, 47, 48, 49, 50, 51, 52, 53, 54, 55, 56, 57, 58, 59, 60, 61, 62] rfl (by decide +kernel)
set_option maxRecDepth 20000 in
theorem gX12_isOutside_X12_beginOf : GoodIn wsX12_isOutside (wsV RX12 113 RX12 yX12_beginOf wsX12_beginOf) := goodIn_app (goodIn_r ([.methodLink RX12 113 yX12_beginOf, .instanceMethod yX12_beginOf, .selects RX12 yX12_beginOf yX12_beginOf, .initialized RX12] : List Cond) [2, 3, 4, 5] rfl (by decide +kernel)) ggX12_isOutside_X12_beginOf
set_option maxRecDepth 20000 in
theorem ggX12_isOutside_X12_endOf : GoodIn wsX12_isOutside wsX12_endOf := goodIn_r _ [10, 2, 3, 4, 5, 6, 1, 15, 16, 17, 18, 19, 20, 21, 22, 23, 24, 25, 26, 27, 28, 29, 30, 31, 32, 33, 34, 35, 36, 37, 38, 39, 40, 41, 42, 43, 44, 45, 46, 47, 48, 49, 50, 51, 52, 53, 54, 55, 56, 57, 58, 59, 60, 61, 62] rfl (by decide +kernel)
set_option maxRecDepth 20000 in
theorem gX12_isOutside_X12_endOf : GoodIn wsX12_isOutside (wsV RX12 127 RX12 yX12_endOf wsX12_endOf) := goodIn_app (goodIn_r ([.methodLink RX12 127 yX12_endOf, .instanceMethod yX12_endOf, .selects RX12 yX12_endOf yX12_endOf, .initialized RX12] : List Cond) [7, 8, 9, 5] rfl (by decide +kernel)) ggX12_isOutside_X12_endOf
set_option maxRecDepth 20000 in
theorem ggX12_isOutside_X12_wayX : GoodIn wsX12_isOutside wsX12_wayX := goodIn_r _ [14, 1, 15, 16, 17, 18, 19, 20, 21, 22, 23, 24, 25, 26, 27, 28, 29, 30, 31, 32, 33, 34, 35, 36, 37, 38, 39, 40, 41, 42, 43, 44, 45, 46, 47, 48, 49, 50, 51, 52, 53, 54, 55, 56, 57, 58, 59, 60, 61, 62] rfl (by decide +kernel)
set_option maxRecDepth 20000 in
theorem gX12_isOutside_X12_wayX : GoodIn wsX12_isOutside (wsV RX12 130 RX12 yX12_wayX wsX12_wayX) := goodIn_app (goodIn_r ([.methodLink RX12 130 yX12_wayX, .instanceMethod yX12_wayX, .selects RX12 yX12_wayX yX12_wayX, .initialized RX12] : List Cond) [11, 12, 13, 5] rfl (by decide +kernel)) ggX12_isOutside_X12_wayX
theorem dX12_isOutside_0 : decode cX12_isOutside 0 = .ok (.aload_n 0, 1) := by decide +kernel
theorem dX12_isOutside_1 : decode cX12_isOutside 1 = .ok (.iload_n 1, 1) := by decide +kernel
theorem dX12_isOutside_2 : decode cX12_isOutside 2 = .ok (.invokevirtual 113, 3) := by decide +kernel
theorem dX12_isOutside_5 : decode cX12_isOutside 5 = .ok (.istore_n 2, 1) := by decide +kernel
theorem dX12_isOutside_6 : decode cX12_isOutside 6 = .ok (.aload_n 0, 1) := by decide +kernel
theorem dX12_isOutside_7 : decode cX12_isOutside 7 = .ok (.iload_n 1, 1) := by decide +kernel
theorem dX12_isOutside_8 : decode cX12_isOutside 8 = .ok (.invokevirtual 127, 3) := by decide +kernel
theorem dX12_isOutside_11 : decode cX12_isOutside 11 = .ok (.istore_n 3, 1) := by decide +kernel
theorem dX12_isOutside_12 : decode cX12_isOutside 12 = .ok (.aload_n 0, 1) := by decide +kernel
theorem dX12_isOutside_13 : decode cX12_isOutside 13 = .ok (.getfield 16, 3) := by decide +kernel
theorem dX12_isOutside_16 : decode cX12_isOutside 16 = .ok (.getfield 124, 3) := by decide +kernel
theorem dX12_isOutside_19 : decode cX12_isOutside 19 = .ok (.iload_n 2, 1) := by decide +kernel
theorem dX12_isOutside_20 : decode cX12_isOutside 20 = .ok (.laload, 1) := by decide +kernel
theorem dX12_isOutside_21 : decode cX12_isOutside 21 = .ok (.lconst 0, 1) := by decide +kernel
theorem dX12_isOutside_22 : decode cX12_isOutside 22 = .ok (.lcmp, 1) := by decide +kernel
theorem dX12_isOutside_23 : decode cX12_isOutside 23 = .ok (.ifCond .ne 21, 3) := by decide +kernel
theorem dX12_isOutside_26 : decode cX12_isOutside 26 = .ok (.aload_n 0, 1) := by decide +kernel
theorem dX12_isOutside_27 : decode cX12_isOutside 27 = .ok (.getfield 16, 3) := by decide +kernel
theorem dX12_isOutside_30 : decode cX12_isOutside 30 = .ok (.getfield 124, 3) := by decide +kernel
theorem dX12_isOutside_33 : decode cX12_isOutside 33 = .ok (.iload_n 3, 1) := by decide +kernel
theorem dX12_isOutside_34 : decode cX12_isOutside 34 = .ok (.laload, 1) := by decide +kernel
theorem dX12_isOutside_35 : decode cX12_isOutside 35 = .ok (.lconst 0, 1) := by decide +kernel
theorem dX12_isOutside_36 : decode cX12_isOutside 36 = .ok (.lcmp, 1) := by decide +kernel
theorem dX12_isOutside_37 : decode cX12_isOutside 37 = .ok (.ifCond .ne 7, 3) := by decide +kernel
theorem dX12_isOutside_40 : decode cX12_isOutside 40 = .ok (.iconst 1, 1) := by decide +kernel
theorem dX12_isOutside_41 : decode cX12_isOutside 41 = .ok (.goto 4, 3) := by decide +kernel
theorem dX12_isOutside_44 : decode cX12_isOutside 44 = .ok (.iconst 0, 1) := by decide +kernel
theorem dX12_isOutside_45 : decode cX12_isOutside 45 = .ok (.istore 4, 2) := by decide +kernel
theorem dX12_isOutside_47 : decode cX12_isOutside 47 = .ok (.iload 4, 2) := by decide +kernel
theorem dX12_isOutside_49 : decode cX12_isOutside 49 = .ok (.ifCond .eq 18, 3) := by decide +kernel
theorem dX12_isOutside_52 : decode cX12_isOutside 52 = .ok (.aload_n 0, 1) := by decide +kernel
theorem dX12_isOutside_53 : decode cX12_isOutside 53 = .ok (.iload_n 2, 1) := by decide +kernel
theorem dX12_isOutside_54 : decode cX12_isOutside 54 = .ok (.iload_n 3, 1) := by decide +kernel
theorem dX12_isOutside_55 : decode cX12_isOutside 55 = .ok (.invokevirtual 130, 3) := by decide +kernel
theorem dX12_isOutside_58 : decode cX12_isOutside 58 = .ok (.lconst 0, 1) := by decide +kernel
theorem dX12_isOutside_59 : decode cX12_isOutside 59 = .ok (.lcmp, 1) := by decide +kernel
theorem dX12_isOutside_60 : decode cX12_isOutside 60 = .ok (.ifCond .ge 7, 3) := by decide +kernel
theorem dX12_isOutside_63 : decode cX12_isOutside 63 = .ok (.iconst 1, 1) := by decide +kernel
theorem dX12_isOutside_64 : decode cX12_isOutside 64 = .ok (.goto 4, 3) := by decide +kernel
theorem dX12_isOutside_67 : decode cX12_isOutside 67 = .ok (.iconst 0, 1) := by decide +kernel
theorem dX12_isOutside_68 : decode cX12_isOutside 68 = .ok (.ireturn, 1) := by decide +kernel
set_option maxRecDepth 20000 in
theorem ggX12_arrange_X10_draw : GoodIn wsX12_arrange wsX10_draw := goodIn_r _ [9, 10, 11, 12, 13, 14, 15, 16, 17, 18, 19, 20, 21, 22, 8, 23, 24, 25, 26, 27, 28, 29, 30, 31, 32, 33, 34, 35, 36, 37, 38, 39, 40, 41, 42, 43, 44, 45, 46, 47, 48, 49, 50, 51, 52, 53, 54, 55, 56, 57, 58, 59, 60, 61, 62, 63, 64, 65, 66, 67, 68, 69, 70, 71, 72, 73, 74, 75, 76, 77, 78, 155, 156, 157, 158, 159, 160, 161, 162, 163, 164, 165, 166, 167, 168, 169, 170] rfl (by decide +kernel)
set_option maxRecDepth 20000 in
theorem gX12_arrange_X10_draw : GoodIn wsX12_arrange (wsV RX12 152 RX10 yX10_draw wsX10_draw) := goodIn_app (goodIn_r ([.methodLink RX12 152 yX10_draw, .instanceMethod yX10_draw, .selects RX10 yX10_draw yX10_draw, .initialized RX10] : List Cond) [5, 6, 7, 8] rfl (by decide +kernel)) ggX12_arrange_X10_draw
set_option maxRecDepth 20000 in
theorem ggX12_arrange_X12_least : GoodIn wsX12_arrange wsX12_least := goodIn_r _ [82, 1, 2, 83, 84, 85, 33, 86, 87, 88, 89, 90, 123, 124, 125, 126, 127, 128, 129, 130, 131, 132, 133, 134, 135, 136, 137, 138, 139, 140, 141, 142, 143, 144, 145, 146, 147, 148, 149, 150, 151, 152, 153, 154, 155, 156, 157, 158, 159, 160, 161, 162, 163, 164, 165, 166, 167, 168, 169, 170] rfl (by decide +kernel)
set_option maxRecDepth 20000 in
theorem gX12_arrange_X12_least : GoodIn wsX12_arrange (wsV RX12 158 RX12 yX12_least wsX12_least) := goodIn_app (goodIn_r ([.methodLink RX12 158 yX12_least, .instanceMethod yX12_least, .selects RX12 yX12_least yX12_least, .initialized RX12] : List Cond) [79, 80, 81, 33] rfl (by decide +kernel)) ggX12_arrange_X12_least
set_option maxRecDepth 20000 in
theorem ggX12_arrange_X12_isOutside : GoodIn wsX12_arrange wsX12_isOutside := goodIn_r _ [94, 1, 83, 84, 85, 33, 86, 87, 88, 89, 90, 95, 96, 97, 98, 123, 124, 125, 126, 127, 128, 129, 130, 131, 132, 133, 134, 135, 136, 137, 138, 139, 140, 141, 142, 143, 144, 145, 146, 147, 148, 149, 150, 151, 152, 153, 154, 155, 156, 157, 158, 159, 160, 161, 162, 163, 164, 165, 166, 167, 168, 169, 170] rfl (by decide +kernel)
set_option maxRecDepth 20000 in
theorem gX12_arrange_X12_isOutside : GoodIn wsX12_arrange (wsV RX12 162 RX12 yX12_isOutside wsX12_isOutside) := goodIn_app (goodIn_r ([.methodLink RX12 162 yX12_isOutside, .instanceMethod yX12_isOutside, .selects RX12 yX12_isOutside yX12_isOutside, .initialized RX12] : List Cond) [91, 92, 93, 33] rfl (by decide +kernel)) ggX12_arrange_X12_isOutside
set_option maxRecDepth 20000 in
theorem ggX12_arrange_X12_next : GoodIn wsX12_arrange wsX12_next := goodIn_r _ [102, 1, 83, 84, 85, 33, 86, 87, 88, 89, 90, 95, 96, 97, 98, 103, 104, 105, 106, 107, 108, 109, 110, 111, 112, 113, 123, 124, 125, 126, 127, 128, 129, 130, 131, 132, 133, 134, 135, 136, 137, 138, 139, 140, 141, 142, 143, 144, 145, 146, 147, 148, 149, 150, 151, 152, 153, 154, 155, 156, 157, 158, 159, 160, 161, 162, 163, 164, 165, 166, 167, 168, 169, 170] rfl (by decide +kernel)
set_option maxRecDepth 20000 in
theorem gX12_arrange_X12_next : GoodIn wsX12_arrange (wsV RX12 166 RX12 yX12_next wsX12_next) := goodIn_app (goodIn_r ([.methodLink RX12 166 yX12_next, .instanceMethod yX12_next, .selects RX12 yX12_next yX12_next, .initialized RX12] : List Cond) [99, 100, 101, 33] rfl (by decide +kernel)) ggX12_arrange_X12_next
set_option maxRecDepth 20000 in
theorem ggX12_arrange_X12_fresh : GoodIn wsX12_arrange wsX12_fresh := goodIn_r _ [117, 3, 118, 119, 120, 121, 122, 123, 124, 125, 126, 127, 128, 129, 130, 131, 132, 133, 134, 135, 136, 137, 138, 139, 140, 141, 142, 143, 144, 145, 146, 147, 148, 149, 150, 151, 152, 153, 154] rfl (by decide +kernel)
set_option maxRecDepth 20000 in
theorem gX12_arrange_X12_fresh : GoodIn wsX12_arrange (wsV RX12 169 RX12 yX12_fresh wsX12_fresh) := goodIn_app (goodIn_r ([.methodLink RX12 169 yX12_fresh, .instanceMethod yX12_fresh, .selects RX12 yX12_fresh yX12_fresh, .initialized RX12] : List Cond) [114, 115, 116, 33] rfl (by decide +kernel)) ggX12_arrange_X12_fresh
theorem dX12_arrange_0 : decode cX12_arrange 0 = .ok (.aload_n 0, 1) := by decide +kernel
theorem dX12_arrange_1 : decode cX12_arrange 1 = .ok (.getfield 16, 3) := by decide +kernel
theorem dX12_arrange_4 : decode cX12_arrange 4 = .ok (.invokevirtual 152, 3) := by decide +kernel
theorem dX12_arrange_7 : decode cX12_arrange 7 = .ok (.iconst 0, 1) := by decide +kernel
theorem dX12_arrange_8 : decode cX12_arrange 8 = .ok (.istore_n 1, 1) := by decide +kernel
theorem dX12_arrange_9 : decode cX12_arrange 9 = .ok (.iload_n 1, 1) := by decide +kernel
theorem dX12_arrange_10 : decode cX12_arrange 10 = .ok (.iconst 2, 1) := by decide +kernel
theorem dX12_arrange_11 : decode cX12_arrange 11 = .ok (.aload_n 0, 1) := by decide +kernel
theorem dX12_arrange_12 : decode cX12_arrange 12 = .ok (.getfield 16, 3) := by decide +kernel
theorem dX12_arrange_15 : decode cX12_arrange 15 = .ok (.getfield 137, 3) := by decide +kernel
theorem dX12_arrange_18 : decode cX12_arrange 18 = .ok (.imul, 1) := by decide +kernel
theorem dX12_arrange_19 : decode cX12_arrange 19 = .ok (.if_icmp .ge 17, 3) := by decide +kernel
theorem dX12_arrange_22 : decode cX12_arrange 22 = .ok (.aload_n 0, 1) := by decide +kernel
theorem dX12_arrange_23 : decode cX12_arrange 23 = .ok (.getfield 30, 3) := by decide +kernel
theorem dX12_arrange_26 : decode cX12_arrange 26 = .ok (.iload_n 1, 1) := by decide +kernel
theorem dX12_arrange_27 : decode cX12_arrange 27 = .ok (.bipush (-2), 2) := by decide +kernel
theorem dX12_arrange_29 : decode cX12_arrange 29 = .ok (.iastore, 1) := by decide +kernel
theorem dX12_arrange_30 : decode cX12_arrange 30 = .ok (.iinc 1 1, 3) := by decide +kernel
theorem dX12_arrange_33 : decode cX12_arrange 33 = .ok (.goto (-24), 3) := by decide +kernel
theorem dX12_arrange_36 : decode cX12_arrange 36 = .ok (.aload_n 0, 1) := by decide +kernel
theorem dX12_arrange_37 : decode cX12_arrange 37 = .ok (.iconst 0, 1) := by decide +kernel
theorem dX12_arrange_38 : decode cX12_arrange 38 = .ok (.putfield 155, 3) := by decide +kernel
theorem dX12_arrange_41 : decode cX12_arrange 41 = .ok (.aload_n 0, 1) := by decide +kernel
theorem dX12_arrange_42 : decode cX12_arrange 42 = .ok (.invokevirtual 158, 3) := by decide +kernel
theorem dX12_arrange_45 : decode cX12_arrange 45 = .ok (.istore_n 1, 1) := by decide +kernel
theorem dX12_arrange_46 : decode cX12_arrange 46 = .ok (.iload_n 1, 1) := by decide +kernel
theorem dX12_arrange_47 : decode cX12_arrange 47 = .ok (.ifCond .lt 99, 3) := by decide +kernel
theorem dX12_arrange_50 : decode cX12_arrange 50 = .ok (.iconst 0, 1) := by decide +kernel
theorem dX12_arrange_51 : decode cX12_arrange 51 = .ok (.istore_n 2, 1) := by decide +kernel
theorem dX12_arrange_52 : decode cX12_arrange 52 = .ok (.iload_n 1, 1) := by decide +kernel
theorem dX12_arrange_53 : decode cX12_arrange 53 = .ok (.istore_n 3, 1) := by decide +kernel
theorem dX12_arrange_54 : decode cX12_arrange 54 = .ok (.iload_n 2, 1) := by decide +kernel
theorem dX12_arrange_55 : decode cX12_arrange 55 = .ok (.ifCond .ne 11, 3) := by decide +kernel
theorem dX12_arrange_58 : decode cX12_arrange 58 = .ok (.aload_n 0, 1) := by decide +kernel
theorem dX12_arrange_59 : decode cX12_arrange 59 = .ok (.iload_n 3, 1) := by decide +kernel
theorem dX12_arrange_60 : decode cX12_arrange 60 = .ok (.invokevirtual 162, 3) := by decide +kernel
theorem dX12_arrange_63 : decode cX12_arrange 63 = .ok (.ifCond .eq 7, 3) := by decide +kernel
theorem dX12_arrange_66 : decode cX12_arrange 66 = .ok (.iconst 1, 1) := by decide +kernel
theorem dX12_arrange_67 : decode cX12_arrange 67 = .ok (.goto 4, 3) := by decide +kernel
theorem dX12_arrange_70 : decode cX12_arrange 70 = .ok (.iconst 0, 1) := by decide +kernel
theorem dX12_arrange_71 : decode cX12_arrange 71 = .ok (.istore_n 2, 1) := by decide +kernel
theorem dX12_arrange_72 : decode cX12_arrange 72 = .ok (.aload_n 0, 1) := by decide +kernel
theorem dX12_arrange_73 : decode cX12_arrange 73 = .ok (.getfield 30, 3) := by decide +kernel
theorem dX12_arrange_76 : decode cX12_arrange 76 = .ok (.iload_n 3, 1) := by decide +kernel
theorem dX12_arrange_77 : decode cX12_arrange 77 = .ok (.aload_n 0, 1) := by decide +kernel
theorem dX12_arrange_78 : decode cX12_arrange 78 = .ok (.getfield 155, 3) := by decide +kernel
theorem dX12_arrange_81 : decode cX12_arrange 81 = .ok (.iastore, 1) := by decide +kernel
theorem dX12_arrange_82 : decode cX12_arrange 82 = .ok (.aload_n 0, 1) := by decide +kernel
theorem dX12_arrange_83 : decode cX12_arrange 83 = .ok (.iload_n 3, 1) := by decide +kernel
theorem dX12_arrange_84 : decode cX12_arrange 84 = .ok (.invokevirtual 166, 3) := by decide +kernel
theorem dX12_arrange_87 : decode cX12_arrange 87 = .ok (.istore_n 3, 1) := by decide +kernel
theorem dX12_arrange_88 : decode cX12_arrange 88 = .ok (.iload_n 3, 1) := by decide +kernel
theorem dX12_arrange_89 : decode cX12_arrange 89 = .ok (.iload_n 1, 1) := by decide +kernel
theorem dX12_arrange_90 : decode cX12_arrange 90 = .ok (.if_icmp .ne (-36), 3) := by decide +kernel
theorem dX12_arrange_93 : decode cX12_arrange 93 = .ok (.iload_n 2, 1) := by decide +kernel
theorem dX12_arrange_94 : decode cX12_arrange 94 = .ok (.ifCond .eq 24, 3) := by decide +kernel
theorem dX12_arrange_97 : decode cX12_arrange 97 = .ok (.aload_n 0, 1) := by decide +kernel
theorem dX12_arrange_98 : decode cX12_arrange 98 = .ok (.getfield 30, 3) := by decide +kernel
theorem dX12_arrange_101 : decode cX12_arrange 101 = .ok (.iload_n 3, 1) := by decide +kernel
theorem dX12_arrange_102 : decode cX12_arrange 102 = .ok (.iconst (-1), 1) := by decide +kernel
theorem dX12_arrange_103 : decode cX12_arrange 103 = .ok (.iastore, 1) := by decide +kernel
theorem dX12_arrange_104 : decode cX12_arrange 104 = .ok (.aload_n 0, 1) := by decide +kernel
theorem dX12_arrange_105 : decode cX12_arrange 105 = .ok (.iload_n 3, 1) := by decide +kernel
theorem dX12_arrange_106 : decode cX12_arrange 106 = .ok (.invokevirtual 166, 3) := by decide +kernel
theorem dX12_arrange_109 : decode cX12_arrange 109 = .ok (.istore_n 3, 1) := by decide +kernel
theorem dX12_arrange_110 : decode cX12_arrange 110 = .ok (.iload_n 3, 1) := by decide +kernel
theorem dX12_arrange_111 : decode cX12_arrange 111 = .ok (.iload_n 1, 1) := by decide +kernel
theorem dX12_arrange_112 : decode cX12_arrange 112 = .ok (.if_icmp .ne (-15), 3) := by decide +kernel
theorem dX12_arrange_115 : decode cX12_arrange 115 = .ok (.goto 23, 3) := by decide +kernel
theorem dX12_arrange_118 : decode cX12_arrange 118 = .ok (.aload_n 0, 1) := by decide +kernel
theorem dX12_arrange_119 : decode cX12_arrange 119 = .ok (.getfield 34, 3) := by decide +kernel
theorem dX12_arrange_122 : decode cX12_arrange 122 = .ok (.aload_n 0, 1) := by decide +kernel
theorem dX12_arrange_123 : decode cX12_arrange 123 = .ok (.getfield 155, 3) := by decide +kernel
theorem dX12_arrange_126 : decode cX12_arrange 126 = .ok (.iload_n 1, 1) := by decide +kernel
theorem dX12_arrange_127 : decode cX12_arrange 127 = .ok (.iastore, 1) := by decide +kernel
theorem dX12_arrange_128 : decode cX12_arrange 128 = .ok (.aload_n 0, 1) := by decide +kernel
theorem dX12_arrange_129 : decode cX12_arrange 129 = .ok (.dup, 1) := by decide +kernel
theorem dX12_arrange_130 : decode cX12_arrange 130 = .ok (.getfield 155, 3) := by decide +kernel
theorem dX12_arrange_133 : decode cX12_arrange 133 = .ok (.iconst 1, 1) := by decide +kernel
theorem dX12_arrange_134 : decode cX12_arrange 134 = .ok (.iadd, 1) := by decide +kernel
theorem dX12_arrange_135 : decode cX12_arrange 135 = .ok (.putfield 155, 3) := by decide +kernel
theorem dX12_arrange_138 : decode cX12_arrange 138 = .ok (.aload_n 0, 1) := by decide +kernel
theorem dX12_arrange_139 : decode cX12_arrange 139 = .ok (.invokevirtual 158, 3) := by decide +kernel
theorem dX12_arrange_142 : decode cX12_arrange 142 = .ok (.istore_n 1, 1) := by decide +kernel
theorem dX12_arrange_143 : decode cX12_arrange 143 = .ok (.goto (-97), 3) := by decide +kernel
theorem dX12_arrange_146 : decode cX12_arrange 146 = .ok (.aload_n 0, 1) := by decide +kernel
theorem dX12_arrange_147 : decode cX12_arrange 147 = .ok (.invokevirtual 169, 3) := by decide +kernel
theorem dX12_arrange_150 : decode cX12_arrange 150 = .ok (.return_, 1) := by decide +kernel
theorem dX12_fresh_0 : decode cX12_fresh 0 = .ok (.iconst 0, 1) := by decide +kernel
theorem dX12_fresh_1 : decode cX12_fresh 1 = .ok (.istore_n 1, 1) := by decide +kernel
theorem dX12_fresh_2 : decode cX12_fresh 2 = .ok (.iload_n 1, 1) := by decide +kernel
theorem dX12_fresh_3 : decode cX12_fresh 3 = .ok (.aload_n 0, 1) := by decide +kernel
theorem dX12_fresh_4 : decode cX12_fresh 4 = .ok (.getfield 155, 3) := by decide +kernel
theorem dX12_fresh_7 : decode cX12_fresh 7 = .ok (.if_icmp .ge 33, 3) := by decide +kernel
theorem dX12_fresh_10 : decode cX12_fresh 10 = .ok (.aload_n 0, 1) := by decide +kernel
theorem dX12_fresh_11 : decode cX12_fresh 11 = .ok (.getfield 37, 3) := by decide +kernel
theorem dX12_fresh_14 : decode cX12_fresh 14 = .ok (.iload_n 1, 1) := by decide +kernel
theorem dX12_fresh_15 : decode cX12_fresh 15 = .ok (.iconst 0, 1) := by decide +kernel
theorem dX12_fresh_16 : decode cX12_fresh 16 = .ok (.iastore, 1) := by decide +kernel
theorem dX12_fresh_17 : decode cX12_fresh 17 = .ok (.aload_n 0, 1) := by decide +kernel
theorem dX12_fresh_18 : decode cX12_fresh 18 = .ok (.getfield 40, 3) := by decide +kernel
theorem dX12_fresh_21 : decode cX12_fresh 21 = .ok (.iload_n 1, 1) := by decide +kernel
theorem dX12_fresh_22 : decode cX12_fresh 22 = .ok (.sipush 255, 3) := by decide +kernel
theorem dX12_fresh_25 : decode cX12_fresh 25 = .ok (.iastore, 1) := by decide +kernel
theorem dX12_fresh_26 : decode cX12_fresh 26 = .ok (.aload_n 0, 1) := by decide +kernel
theorem dX12_fresh_27 : decode cX12_fresh 27 = .ok (.getfield 43, 3) := by decide +kernel
theorem dX12_fresh_30 : decode cX12_fresh 30 = .ok (.iload_n 1, 1) := by decide +kernel
theorem dX12_fresh_31 : decode cX12_fresh 31 = .ok (.bipush 8, 2) := by decide +kernel
theorem dX12_fresh_33 : decode cX12_fresh 33 = .ok (.iastore, 1) := by decide +kernel
theorem dX12_fresh_34 : decode cX12_fresh 34 = .ok (.iinc 1 1, 3) := by decide +kernel
theorem dX12_fresh_37 : decode cX12_fresh 37 = .ok (.goto (-35), 3) := by decide +kernel
theorem dX12_fresh_40 : decode cX12_fresh 40 = .ok (.aload_n 0, 1) := by decide +kernel
theorem dX12_fresh_41 : decode cX12_fresh 41 = .ok (.iconst 0, 1) := by decide +kernel
theorem dX12_fresh_42 : decode cX12_fresh 42 = .ok (.putfield 172, 3) := by decide +kernel
theorem dX12_fresh_45 : decode cX12_fresh 45 = .ok (.aload_n 0, 1) := by decide +kernel
theorem dX12_fresh_46 : decode cX12_fresh 46 = .ok (.iconst 0, 1) := by decide +kernel
theorem dX12_fresh_47 : decode cX12_fresh 47 = .ok (.putfield 175, 3) := by decide +kernel
theorem dX12_fresh_50 : decode cX12_fresh 50 = .ok (.return_, 1) := by decide +kernel
set_option maxRecDepth 20000 in
theorem ggX12_least_X12_beginOf : GoodIn wsX12_least wsX12_beginOf := goodIn_r _ [7, 1, 12, 13, 14, 15, 16, 17, 18, 19, 20, 21, 22, 23, 24, 25, 26, 27, 28, 29, 30, 31, 32, 33, 34, 35, 36, 37, 38, 39, 40, 41, 42, 43, 44, 45, 46, 47, 48, 49, 50, 51, 52, 53, 54, 55, 56, 57, 58, 59] rfl (by decide +kernel)
set_option maxRecDepth 20000 in
theorem gX12_least_X12_beginOf : GoodIn wsX12_least (wsV RX12 113 RX12 yX12_beginOf wsX12_beginOf) := goodIn_app (goodIn_r ([.methodLink RX12 113 yX12_beginOf, .instanceMethod yX12_beginOf, .selects RX12 yX12_beginOf yX12_beginOf, .initialized RX12] : List Cond) [3, 4, 5, 6] rfl (by decide +kernel)) ggX12_least_X12_beginOf
set_option maxRecDepth 20000 in
theorem ggX12_least_X12_endOf : GoodIn wsX12_least wsX12_endOf := goodIn_r _ [11, 3, 4, 5, 6, 7, 1, 12, 13, 14, 15, 16, 17, 18, 19, 20, 21, 22, 23, 24, 25, 26, 27, 28, 29, 30, 31, 32, 33, 34, 35, 36, 37, 38, 39, 40, 41, 42, 43, 44, 45, 46, 47, 48, 49, 50, 51, 52, 53, 54, 55, 56, 57, 58, 59] rfl (by decide +kernel)
set_option maxRecDepth 20000 in
theorem gX12_least_X12_endOf : GoodIn wsX12_least (wsV RX12 127 RX12 yX12_endOf wsX12_endOf) := goodIn_app (goodIn_r ([.methodLink RX12 127 yX12_endOf, .instanceMethod yX12_endOf, .selects RX12 yX12_endOf yX12_endOf, .initialized RX12] : List Cond) [8, 9, 10, 6] rfl (by decide +kernel)) ggX12_least_X12_endOf
theorem dX12_least_0 : decode cX12_least 0 = .ok (.iconst (-1), 1) := by decide +kernel
theorem dX12_least_1 : decode cX12_least 1 = .ok (.istore_n 1, 1) := by decide +kernel
theorem dX12_least_2 : decode cX12_least 2 = .ok (.iconst 0, 1) := by decide +kernel
theorem dX12_least_3 : decode cX12_least 3 = .ok (.istore_n 2, 1) := by decide +kernel
theorem dX12_least_4 : decode cX12_least 4 = .ok (.iload_n 2, 1) := by decide +kernel
theorem dX12_least_5 : decode cX12_least 5 = .ok (.iconst 2, 1) := by decide +kernel
theorem dX12_least_6 : decode cX12_least 6 = .ok (.aload_n 0, 1) := by decide +kernel
theorem dX12_least_7 : decode cX12_least 7 = .ok (.getfield 16, 3) := by decide +kernel
theorem dX12_least_10 : decode cX12_least 10 = .ok (.getfield 137, 3) := by decide +kernel
theorem dX12_least_13 : decode cX12_least 13 = .ok (.imul, 1) := by decide +kernel
theorem dX12_least_14 : decode cX12_least 14 = .ok (.if_icmp .ge 96, 3) := by decide +kernel
theorem dX12_least_17 : decode cX12_least 17 = .ok (.aload_n 0, 1) := by decide +kernel
theorem dX12_least_18 : decode cX12_least 18 = .ok (.getfield 16, 3) := by decide +kernel
theorem dX12_least_21 : decode cX12_least 21 = .ok (.getfield 141, 3) := by decide +kernel
theorem dX12_least_24 : decode cX12_least 24 = .ok (.iload_n 2, 1) := by decide +kernel
theorem dX12_least_25 : decode cX12_least 25 = .ok (.iconst 2, 1) := by decide +kernel
theorem dX12_least_26 : decode cX12_least 26 = .ok (.idiv, 1) := by decide +kernel
theorem dX12_least_27 : decode cX12_least 27 = .ok (.baload, 1) := by decide +kernel
theorem dX12_least_28 : decode cX12_least 28 = .ok (.ifCond .eq 76, 3) := by decide +kernel
theorem dX12_least_31 : decode cX12_least 31 = .ok (.aload_n 0, 1) := by decide +kernel
theorem dX12_least_32 : decode cX12_least 32 = .ok (.getfield 30, 3) := by decide +kernel
theorem dX12_least_35 : decode cX12_least 35 = .ok (.iload_n 2, 1) := by decide +kernel
theorem dX12_least_36 : decode cX12_least 36 = .ok (.iaload, 1) := by decide +kernel
theorem dX12_least_37 : decode cX12_least 37 = .ok (.bipush (-2), 2) := by decide +kernel
theorem dX12_least_39 : decode cX12_least 39 = .ok (.if_icmp .eq 6, 3) := by decide +kernel
theorem dX12_least_42 : decode cX12_least 42 = .ok (.goto 62, 3) := by decide +kernel
theorem dX12_least_45 : decode cX12_least 45 = .ok (.iload_n 1, 1) := by decide +kernel
theorem dX12_least_46 : decode cX12_least 46 = .ok (.ifCond .lt 42, 3) := by decide +kernel
theorem dX12_least_49 : decode cX12_least 49 = .ok (.aload_n 0, 1) := by decide +kernel
theorem dX12_least_50 : decode cX12_least 50 = .ok (.iload_n 2, 1) := by decide +kernel
theorem dX12_least_51 : decode cX12_least 51 = .ok (.invokevirtual 113, 3) := by decide +kernel
theorem dX12_least_54 : decode cX12_least 54 = .ok (.aload_n 0, 1) := by decide +kernel
theorem dX12_least_55 : decode cX12_least 55 = .ok (.iload_n 1, 1) := by decide +kernel
theorem dX12_least_56 : decode cX12_least 56 = .ok (.invokevirtual 113, 3) := by decide +kernel
theorem dX12_least_59 : decode cX12_least 59 = .ok (.if_icmp .lt 29, 3) := by decide +kernel
theorem dX12_least_62 : decode cX12_least 62 = .ok (.aload_n 0, 1) := by decide +kernel
theorem dX12_least_63 : decode cX12_least 63 = .ok (.iload_n 2, 1) := by decide +kernel
theorem dX12_least_64 : decode cX12_least 64 = .ok (.invokevirtual 113, 3) := by decide +kernel
theorem dX12_least_67 : decode cX12_least 67 = .ok (.aload_n 0, 1) := by decide +kernel
theorem dX12_least_68 : decode cX12_least 68 = .ok (.iload_n 1, 1) := by decide +kernel
theorem dX12_least_69 : decode cX12_least 69 = .ok (.invokevirtual 113, 3) := by decide +kernel
theorem dX12_least_72 : decode cX12_least 72 = .ok (.if_icmp .ne 20, 3) := by decide +kernel
theorem dX12_least_75 : decode cX12_least 75 = .ok (.aload_n 0, 1) := by decide +kernel
theorem dX12_least_76 : decode cX12_least 76 = .ok (.iload_n 2, 1) := by decide +kernel
theorem dX12_least_77 : decode cX12_least 77 = .ok (.invokevirtual 127, 3) := by decide +kernel
theorem dX12_least_80 : decode cX12_least 80 = .ok (.aload_n 0, 1) := by decide +kernel
theorem dX12_least_81 : decode cX12_least 81 = .ok (.iload_n 1, 1) := by decide +kernel
theorem dX12_least_82 : decode cX12_least 82 = .ok (.invokevirtual 127, 3) := by decide +kernel
theorem dX12_least_85 : decode cX12_least 85 = .ok (.if_icmp .ge 7, 3) := by decide +kernel
theorem dX12_least_88 : decode cX12_least 88 = .ok (.iconst 1, 1) := by decide +kernel
theorem dX12_least_89 : decode cX12_least 89 = .ok (.goto 4, 3) := by decide +kernel
theorem dX12_least_92 : decode cX12_least 92 = .ok (.iconst 0, 1) := by decide +kernel
theorem dX12_least_93 : decode cX12_least 93 = .ok (.istore_n 3, 1) := by decide +kernel
theorem dX12_least_94 : decode cX12_least 94 = .ok (.iload_n 3, 1) := by decide +kernel
theorem dX12_least_95 : decode cX12_least 95 = .ok (.ifCond .eq 7, 3) := by decide +kernel
theorem dX12_least_98 : decode cX12_least 98 = .ok (.iload_n 2, 1) := by decide +kernel
theorem dX12_least_99 : decode cX12_least 99 = .ok (.goto 4, 3) := by decide +kernel
theorem dX12_least_102 : decode cX12_least 102 = .ok (.iload_n 1, 1) := by decide +kernel
theorem dX12_least_103 : decode cX12_least 103 = .ok (.istore_n 1, 1) := by decide +kernel
theorem dX12_least_104 : decode cX12_least 104 = .ok (.iinc 2 1, 3) := by decide +kernel
theorem dX12_least_107 : decode cX12_least 107 = .ok (.goto (-103), 3) := by decide +kernel
theorem dX12_least_110 : decode cX12_least 110 = .ok (.iload_n 1, 1) := by decide +kernel
theorem dX12_least_111 : decode cX12_least 111 = .ok (.ireturn, 1) := by decide +kernel
set_option maxRecDepth 20000 in
theorem ggX12_window_X12_answer : GoodIn wsX12_window wsX12_answer := goodIn_r _ [8, 9, 133, 134, 135, 136, 137, 138, 139, 140, 141, 142, 143, 144, 145, 146, 147, 148, 149, 150, 151, 152, 153, 154, 155, 156, 157, 158, 159, 160, 161, 162, 163, 164] rfl (by decide +kernel)
set_option maxRecDepth 20000 in
theorem gX12_window_X12_answer : GoodIn wsX12_window (wsV RX12 179 RX12 yX12_answer wsX12_answer) := goodIn_app (goodIn_r ([.methodLink RX12 179 yX12_answer, .instanceMethod yX12_answer, .selects RX12 yX12_answer yX12_answer, .initialized RX12] : List Cond) [4, 5, 6, 7] rfl (by decide +kernel)) ggX12_window_X12_answer
set_option maxRecDepth 20000 in
theorem ggX12_window_X12_arrange : GoodIn wsX12_window wsX12_arrange := goodIn_r _ [13, 2, 14, 3, 15, 16, 17, 18, 19, 20, 21, 22, 23, 24, 25, 26, 27, 28, 29, 30, 31, 32, 33, 34, 35, 36, 37, 38, 39, 40, 41, 42, 43, 7, 44, 45, 46, 47, 48, 49, 50, 51, 52, 53, 54, 55, 56, 57, 58, 59, 60, 61, 62, 63, 64, 65, 66, 67, 68, 69, 70, 71, 72, 73, 74, 75, 76, 77, 78, 79, 80, 81, 82, 83, 84, 85, 86, 87, 88, 89, 90, 91, 92, 93, 94, 95, 96, 97, 98, 99, 100, 101, 102, 103, 104, 105, 106, 107, 108, 109, 110, 111, 112, 113, 114, 115, 116, 117, 118, 119, 120, 121, 122, 123, 124, 125, 126, 127, 128, 129, 130, 131, 132, 133, 134, 135, 136, 137, 138, 139, 140, 141, 142, 143, 144, 145, 146, 147, 148, 149, 150, 151, 152, 153, 154, 155, 156, 157, 158, 159, 160, 161, 162, 163, 164, 165, 166, 167, 168, 169, 170, 171, 172, 173, 174, 175, 176, 177, 178, 179, 180] rfl (by decide +kernel)
set_option maxRecDepth 20000 in
theorem gX12_window_X12_arrange : GoodIn wsX12_window (wsV RX12 194 RX12 yX12_arrange wsX12_arrange) := goodIn_app (goodIn_r ([.methodLink RX12 194 yX12_arrange, .instanceMethod yX12_arrange, .selects RX12 yX12_arrange yX12_arrange, .initialized RX12] : List Cond) [10, 11, 12, 7] rfl (by decide +kernel)) ggX12_window_X12_arrange
theorem dX12_window_0 : decode cX12_window 0 = .ok (.iload_n 1, 1) := by decide +kernel
theorem dX12_window_1 : decode cX12_window 1 = .ok (.ifCond .lt 7, 3) := by decide +kernel
theorem dX12_window_4 : decode cX12_window 4 = .ok (.iload_n 2, 1) := by decide +kernel
theorem dX12_window_5 : decode cX12_window 5 = .ok (.ifCond .ge 10, 3) := by decide +kernel
theorem dX12_window_8 : decode cX12_window 8 = .ok (.aload_n 0, 1) := by decide +kernel
theorem dX12_window_9 : decode cX12_window 9 = .ok (.bipush (-2), 2) := by decide +kernel
theorem dX12_window_11 : decode cX12_window 11 = .ok (.invokevirtual 179, 3) := by decide +kernel
theorem dX12_window_14 : decode cX12_window 14 = .ok (.ireturn, 1) := by decide +kernel
theorem dX12_window_15 : decode cX12_window 15 = .ok (.iload_n 1, 1) := by decide +kernel
theorem dX12_window_16 : decode cX12_window 16 = .ok (.ifCond .eq 19, 3) := by decide +kernel
theorem dX12_window_19 : decode cX12_window 19 = .ok (.iload_n 2, 1) := by decide +kernel
theorem dX12_window_20 : decode cX12_window 20 = .ok (.ifCond .eq 15, 3) := by decide +kernel
theorem dX12_window_23 : decode cX12_window 23 = .ok (.iload_n 1, 1) := by decide +kernel
theorem dX12_window_24 : decode cX12_window 24 = .ok (.bipush 12, 2) := by decide +kernel
theorem dX12_window_26 : decode cX12_window 26 = .ok (.if_icmp .gt 9, 3) := by decide +kernel
theorem dX12_window_29 : decode cX12_window 29 = .ok (.iload_n 2, 1) := by decide +kernel
theorem dX12_window_30 : decode cX12_window 30 = .ok (.bipush 12, 2) := by decide +kernel
theorem dX12_window_32 : decode cX12_window 32 = .ok (.if_icmp .le 9, 3) := by decide +kernel
theorem dX12_window_35 : decode cX12_window 35 = .ok (.aload_n 0, 1) := by decide +kernel
theorem dX12_window_36 : decode cX12_window 36 = .ok (.iconst (-1), 1) := by decide +kernel
theorem dX12_window_37 : decode cX12_window 37 = .ok (.invokevirtual 179, 3) := by decide +kernel
theorem dX12_window_40 : decode cX12_window 40 = .ok (.ireturn, 1) := by decide +kernel
theorem dX12_window_41 : decode cX12_window 41 = .ok (.aload_n 0, 1) := by decide +kernel
theorem dX12_window_42 : decode cX12_window 42 = .ok (.iconst 1, 1) := by decide +kernel
theorem dX12_window_43 : decode cX12_window 43 = .ok (.putfield 182, 3) := by decide +kernel
theorem dX12_window_46 : decode cX12_window 46 = .ok (.aload_n 0, 1) := by decide +kernel
theorem dX12_window_47 : decode cX12_window 47 = .ok (.getfield 16, 3) := by decide +kernel
theorem dX12_window_50 : decode cX12_window 50 = .ok (.iload_n 1, 1) := by decide +kernel
theorem dX12_window_51 : decode cX12_window 51 = .ok (.putfield 185, 3) := by decide +kernel
theorem dX12_window_54 : decode cX12_window 54 = .ok (.aload_n 0, 1) := by decide +kernel
theorem dX12_window_55 : decode cX12_window 55 = .ok (.getfield 16, 3) := by decide +kernel
theorem dX12_window_58 : decode cX12_window 58 = .ok (.iload_n 2, 1) := by decide +kernel
theorem dX12_window_59 : decode cX12_window 59 = .ok (.putfield 188, 3) := by decide +kernel
theorem dX12_window_62 : decode cX12_window 62 = .ok (.aload_n 0, 1) := by decide +kernel
theorem dX12_window_63 : decode cX12_window 63 = .ok (.getfield 16, 3) := by decide +kernel
theorem dX12_window_66 : decode cX12_window 66 = .ok (.iconst 0, 1) := by decide +kernel
theorem dX12_window_67 : decode cX12_window 67 = .ok (.putfield 191, 3) := by decide +kernel
theorem dX12_window_70 : decode cX12_window 70 = .ok (.aload_n 0, 1) := by decide +kernel
theorem dX12_window_71 : decode cX12_window 71 = .ok (.invokevirtual 194, 3) := by decide +kernel
theorem dX12_window_74 : decode cX12_window 74 = .ok (.aload_n 0, 1) := by decide +kernel
theorem dX12_window_75 : decode cX12_window 75 = .ok (.getfield 155, 3) := by decide +kernel
theorem dX12_window_78 : decode cX12_window 78 = .ok (.ireturn, 1) := by decide +kernel
theorem dX12_isPoint_0 : decode cX12_isPoint 0 = .ok (.iload_n 1, 1) := by decide +kernel
theorem dX12_isPoint_1 : decode cX12_isPoint 1 = .ok (.ifCond .lt 33, 3) := by decide +kernel
theorem dX12_isPoint_4 : decode cX12_isPoint 4 = .ok (.iload_n 1, 1) := by decide +kernel
theorem dX12_isPoint_5 : decode cX12_isPoint 5 = .ok (.aload_n 0, 1) := by decide +kernel
theorem dX12_isPoint_6 : decode cX12_isPoint 6 = .ok (.getfield 16, 3) := by decide +kernel
theorem dX12_isPoint_9 : decode cX12_isPoint 9 = .ok (.getfield 185, 3) := by decide +kernel
theorem dX12_isPoint_12 : decode cX12_isPoint 12 = .ok (.if_icmp .gt 22, 3) := by decide +kernel
theorem dX12_isPoint_15 : decode cX12_isPoint 15 = .ok (.iload_n 2, 1) := by decide +kernel
theorem dX12_isPoint_16 : decode cX12_isPoint 16 = .ok (.ifCond .lt 18, 3) := by decide +kernel
theorem dX12_isPoint_19 : decode cX12_isPoint 19 = .ok (.iload_n 2, 1) := by decide +kernel
theorem dX12_isPoint_20 : decode cX12_isPoint 20 = .ok (.aload_n 0, 1) := by decide +kernel
theorem dX12_isPoint_21 : decode cX12_isPoint 21 = .ok (.getfield 16, 3) := by decide +kernel
theorem dX12_isPoint_24 : decode cX12_isPoint 24 = .ok (.getfield 188, 3) := by decide +kernel
theorem dX12_isPoint_27 : decode cX12_isPoint 27 = .ok (.if_icmp .gt 7, 3) := by decide +kernel
theorem dX12_isPoint_30 : decode cX12_isPoint 30 = .ok (.iconst 1, 1) := by decide +kernel
theorem dX12_isPoint_31 : decode cX12_isPoint 31 = .ok (.goto 4, 3) := by decide +kernel
theorem dX12_isPoint_34 : decode cX12_isPoint 34 = .ok (.iconst 0, 1) := by decide +kernel
theorem dX12_isPoint_35 : decode cX12_isPoint 35 = .ok (.ireturn, 1) := by decide +kernel
set_option maxRecDepth 20000 in
theorem ggX12_lead_X12_answer : GoodIn wsX12_lead wsX12_answer := goodIn_r _ [7, 8, 138, 139, 140, 141, 142, 143, 144, 145, 146, 147, 148, 149, 150, 151, 152, 153, 154, 155, 156, 157, 158, 159, 160, 161, 162, 163, 164, 165, 166, 167, 168, 169] rfl (by decide +kernel)
set_option maxRecDepth 20000 in
theorem gX12_lead_X12_answer : GoodIn wsX12_lead (wsV RX12 179 RX12 yX12_answer wsX12_answer) := goodIn_app (goodIn_r ([.methodLink RX12 179 yX12_answer, .instanceMethod yX12_answer, .selects RX12 yX12_answer yX12_answer, .initialized RX12] : List Cond) [3, 4, 5, 6] rfl (by decide +kernel)) ggX12_lead_X12_answer
set_option maxRecDepth 20000 in
theorem ggX12_lead_X12_isPoint : GoodIn wsX12_lead wsX12_isPoint := goodIn_r _ [12, 2, 138, 139, 140, 141, 142, 143, 144, 145, 146, 147, 148, 149, 150, 151, 152, 153, 154, 155, 156, 157, 158, 159, 160, 161, 162, 163, 164, 165, 166, 167, 168, 169, 170, 171, 172, 173, 174, 175, 176, 177, 178, 179, 180, 181, 182, 183, 184, 185] rfl (by decide +kernel)
set_option maxRecDepth 20000 in
theorem gX12_lead_X12_isPoint : GoodIn wsX12_lead (wsV RX12 197 RX12 yX12_isPoint wsX12_isPoint) := goodIn_app (goodIn_r ([.methodLink RX12 197 yX12_isPoint, .instanceMethod yX12_isPoint, .selects RX12 yX12_isPoint yX12_isPoint, .initialized RX12] : List Cond) [9, 10, 11, 6] rfl (by decide +kernel)) ggX12_lead_X12_isPoint
set_option maxRecDepth 20000 in
theorem ggX12_lead_X10_line : GoodIn wsX12_lead wsX10_line := goodIn_r _ [17, 18, 19, 20, 21, 170, 171, 172, 173, 174, 175, 176, 177, 178, 179, 180, 181, 182, 183, 184, 185] rfl (by decide +kernel)
set_option maxRecDepth 20000 in
theorem gX12_lead_X10_line : GoodIn wsX12_lead (wsV RX12 201 RX10 yX10_line wsX10_line) := goodIn_app (goodIn_r ([.methodLink RX12 201 yX10_line, .instanceMethod yX10_line, .selects RX10 yX10_line yX10_line, .initialized RX10] : List Cond) [13, 14, 15, 16] rfl (by decide +kernel)) ggX12_lead_X10_line
set_option maxRecDepth 20000 in
theorem ggX12_lead_X12_arrange : GoodIn wsX12_lead wsX12_arrange := goodIn_r _ [25, 2, 26, 27, 28, 29, 30, 31, 16, 32, 33, 34, 35, 36, 37, 18, 19, 20, 21, 38, 39, 14, 15, 17, 40, 41, 42, 43, 44, 45, 46, 47, 48, 6, 49, 50, 51, 52, 53, 54, 55, 56, 57, 58, 59, 60, 61, 62, 63, 64, 65, 66, 67, 68, 69, 70, 71, 72, 73, 74, 75, 76, 77, 78, 79, 80, 81, 82, 83, 84, 85, 86, 87, 88, 89, 90, 91, 92, 93, 94, 95, 96, 97, 98, 99, 100, 101, 102, 103, 104, 105, 106, 107, 108, 109, 110, 111, 112, 113, 114, 115, 116, 117, 118, 119, 120, 121, 122, 123, 124, 125, 126, 127, 128, 129, 130, 131, 132, 133, 134, 135, 136, 137, 138, 139, 140, 141, 142, 143, 144, 145, 146, 147, 148, 149, 150, 151, 152, 153, 154, 155, 156, 157, 158, 159, 160, 161, 162, 163, 164, 165, 166, 167, 168, 169, 170, 171, 172, 173, 174, 175, 176, 177, 178, 179, 180, 181, 182, 183, 184, 185] rfl (by decide +kernel)
set_option maxRecDepth 20000 in
theorem gX12_lead_X12_arrange : GoodIn wsX12_lead (wsV RX12 194 RX12 yX12_arrange wsX12_arrange) := goodIn_app (goodIn_r ([.methodLink RX12 194 yX12_arrange, .instanceMethod yX12_arrange, .selects RX12 yX12_arrange yX12_arrange, .initialized RX12] : List Cond) [22, 23, 24, 6] rfl (by decide +kernel)) ggX12_lead_X12_arrange
theorem dX12_lead_0 : decode cX12_lead 0 = .ok (.aload_n 0, 1) := by decide +kernel
theorem dX12_lead_1 : decode cX12_lead 1 = .ok (.getfield 182, 3) := by decide +kernel
theorem dX12_lead_4 : decode cX12_lead 4 = .ok (.ifCond .ne 10, 3) := by decide +kernel
theorem dX12_lead_7 : decode cX12_lead 7 = .ok (.aload_n 0, 1) := by decide +kernel
theorem dX12_lead_8 : decode cX12_lead 8 = .ok (.bipush (-4), 2) := by decide +kernel
theorem dX12_lead_10 : decode cX12_lead 10 = .ok (.invokevirtual 179, 3) := by decide +kernel
theorem dX12_lead_13 : decode cX12_lead 13 = .ok (.ireturn, 1) := by decide +kernel
theorem dX12_lead_14 : decode cX12_lead 14 = .ok (.aload_n 0, 1) := by decide +kernel
theorem dX12_lead_15 : decode cX12_lead 15 = .ok (.iload_n 1, 1) := by decide +kernel
theorem dX12_lead_16 : decode cX12_lead 16 = .ok (.iload_n 2, 1) := by decide +kernel
theorem dX12_lead_17 : decode cX12_lead 17 = .ok (.invokevirtual 197, 3) := by decide +kernel
theorem dX12_lead_20 : decode cX12_lead 20 = .ok (.ifCond .eq 13, 3) := by decide +kernel
theorem dX12_lead_23 : decode cX12_lead 23 = .ok (.aload_n 0, 1) := by decide +kernel
theorem dX12_lead_24 : decode cX12_lead 24 = .ok (.iload_n 3, 1) := by decide +kernel
theorem dX12_lead_25 : decode cX12_lead 25 = .ok (.iload 4, 2) := by decide +kernel
theorem dX12_lead_27 : decode cX12_lead 27 = .ok (.invokevirtual 197, 3) := by decide +kernel
theorem dX12_lead_30 : decode cX12_lead 30 = .ok (.ifCond .ne 9, 3) := by decide +kernel
theorem dX12_lead_33 : decode cX12_lead 33 = .ok (.aload_n 0, 1) := by decide +kernel
theorem dX12_lead_34 : decode cX12_lead 34 = .ok (.iconst (-1), 1) := by decide +kernel
theorem dX12_lead_35 : decode cX12_lead 35 = .ok (.invokevirtual 179, 3) := by decide +kernel
theorem dX12_lead_38 : decode cX12_lead 38 = .ok (.ireturn, 1) := by decide +kernel
theorem dX12_lead_39 : decode cX12_lead 39 = .ok (.iload_n 1, 1) := by decide +kernel
theorem dX12_lead_40 : decode cX12_lead 40 = .ok (.iload_n 3, 1) := by decide +kernel
theorem dX12_lead_41 : decode cX12_lead 41 = .ok (.if_icmp .ne 16, 3) := by decide +kernel
theorem dX12_lead_44 : decode cX12_lead 44 = .ok (.iload_n 2, 1) := by decide +kernel
theorem dX12_lead_45 : decode cX12_lead 45 = .ok (.iload 4, 2) := by decide +kernel
theorem dX12_lead_47 : decode cX12_lead 47 = .ok (.if_icmp .ne 10, 3) := by decide +kernel
theorem dX12_lead_50 : decode cX12_lead 50 = .ok (.aload_n 0, 1) := by decide +kernel
theorem dX12_lead_51 : decode cX12_lead 51 = .ok (.bipush (-2), 2) := by decide +kernel
theorem dX12_lead_53 : decode cX12_lead 53 = .ok (.invokevirtual 179, 3) := by decide +kernel
theorem dX12_lead_56 : decode cX12_lead 56 = .ok (.ireturn, 1) := by decide +kernel
theorem dX12_lead_57 : decode cX12_lead 57 = .ok (.aload_n 0, 1) := by decide +kernel
theorem dX12_lead_58 : decode cX12_lead 58 = .ok (.getfield 16, 3) := by decide +kernel
theorem dX12_lead_61 : decode cX12_lead 61 = .ok (.getfield 191, 3) := by decide +kernel
theorem dX12_lead_64 : decode cX12_lead 64 = .ok (.bipush 14, 2) := by decide +kernel
theorem dX12_lead_66 : decode cX12_lead 66 = .ok (.if_icmp .ne 10, 3) := by decide +kernel
theorem dX12_lead_69 : decode cX12_lead 69 = .ok (.aload_n 0, 1) := by decide +kernel
theorem dX12_lead_70 : decode cX12_lead 70 = .ok (.bipush (-3), 2) := by decide +kernel
theorem dX12_lead_72 : decode cX12_lead 72 = .ok (.invokevirtual 179, 3) := by decide +kernel
theorem dX12_lead_75 : decode cX12_lead 75 = .ok (.ireturn, 1) := by decide +kernel
theorem dX12_lead_76 : decode cX12_lead 76 = .ok (.aload_n 0, 1) := by decide +kernel
theorem dX12_lead_77 : decode cX12_lead 77 = .ok (.getfield 16, 3) := by decide +kernel
theorem dX12_lead_80 : decode cX12_lead 80 = .ok (.aload_n 0, 1) := by decide +kernel
theorem dX12_lead_81 : decode cX12_lead 81 = .ok (.getfield 16, 3) := by decide +kernel
theorem dX12_lead_84 : decode cX12_lead 84 = .ok (.getfield 191, 3) := by decide +kernel
theorem dX12_lead_87 : decode cX12_lead 87 = .ok (.iload_n 1, 1) := by decide +kernel
theorem dX12_lead_88 : decode cX12_lead 88 = .ok (.iload_n 2, 1) := by decide +kernel
theorem dX12_lead_89 : decode cX12_lead 89 = .ok (.iload_n 3, 1) := by decide +kernel
theorem dX12_lead_90 : decode cX12_lead 90 = .ok (.iload 4, 2) := by decide +kernel
theorem dX12_lead_92 : decode cX12_lead 92 = .ok (.invokevirtual 201, 3) := by decide +kernel
theorem dX12_lead_95 : decode cX12_lead 95 = .ok (.aload_n 0, 1) := by decide +kernel
theorem dX12_lead_96 : decode cX12_lead 96 = .ok (.getfield 16, 3) := by decide +kernel
theorem dX12_lead_99 : decode cX12_lead 99 = .ok (.dup, 1) := by decide +kernel
theorem dX12_lead_100 : decode cX12_lead 100 = .ok (.getfield 191, 3) := by decide +kernel
theorem dX12_lead_103 : decode cX12_lead 103 = .ok (.iconst 1, 1) := by decide +kernel
theorem dX12_lead_104 : decode cX12_lead 104 = .ok (.iadd, 1) := by decide +kernel
theorem dX12_lead_105 : decode cX12_lead 105 = .ok (.putfield 191, 3) := by decide +kernel
theorem dX12_lead_108 : decode cX12_lead 108 = .ok (.aload_n 0, 1) := by decide +kernel
theorem dX12_lead_109 : decode cX12_lead 109 = .ok (.invokevirtual 194, 3) := by decide +kernel
theorem dX12_lead_112 : decode cX12_lead 112 = .ok (.aload_n 0, 1) := by decide +kernel
theorem dX12_lead_113 : decode cX12_lead 113 = .ok (.getfield 16, 3) := by decide +kernel
theorem dX12_lead_116 : decode cX12_lead 116 = .ok (.getfield 191, 3) := by decide +kernel
theorem dX12_lead_119 : decode cX12_lead 119 = .ok (.iconst 1, 1) := by decide +kernel
theorem dX12_lead_120 : decode cX12_lead 120 = .ok (.isub, 1) := by decide +kernel
theorem dX12_lead_121 : decode cX12_lead 121 = .ok (.ireturn, 1) := by decide +kernel
set_option maxRecDepth 20000 in
theorem ggX12_undo_X12_answer : GoodIn wsX12_undo wsX12_answer := goodIn_r _ [7, 8, 133, 134, 135, 136, 137, 138, 139, 140, 141, 142, 143, 144, 145, 146, 147, 148, 149, 150, 151, 152, 153, 154, 155, 156, 157, 158, 159, 160, 161, 162, 163, 164] rfl (by decide +kernel)
set_option maxRecDepth 20000 in
theorem gX12_undo_X12_answer : GoodIn wsX12_undo (wsV RX12 179 RX12 yX12_answer wsX12_answer) := goodIn_app (goodIn_r ([.methodLink RX12 179 yX12_answer, .instanceMethod yX12_answer, .selects RX12 yX12_answer yX12_answer, .initialized RX12] : List Cond) [3, 4, 5, 6] rfl (by decide +kernel)) ggX12_undo_X12_answer
set_option maxRecDepth 20000 in
theorem ggX12_undo_X12_arrange : GoodIn wsX12_undo wsX12_arrange := goodIn_r _ [12, 2, 13, 14, 15, 16, 17, 18, 19, 20, 21, 22, 23, 24, 25, 26, 27, 28, 29, 30, 31, 32, 33, 34, 35, 36, 37, 38, 39, 40, 41, 42, 43, 6, 44, 45, 46, 47, 48, 49, 50, 51, 52, 53, 54, 55, 56, 57, 58, 59, 60, 61, 62, 63, 64, 65, 66, 67, 68, 69, 70, 71, 72, 73, 74, 75, 76, 77, 78, 79, 80, 81, 82, 83, 84, 85, 86, 87, 88, 89, 90, 91, 92, 93, 94, 95, 96, 97, 98, 99, 100, 101, 102, 103, 104, 105, 106, 107, 108, 109, 110, 111, 112, 113, 114, 115, 116, 117, 118, 119, 120, 121, 122, 123, 124, 125, 126, 127, 128, 129, 130, 131, 132, 133, 134, 135, 136, 137, 138, 139, 140, 141, 142, 143, 144, 145, 146, 147, 148, 149, 150, 151, 152, 153, 154, 155, 156, 157, 158, 159, 160, 161, 162, 163, 164, 165, 166, 167, 168, 169, 170, 171, 172, 173, 174, 175, 176, 177, 178, 179, 180] rfl (by decide +kernel)
set_option maxRecDepth 20000 in
theorem gX12_undo_X12_arrange : GoodIn wsX12_undo (wsV RX12 194 RX12 yX12_arrange wsX12_arrange) := goodIn_app (goodIn_r ([.methodLink RX12 194 yX12_arrange, .instanceMethod yX12_arrange, .selects RX12 yX12_arrange yX12_arrange, .initialized RX12] : List Cond) [9, 10, 11, 6] rfl (by decide +kernel)) ggX12_undo_X12_arrange
theorem dX12_undo_0 : decode cX12_undo 0 = .ok (.aload_n 0, 1) := by decide +kernel
theorem dX12_undo_1 : decode cX12_undo 1 = .ok (.getfield 182, 3) := by decide +kernel
theorem dX12_undo_4 : decode cX12_undo 4 = .ok (.ifCond .eq 13, 3) := by decide +kernel
theorem dX12_undo_7 : decode cX12_undo 7 = .ok (.aload_n 0, 1) := by decide +kernel
theorem dX12_undo_8 : decode cX12_undo 8 = .ok (.getfield 16, 3) := by decide +kernel
theorem dX12_undo_11 : decode cX12_undo 11 = .ok (.getfield 191, 3) := by decide +kernel
theorem dX12_undo_14 : decode cX12_undo 14 = .ok (.ifCond .ne 10, 3) := by decide +kernel
theorem dX12_undo_17 : decode cX12_undo 17 = .ok (.aload_n 0, 1) := by decide +kernel
theorem dX12_undo_18 : decode cX12_undo 18 = .ok (.bipush (-4), 2) := by decide +kernel
theorem dX12_undo_20 : decode cX12_undo 20 = .ok (.invokevirtual 179, 3) := by decide +kernel
theorem dX12_undo_23 : decode cX12_undo 23 = .ok (.ireturn, 1) := by decide +kernel
theorem dX12_undo_24 : decode cX12_undo 24 = .ok (.aload_n 0, 1) := by decide +kernel
theorem dX12_undo_25 : decode cX12_undo 25 = .ok (.getfield 16, 3) := by decide +kernel
theorem dX12_undo_28 : decode cX12_undo 28 = .ok (.dup, 1) := by decide +kernel
theorem dX12_undo_29 : decode cX12_undo 29 = .ok (.getfield 191, 3) := by decide +kernel
theorem dX12_undo_32 : decode cX12_undo 32 = .ok (.iconst 1, 1) := by decide +kernel
theorem dX12_undo_33 : decode cX12_undo 33 = .ok (.isub, 1) := by decide +kernel
theorem dX12_undo_34 : decode cX12_undo 34 = .ok (.putfield 191, 3) := by decide +kernel
theorem dX12_undo_37 : decode cX12_undo 37 = .ok (.aload_n 0, 1) := by decide +kernel
theorem dX12_undo_38 : decode cX12_undo 38 = .ok (.invokevirtual 194, 3) := by decide +kernel
theorem dX12_undo_41 : decode cX12_undo 41 = .ok (.aload_n 0, 1) := by decide +kernel
theorem dX12_undo_42 : decode cX12_undo 42 = .ok (.getfield 16, 3) := by decide +kernel
theorem dX12_undo_45 : decode cX12_undo 45 = .ok (.getfield 191, 3) := by decide +kernel
theorem dX12_undo_48 : decode cX12_undo 48 = .ok (.ireturn, 1) := by decide +kernel
set_option maxRecDepth 20000 in
theorem ggX12_count_X12_answer : GoodIn wsX12_count wsX12_answer := goodIn_r _ [9, 10, 11, 12, 13, 14, 15, 16, 17, 18, 19, 20, 21, 22, 23, 24, 25, 26, 27, 28, 29, 30, 31, 32, 33, 34, 35, 36, 37, 38, 39, 40, 41, 42] rfl (by decide +kernel)
set_option maxRecDepth 20000 in
theorem gX12_count_X12_answer : GoodIn wsX12_count (wsV RX12 179 RX12 yX12_answer wsX12_answer) := goodIn_app (goodIn_r ([.methodLink RX12 179 yX12_answer, .instanceMethod yX12_answer, .selects RX12 yX12_answer yX12_answer, .initialized RX12] : List Cond) [5, 6, 7, 8] rfl (by decide +kernel)) ggX12_count_X12_answer
theorem dX12_count_0 : decode cX12_count 0 = .ok (.aload_n 0, 1) := by decide +kernel
theorem dX12_count_1 : decode cX12_count 1 = .ok (.getfield 182, 3) := by decide +kernel
theorem dX12_count_4 : decode cX12_count 4 = .ok (.ifCond .eq 13, 3) := by decide +kernel
theorem dX12_count_7 : decode cX12_count 7 = .ok (.iload_n 1, 1) := by decide +kernel
theorem dX12_count_8 : decode cX12_count 8 = .ok (.ifCond .lt 9, 3) := by decide +kernel
theorem dX12_count_11 : decode cX12_count 11 = .ok (.iload_n 1, 1) := by decide +kernel
theorem dX12_count_12 : decode cX12_count 12 = .ok (.bipush 7, 2) := by decide +kernel
theorem dX12_count_14 : decode cX12_count 14 = .ok (.if_icmp .le 21, 3) := by decide +kernel
theorem dX12_count_17 : decode cX12_count 17 = .ok (.aload_n 0, 1) := by decide +kernel
theorem dX12_count_18 : decode cX12_count 18 = .ok (.aload_n 0, 1) := by decide +kernel
theorem dX12_count_19 : decode cX12_count 19 = .ok (.getfield 182, 3) := by decide +kernel
theorem dX12_count_22 : decode cX12_count 22 = .ok (.ifCond .ne 8, 3) := by decide +kernel
theorem dX12_count_25 : decode cX12_count 25 = .ok (.bipush (-4), 2) := by decide +kernel
theorem dX12_count_27 : decode cX12_count 27 = .ok (.goto 4, 3) := by decide +kernel
theorem dX12_count_30 : decode cX12_count 30 = .ok (.iconst (-1), 1) := by decide +kernel
theorem dX12_count_31 : decode cX12_count 31 = .ok (.invokevirtual 179, 3) := by decide +kernel
theorem dX12_count_34 : decode cX12_count 34 = .ok (.ireturn, 1) := by decide +kernel
theorem dX12_count_35 : decode cX12_count 35 = .ok (.iload_n 1, 1) := by decide +kernel
theorem dX12_count_36 : decode cX12_count 36 = .ok (.iconst 5, 1) := by decide +kernel
theorem dX12_count_37 : decode cX12_count 37 = .ok (.if_icmp .ne 46, 3) := by decide +kernel
theorem dX12_count_40 : decode cX12_count 40 = .ok (.iconst 0, 1) := by decide +kernel
theorem dX12_count_41 : decode cX12_count 41 = .ok (.istore_n 2, 1) := by decide +kernel
theorem dX12_count_42 : decode cX12_count 42 = .ok (.iconst 0, 1) := by decide +kernel
theorem dX12_count_43 : decode cX12_count 43 = .ok (.istore_n 3, 1) := by decide +kernel
theorem dX12_count_44 : decode cX12_count 44 = .ok (.iload_n 3, 1) := by decide +kernel
theorem dX12_count_45 : decode cX12_count 45 = .ok (.aload_n 0, 1) := by decide +kernel
theorem dX12_count_46 : decode cX12_count 46 = .ok (.getfield 16, 3) := by decide +kernel
theorem dX12_count_49 : decode cX12_count 49 = .ok (.getfield 137, 3) := by decide +kernel
theorem dX12_count_52 : decode cX12_count 52 = .ok (.if_icmp .ge 29, 3) := by decide +kernel
theorem dX12_count_55 : decode cX12_count 55 = .ok (.iload_n 2, 1) := by decide +kernel
theorem dX12_count_56 : decode cX12_count 56 = .ok (.aload_n 0, 1) := by decide +kernel
theorem dX12_count_57 : decode cX12_count 57 = .ok (.getfield 16, 3) := by decide +kernel
theorem dX12_count_60 : decode cX12_count 60 = .ok (.getfield 141, 3) := by decide +kernel
theorem dX12_count_63 : decode cX12_count 63 = .ok (.iload_n 3, 1) := by decide +kernel
theorem dX12_count_64 : decode cX12_count 64 = .ok (.baload, 1) := by decide +kernel
theorem dX12_count_65 : decode cX12_count 65 = .ok (.ifCond .eq 7, 3) := by decide +kernel
theorem dX12_count_68 : decode cX12_count 68 = .ok (.iconst 0, 1) := by decide +kernel
theorem dX12_count_69 : decode cX12_count 69 = .ok (.goto 4, 3) := by decide +kernel
theorem dX12_count_72 : decode cX12_count 72 = .ok (.iconst 1, 1) := by decide +kernel
theorem dX12_count_73 : decode cX12_count 73 = .ok (.iadd, 1) := by decide +kernel
theorem dX12_count_74 : decode cX12_count 74 = .ok (.istore_n 2, 1) := by decide +kernel
theorem dX12_count_75 : decode cX12_count 75 = .ok (.iinc 3 1, 3) := by decide +kernel
theorem dX12_count_78 : decode cX12_count 78 = .ok (.goto (-34), 3) := by decide +kernel
theorem dX12_count_81 : decode cX12_count 81 = .ok (.iload_n 2, 1) := by decide +kernel
theorem dX12_count_82 : decode cX12_count 82 = .ok (.ireturn, 1) := by decide +kernel
theorem dX12_count_83 : decode cX12_count 83 = .ok (.iload_n 1, 1) := by decide +kernel
theorem dX12_count_84 : decode cX12_count 84 = .ok (.ifCond .ne 13, 3) := by decide +kernel
theorem dX12_count_87 : decode cX12_count 87 = .ok (.aload_n 0, 1) := by decide +kernel
theorem dX12_count_88 : decode cX12_count 88 = .ok (.getfield 16, 3) := by decide +kernel
theorem dX12_count_91 : decode cX12_count 91 = .ok (.getfield 185, 3) := by decide +kernel
theorem dX12_count_94 : decode cX12_count 94 = .ok (.goto 80, 3) := by decide +kernel
theorem dX12_count_97 : decode cX12_count 97 = .ok (.iload_n 1, 1) := by decide +kernel
theorem dX12_count_98 : decode cX12_count 98 = .ok (.iconst 1, 1) := by decide +kernel
theorem dX12_count_99 : decode cX12_count 99 = .ok (.if_icmp .ne 13, 3) := by decide +kernel
theorem dX12_count_102 : decode cX12_count 102 = .ok (.aload_n 0, 1) := by decide +kernel
theorem dX12_count_103 : decode cX12_count 103 = .ok (.getfield 16, 3) := by decide +kernel
theorem dX12_count_106 : decode cX12_count 106 = .ok (.getfield 188, 3) := by decide +kernel
theorem dX12_count_109 : decode cX12_count 109 = .ok (.goto 65, 3) := by decide +kernel
theorem dX12_count_112 : decode cX12_count 112 = .ok (.iload_n 1, 1) := by decide +kernel
theorem dX12_count_113 : decode cX12_count 113 = .ok (.iconst 2, 1) := by decide +kernel
theorem dX12_count_114 : decode cX12_count 114 = .ok (.if_icmp .ne 13, 3) := by decide +kernel
theorem dX12_count_117 : decode cX12_count 117 = .ok (.aload_n 0, 1) := by decide +kernel
theorem dX12_count_118 : decode cX12_count 118 = .ok (.getfield 16, 3) := by decide +kernel
theorem dX12_count_121 : decode cX12_count 121 = .ok (.getfield 191, 3) := by decide +kernel
theorem dX12_count_124 : decode cX12_count 124 = .ok (.goto 50, 3) := by decide +kernel
theorem dX12_count_127 : decode cX12_count 127 = .ok (.iload_n 1, 1) := by decide +kernel
theorem dX12_count_128 : decode cX12_count 128 = .ok (.iconst 3, 1) := by decide +kernel
theorem dX12_count_129 : decode cX12_count 129 = .ok (.if_icmp .ne 13, 3) := by decide +kernel
theorem dX12_count_132 : decode cX12_count 132 = .ok (.aload_n 0, 1) := by decide +kernel
