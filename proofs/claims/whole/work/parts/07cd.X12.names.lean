theorem dX12_isCut_121 : decode cX12_isCut 121 = .ok (.iload 4, 2) := by decide +kernel
theorem dX12_isCut_123 : decode cX12_isCut 123 = .ok (.iload_n 2, 1) := by decide +kernel
theorem dX12_isCut_124 : decode cX12_isCut 124 = .ok (.iload 5, 2) := by decide +kernel
theorem dX12_isCut_126 : decode cX12_isCut 126 = .ok (.invokestatic 301, 3) := by decide +kernel
theorem dX12_isCut_129 : decode cX12_isCut 129 = .ok (.baload, 1) := by decide +kernel
theorem dX12_isCut_130 : decode cX12_isCut 130 = .ok (.ifCond .eq 27, 3) := by decide +kernel
theorem dX12_isCut_133 : decode cX12_isCut 133 = .ok (.aload_n 0, 1) := by decide +kernel
theorem dX12_isCut_134 : decode cX12_isCut 134 = .ok (.getfield 92, 3) := by decide +kernel
theorem dX12_isCut_137 : decode cX12_isCut 137 = .ok (.iload_n 1, 1) := by decide +kernel
theorem dX12_isCut_138 : decode cX12_isCut 138 = .ok (.iload 4, 2) := by decide +kernel
theorem dX12_isCut_140 : decode cX12_isCut 140 = .ok (.iconst (-1), 1) := by decide +kernel
theorem dX12_isCut_141 : decode cX12_isCut 141 = .ok (.ixor, 1) := by decide +kernel
theorem dX12_isCut_142 : decode cX12_isCut 142 = .ok (.iand, 1) := by decide +kernel
theorem dX12_isCut_143 : decode cX12_isCut 143 = .ok (.iload_n 2, 1) := by decide +kernel
theorem dX12_isCut_144 : decode cX12_isCut 144 = .ok (.iload_n 3, 1) := by decide +kernel
theorem dX12_isCut_145 : decode cX12_isCut 145 = .ok (.iload 5, 2) := by decide +kernel
theorem dX12_isCut_147 : decode cX12_isCut 147 = .ok (.isub, 1) := by decide +kernel
theorem dX12_isCut_148 : decode cX12_isCut 148 = .ok (.invokestatic 301, 3) := by decide +kernel
theorem dX12_isCut_151 : decode cX12_isCut 151 = .ok (.baload, 1) := by decide +kernel
theorem dX12_isCut_152 : decode cX12_isCut 152 = .ok (.ifCond .eq 5, 3) := by decide +kernel
theorem dX12_isCut_155 : decode cX12_isCut 155 = .ok (.iconst 1, 1) := by decide +kernel
theorem dX12_isCut_156 : decode cX12_isCut 156 = .ok (.ireturn, 1) := by decide +kernel
theorem dX12_isCut_157 : decode cX12_isCut 157 = .ok (.iinc 5 1, 3) := by decide +kernel
theorem dX12_isCut_160 : decode cX12_isCut 160 = .ok (.goto (-49), 3) := by decide +kernel
theorem dX12_isCut_163 : decode cX12_isCut 163 = .ok (.iload 4, 2) := by decide +kernel
theorem dX12_isCut_165 : decode cX12_isCut 165 = .ok (.ifCond .ne 7, 3) := by decide +kernel
theorem dX12_isCut_168 : decode cX12_isCut 168 = .ok (.iconst (-1), 1) := by decide +kernel
theorem dX12_isCut_169 : decode cX12_isCut 169 = .ok (.goto 9, 3) := by decide +kernel
theorem dX12_isCut_172 : decode cX12_isCut 172 = .ok (.iload 4, 2) := by decide +kernel
theorem dX12_isCut_174 : decode cX12_isCut 174 = .ok (.iconst 1, 1) := by decide +kernel
theorem dX12_isCut_175 : decode cX12_isCut 175 = .ok (.isub, 1) := by decide +kernel
theorem dX12_isCut_176 : decode cX12_isCut 176 = .ok (.iload_n 1, 1) := by decide +kernel
theorem dX12_isCut_177 : decode cX12_isCut 177 = .ok (.iand, 1) := by decide +kernel
theorem dX12_isCut_178 : decode cX12_isCut 178 = .ok (.istore 4, 2) := by decide +kernel
theorem dX12_isCut_180 : decode cX12_isCut 180 = .ok (.goto (-132), 3) := by decide +kernel
theorem dX12_isCut_183 : decode cX12_isCut 183 = .ok (.iconst 0, 1) := by decide +kernel
theorem dX12_isCut_184 : decode cX12_isCut 184 = .ok (.ireturn, 1) := by decide +kernel
set_option maxRecDepth 20000 in
theorem ggX12_sheets_X12_answer : GoodIn wsX12_sheets wsX12_answer := goodIn_r _ [18, 19, 75, 76, 77, 78, 79, 80, 81, 82, 83, 84, 85, 86, 87, 88, 89, 90, 91, 92, 93, 94, 95, 96, 97, 98, 99, 100, 101, 102, 103, 104, 105, 106] rfl (by decide +kernel)
set_option maxRecDepth 20000 in
theorem gX12_sheets_X12_answer : GoodIn wsX12_sheets (wsV RX12 179 RX12 yX12_answer wsX12_answer) := goodIn_app (goodIn_r ([.methodLink RX12 179 yX12_answer, .instanceMethod yX12_answer, .selects RX12 yX12_answer yX12_answer, .initialized RX12] : List Cond) [14, 15, 16, 17] rfl (by decide +kernel)) ggX12_sheets_X12_answer
set_option maxRecDepth 20000 in
theorem ggX12_sheets_X12_wide : GoodIn wsX12_sheets wsX12_wide := goodIn_r _ [23, 24, 25, 26, 17, 27, 28, 29, 30, 31, 12, 32, 10, 11, 13, 33, 34, 35, 36, 37, 38, 39, 40, 41, 42, 43, 44, 45, 46, 47, 48, 49, 50, 51, 52, 53, 54, 55, 56, 57, 58, 59, 75, 76, 77, 78, 79, 80, 81, 82, 83, 84, 85, 86, 87, 88, 89, 90, 91, 92, 93, 94, 95, 96, 97, 98, 99, 100, 101, 102, 103, 104, 105, 106, 107, 108, 109, 110, 111, 112, 113, 114, 115, 116, 117, 118, 119, 120, 121, 122] rfl (by decide +kernel)
set_option maxRecDepth 20000 in
theorem gX12_sheets_X12_wide : GoodIn wsX12_sheets (wsV RX12 239 RX12 yX12_wide wsX12_wide) := goodIn_app (goodIn_r ([.methodLink RX12 239 yX12_wide, .instanceMethod yX12_wide, .selects RX12 yX12_wide yX12_wide, .initialized RX12] : List Cond) [20, 21, 22, 17] rfl (by decide +kernel)) ggX12_sheets_X12_wide
set_option maxRecDepth 20000 in
theorem ggX12_sheets_X12_tall : GoodIn wsX12_sheets wsX12_tall := goodIn_r _ [63, 24, 25, 26, 17, 27, 28, 29, 30, 31, 12, 32, 10, 11, 13, 33, 34, 35, 36, 37, 38, 39, 40, 41, 42, 43, 44, 45, 46, 47, 48, 49, 50, 51, 52, 53, 54, 55, 56, 57, 58, 59, 75, 76, 77, 78, 79, 80, 81, 82, 83, 84, 85, 86, 87, 88, 89, 90, 91, 92, 93, 94, 95, 96, 97, 98, 99, 100, 101, 102, 103, 104, 105, 106, 107, 108, 109, 110, 111, 112, 113, 114, 115, 116, 117, 118, 119, 120, 121, 122] rfl (by decide +kernel)
set_option maxRecDepth 20000 in
theorem gX12_sheets_X12_tall : GoodIn wsX12_sheets (wsV RX12 242 RX12 yX12_tall wsX12_tall) := goodIn_app (goodIn_r ([.methodLink RX12 242 yX12_tall, .instanceMethod yX12_tall, .selects RX12 yX12_tall yX12_tall, .initialized RX12] : List Cond) [60, 61, 62, 17] rfl (by decide +kernel)) ggX12_sheets_X12_tall
set_option maxRecDepth 20000 in
theorem ggX12_sheets_X12_place : GoodIn wsX12_sheets wsX12_place := goodIn_r _ [66] rfl (by decide +kernel)
set_option maxRecDepth 20000 in
theorem gX12_sheets_X12_place : GoodIn wsX12_sheets (va_wsS RX12 301 yX12_place wsX12_place) := goodIn_app (goodIn_r ([.methodLink RX12 301 yX12_place, .static yX12_place, .initialized yX12_place.cls] : List Cond) [64, 65, 17] rfl (by decide +kernel)) ggX12_sheets_X12_place
set_option maxRecDepth 20000 in
theorem ggX12_sheets_X12_isCut : GoodIn wsX12_sheets wsX12_isCut := goodIn_r _ [70, 2, 8, 71, 72, 73, 17, 74, 3, 5, 6, 64, 65, 66, 75, 76, 77, 78, 79, 80, 81, 82, 83, 84, 85, 86, 87, 88, 89, 90, 91, 92, 93, 94, 95, 96, 97, 98, 99, 100, 101, 102, 103, 104, 105, 106] rfl (by decide +kernel)
set_option maxRecDepth 20000 in
theorem gX12_sheets_X12_isCut : GoodIn wsX12_sheets (wsV RX12 305 RX12 yX12_isCut wsX12_isCut) := goodIn_app (goodIn_r ([.methodLink RX12 305 yX12_isCut, .instanceMethod yX12_isCut, .selects RX12 yX12_isCut yX12_isCut, .initialized RX12] : List Cond) [67, 68, 69, 17] rfl (by decide +kernel)) ggX12_sheets_X12_isCut
theorem dX12_sheets_0 : decode cX12_sheets 0 = .ok (.aload_n 0, 1) := by decide +kernel
theorem dX12_sheets_1 : decode cX12_sheets 1 = .ok (.getfield 182, 3) := by decide +kernel
theorem dX12_sheets_4 : decode cX12_sheets 4 = .ok (.ifCond .eq 25, 3) := by decide +kernel
theorem dX12_sheets_7 : decode cX12_sheets 7 = .ok (.iload_n 1, 1) := by decide +kernel
theorem dX12_sheets_8 : decode cX12_sheets 8 = .ok (.iconst 1, 1) := by decide +kernel
theorem dX12_sheets_9 : decode cX12_sheets 9 = .ok (.if_icmp .lt 20, 3) := by decide +kernel
theorem dX12_sheets_12 : decode cX12_sheets 12 = .ok (.iload_n 1, 1) := by decide +kernel
theorem dX12_sheets_13 : decode cX12_sheets 13 = .ok (.bipush 12, 2) := by decide +kernel
theorem dX12_sheets_15 : decode cX12_sheets 15 = .ok (.if_icmp .gt 14, 3) := by decide +kernel
theorem dX12_sheets_18 : decode cX12_sheets 18 = .ok (.iload_n 2, 1) := by decide +kernel
theorem dX12_sheets_19 : decode cX12_sheets 19 = .ok (.iconst 1, 1) := by decide +kernel
theorem dX12_sheets_20 : decode cX12_sheets 20 = .ok (.if_icmp .lt 9, 3) := by decide +kernel
theorem dX12_sheets_23 : decode cX12_sheets 23 = .ok (.iload_n 2, 1) := by decide +kernel
theorem dX12_sheets_24 : decode cX12_sheets 24 = .ok (.bipush 12, 2) := by decide +kernel
theorem dX12_sheets_26 : decode cX12_sheets 26 = .ok (.if_icmp .le 21, 3) := by decide +kernel
theorem dX12_sheets_29 : decode cX12_sheets 29 = .ok (.aload_n 0, 1) := by decide +kernel
theorem dX12_sheets_30 : decode cX12_sheets 30 = .ok (.aload_n 0, 1) := by decide +kernel
theorem dX12_sheets_31 : decode cX12_sheets 31 = .ok (.getfield 182, 3) := by decide +kernel
theorem dX12_sheets_34 : decode cX12_sheets 34 = .ok (.ifCond .ne 8, 3) := by decide +kernel
theorem dX12_sheets_37 : decode cX12_sheets 37 = .ok (.bipush (-4), 2) := by decide +kernel
theorem dX12_sheets_39 : decode cX12_sheets 39 = .ok (.goto 4, 3) := by decide +kernel
theorem dX12_sheets_42 : decode cX12_sheets 42 = .ok (.iconst (-1), 1) := by decide +kernel
theorem dX12_sheets_43 : decode cX12_sheets 43 = .ok (.invokevirtual 179, 3) := by decide +kernel
theorem dX12_sheets_46 : decode cX12_sheets 46 = .ok (.ireturn, 1) := by decide +kernel
theorem dX12_sheets_47 : decode cX12_sheets 47 = .ok (.iconst 0, 1) := by decide +kernel
theorem dX12_sheets_48 : decode cX12_sheets 48 = .ok (.istore 4, 2) := by decide +kernel
theorem dX12_sheets_50 : decode cX12_sheets 50 = .ok (.iload 4, 2) := by decide +kernel
theorem dX12_sheets_52 : decode cX12_sheets 52 = .ok (.aload_n 0, 1) := by decide +kernel
theorem dX12_sheets_53 : decode cX12_sheets 53 = .ok (.getfield 172, 3) := by decide +kernel
theorem dX12_sheets_56 : decode cX12_sheets 56 = .ok (.if_icmp .ge 77, 3) := by decide +kernel
theorem dX12_sheets_59 : decode cX12_sheets 59 = .ok (.aload_n 0, 1) := by decide +kernel
theorem dX12_sheets_60 : decode cX12_sheets 60 = .ok (.getfield 95, 3) := by decide +kernel
theorem dX12_sheets_63 : decode cX12_sheets 63 = .ok (.iload 4, 2) := by decide +kernel
theorem dX12_sheets_65 : decode cX12_sheets 65 = .ok (.aload_n 0, 1) := by decide +kernel
theorem dX12_sheets_66 : decode cX12_sheets 66 = .ok (.aload_n 0, 1) := by decide +kernel
theorem dX12_sheets_67 : decode cX12_sheets 67 = .ok (.getfield 46, 3) := by decide +kernel
theorem dX12_sheets_70 : decode cX12_sheets 70 = .ok (.iload 4, 2) := by decide +kernel
theorem dX12_sheets_72 : decode cX12_sheets 72 = .ok (.iaload, 1) := by decide +kernel
theorem dX12_sheets_73 : decode cX12_sheets 73 = .ok (.invokevirtual 239, 3) := by decide +kernel
theorem dX12_sheets_76 : decode cX12_sheets 76 = .ok (.iastore, 1) := by decide +kernel
theorem dX12_sheets_77 : decode cX12_sheets 77 = .ok (.aload_n 0, 1) := by decide +kernel
theorem dX12_sheets_78 : decode cX12_sheets 78 = .ok (.getfield 98, 3) := by decide +kernel
theorem dX12_sheets_81 : decode cX12_sheets 81 = .ok (.iload 4, 2) := by decide +kernel
theorem dX12_sheets_83 : decode cX12_sheets 83 = .ok (.aload_n 0, 1) := by decide +kernel
theorem dX12_sheets_84 : decode cX12_sheets 84 = .ok (.aload_n 0, 1) := by decide +kernel
theorem dX12_sheets_85 : decode cX12_sheets 85 = .ok (.getfield 46, 3) := by decide +kernel
theorem dX12_sheets_88 : decode cX12_sheets 88 = .ok (.iload 4, 2) := by decide +kernel
theorem dX12_sheets_90 : decode cX12_sheets 90 = .ok (.iaload, 1) := by decide +kernel
theorem dX12_sheets_91 : decode cX12_sheets 91 = .ok (.invokevirtual 242, 3) := by decide +kernel
theorem dX12_sheets_94 : decode cX12_sheets 94 = .ok (.iastore, 1) := by decide +kernel
theorem dX12_sheets_95 : decode cX12_sheets 95 = .ok (.aload_n 0, 1) := by decide +kernel
theorem dX12_sheets_96 : decode cX12_sheets 96 = .ok (.getfield 101, 3) := by decide +kernel
theorem dX12_sheets_99 : decode cX12_sheets 99 = .ok (.iload 4, 2) := by decide +kernel
theorem dX12_sheets_101 : decode cX12_sheets 101 = .ok (.iload_n 3, 1) := by decide +kernel
theorem dX12_sheets_102 : decode cX12_sheets 102 = .ok (.ifCond .eq 23, 3) := by decide +kernel
theorem dX12_sheets_105 : decode cX12_sheets 105 = .ok (.aload_n 0, 1) := by decide +kernel
theorem dX12_sheets_106 : decode cX12_sheets 106 = .ok (.getfield 37, 3) := by decide +kernel
theorem dX12_sheets_109 : decode cX12_sheets 109 = .ok (.aload_n 0, 1) := by decide +kernel
theorem dX12_sheets_110 : decode cX12_sheets 110 = .ok (.getfield 46, 3) := by decide +kernel
theorem dX12_sheets_113 : decode cX12_sheets 113 = .ok (.iload 4, 2) := by decide +kernel
theorem dX12_sheets_115 : decode cX12_sheets 115 = .ok (.iaload, 1) := by decide +kernel
theorem dX12_sheets_116 : decode cX12_sheets 116 = .ok (.iaload, 1) := by decide +kernel
theorem dX12_sheets_117 : decode cX12_sheets 117 = .ok (.iconst 2, 1) := by decide +kernel
theorem dX12_sheets_118 : decode cX12_sheets 118 = .ok (.if_icmp .eq 7, 3) := by decide +kernel
theorem dX12_sheets_121 : decode cX12_sheets 121 = .ok (.iconst 1, 1) := by decide +kernel
theorem dX12_sheets_122 : decode cX12_sheets 122 = .ok (.goto 4, 3) := by decide +kernel
theorem dX12_sheets_125 : decode cX12_sheets 125 = .ok (.iconst 0, 1) := by decide +kernel
theorem dX12_sheets_126 : decode cX12_sheets 126 = .ok (.bastore, 1) := by decide +kernel
theorem dX12_sheets_127 : decode cX12_sheets 127 = .ok (.iinc 4 1, 3) := by decide +kernel
theorem dX12_sheets_130 : decode cX12_sheets 130 = .ok (.goto (-80), 3) := by decide +kernel
theorem dX12_sheets_133 : decode cX12_sheets 133 = .ok (.iconst 1, 1) := by decide +kernel
theorem dX12_sheets_134 : decode cX12_sheets 134 = .ok (.istore 4, 2) := by decide +kernel
theorem dX12_sheets_136 : decode cX12_sheets 136 = .ok (.iload 4, 2) := by decide +kernel
theorem dX12_sheets_138 : decode cX12_sheets 138 = .ok (.iload_n 1, 1) := by decide +kernel
theorem dX12_sheets_139 : decode cX12_sheets 139 = .ok (.if_icmp .gt 68, 3) := by decide +kernel
theorem dX12_sheets_142 : decode cX12_sheets 142 = .ok (.iconst 1, 1) := by decide +kernel
theorem dX12_sheets_143 : decode cX12_sheets 143 = .ok (.istore 5, 2) := by decide +kernel
theorem dX12_sheets_145 : decode cX12_sheets 145 = .ok (.iload 5, 2) := by decide +kernel
theorem dX12_sheets_147 : decode cX12_sheets 147 = .ok (.iload_n 2, 1) := by decide +kernel
theorem dX12_sheets_148 : decode cX12_sheets 148 = .ok (.if_icmp .gt 53, 3) := by decide +kernel
theorem dX12_sheets_151 : decode cX12_sheets 151 = .ok (.iconst 0, 1) := by decide +kernel
theorem dX12_sheets_152 : decode cX12_sheets 152 = .ok (.istore 6, 2) := by decide +kernel
theorem dX12_sheets_154 : decode cX12_sheets 154 = .ok (.iload 6, 2) := by decide +kernel
theorem dX12_sheets_156 : decode cX12_sheets 156 = .ok (.iconst 1, 1) := by decide +kernel
theorem dX12_sheets_157 : decode cX12_sheets 157 = .ok (.aload_n 0, 1) := by decide +kernel
theorem dX12_sheets_158 : decode cX12_sheets 158 = .ok (.getfield 172, 3) := by decide +kernel
theorem dX12_sheets_161 : decode cX12_sheets 161 = .ok (.ishl, 1) := by decide +kernel
theorem dX12_sheets_162 : decode cX12_sheets 162 = .ok (.if_icmp .ge 33, 3) := by decide +kernel
theorem dX12_sheets_165 : decode cX12_sheets 165 = .ok (.aload_n 0, 1) := by decide +kernel
theorem dX12_sheets_166 : decode cX12_sheets 166 = .ok (.getfield 92, 3) := by decide +kernel
theorem dX12_sheets_169 : decode cX12_sheets 169 = .ok (.iload 6, 2) := by decide +kernel
theorem dX12_sheets_171 : decode cX12_sheets 171 = .ok (.iload 4, 2) := by decide +kernel
theorem dX12_sheets_173 : decode cX12_sheets 173 = .ok (.iload 5, 2) := by decide +kernel
theorem dX12_sheets_175 : decode cX12_sheets 175 = .ok (.invokestatic 301, 3) := by decide +kernel
theorem dX12_sheets_178 : decode cX12_sheets 178 = .ok (.aload_n 0, 1) := by decide +kernel
theorem dX12_sheets_179 : decode cX12_sheets 179 = .ok (.iload 6, 2) := by decide +kernel
theorem dX12_sheets_181 : decode cX12_sheets 181 = .ok (.iload 4, 2) := by decide +kernel
theorem dX12_sheets_183 : decode cX12_sheets 183 = .ok (.iload 5, 2) := by decide +kernel
theorem dX12_sheets_185 : decode cX12_sheets 185 = .ok (.invokevirtual 305, 3) := by decide +kernel
theorem dX12_sheets_188 : decode cX12_sheets 188 = .ok (.bastore, 1) := by decide +kernel
theorem dX12_sheets_189 : decode cX12_sheets 189 = .ok (.iinc 6 1, 3) := by decide +kernel
theorem dX12_sheets_192 : decode cX12_sheets 192 = .ok (.goto (-38), 3) := by decide +kernel
theorem dX12_sheets_195 : decode cX12_sheets 195 = .ok (.iinc 5 1, 3) := by decide +kernel
theorem dX12_sheets_198 : decode cX12_sheets 198 = .ok (.goto (-53), 3) := by decide +kernel
theorem dX12_sheets_201 : decode cX12_sheets 201 = .ok (.iinc 4 1, 3) := by decide +kernel
theorem dX12_sheets_204 : decode cX12_sheets 204 = .ok (.goto (-68), 3) := by decide +kernel
theorem dX12_sheets_207 : decode cX12_sheets 207 = .ok (.iconst 0, 1) := by decide +kernel
theorem dX12_sheets_208 : decode cX12_sheets 208 = .ok (.istore 4, 2) := by decide +kernel
theorem dX12_sheets_210 : decode cX12_sheets 210 = .ok (.iload 4, 2) := by decide +kernel
theorem dX12_sheets_212 : decode cX12_sheets 212 = .ok (.aload_n 0, 1) := by decide +kernel
theorem dX12_sheets_213 : decode cX12_sheets 213 = .ok (.getfield 172, 3) := by decide +kernel
theorem dX12_sheets_216 : decode cX12_sheets 216 = .ok (.if_icmp .ge 33, 3) := by decide +kernel
theorem dX12_sheets_219 : decode cX12_sheets 219 = .ok (.aload_n 0, 1) := by decide +kernel
theorem dX12_sheets_220 : decode cX12_sheets 220 = .ok (.getfield 92, 3) := by decide +kernel
theorem dX12_sheets_223 : decode cX12_sheets 223 = .ok (.iconst 1, 1) := by decide +kernel
theorem dX12_sheets_224 : decode cX12_sheets 224 = .ok (.iload 4, 2) := by decide +kernel
theorem dX12_sheets_226 : decode cX12_sheets 226 = .ok (.ishl, 1) := by decide +kernel
theorem dX12_sheets_227 : decode cX12_sheets 227 = .ok (.iload_n 1, 1) := by decide +kernel
theorem dX12_sheets_228 : decode cX12_sheets 228 = .ok (.iload_n 2, 1) := by decide +kernel
theorem dX12_sheets_229 : decode cX12_sheets 229 = .ok (.invokestatic 301, 3) := by decide +kernel
theorem dX12_sheets_232 : decode cX12_sheets 232 = .ok (.baload, 1) := by decide +kernel
theorem dX12_sheets_233 : decode cX12_sheets 233 = .ok (.ifCond .ne 10, 3) := by decide +kernel
theorem dX12_sheets_236 : decode cX12_sheets 236 = .ok (.aload_n 0, 1) := by decide +kernel
theorem dX12_sheets_237 : decode cX12_sheets 237 = .ok (.bipush (-7), 2) := by decide +kernel
theorem dX12_sheets_239 : decode cX12_sheets 239 = .ok (.invokevirtual 179, 3) := by decide +kernel
theorem dX12_sheets_242 : decode cX12_sheets 242 = .ok (.ireturn, 1) := by decide +kernel
theorem dX12_sheets_243 : decode cX12_sheets 243 = .ok (.iinc 4 1, 3) := by decide +kernel
theorem dX12_sheets_246 : decode cX12_sheets 246 = .ok (.goto (-36), 3) := by decide +kernel
theorem dX12_sheets_249 : decode cX12_sheets 249 = .ok (.bipush 64, 2) := by decide +kernel
theorem dX12_sheets_251 : decode cX12_sheets 251 = .ok (.newarray .int, 2) := by decide +kernel
theorem dX12_sheets_253 : decode cX12_sheets 253 = .ok (.astore 4, 2) := by decide +kernel
theorem dX12_sheets_255 : decode cX12_sheets 255 = .ok (.iconst 1, 1) := by decide +kernel
theorem dX12_sheets_256 : decode cX12_sheets 256 = .ok (.istore 5, 2) := by decide +kernel
theorem dX12_sheets_258 : decode cX12_sheets 258 = .ok (.iload 5, 2) := by decide +kernel
theorem dX12_sheets_260 : decode cX12_sheets 260 = .ok (.iconst 1, 1) := by decide +kernel
theorem dX12_sheets_261 : decode cX12_sheets 261 = .ok (.aload_n 0, 1) := by decide +kernel
theorem dX12_sheets_262 : decode cX12_sheets 262 = .ok (.getfield 172, 3) := by decide +kernel
theorem dX12_sheets_265 : decode cX12_sheets 265 = .ok (.ishl, 1) := by decide +kernel
theorem dX12_sheets_266 : decode cX12_sheets 266 = .ok (.if_icmp .ge 77, 3) := by decide +kernel
theorem dX12_sheets_269 : decode cX12_sheets 269 = .ok (.aload 4, 2) := by decide +kernel
theorem dX12_sheets_271 : decode cX12_sheets 271 = .ok (.iload 5, 2) := by decide +kernel
theorem dX12_sheets_273 : decode cX12_sheets 273 = .ok (.bipush 7, 2) := by decide +kernel
theorem dX12_sheets_275 : decode cX12_sheets 275 = .ok (.iastore, 1) := by decide +kernel
theorem dX12_sheets_276 : decode cX12_sheets 276 = .ok (.iload 5, 2) := by decide +kernel
theorem dX12_sheets_278 : decode cX12_sheets 278 = .ok (.istore 6, 2) := by decide +kernel
theorem dX12_sheets_280 : decode cX12_sheets 280 = .ok (.iload 6, 2) := by decide +kernel
theorem dX12_sheets_282 : decode cX12_sheets 282 = .ok (.ifCond .le 55, 3) := by decide +kernel
theorem dX12_sheets_285 : decode cX12_sheets 285 = .ok (.aload_n 0, 1) := by decide +kernel
theorem dX12_sheets_286 : decode cX12_sheets 286 = .ok (.getfield 92, 3) := by decide +kernel
theorem dX12_sheets_289 : decode cX12_sheets 289 = .ok (.iload 6, 2) := by decide +kernel
theorem dX12_sheets_291 : decode cX12_sheets 291 = .ok (.iload_n 1, 1) := by decide +kernel
theorem dX12_sheets_292 : decode cX12_sheets 292 = .ok (.iload_n 2, 1) := by decide +kernel
theorem dX12_sheets_293 : decode cX12_sheets 293 = .ok (.invokestatic 301, 3) := by decide +kernel
theorem dX12_sheets_296 : decode cX12_sheets 296 = .ok (.baload, 1) := by decide +kernel
theorem dX12_sheets_297 : decode cX12_sheets 297 = .ok (.ifCond .eq 28, 3) := by decide +kernel
theorem dX12_sheets_300 : decode cX12_sheets 300 = .ok (.aload 4, 2) := by decide +kernel
theorem dX12_sheets_302 : decode cX12_sheets 302 = .ok (.iload 5, 2) := by decide +kernel
theorem dX12_sheets_304 : decode cX12_sheets 304 = .ok (.aload 4, 2) := by decide +kernel
theorem dX12_sheets_306 : decode cX12_sheets 306 = .ok (.iload 5, 2) := by decide +kernel
theorem dX12_sheets_308 : decode cX12_sheets 308 = .ok (.iaload, 1) := by decide +kernel
theorem dX12_sheets_309 : decode cX12_sheets 309 = .ok (.iconst 1, 1) := by decide +kernel
theorem dX12_sheets_310 : decode cX12_sheets 310 = .ok (.aload 4, 2) := by decide +kernel
theorem dX12_sheets_312 : decode cX12_sheets 312 = .ok (.iload 5, 2) := by decide +kernel
theorem dX12_sheets_314 : decode cX12_sheets 314 = .ok (.iload 6, 2) := by decide +kernel
theorem dX12_sheets_316 : decode cX12_sheets 316 = .ok (.iconst (-1), 1) := by decide +kernel
theorem dX12_sheets_317 : decode cX12_sheets 317 = .ok (.ixor, 1) := by decide +kernel
theorem dX12_sheets_318 : decode cX12_sheets 318 = .ok (.iand, 1) := by decide +kernel
theorem dX12_sheets_319 : decode cX12_sheets 319 = .ok (.iaload, 1) := by decide +kernel
theorem dX12_sheets_320 : decode cX12_sheets 320 = .ok (.iadd, 1) := by decide +kernel
theorem dX12_sheets_321 : decode cX12_sheets 321 = .ok (.invokestatic 232, 3) := by decide +kernel
theorem dX12_sheets_324 : decode cX12_sheets 324 = .ok (.iastore, 1) := by decide +kernel
theorem dX12_sheets_325 : decode cX12_sheets 325 = .ok (.iload 6, 2) := by decide +kernel
theorem dX12_sheets_327 : decode cX12_sheets 327 = .ok (.iconst 1, 1) := by decide +kernel
theorem dX12_sheets_328 : decode cX12_sheets 328 = .ok (.isub, 1) := by decide +kernel
theorem dX12_sheets_329 : decode cX12_sheets 329 = .ok (.iload 5, 2) := by decide +kernel
theorem dX12_sheets_331 : decode cX12_sheets 331 = .ok (.iand, 1) := by decide +kernel
theorem dX12_sheets_332 : decode cX12_sheets 332 = .ok (.istore 6, 2) := by decide +kernel
theorem dX12_sheets_334 : decode cX12_sheets 334 = .ok (.goto (-54), 3) := by decide +kernel
theorem dX12_sheets_337 : decode cX12_sheets 337 = .ok (.iinc 5 1, 3) := by decide +kernel
theorem dX12_sheets_340 : decode cX12_sheets 340 = .ok (.goto (-82), 3) := by decide +kernel
theorem dX12_sheets_343 : decode cX12_sheets 343 = .ok (.aload 4, 2) := by decide +kernel
theorem dX12_sheets_345 : decode cX12_sheets 345 = .ok (.iconst 1, 1) := by decide +kernel
theorem dX12_sheets_346 : decode cX12_sheets 346 = .ok (.aload_n 0, 1) := by decide +kernel
theorem dX12_sheets_347 : decode cX12_sheets 347 = .ok (.getfield 172, 3) := by decide +kernel
theorem dX12_sheets_350 : decode cX12_sheets 350 = .ok (.ishl, 1) := by decide +kernel
theorem dX12_sheets_351 : decode cX12_sheets 351 = .ok (.iconst 1, 1) := by decide +kernel
theorem dX12_sheets_352 : decode cX12_sheets 352 = .ok (.isub, 1) := by decide +kernel
theorem dX12_sheets_353 : decode cX12_sheets 353 = .ok (.iaload, 1) := by decide +kernel
theorem dX12_sheets_354 : decode cX12_sheets 354 = .ok (.ireturn, 1) := by decide +kernel
theorem dX12_isPlace_0 : decode cX12_isPlace 0 = .ok (.iload_n 0, 1) := by decide +kernel
theorem dX12_isPlace_1 : decode cX12_isPlace 1 = .ok (.ifCond .lt 12, 3) := by decide +kernel
theorem dX12_isPlace_4 : decode cX12_isPlace 4 = .ok (.iload_n 0, 1) := by decide +kernel
theorem dX12_isPlace_5 : decode cX12_isPlace 5 = .ok (.iconst 4, 1) := by decide +kernel
theorem dX12_isPlace_6 : decode cX12_isPlace 6 = .ok (.if_icmp .ge 7, 3) := by decide +kernel
theorem dX12_isPlace_9 : decode cX12_isPlace 9 = .ok (.iconst 1, 1) := by decide +kernel
theorem dX12_isPlace_10 : decode cX12_isPlace 10 = .ok (.goto 4, 3) := by decide +kernel
theorem dX12_isPlace_13 : decode cX12_isPlace 13 = .ok (.iconst 0, 1) := by decide +kernel
theorem dX12_isPlace_14 : decode cX12_isPlace 14 = .ok (.ireturn, 1) := by decide +kernel
set_option maxRecDepth 20000 in
theorem ggX12_keep_X12_isPlace : GoodIn wsX12_keep wsX12_isPlace := goodIn_r _ [8] rfl (by decide +kernel)
set_option maxRecDepth 20000 in
theorem gX12_keep_X12_isPlace : GoodIn wsX12_keep (va_wsS RX12 308 yX12_isPlace wsX12_isPlace) := goodIn_app (goodIn_r ([.methodLink RX12 308 yX12_isPlace, .static yX12_isPlace, .initialized yX12_isPlace.cls] : List Cond) [5, 6, 7] rfl (by decide +kernel)) ggX12_keep_X12_isPlace
set_option maxRecDepth 20000 in
theorem ggX12_keep_X12_answer : GoodIn wsX12_keep wsX12_answer := goodIn_r _ [12, 13, 30, 31, 32, 33, 34, 35, 36, 37, 38, 39, 40, 41, 42, 43, 44, 45, 46, 47, 48, 49, 50, 51, 52, 53, 54, 55, 56, 57, 58, 59, 60, 61] rfl (by decide +kernel)
set_option maxRecDepth 20000 in
theorem gX12_keep_X12_answer : GoodIn wsX12_keep (wsV RX12 179 RX12 yX12_answer wsX12_answer) := goodIn_app (goodIn_r ([.methodLink RX12 179 yX12_answer, .instanceMethod yX12_answer, .selects RX12 yX12_answer yX12_answer, .initialized RX12] : List Cond) [9, 10, 11, 7] rfl (by decide +kernel)) ggX12_keep_X12_answer
set_option maxRecDepth 20000 in
theorem ggX12_keep_X10_take : GoodIn wsX12_keep wsX10_take := goodIn_r _ [18, 19, 20, 21, 22, 23, 24, 25, 26, 27, 28, 17, 29, 62, 63, 64, 65, 66, 67, 68, 69, 70, 71, 72, 73, 74, 75, 76, 77] rfl (by decide +kernel)
set_option maxRecDepth 20000 in
theorem gX12_keep_X10_take : GoodIn wsX12_keep (wsV RX12 311 RX10 yX10_take wsX10_take) := goodIn_app (goodIn_r ([.methodLink RX12 311 yX10_take, .instanceMethod yX10_take, .selects RX10 yX10_take yX10_take, .initialized RX10] : List Cond) [14, 15, 16, 17] rfl (by decide +kernel)) ggX12_keep_X10_take
theorem dX12_keep_0 : decode cX12_keep 0 = .ok (.aload_n 0, 1) := by decide +kernel
theorem dX12_keep_1 : decode cX12_keep 1 = .ok (.getfield 182, 3) := by decide +kernel
theorem dX12_keep_4 : decode cX12_keep 4 = .ok (.ifCond .eq 10, 3) := by decide +kernel
theorem dX12_keep_7 : decode cX12_keep 7 = .ok (.iload_n 1, 1) := by decide +kernel
theorem dX12_keep_8 : decode cX12_keep 8 = .ok (.invokestatic 308, 3) := by decide +kernel
theorem dX12_keep_11 : decode cX12_keep 11 = .ok (.ifCond .ne 21, 3) := by decide +kernel
theorem dX12_keep_14 : decode cX12_keep 14 = .ok (.aload_n 0, 1) := by decide +kernel
theorem dX12_keep_15 : decode cX12_keep 15 = .ok (.aload_n 0, 1) := by decide +kernel
theorem dX12_keep_16 : decode cX12_keep 16 = .ok (.getfield 182, 3) := by decide +kernel
theorem dX12_keep_19 : decode cX12_keep 19 = .ok (.ifCond .ne 8, 3) := by decide +kernel
theorem dX12_keep_22 : decode cX12_keep 22 = .ok (.bipush (-4), 2) := by decide +kernel
theorem dX12_keep_24 : decode cX12_keep 24 = .ok (.goto 4, 3) := by decide +kernel
theorem dX12_keep_27 : decode cX12_keep 27 = .ok (.iconst (-1), 1) := by decide +kernel
theorem dX12_keep_28 : decode cX12_keep 28 = .ok (.invokevirtual 179, 3) := by decide +kernel
theorem dX12_keep_31 : decode cX12_keep 31 = .ok (.ireturn, 1) := by decide +kernel
theorem dX12_keep_32 : decode cX12_keep 32 = .ok (.aload_n 0, 1) := by decide +kernel
theorem dX12_keep_33 : decode cX12_keep 33 = .ok (.getfield 22, 3) := by decide +kernel
theorem dX12_keep_36 : decode cX12_keep 36 = .ok (.iload_n 1, 1) := by decide +kernel
theorem dX12_keep_37 : decode cX12_keep 37 = .ok (.aaload, 1) := by decide +kernel
theorem dX12_keep_38 : decode cX12_keep 38 = .ok (.aload_n 0, 1) := by decide +kernel
theorem dX12_keep_39 : decode cX12_keep 39 = .ok (.getfield 16, 3) := by decide +kernel
theorem dX12_keep_42 : decode cX12_keep 42 = .ok (.invokevirtual 311, 3) := by decide +kernel
theorem dX12_keep_45 : decode cX12_keep 45 = .ok (.aload_n 0, 1) := by decide +kernel
theorem dX12_keep_46 : decode cX12_keep 46 = .ok (.getfield 26, 3) := by decide +kernel
theorem dX12_keep_49 : decode cX12_keep 49 = .ok (.iload_n 1, 1) := by decide +kernel
theorem dX12_keep_50 : decode cX12_keep 50 = .ok (.iconst 1, 1) := by decide +kernel
theorem dX12_keep_51 : decode cX12_keep 51 = .ok (.bastore, 1) := by decide +kernel
theorem dX12_keep_52 : decode cX12_keep 52 = .ok (.iconst 1, 1) := by decide +kernel
theorem dX12_keep_53 : decode cX12_keep 53 = .ok (.ireturn, 1) := by decide +kernel
set_option maxRecDepth 20000 in
theorem ggX12_back_X12_isPlace : GoodIn wsX12_back wsX12_isPlace := goodIn_r _ [9] rfl (by decide +kernel)
set_option maxRecDepth 20000 in
theorem gX12_back_X12_isPlace : GoodIn wsX12_back (va_wsS RX12 308 yX12_isPlace wsX12_isPlace) := goodIn_app (goodIn_r ([.methodLink RX12 308 yX12_isPlace, .static yX12_isPlace, .initialized yX12_isPlace.cls] : List Cond) [6, 7, 8] rfl (by decide +kernel)) ggX12_back_X12_isPlace
set_option maxRecDepth 20000 in
theorem ggX12_back_X12_answer : GoodIn wsX12_back wsX12_answer := goodIn_r _ [13, 14, 142, 143, 144, 145, 146, 147, 148, 149, 150, 151, 152, 153, 154, 155, 156, 157, 158, 159, 160, 161, 162, 163, 164, 165, 166, 167, 168, 169, 170, 171, 172, 173] rfl (by decide +kernel)
set_option maxRecDepth 20000 in
theorem gX12_back_X12_answer : GoodIn wsX12_back (wsV RX12 179 RX12 yX12_answer wsX12_answer) := goodIn_app (goodIn_r ([.methodLink RX12 179 yX12_answer, .instanceMethod yX12_answer, .selects RX12 yX12_answer yX12_answer, .initialized RX12] : List Cond) [10, 11, 12, 8] rfl (by decide +kernel)) ggX12_back_X12_answer
set_option maxRecDepth 20000 in
theorem ggX12_back_X10_take : GoodIn wsX12_back wsX10_take := goodIn_r _ [19, 20, 21, 22, 23, 24, 25, 26, 27, 28, 29, 18, 30, 174, 175, 176, 177, 178, 179, 180, 181, 182, 183, 184, 185, 186, 187, 188, 189] rfl (by decide +kernel)
set_option maxRecDepth 20000 in
theorem gX12_back_X10_take : GoodIn wsX12_back (wsV RX12 311 RX10 yX10_take wsX10_take) := goodIn_app (goodIn_r ([.methodLink RX12 311 yX10_take, .instanceMethod yX10_take, .selects RX10 yX10_take yX10_take, .initialized RX10] : List Cond) [15, 16, 17, 18] rfl (by decide +kernel)) ggX12_back_X10_take
set_option maxRecDepth 20000 in
theorem ggX12_back_X12_arrange : GoodIn wsX12_back wsX12_arrange := goodIn_r _ [34, 3, 35, 5, 36, 37, 38, 39, 18, 40, 22, 20, 21, 41, 42, 23, 24, 25, 26, 43, 27, 28, 29, 30, 44, 45, 46, 47, 48, 49, 50, 51, 52, 8, 53, 54, 55, 56, 57, 58, 59, 60, 61, 62, 63, 64, 65, 66, 67, 68, 69, 70, 71, 72, 73, 74, 75, 76, 77, 78, 79, 80, 81, 82, 83, 84, 85, 86, 87, 88, 89, 90, 91, 92, 93, 94, 95, 96, 97, 98, 99, 100, 101, 102, 103, 104, 105, 106, 107, 108, 109, 110, 111, 112, 113, 114, 115, 116, 117, 118, 119, 120, 121, 122, 123, 124, 125, 126, 127, 128, 129, 130, 131, 132, 133, 134, 135, 136, 137, 138, 139, 140, 141, 142, 143, 144, 145, 146, 147, 148, 149, 150, 151, 152, 153, 154, 155, 156, 157, 158, 159, 160, 161, 162, 163, 164, 165, 166, 167, 168, 169, 170, 171, 172, 173, 174, 175, 176, 177, 178, 179, 180, 181, 182, 183, 184, 185, 186, 187, 188, 189] rfl (by decide +kernel)
set_option maxRecDepth 20000 in
theorem gX12_back_X12_arrange : GoodIn wsX12_back (wsV RX12 194 RX12 yX12_arrange wsX12_arrange) := goodIn_app (goodIn_r ([.methodLink RX12 194 yX12_arrange, .instanceMethod yX12_arrange, .selects RX12 yX12_arrange yX12_arrange, .initialized RX12] : List Cond) [31, 32, 33, 8] rfl (by decide +kernel)) ggX12_back_X12_arrange
theorem dX12_back_0 : decode cX12_back 0 = .ok (.iload_n 1, 1) := by decide +kernel
theorem dX12_back_1 : decode cX12_back 1 = .ok (.invokestatic 308, 3) := by decide +kernel
theorem dX12_back_4 : decode cX12_back 4 = .ok (.ifCond .eq 12, 3) := by decide +kernel
theorem dX12_back_7 : decode cX12_back 7 = .ok (.aload_n 0, 1) := by decide +kernel
theorem dX12_back_8 : decode cX12_back 8 = .ok (.getfield 26, 3) := by decide +kernel
theorem dX12_back_11 : decode cX12_back 11 = .ok (.iload_n 1, 1) := by decide +kernel
theorem dX12_back_12 : decode cX12_back 12 = .ok (.baload, 1) := by decide +kernel
theorem dX12_back_13 : decode cX12_back 13 = .ok (.ifCond .ne 21, 3) := by decide +kernel
theorem dX12_back_16 : decode cX12_back 16 = .ok (.aload_n 0, 1) := by decide +kernel
theorem dX12_back_17 : decode cX12_back 17 = .ok (.iload_n 1, 1) := by decide +kernel
theorem dX12_back_18 : decode cX12_back 18 = .ok (.invokestatic 308, 3) := by decide +kernel
theorem dX12_back_21 : decode cX12_back 21 = .ok (.ifCond .ne 7, 3) := by decide +kernel
theorem dX12_back_24 : decode cX12_back 24 = .ok (.iconst (-1), 1) := by decide +kernel
theorem dX12_back_25 : decode cX12_back 25 = .ok (.goto 5, 3) := by decide +kernel
theorem dX12_back_28 : decode cX12_back 28 = .ok (.bipush (-4), 2) := by decide +kernel
theorem dX12_back_30 : decode cX12_back 30 = .ok (.invokevirtual 179, 3) := by decide +kernel
theorem dX12_back_33 : decode cX12_back 33 = .ok (.ireturn, 1) := by decide +kernel
theorem dX12_back_34 : decode cX12_back 34 = .ok (.aload_n 0, 1) := by decide +kernel
theorem dX12_back_35 : decode cX12_back 35 = .ok (.iconst 1, 1) := by decide +kernel
theorem dX12_back_36 : decode cX12_back 36 = .ok (.putfield 182, 3) := by decide +kernel
theorem dX12_back_39 : decode cX12_back 39 = .ok (.aload_n 0, 1) := by decide +kernel
theorem dX12_back_40 : decode cX12_back 40 = .ok (.getfield 16, 3) := by decide +kernel
theorem dX12_back_43 : decode cX12_back 43 = .ok (.aload_n 0, 1) := by decide +kernel
theorem dX12_back_44 : decode cX12_back 44 = .ok (.getfield 22, 3) := by decide +kernel
theorem dX12_back_47 : decode cX12_back 47 = .ok (.iload_n 1, 1) := by decide +kernel
theorem dX12_back_48 : decode cX12_back 48 = .ok (.aaload, 1) := by decide +kernel
theorem dX12_back_49 : decode cX12_back 49 = .ok (.invokevirtual 311, 3) := by decide +kernel
theorem dX12_back_52 : decode cX12_back 52 = .ok (.aload_n 0, 1) := by decide +kernel
theorem dX12_back_53 : decode cX12_back 53 = .ok (.invokevirtual 194, 3) := by decide +kernel
theorem dX12_back_56 : decode cX12_back 56 = .ok (.aload_n 0, 1) := by decide +kernel
theorem dX12_back_57 : decode cX12_back 57 = .ok (.getfield 155, 3) := by decide +kernel
theorem dX12_back_60 : decode cX12_back 60 = .ok (.ireturn, 1) := by decide +kernel
set_option maxRecDepth 20000 in
theorem ggX12_isTurned_X10_find : GoodIn wsX12_isTurned wsX10_find := goodIn_r _ [7, 8, 9, 10, 11, 6, 12, 13, 14, 15, 16, 17, 18, 19, 59, 60, 61, 62, 63, 64, 65, 66, 67, 68, 69, 70, 71, 72, 73, 74] rfl (by decide +kernel)
set_option maxRecDepth 20000 in
theorem gX12_isTurned_X10_find : GoodIn wsX12_isTurned (wsV RX12 315 RX10 yX10_find wsX10_find) := goodIn_app (goodIn_r ([.methodLink RX12 315 yX10_find, .instanceMethod yX10_find, .selects RX10 yX10_find yX10_find, .initialized RX10] : List Cond) [3, 4, 5, 6] rfl (by decide +kernel)) ggX12_isTurned_X10_find
set_option maxRecDepth 20000 in
theorem ggX12_isTurned_X10_piece : GoodIn wsX12_isTurned wsX10_piece := goodIn_r _ [23, 24, 25, 26, 59, 60, 61, 62, 63, 64, 65, 66, 67, 68, 69, 70, 71, 72, 73, 74] rfl (by decide +kernel)
set_option maxRecDepth 20000 in
theorem gX12_isTurned_X10_piece : GoodIn wsX12_isTurned (wsV RX12 219 RX10 yX10_piece wsX10_piece) := goodIn_app (goodIn_r ([.methodLink RX12 219 yX10_piece, .instanceMethod yX10_piece, .selects RX10 yX10_piece yX10_piece, .initialized RX10] : List Cond) [20, 21, 22, 6] rfl (by decide +kernel)) ggX12_isTurned_X10_piece
theorem dX12_isTurned_0 : decode cX12_isTurned 0 = .ok (.iload_n 2, 1) := by decide +kernel
theorem dX12_isTurned_1 : decode cX12_isTurned 1 = .ok (.iconst 1, 1) := by decide +kernel
theorem dX12_isTurned_2 : decode cX12_isTurned 2 = .ok (.iand, 1) := by decide +kernel
theorem dX12_isTurned_3 : decode cX12_isTurned 3 = .ok (.ifCond .ne 13, 3) := by decide +kernel
theorem dX12_isTurned_6 : decode cX12_isTurned 6 = .ok (.aload_n 0, 1) := by decide +kernel
theorem dX12_isTurned_7 : decode cX12_isTurned 7 = .ok (.getfield 16, 3) := by decide +kernel
theorem dX12_isTurned_10 : decode cX12_isTurned 10 = .ok (.getfield 185, 3) := by decide +kernel
theorem dX12_isTurned_13 : decode cX12_isTurned 13 = .ok (.goto 10, 3) := by decide +kernel
theorem dX12_isTurned_16 : decode cX12_isTurned 16 = .ok (.aload_n 0, 1) := by decide +kernel
theorem dX12_isTurned_17 : decode cX12_isTurned 17 = .ok (.getfield 16, 3) := by decide +kernel
theorem dX12_isTurned_20 : decode cX12_isTurned 20 = .ok (.getfield 188, 3) := by decide +kernel
theorem dX12_isTurned_23 : decode cX12_isTurned 23 = .ok (.istore 4, 2) := by decide +kernel
theorem dX12_isTurned_25 : decode cX12_isTurned 25 = .ok (.iload_n 2, 1) := by decide +kernel
theorem dX12_isTurned_26 : decode cX12_isTurned 26 = .ok (.iconst 1, 1) := by decide +kernel
theorem dX12_isTurned_27 : decode cX12_isTurned 27 = .ok (.iand, 1) := by decide +kernel
theorem dX12_isTurned_28 : decode cX12_isTurned 28 = .ok (.ifCond .ne 13, 3) := by decide +kernel
theorem dX12_isTurned_31 : decode cX12_isTurned 31 = .ok (.aload_n 0, 1) := by decide +kernel
theorem dX12_isTurned_32 : decode cX12_isTurned 32 = .ok (.getfield 16, 3) := by decide +kernel
theorem dX12_isTurned_35 : decode cX12_isTurned 35 = .ok (.getfield 188, 3) := by decide +kernel
theorem dX12_isTurned_38 : decode cX12_isTurned 38 = .ok (.goto 10, 3) := by decide +kernel
theorem dX12_isTurned_41 : decode cX12_isTurned 41 = .ok (.aload_n 0, 1) := by decide +kernel
theorem dX12_isTurned_42 : decode cX12_isTurned 42 = .ok (.getfield 16, 3) := by decide +kernel
theorem dX12_isTurned_45 : decode cX12_isTurned 45 = .ok (.getfield 185, 3) := by decide +kernel
theorem dX12_isTurned_48 : decode cX12_isTurned 48 = .ok (.istore 5, 2) := by decide +kernel
theorem dX12_isTurned_50 : decode cX12_isTurned 50 = .ok (.iload 4, 2) := by decide +kernel
theorem dX12_isTurned_52 : decode cX12_isTurned 52 = .ok (.aload_n 1, 1) := by decide +kernel
theorem dX12_isTurned_53 : decode cX12_isTurned 53 = .ok (.getfield 185, 3) := by decide +kernel
theorem dX12_isTurned_56 : decode cX12_isTurned 56 = .ok (.if_icmp .ne 40, 3) := by decide +kernel
theorem dX12_isTurned_59 : decode cX12_isTurned 59 = .ok (.iload 5, 2) := by decide +kernel
theorem dX12_isTurned_61 : decode cX12_isTurned 61 = .ok (.aload_n 1, 1) := by decide +kernel
theorem dX12_isTurned_62 : decode cX12_isTurned 62 = .ok (.getfield 188, 3) := by decide +kernel
theorem dX12_isTurned_65 : decode cX12_isTurned 65 = .ok (.if_icmp .ne 31, 3) := by decide +kernel
theorem dX12_isTurned_68 : decode cX12_isTurned 68 = .ok (.aload_n 0, 1) := by decide +kernel
theorem dX12_isTurned_69 : decode cX12_isTurned 69 = .ok (.getfield 16, 3) := by decide +kernel
theorem dX12_isTurned_72 : decode cX12_isTurned 72 = .ok (.getfield 205, 3) := by decide +kernel
theorem dX12_isTurned_75 : decode cX12_isTurned 75 = .ok (.aload_n 1, 1) := by decide +kernel
theorem dX12_isTurned_76 : decode cX12_isTurned 76 = .ok (.getfield 205, 3) := by decide +kernel
theorem dX12_isTurned_79 : decode cX12_isTurned 79 = .ok (.if_icmp .ne 17, 3) := by decide +kernel
theorem dX12_isTurned_82 : decode cX12_isTurned 82 = .ok (.aload_n 0, 1) := by decide +kernel
theorem dX12_isTurned_83 : decode cX12_isTurned 83 = .ok (.getfield 16, 3) := by decide +kernel
theorem dX12_isTurned_86 : decode cX12_isTurned 86 = .ok (.getfield 137, 3) := by decide +kernel
theorem dX12_isTurned_89 : decode cX12_isTurned 89 = .ok (.aload_n 1, 1) := by decide +kernel
theorem dX12_isTurned_90 : decode cX12_isTurned 90 = .ok (.getfield 137, 3) := by decide +kernel
theorem dX12_isTurned_93 : decode cX12_isTurned 93 = .ok (.if_icmp .eq 5, 3) := by decide +kernel
theorem dX12_isTurned_96 : decode cX12_isTurned 96 = .ok (.iconst 0, 1) := by decide +kernel
theorem dX12_isTurned_97 : decode cX12_isTurned 97 = .ok (.ireturn, 1) := by decide +kernel
theorem dX12_isTurned_98 : decode cX12_isTurned 98 = .ok (.iconst 0, 1) := by decide +kernel
theorem dX12_isTurned_99 : decode cX12_isTurned 99 = .ok (.istore 6, 2) := by decide +kernel
theorem dX12_isTurned_101 : decode cX12_isTurned 101 = .ok (.iload 6, 2) := by decide +kernel
theorem dX12_isTurned_103 : decode cX12_isTurned 103 = .ok (.aload_n 0, 1) := by decide +kernel
theorem dX12_isTurned_104 : decode cX12_isTurned 104 = .ok (.getfield 16, 3) := by decide +kernel
theorem dX12_isTurned_107 : decode cX12_isTurned 107 = .ok (.getfield 205, 3) := by decide +kernel
theorem dX12_isTurned_110 : decode cX12_isTurned 110 = .ok (.if_icmp .ge 158, 3) := by decide +kernel
theorem dX12_isTurned_113 : decode cX12_isTurned 113 = .ok (.aload_n 0, 1) := by decide +kernel
theorem dX12_isTurned_114 : decode cX12_isTurned 114 = .ok (.getfield 16, 3) := by decide +kernel
theorem dX12_isTurned_117 : decode cX12_isTurned 117 = .ok (.getfield 117, 3) := by decide +kernel
theorem dX12_isTurned_120 : decode cX12_isTurned 120 = .ok (.iload 6, 2) := by decide +kernel
theorem dX12_isTurned_122 : decode cX12_isTurned 122 = .ok (.laload, 1) := by decide +kernel
theorem dX12_isTurned_123 : decode cX12_isTurned 123 = .ok (.lstore 7, 2) := by decide +kernel
theorem dX12_isTurned_125 : decode cX12_isTurned 125 = .ok (.aload_n 0, 1) := by decide +kernel
theorem dX12_isTurned_126 : decode cX12_isTurned 126 = .ok (.getfield 16, 3) := by decide +kernel
theorem dX12_isTurned_129 : decode cX12_isTurned 129 = .ok (.getfield 124, 3) := by decide +kernel
theorem dX12_isTurned_132 : decode cX12_isTurned 132 = .ok (.iload 6, 2) := by decide +kernel
theorem dX12_isTurned_134 : decode cX12_isTurned 134 = .ok (.laload, 1) := by decide +kernel
theorem dX12_isTurned_135 : decode cX12_isTurned 135 = .ok (.lstore 9, 2) := by decide +kernel
theorem dX12_isTurned_137 : decode cX12_isTurned 137 = .ok (.aload_n 0, 1) := by decide +kernel
theorem dX12_isTurned_138 : decode cX12_isTurned 138 = .ok (.getfield 16, 3) := by decide +kernel
theorem dX12_isTurned_141 : decode cX12_isTurned 141 = .ok (.getfield 121, 3) := by decide +kernel
theorem dX12_isTurned_144 : decode cX12_isTurned 144 = .ok (.iload 6, 2) := by decide +kernel
theorem dX12_isTurned_146 : decode cX12_isTurned 146 = .ok (.laload, 1) := by decide +kernel
theorem dX12_isTurned_147 : decode cX12_isTurned 147 = .ok (.lstore 11, 2) := by decide +kernel
theorem dX12_isTurned_149 : decode cX12_isTurned 149 = .ok (.aload_n 0, 1) := by decide +kernel
theorem dX12_isTurned_150 : decode cX12_isTurned 150 = .ok (.getfield 16, 3) := by decide +kernel
theorem dX12_isTurned_153 : decode cX12_isTurned 153 = .ok (.getfield 188, 3) := by decide +kernel
theorem dX12_isTurned_156 : decode cX12_isTurned 156 = .ok (.istore 13, 2) := by decide +kernel
theorem dX12_isTurned_158 : decode cX12_isTurned 158 = .ok (.aload_n 0, 1) := by decide +kernel
theorem dX12_isTurned_159 : decode cX12_isTurned 159 = .ok (.getfield 16, 3) := by decide +kernel
theorem dX12_isTurned_162 : decode cX12_isTurned 162 = .ok (.getfield 185, 3) := by decide +kernel
theorem dX12_isTurned_165 : decode cX12_isTurned 165 = .ok (.istore 14, 2) := by decide +kernel
theorem dX12_isTurned_167 : decode cX12_isTurned 167 = .ok (.iconst 0, 1) := by decide +kernel
theorem dX12_isTurned_168 : decode cX12_isTurned 168 = .ok (.istore 15, 2) := by decide +kernel
theorem dX12_isTurned_170 : decode cX12_isTurned 170 = .ok (.iload 15, 2) := by decide +kernel
theorem dX12_isTurned_172 : decode cX12_isTurned 172 = .ok (.iload_n 2, 1) := by decide +kernel
theorem dX12_isTurned_173 : decode cX12_isTurned 173 = .ok (.if_icmp .ge 40, 3) := by decide +kernel
theorem dX12_isTurned_176 : decode cX12_isTurned 176 = .ok (.lload 7, 2) := by decide +kernel
theorem dX12_isTurned_178 : decode cX12_isTurned 178 = .ok (.lstore 16, 2) := by decide +kernel
theorem dX12_isTurned_180 : decode cX12_isTurned 180 = .ok (.iload 13, 2) := by decide +kernel
theorem dX12_isTurned_182 : decode cX12_isTurned 182 = .ok (.i2l, 1) := by decide +kernel
theorem dX12_isTurned_183 : decode cX12_isTurned 183 = .ok (.lload 11, 2) := by decide +kernel
theorem dX12_isTurned_185 : decode cX12_isTurned 185 = .ok (.lmul, 1) := by decide +kernel
theorem dX12_isTurned_186 : decode cX12_isTurned 186 = .ok (.lload 9, 2) := by decide +kernel
theorem dX12_isTurned_188 : decode cX12_isTurned 188 = .ok (.lsub, 1) := by decide +kernel
theorem dX12_isTurned_189 : decode cX12_isTurned 189 = .ok (.lstore 7, 2) := by decide +kernel
theorem dX12_isTurned_191 : decode cX12_isTurned 191 = .ok (.lload 16, 2) := by decide +kernel
theorem dX12_isTurned_193 : decode cX12_isTurned 193 = .ok (.lstore 9, 2) := by decide +kernel
theorem dX12_isTurned_195 : decode cX12_isTurned 195 = .ok (.iload 13, 2) := by decide +kernel
theorem dX12_isTurned_197 : decode cX12_isTurned 197 = .ok (.istore 18, 2) := by decide +kernel
theorem dX12_isTurned_199 : decode cX12_isTurned 199 = .ok (.iload 14, 2) := by decide +kernel
theorem dX12_isTurned_201 : decode cX12_isTurned 201 = .ok (.istore 13, 2) := by decide +kernel
theorem dX12_isTurned_203 : decode cX12_isTurned 203 = .ok (.iload 18, 2) := by decide +kernel
theorem dX12_isTurned_205 : decode cX12_isTurned 205 = .ok (.istore 14, 2) := by decide +kernel
theorem dX12_isTurned_207 : decode cX12_isTurned 207 = .ok (.iinc 15 1, 3) := by decide +kernel
theorem dX12_isTurned_210 : decode cX12_isTurned 210 = .ok (.goto (-40), 3) := by decide +kernel
theorem dX12_isTurned_213 : decode cX12_isTurned 213 = .ok (.iload_n 3, 1) := by decide +kernel
theorem dX12_isTurned_214 : decode cX12_isTurned 214 = .ok (.ifCond .eq 15, 3) := by decide +kernel
theorem dX12_isTurned_217 : decode cX12_isTurned 217 = .ok (.iload 14, 2) := by decide +kernel
theorem dX12_isTurned_219 : decode cX12_isTurned 219 = .ok (.i2l, 1) := by decide +kernel
theorem dX12_isTurned_220 : decode cX12_isTurned 220 = .ok (.lload 11, 2) := by decide +kernel
theorem dX12_isTurned_222 : decode cX12_isTurned 222 = .ok (.lmul, 1) := by decide +kernel
theorem dX12_isTurned_223 : decode cX12_isTurned 223 = .ok (.lload 7, 2) := by decide +kernel
theorem dX12_isTurned_225 : decode cX12_isTurned 225 = .ok (.lsub, 1) := by decide +kernel
theorem dX12_isTurned_226 : decode cX12_isTurned 226 = .ok (.goto 5, 3) := by decide +kernel
theorem dX12_isTurned_229 : decode cX12_isTurned 229 = .ok (.lload 7, 2) := by decide +kernel
theorem dX12_isTurned_231 : decode cX12_isTurned 231 = .ok (.lstore 7, 2) := by decide +kernel
theorem dX12_isTurned_233 : decode cX12_isTurned 233 = .ok (.aload_n 0, 1) := by decide +kernel
theorem dX12_isTurned_234 : decode cX12_isTurned 234 = .ok (.getfield 104, 3) := by decide +kernel
theorem dX12_isTurned_237 : decode cX12_isTurned 237 = .ok (.iload 6, 2) := by decide +kernel
theorem dX12_isTurned_239 : decode cX12_isTurned 239 = .ok (.aload_n 1, 1) := by decide +kernel
theorem dX12_isTurned_240 : decode cX12_isTurned 240 = .ok (.lload 7, 2) := by decide +kernel
theorem dX12_isTurned_242 : decode cX12_isTurned 242 = .ok (.lload 9, 2) := by decide +kernel
theorem dX12_isTurned_244 : decode cX12_isTurned 244 = .ok (.lload 11, 2) := by decide +kernel
theorem dX12_isTurned_246 : decode cX12_isTurned 246 = .ok (.invokevirtual 315, 3) := by decide +kernel
theorem dX12_isTurned_249 : decode cX12_isTurned 249 = .ok (.iastore, 1) := by decide +kernel
theorem dX12_isTurned_250 : decode cX12_isTurned 250 = .ok (.aload_n 0, 1) := by decide +kernel
theorem dX12_isTurned_251 : decode cX12_isTurned 251 = .ok (.getfield 104, 3) := by decide +kernel
theorem dX12_isTurned_254 : decode cX12_isTurned 254 = .ok (.iload 6, 2) := by decide +kernel
theorem dX12_isTurned_256 : decode cX12_isTurned 256 = .ok (.iaload, 1) := by decide +kernel
theorem dX12_isTurned_257 : decode cX12_isTurned 257 = .ok (.ifCond .ge 5, 3) := by decide +kernel
theorem dX12_isTurned_260 : decode cX12_isTurned 260 = .ok (.iconst 0, 1) := by decide +kernel
theorem dX12_isTurned_261 : decode cX12_isTurned 261 = .ok (.ireturn, 1) := by decide +kernel
theorem dX12_isTurned_262 : decode cX12_isTurned 262 = .ok (.iinc 6 1, 3) := by decide +kernel
theorem dX12_isTurned_265 : decode cX12_isTurned 265 = .ok (.goto (-164), 3) := by decide +kernel
theorem dX12_isTurned_268 : decode cX12_isTurned 268 = .ok (.iconst 0, 1) := by decide +kernel
theorem dX12_isTurned_269 : decode cX12_isTurned 269 = .ok (.istore 6, 2) := by decide +kernel
theorem dX12_isTurned_271 : decode cX12_isTurned 271 = .ok (.iload 6, 2) := by decide +kernel
theorem dX12_isTurned_273 : decode cX12_isTurned 273 = .ok (.aload_n 0, 1) := by decide +kernel
theorem dX12_isTurned_274 : decode cX12_isTurned 274 = .ok (.getfield 16, 3) := by decide +kernel
theorem dX12_isTurned_277 : decode cX12_isTurned 277 = .ok (.getfield 137, 3) := by decide +kernel
theorem dX12_isTurned_280 : decode cX12_isTurned 280 = .ok (.if_icmp .ge 48, 3) := by decide +kernel
theorem dX12_isTurned_283 : decode cX12_isTurned 283 = .ok (.aload_n 1, 1) := by decide +kernel
theorem dX12_isTurned_284 : decode cX12_isTurned 284 = .ok (.aload_n 0, 1) := by decide +kernel
theorem dX12_isTurned_285 : decode cX12_isTurned 285 = .ok (.getfield 104, 3) := by decide +kernel
theorem dX12_isTurned_288 : decode cX12_isTurned 288 = .ok (.aload_n 0, 1) := by decide +kernel
theorem dX12_isTurned_289 : decode cX12_isTurned 289 = .ok (.getfield 16, 3) := by decide +kernel
theorem dX12_isTurned_292 : decode cX12_isTurned 292 = .ok (.getfield 107, 3) := by decide +kernel
theorem dX12_isTurned_295 : decode cX12_isTurned 295 = .ok (.iload 6, 2) := by decide +kernel
theorem dX12_isTurned_297 : decode cX12_isTurned 297 = .ok (.iaload, 1) := by decide +kernel
theorem dX12_isTurned_298 : decode cX12_isTurned 298 = .ok (.iaload, 1) := by decide +kernel
theorem dX12_isTurned_299 : decode cX12_isTurned 299 = .ok (.aload_n 0, 1) := by decide +kernel
theorem dX12_isTurned_300 : decode cX12_isTurned 300 = .ok (.getfield 104, 3) := by decide +kernel
theorem dX12_isTurned_303 : decode cX12_isTurned 303 = .ok (.aload_n 0, 1) := by decide +kernel
theorem dX12_isTurned_304 : decode cX12_isTurned 304 = .ok (.getfield 16, 3) := by decide +kernel
theorem dX12_isTurned_307 : decode cX12_isTurned 307 = .ok (.getfield 110, 3) := by decide +kernel
theorem dX12_isTurned_310 : decode cX12_isTurned 310 = .ok (.iload 6, 2) := by decide +kernel
theorem dX12_isTurned_312 : decode cX12_isTurned 312 = .ok (.iaload, 1) := by decide +kernel
theorem dX12_isTurned_313 : decode cX12_isTurned 313 = .ok (.iaload, 1) := by decide +kernel
theorem dX12_isTurned_314 : decode cX12_isTurned 314 = .ok (.invokevirtual 219, 3) := by decide +kernel
theorem dX12_isTurned_317 : decode cX12_isTurned 317 = .ok (.ifCond .ge 5, 3) := by decide +kernel
theorem dX12_isTurned_320 : decode cX12_isTurned 320 = .ok (.iconst 0, 1) := by decide +kernel
theorem dX12_isTurned_321 : decode cX12_isTurned 321 = .ok (.ireturn, 1) := by decide +kernel
theorem dX12_isTurned_322 : decode cX12_isTurned 322 = .ok (.iinc 6 1, 3) := by decide +kernel
theorem dX12_isTurned_325 : decode cX12_isTurned 325 = .ok (.goto (-54), 3) := by decide +kernel
theorem dX12_isTurned_328 : decode cX12_isTurned 328 = .ok (.iconst 1, 1) := by decide +kernel
theorem dX12_isTurned_329 : decode cX12_isTurned 329 = .ok (.ireturn, 1) := by decide +kernel
set_option maxRecDepth 20000 in
theorem ggX12_alike_X12_isPlace : GoodIn wsX12_alike wsX12_isPlace := goodIn_r _ [7] rfl (by decide +kernel)
set_option maxRecDepth 20000 in
theorem gX12_alike_X12_isPlace : GoodIn wsX12_alike (va_wsS RX12 308 yX12_isPlace wsX12_isPlace) := goodIn_app (goodIn_r ([.methodLink RX12 308 yX12_isPlace, .static yX12_isPlace, .initialized yX12_isPlace.cls] : List Cond) [4, 5, 6] rfl (by decide +kernel)) ggX12_alike_X12_isPlace
set_option maxRecDepth 20000 in
theorem ggX12_alike_X12_answer : GoodIn wsX12_alike wsX12_answer := goodIn_r _ [11, 12, 97, 98, 99, 100, 101, 102, 103, 104, 105, 106, 107, 108, 109, 110, 111, 112, 113, 114, 115, 116, 117, 118, 119, 120, 121, 122, 123, 124, 125, 126, 127, 128] rfl (by decide +kernel)
set_option maxRecDepth 20000 in
theorem gX12_alike_X12_answer : GoodIn wsX12_alike (wsV RX12 179 RX12 yX12_answer wsX12_answer) := goodIn_app (goodIn_r ([.methodLink RX12 179 yX12_answer, .instanceMethod yX12_answer, .selects RX12 yX12_answer yX12_answer, .initialized RX12] : List Cond) [8, 9, 10, 6] rfl (by decide +kernel)) ggX12_alike_X12_answer
set_option maxRecDepth 20000 in
theorem ggX12_alike_X10_draw : GoodIn wsX12_alike wsX10_draw := goodIn_r _ [17, 18, 19, 20, 21, 22, 23, 24, 25, 26, 27, 28, 29, 30, 16, 31, 32, 33, 34, 35, 36, 37, 38, 39, 40, 6, 41, 42, 43, 44, 45, 46, 47, 48, 49, 50, 51, 52, 53, 54, 55, 56, 57, 58, 59, 60, 61, 62, 63, 64, 65, 66, 67, 68, 69, 70, 71, 72, 73, 74, 75, 76, 77, 78, 79, 80, 81, 82, 83, 84, 85, 129, 130, 131, 132, 133, 134, 135, 136, 137, 138, 139, 140, 141, 142, 143, 144] rfl (by decide +kernel)
set_option maxRecDepth 20000 in
theorem gX12_alike_X10_draw : GoodIn wsX12_alike (wsV RX12 152 RX10 yX10_draw wsX10_draw) := goodIn_app (goodIn_r ([.methodLink RX12 152 yX10_draw, .instanceMethod yX10_draw, .selects RX10 yX10_draw yX10_draw, .initialized RX10] : List Cond) [13, 14, 15, 16] rfl (by decide +kernel)) ggX12_alike_X10_draw
set_option maxRecDepth 20000 in
theorem ggX12_alike_X12_isTurned : GoodIn wsX12_alike wsX12_isTurned := goodIn_r _ [89, 90, 91, 92, 93, 94, 16, 95, 22, 46, 47, 48, 49, 39, 38, 37, 50, 51, 52, 53, 96, 69, 70, 71, 27, 62, 63, 97, 98, 99, 100, 101, 102, 103, 104, 105, 106, 107, 108, 109, 110, 111, 112, 113, 114, 115, 116, 117, 118, 119, 120, 121, 122, 123, 124, 125, 126, 127, 128, 129, 130, 131, 132, 133, 134, 135, 136, 137, 138, 139, 140, 141, 142, 143, 144] rfl (by decide +kernel)
set_option maxRecDepth 20000 in
theorem gX12_alike_X12_isTurned : GoodIn wsX12_alike (wsV RX12 319 RX12 yX12_isTurned wsX12_isTurned) := goodIn_app (goodIn_r ([.methodLink RX12 319 yX12_isTurned, .instanceMethod yX12_isTurned, .selects RX12 yX12_isTurned yX12_isTurned, .initialized RX12] : List Cond) [86, 87, 88, 6] rfl (by decide +kernel)) ggX12_alike_X12_isTurned
theorem dX12_alike_0 : decode cX12_alike 0 = .ok (.iload_n 1, 1) := by decide +kernel
theorem dX12_alike_1 : decode cX12_alike 1 = .ok (.invokestatic 308, 3) := by decide +kernel
theorem dX12_alike_4 : decode cX12_alike 4 = .ok (.ifCond .eq 19, 3) := by decide +kernel
theorem dX12_alike_7 : decode cX12_alike 7 = .ok (.aload_n 0, 1) := by decide +kernel
theorem dX12_alike_8 : decode cX12_alike 8 = .ok (.getfield 182, 3) := by decide +kernel
theorem dX12_alike_11 : decode cX12_alike 11 = .ok (.ifCond .eq 12, 3) := by decide +kernel
theorem dX12_alike_14 : decode cX12_alike 14 = .ok (.aload_n 0, 1) := by decide +kernel
theorem dX12_alike_15 : decode cX12_alike 15 = .ok (.getfield 26, 3) := by decide +kernel
theorem dX12_alike_18 : decode cX12_alike 18 = .ok (.iload_n 1, 1) := by decide +kernel
theorem dX12_alike_19 : decode cX12_alike 19 = .ok (.baload, 1) := by decide +kernel
theorem dX12_alike_20 : decode cX12_alike 20 = .ok (.ifCond .ne 21, 3) := by decide +kernel
theorem dX12_alike_23 : decode cX12_alike 23 = .ok (.aload_n 0, 1) := by decide +kernel
theorem dX12_alike_24 : decode cX12_alike 24 = .ok (.iload_n 1, 1) := by decide +kernel
theorem dX12_alike_25 : decode cX12_alike 25 = .ok (.invokestatic 308, 3) := by decide +kernel
theorem dX12_alike_28 : decode cX12_alike 28 = .ok (.ifCond .ne 7, 3) := by decide +kernel
theorem dX12_alike_31 : decode cX12_alike 31 = .ok (.iconst (-1), 1) := by decide +kernel
theorem dX12_alike_32 : decode cX12_alike 32 = .ok (.goto 5, 3) := by decide +kernel
theorem dX12_alike_35 : decode cX12_alike 35 = .ok (.bipush (-4), 2) := by decide +kernel
theorem dX12_alike_37 : decode cX12_alike 37 = .ok (.invokevirtual 179, 3) := by decide +kernel
theorem dX12_alike_40 : decode cX12_alike 40 = .ok (.ireturn, 1) := by decide +kernel
theorem dX12_alike_41 : decode cX12_alike 41 = .ok (.aload_n 0, 1) := by decide +kernel
theorem dX12_alike_42 : decode cX12_alike 42 = .ok (.getfield 22, 3) := by decide +kernel
theorem dX12_alike_45 : decode cX12_alike 45 = .ok (.iload_n 1, 1) := by decide +kernel
theorem dX12_alike_46 : decode cX12_alike 46 = .ok (.aaload, 1) := by decide +kernel
theorem dX12_alike_47 : decode cX12_alike 47 = .ok (.invokevirtual 152, 3) := by decide +kernel
theorem dX12_alike_50 : decode cX12_alike 50 = .ok (.iconst 0, 1) := by decide +kernel
theorem dX12_alike_51 : decode cX12_alike 51 = .ok (.istore_n 2, 1) := by decide +kernel
theorem dX12_alike_52 : decode cX12_alike 52 = .ok (.iconst 0, 1) := by decide +kernel
theorem dX12_alike_53 : decode cX12_alike 53 = .ok (.istore_n 3, 1) := by decide +kernel
theorem dX12_alike_54 : decode cX12_alike 54 = .ok (.iload_n 3, 1) := by decide +kernel
theorem dX12_alike_55 : decode cX12_alike 55 = .ok (.iconst 4, 1) := by decide +kernel
theorem dX12_alike_56 : decode cX12_alike 56 = .ok (.if_icmp .ge 55, 3) := by decide +kernel
theorem dX12_alike_59 : decode cX12_alike 59 = .ok (.iload_n 2, 1) := by decide +kernel
theorem dX12_alike_60 : decode cX12_alike 60 = .ok (.aload_n 0, 1) := by decide +kernel
theorem dX12_alike_61 : decode cX12_alike 61 = .ok (.aload_n 0, 1) := by decide +kernel
theorem dX12_alike_62 : decode cX12_alike 62 = .ok (.getfield 22, 3) := by decide +kernel
theorem dX12_alike_65 : decode cX12_alike 65 = .ok (.iload_n 1, 1) := by decide +kernel
theorem dX12_alike_66 : decode cX12_alike 66 = .ok (.aaload, 1) := by decide +kernel
theorem dX12_alike_67 : decode cX12_alike 67 = .ok (.iload_n 3, 1) := by decide +kernel
theorem dX12_alike_68 : decode cX12_alike 68 = .ok (.iconst 0, 1) := by decide +kernel
theorem dX12_alike_69 : decode cX12_alike 69 = .ok (.invokevirtual 319, 3) := by decide +kernel
theorem dX12_alike_72 : decode cX12_alike 72 = .ok (.ifCond .eq 7, 3) := by decide +kernel
theorem dX12_alike_75 : decode cX12_alike 75 = .ok (.iconst 1, 1) := by decide +kernel
theorem dX12_alike_76 : decode cX12_alike 76 = .ok (.goto 4, 3) := by decide +kernel
theorem dX12_alike_79 : decode cX12_alike 79 = .ok (.iconst 0, 1) := by decide +kernel
theorem dX12_alike_80 : decode cX12_alike 80 = .ok (.iadd, 1) := by decide +kernel
theorem dX12_alike_81 : decode cX12_alike 81 = .ok (.istore_n 2, 1) := by decide +kernel
theorem dX12_alike_82 : decode cX12_alike 82 = .ok (.iload_n 2, 1) := by decide +kernel
theorem dX12_alike_83 : decode cX12_alike 83 = .ok (.aload_n 0, 1) := by decide +kernel
theorem dX12_alike_84 : decode cX12_alike 84 = .ok (.aload_n 0, 1) := by decide +kernel
theorem dX12_alike_85 : decode cX12_alike 85 = .ok (.getfield 22, 3) := by decide +kernel
theorem dX12_alike_88 : decode cX12_alike 88 = .ok (.iload_n 1, 1) := by decide +kernel
theorem dX12_alike_89 : decode cX12_alike 89 = .ok (.aaload, 1) := by decide +kernel
theorem dX12_alike_90 : decode cX12_alike 90 = .ok (.iload_n 3, 1) := by decide +kernel
theorem dX12_alike_91 : decode cX12_alike 91 = .ok (.iconst 1, 1) := by decide +kernel
theorem dX12_alike_92 : decode cX12_alike 92 = .ok (.invokevirtual 319, 3) := by decide +kernel
theorem dX12_alike_95 : decode cX12_alike 95 = .ok (.ifCond .eq 7, 3) := by decide +kernel
theorem dX12_alike_98 : decode cX12_alike 98 = .ok (.iconst 1, 1) := by decide +kernel
theorem dX12_alike_99 : decode cX12_alike 99 = .ok (.goto 4, 3) := by decide +kernel
theorem dX12_alike_102 : decode cX12_alike 102 = .ok (.iconst 0, 1) := by decide +kernel
theorem dX12_alike_103 : decode cX12_alike 103 = .ok (.iadd, 1) := by decide +kernel
theorem dX12_alike_104 : decode cX12_alike 104 = .ok (.istore_n 2, 1) := by decide +kernel
theorem dX12_alike_105 : decode cX12_alike 105 = .ok (.iinc 3 1, 3) := by decide +kernel
theorem dX12_alike_108 : decode cX12_alike 108 = .ok (.goto (-54), 3) := by decide +kernel
theorem dX12_alike_111 : decode cX12_alike 111 = .ok (.iload_n 2, 1) := by decide +kernel
theorem dX12_alike_112 : decode cX12_alike 112 = .ok (.ireturn, 1) := by decide +kernel
set_option maxRecDepth 20000 in
theorem ggX12_rack_X12_isPlace : GoodIn wsX12_rack wsX12_isPlace := goodIn_r _ [9] rfl (by decide +kernel)
set_option maxRecDepth 20000 in
theorem gX12_rack_X12_isPlace : GoodIn wsX12_rack (va_wsS RX12 308 yX12_isPlace wsX12_isPlace) := goodIn_app (goodIn_r ([.methodLink RX12 308 yX12_isPlace, .static yX12_isPlace, .initialized yX12_isPlace.cls] : List Cond) [6, 7, 8] rfl (by decide +kernel)) ggX12_rack_X12_isPlace
set_option maxRecDepth 20000 in
theorem ggX12_rack_X12_answer : GoodIn wsX12_rack wsX12_answer := goodIn_r _ [13, 14, 20, 21, 22, 23, 24, 25, 26, 27, 28, 29, 30, 31, 32, 33, 34, 35, 36, 37, 38, 39, 40, 41, 42, 43, 44, 45, 46, 47, 48, 49, 50, 51] rfl (by decide +kernel)
set_option maxRecDepth 20000 in
theorem gX12_rack_X12_answer : GoodIn wsX12_rack (wsV RX12 179 RX12 yX12_answer wsX12_answer) := goodIn_app (goodIn_r ([.methodLink RX12 179 yX12_answer, .instanceMethod yX12_answer, .selects RX12 yX12_answer yX12_answer, .initialized RX12] : List Cond) [10, 11, 12, 8] rfl (by decide +kernel)) ggX12_rack_X12_answer
set_option maxRecDepth 20000 in
theorem ggX12_rack_X12_isPane : GoodIn wsX12_rack wsX12_isPane := goodIn_r _ [18, 19, 20, 21, 22, 23, 24, 25, 26, 27, 28, 29, 30, 31, 32, 33, 34, 35, 36, 37, 38, 39, 40, 41, 42, 43, 44, 45, 46, 47, 48, 49, 50, 51] rfl (by decide +kernel)
set_option maxRecDepth 20000 in
theorem gX12_rack_X12_isPane : GoodIn wsX12_rack (wsV RX12 223 RX12 yX12_isPane wsX12_isPane) := goodIn_app (goodIn_r ([.methodLink RX12 223 yX12_isPane, .instanceMethod yX12_isPane, .selects RX12 yX12_isPane yX12_isPane, .initialized RX12] : List Cond) [15, 16, 17, 8] rfl (by decide +kernel)) ggX12_rack_X12_isPane
theorem dX12_rack_0 : decode cX12_rack 0 = .ok (.iload_n 1, 1) := by decide +kernel
theorem dX12_rack_1 : decode cX12_rack 1 = .ok (.invokestatic 308, 3) := by decide +kernel
theorem dX12_rack_4 : decode cX12_rack 4 = .ok (.ifCond .ne 9, 3) := by decide +kernel
theorem dX12_rack_7 : decode cX12_rack 7 = .ok (.aload_n 0, 1) := by decide +kernel
theorem dX12_rack_8 : decode cX12_rack 8 = .ok (.iconst (-1), 1) := by decide +kernel
theorem dX12_rack_9 : decode cX12_rack 9 = .ok (.invokevirtual 179, 3) := by decide +kernel
theorem dX12_rack_12 : decode cX12_rack 12 = .ok (.ireturn, 1) := by decide +kernel
theorem dX12_rack_13 : decode cX12_rack 13 = .ok (.iload_n 2, 1) := by decide +kernel
theorem dX12_rack_14 : decode cX12_rack 14 = .ok (.iconst (-1), 1) := by decide +kernel
theorem dX12_rack_15 : decode cX12_rack 15 = .ok (.if_icmp .ne 12, 3) := by decide +kernel
theorem dX12_rack_18 : decode cX12_rack 18 = .ok (.aload_n 0, 1) := by decide +kernel
theorem dX12_rack_19 : decode cX12_rack 19 = .ok (.getfield 52, 3) := by decide +kernel
theorem dX12_rack_22 : decode cX12_rack 22 = .ok (.iload_n 1, 1) := by decide +kernel
theorem dX12_rack_23 : decode cX12_rack 23 = .ok (.iconst (-1), 1) := by decide +kernel
theorem dX12_rack_24 : decode cX12_rack 24 = .ok (.iastore, 1) := by decide +kernel
theorem dX12_rack_25 : decode cX12_rack 25 = .ok (.iconst 1, 1) := by decide +kernel
theorem dX12_rack_26 : decode cX12_rack 26 = .ok (.ireturn, 1) := by decide +kernel
theorem dX12_rack_27 : decode cX12_rack 27 = .ok (.aload_n 0, 1) := by decide +kernel
theorem dX12_rack_28 : decode cX12_rack 28 = .ok (.getfield 182, 3) := by decide +kernel
theorem dX12_rack_31 : decode cX12_rack 31 = .ok (.ifCond .eq 11, 3) := by decide +kernel
theorem dX12_rack_34 : decode cX12_rack 34 = .ok (.aload_n 0, 1) := by decide +kernel
theorem dX12_rack_35 : decode cX12_rack 35 = .ok (.iload_n 2, 1) := by decide +kernel
theorem dX12_rack_36 : decode cX12_rack 36 = .ok (.invokevirtual 223, 3) := by decide +kernel
theorem dX12_rack_39 : decode cX12_rack 39 = .ok (.ifCond .ne 21, 3) := by decide +kernel
theorem dX12_rack_42 : decode cX12_rack 42 = .ok (.aload_n 0, 1) := by decide +kernel
theorem dX12_rack_43 : decode cX12_rack 43 = .ok (.aload_n 0, 1) := by decide +kernel
theorem dX12_rack_44 : decode cX12_rack 44 = .ok (.getfield 182, 3) := by decide +kernel
theorem dX12_rack_47 : decode cX12_rack 47 = .ok (.ifCond .ne 8, 3) := by decide +kernel
theorem dX12_rack_50 : decode cX12_rack 50 = .ok (.bipush (-4), 2) := by decide +kernel
theorem dX12_rack_52 : decode cX12_rack 52 = .ok (.goto 4, 3) := by decide +kernel
theorem dX12_rack_55 : decode cX12_rack 55 = .ok (.iconst (-1), 1) := by decide +kernel
theorem dX12_rack_56 : decode cX12_rack 56 = .ok (.invokevirtual 179, 3) := by decide +kernel
theorem dX12_rack_59 : decode cX12_rack 59 = .ok (.ireturn, 1) := by decide +kernel
theorem dX12_rack_60 : decode cX12_rack 60 = .ok (.aload_n 0, 1) := by decide +kernel
theorem dX12_rack_61 : decode cX12_rack 61 = .ok (.getfield 52, 3) := by decide +kernel
theorem dX12_rack_64 : decode cX12_rack 64 = .ok (.iload_n 1, 1) := by decide +kernel
theorem dX12_rack_65 : decode cX12_rack 65 = .ok (.aload_n 0, 1) := by decide +kernel
theorem dX12_rack_66 : decode cX12_rack 66 = .ok (.getfield 37, 3) := by decide +kernel
theorem dX12_rack_69 : decode cX12_rack 69 = .ok (.iload_n 2, 1) := by decide +kernel
theorem dX12_rack_70 : decode cX12_rack 70 = .ok (.iaload, 1) := by decide +kernel
theorem dX12_rack_71 : decode cX12_rack 71 = .ok (.iastore, 1) := by decide +kernel
theorem dX12_rack_72 : decode cX12_rack 72 = .ok (.aload_n 0, 1) := by decide +kernel
theorem dX12_rack_73 : decode cX12_rack 73 = .ok (.getfield 55, 3) := by decide +kernel
theorem dX12_rack_76 : decode cX12_rack 76 = .ok (.iload_n 1, 1) := by decide +kernel
theorem dX12_rack_77 : decode cX12_rack 77 = .ok (.aload_n 0, 1) := by decide +kernel
theorem dX12_rack_78 : decode cX12_rack 78 = .ok (.getfield 40, 3) := by decide +kernel
theorem dX12_rack_81 : decode cX12_rack 81 = .ok (.iload_n 2, 1) := by decide +kernel
theorem dX12_rack_82 : decode cX12_rack 82 = .ok (.iaload, 1) := by decide +kernel
theorem dX12_rack_83 : decode cX12_rack 83 = .ok (.iastore, 1) := by decide +kernel
theorem dX12_rack_84 : decode cX12_rack 84 = .ok (.iconst 1, 1) := by decide +kernel
theorem dX12_rack_85 : decode cX12_rack 85 = .ok (.ireturn, 1) := by decide +kernel
set_option maxRecDepth 20000 in
theorem ggX12_as_X12_isPlace : GoodIn wsX12_as wsX12_isPlace := goodIn_r _ [6] rfl (by decide +kernel)
set_option maxRecDepth 20000 in
theorem gX12_as_X12_isPlace : GoodIn wsX12_as (va_wsS RX12 308 yX12_isPlace wsX12_isPlace) := goodIn_app (goodIn_r ([.methodLink RX12 308 yX12_isPlace, .static yX12_isPlace, .initialized yX12_isPlace.cls] : List Cond) [3, 4, 5] rfl (by decide +kernel)) ggX12_as_X12_isPlace
set_option maxRecDepth 20000 in
theorem ggX12_as_X12_answer : GoodIn wsX12_as wsX12_answer := goodIn_r _ [10, 11, 12, 13, 14, 15, 16, 17, 18, 19, 20, 21, 22, 23, 24, 25, 26, 27, 28, 29, 30, 31, 32, 33, 34, 35, 36, 37, 38, 39, 40, 41, 42, 43] rfl (by decide +kernel)
set_option maxRecDepth 20000 in
theorem gX12_as_X12_answer : GoodIn wsX12_as (wsV RX12 179 RX12 yX12_answer wsX12_answer) := goodIn_app (goodIn_r ([.methodLink RX12 179 yX12_answer, .instanceMethod yX12_answer, .selects RX12 yX12_answer yX12_answer, .initialized RX12] : List Cond) [7, 8, 9, 5] rfl (by decide +kernel)) ggX12_as_X12_answer
theorem dX12_as_0 : decode cX12_as 0 = .ok (.iload_n 1, 1) := by decide +kernel
theorem dX12_as_1 : decode cX12_as 1 = .ok (.invokestatic 308, 3) := by decide +kernel
theorem dX12_as_4 : decode cX12_as 4 = .ok (.ifCond .eq 12, 3) := by decide +kernel
theorem dX12_as_7 : decode cX12_as 7 = .ok (.iload_n 2, 1) := by decide +kernel
theorem dX12_as_8 : decode cX12_as 8 = .ok (.ifCond .lt 8, 3) := by decide +kernel
theorem dX12_as_11 : decode cX12_as 11 = .ok (.iload_n 2, 1) := by decide +kernel
theorem dX12_as_12 : decode cX12_as 12 = .ok (.iconst 2, 1) := by decide +kernel
theorem dX12_as_13 : decode cX12_as 13 = .ok (.if_icmp .le 9, 3) := by decide +kernel
theorem dX12_as_16 : decode cX12_as 16 = .ok (.aload_n 0, 1) := by decide +kernel
theorem dX12_as_17 : decode cX12_as 17 = .ok (.iconst (-1), 1) := by decide +kernel
theorem dX12_as_18 : decode cX12_as 18 = .ok (.invokevirtual 179, 3) := by decide +kernel
theorem dX12_as_21 : decode cX12_as 21 = .ok (.ireturn, 1) := by decide +kernel
theorem dX12_as_22 : decode cX12_as 22 = .ok (.aload_n 0, 1) := by decide +kernel
theorem dX12_as_23 : decode cX12_as 23 = .ok (.getfield 52, 3) := by decide +kernel
theorem dX12_as_26 : decode cX12_as 26 = .ok (.iload_n 1, 1) := by decide +kernel
theorem dX12_as_27 : decode cX12_as 27 = .ok (.iaload, 1) := by decide +kernel
theorem dX12_as_28 : decode cX12_as 28 = .ok (.ifCond .ge 10, 3) := by decide +kernel
theorem dX12_as_31 : decode cX12_as 31 = .ok (.aload_n 0, 1) := by decide +kernel
theorem dX12_as_32 : decode cX12_as 32 = .ok (.bipush (-4), 2) := by decide +kernel
theorem dX12_as_34 : decode cX12_as 34 = .ok (.invokevirtual 179, 3) := by decide +kernel
theorem dX12_as_37 : decode cX12_as 37 = .ok (.ireturn, 1) := by decide +kernel
theorem dX12_as_38 : decode cX12_as 38 = .ok (.aload_n 0, 1) := by decide +kernel
theorem dX12_as_39 : decode cX12_as 39 = .ok (.getfield 52, 3) := by decide +kernel
theorem dX12_as_42 : decode cX12_as 42 = .ok (.iload_n 1, 1) := by decide +kernel
theorem dX12_as_43 : decode cX12_as 43 = .ok (.iaload, 1) := by decide +kernel
theorem dX12_as_44 : decode cX12_as 44 = .ok (.iload_n 2, 1) := by decide +kernel
theorem dX12_as_45 : decode cX12_as 45 = .ok (.if_icmp .ge 12, 3) := by decide +kernel
theorem dX12_as_48 : decode cX12_as 48 = .ok (.aload_n 0, 1) := by decide +kernel
theorem dX12_as_49 : decode cX12_as 49 = .ok (.bipush (-5), 2) := by decide +kernel
theorem dX12_as_51 : decode cX12_as 51 = .ok (.invokevirtual 179, 3) := by decide +kernel
theorem dX12_as_54 : decode cX12_as 54 = .ok (.goto 9, 3) := by decide +kernel
theorem dX12_as_57 : decode cX12_as 57 = .ok (.aload_n 0, 1) := by decide +kernel
theorem dX12_as_58 : decode cX12_as 58 = .ok (.getfield 55, 3) := by decide +kernel
theorem dX12_as_61 : decode cX12_as 61 = .ok (.iload_n 1, 1) := by decide +kernel
theorem dX12_as_62 : decode cX12_as 62 = .ok (.iaload, 1) := by decide +kernel
theorem dX12_as_63 : decode cX12_as 63 = .ok (.ireturn, 1) := by decide +kernel
set_option maxRecDepth 20000 in
theorem ggX12_found_X12_answer : GoodIn wsX12_found wsX12_answer := goodIn_r _ [6, 1, 7, 8, 9, 10, 11, 12, 13, 14, 15, 16, 17, 18, 19, 20, 21, 22, 23, 24, 25, 26, 27, 28, 29, 30, 31, 32, 33, 34, 35, 36, 37, 38] rfl (by decide +kernel)
set_option maxRecDepth 20000 in
theorem gX12_found_X12_answer : GoodIn wsX12_found (wsV RX12 179 RX12 yX12_answer wsX12_answer) := goodIn_app (goodIn_r ([.methodLink RX12 179 yX12_answer, .instanceMethod yX12_answer, .selects RX12 yX12_answer yX12_answer, .initialized RX12] : List Cond) [2, 3, 4, 5] rfl (by decide +kernel)) ggX12_found_X12_answer
theorem dX12_found_0 : decode cX12_found 0 = .ok (.iload_n 1, 1) := by decide +kernel
theorem dX12_found_1 : decode cX12_found 1 = .ok (.ifCond .ge 19, 3) := by decide +kernel
theorem dX12_found_4 : decode cX12_found 4 = .ok (.iload_n 1, 1) := by decide +kernel
theorem dX12_found_5 : decode cX12_found 5 = .ok (.bipush (-7), 2) := by decide +kernel
theorem dX12_found_7 : decode cX12_found 7 = .ok (.if_icmp .lt 13, 3) := by decide +kernel
theorem dX12_found_10 : decode cX12_found 10 = .ok (.aload_n 0, 1) := by decide +kernel
theorem dX12_found_11 : decode cX12_found 11 = .ok (.getfield 58, 3) := by decide +kernel
theorem dX12_found_14 : decode cX12_found 14 = .ok (.iload_n 1, 1) := by decide +kernel
theorem dX12_found_15 : decode cX12_found 15 = .ok (.ineg, 1) := by decide +kernel
theorem dX12_found_16 : decode cX12_found 16 = .ok (.iaload, 1) := by decide +kernel
theorem dX12_found_17 : decode cX12_found 17 = .ok (.goto 8, 3) := by decide +kernel
theorem dX12_found_20 : decode cX12_found 20 = .ok (.aload_n 0, 1) := by decide +kernel
theorem dX12_found_21 : decode cX12_found 21 = .ok (.iconst (-1), 1) := by decide +kernel
theorem dX12_found_22 : decode cX12_found 22 = .ok (.invokevirtual 179, 3) := by decide +kernel
theorem dX12_found_25 : decode cX12_found 25 = .ok (.ireturn, 1) := by decide +kernel
