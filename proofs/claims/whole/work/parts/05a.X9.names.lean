def ckX9_init : List (List Cond) := [wsX9_init_r1, wsX9_init_r2, wsX9_init_r3, wsX9_init_r4, wsX9_init_r5, wsX9_init_r6, wsX10, wsX90, wsX60, wsX70, wsX30, wsX50, wsX00, wsX40, wsX80, wsX20]
theorem ckX9_init_in : ∀ c ∈ ckX9_init, ∀ w ∈ c, w ∈ wsX9_init := List.forall_mem_cons.mpr ⟨fun _ h9 => List.mem_cons_of_mem _ (List.mem_append_left _ (List.mem_append_left _ (List.mem_append_left _ (List.mem_append_left _ (List.mem_append_left _ (List.mem_append_left _ (List.mem_append_left _ (List.mem_append_left _ (List.mem_append_left _ (List.mem_append_left _ (List.mem_append_left _ h9))))))))))), List.forall_mem_cons.mpr ⟨fun _ h9 => List.mem_cons_of_mem _ (List.mem_append_left _ (List.mem_append_left _ (List.mem_append_left _ (List.mem_append_left _ (List.mem_append_left _ (List.mem_append_left _ (List.mem_append_left _ (List.mem_append_left _ (List.mem_append_left _ (List.mem_append_left _ (List.mem_append_right _ (List.mem_append_left _ h9)))))))))))), List.forall_mem_cons.mpr ⟨fun _ h9 => List.mem_cons_of_mem _ (List.mem_append_left _ (List.mem_append_left _ (List.mem_append_left _ (List.mem_append_left _ (List.mem_append_left _ (List.mem_append_left _ (List.mem_append_left _ (List.mem_append_left _ (List.mem_append_left _ (List.mem_append_left _ (List.mem_append_right _ (List.mem_append_right _ (List.mem_append_left _ h9))))))))))))), List.forall_mem_cons.mpr ⟨fun _ h9 => List.mem_cons_of_mem _ (List.mem_append_left _ (List.mem_append_left _ (List.mem_append_left _ (List.mem_append_left _ (List.mem_append_left _ (List.mem_append_left _ (List.mem_append_left _ (List.mem_append_left _ (List.mem_append_left _ (List.mem_append_left _ (List.mem_append_right _ (List.mem_append_right _ (List.mem_append_right _ (List.mem_append_left _ h9)))))))))))))), List.forall_mem_cons.mpr ⟨fun _ h9 => List.mem_cons_of_mem _ (List.mem_append_left _ (List.mem_append_left _ (List.mem_append_left _ (List.mem_append_left _ (List.mem_append_left _ (List.mem_append_left _ (List.mem_append_left _ (List.mem_append_left _ (List.mem_append_left _ (List.mem_append_left _ (List.mem_append_right _ (List.mem_append_right _ (List.mem_append_right _ (List.mem_append_right _ (List.mem_append_left _ h9))))))))))))))), List.forall_mem_cons.mpr ⟨fun _ h9 => List.mem_cons_of_mem _ (List.mem_append_left _ (List.mem_append_left _ (List.mem_append_left _ (List.mem_append_left _ (List.mem_append_left _ (List.mem_append_left _ (List.mem_append_left _ (List.mem_append_left _ (List.mem_append_left _ (List.mem_append_left _ (List.mem_append_right _ (List.mem_append_right _ (List.mem_append_right _ (List.mem_append_right _ (List.mem_append_right _ h9))))))))))))))), List.forall_mem_cons.mpr ⟨fun _ h9 => List.mem_cons_of_mem _ (List.mem_append_left _ (List.mem_append_left _ (List.mem_append_left _ (List.mem_append_left _ (List.mem_append_left _ (List.mem_append_left _ (List.mem_append_left _ (List.mem_append_left _ (List.mem_append_left _ (List.mem_append_right _ h9)))))))))), List.forall_mem_cons.mpr ⟨fun _ h9 => List.mem_cons_of_mem _ (List.mem_append_left _ (List.mem_append_left _ (List.mem_append_left _ (List.mem_append_left _ (List.mem_append_left _ (List.mem_append_left _ (List.mem_append_left _ (List.mem_append_left _ (List.mem_append_right _ h9))))))))), List.forall_mem_cons.mpr ⟨fun _ h9 => List.mem_cons_of_mem _ (List.mem_append_left _ (List.mem_append_left _ (List.mem_append_left _ (List.mem_append_left _ (List.mem_append_left _ (List.mem_append_left _ (List.mem_append_left _ (List.mem_append_right _ h9)))))))), List.forall_mem_cons.mpr ⟨fun _ h9 => List.mem_cons_of_mem _ (List.mem_append_left _ (List.mem_append_left _ (List.mem_append_left _ (List.mem_append_left _ (List.mem_append_left _ (List.mem_append_left _ (List.mem_append_right _ h9))))))), List.forall_mem_cons.mpr ⟨fun _ h9 => List.mem_cons_of_mem _ (List.mem_append_left _ (List.mem_append_left _ (List.mem_append_left _ (List.mem_append_left _ (List.mem_append_left _ (List.mem_append_right _ h9)))))), List.forall_mem_cons.mpr ⟨fun _ h9 => List.mem_cons_of_mem _ (List.mem_append_left _ (List.mem_append_left _ (List.mem_append_left _ (List.mem_append_left _ (List.mem_append_right _ h9))))), List.forall_mem_cons.mpr ⟨fun _ h9 => List.mem_cons_of_mem _ (List.mem_append_left _ (List.mem_append_left _ (List.mem_append_left _ (List.mem_append_right _ h9)))), List.forall_mem_cons.mpr ⟨fun _ h9 => List.mem_cons_of_mem _ (List.mem_append_left _ (List.mem_append_left _ (List.mem_append_right _ h9))), List.forall_mem_cons.mpr ⟨fun _ h9 => List.mem_cons_of_mem _ (List.mem_append_left _ (List.mem_append_right _ h9)), List.forall_mem_cons.mpr ⟨fun _ h9 => List.mem_cons_of_mem _ (List.mem_append_right _ h9), List.forall_mem_nil _⟩⟩⟩⟩⟩⟩⟩⟩⟩⟩⟩⟩⟩⟩⟩⟩
set_option maxRecDepth 20000 in
theorem ggX9_init_X1_init : GoodIn wsX9_init wsX1_init := goodIn_k ckX9_init_in _ [(1, 12), (1, 13), (0, 1), (0, 2), (0, 8), (1, 14), (1, 15), (1, 16), (1, 17), (6, 0), (6, 1), (6, 2), (6, 3), (6, 4), (6, 5), (6, 6)] rfl (by decide +kernel)
set_option maxRecDepth 20000 in
theorem gX9_init_X1_init : GoodIn wsX9_init (wsX1_init) := ggX9_init_X1_init
set_option maxRecDepth 20000 in
theorem ggX9_init_X6_init : GoodIn wsX9_init wsX6_init := goodIn_k ckX9_init_in _ [(1, 20), (1, 21), (0, 1), (0, 2), (1, 22), (1, 23), (2, 0), (2, 1), (2, 2), (2, 3), (2, 4), (2, 5), (2, 6), (2, 7), (2, 8), (2, 9), (0, 8), (2, 10), (2, 11), (2, 12), (2, 13), (2, 14), (2, 15), (2, 16), (2, 17), (2, 18), (2, 19), (2, 20), (2, 21), (2, 22), (2, 23), (3, 0), (3, 1), (3, 2), (3, 3), (3, 4), (13, 0), (13, 1), (13, 2), (13, 3), (8, 0), (8, 1), (14, 0), (14, 1), (14, 2), (14, 3), (14, 4), (14, 5), (14, 6), (14, 7), (14, 8), (14, 9), (14, 10)] rfl (by decide +kernel)
set_option maxRecDepth 20000 in
theorem gX9_init_X6_init : GoodIn wsX9_init (wsX6_init) := ggX9_init_X6_init
set_option maxRecDepth 20000 in
theorem ggX9_init_X7_init : GoodIn wsX9_init wsX7_init := goodIn_k ckX9_init_in _ [(3, 7), (3, 8), (0, 1), (0, 2), (3, 9), (3, 10), (3, 11), (3, 12), (0, 8), (3, 13), (3, 14), (3, 15), (3, 16), (3, 17), (3, 18), (3, 19), (3, 20), (3, 21), (3, 22), (3, 23), (3, 2), (4, 0), (8, 0), (8, 1), (9, 0), (9, 1), (9, 2), (9, 3), (9, 4), (9, 5), (9, 6), (15, 0), (15, 1), (15, 2)] rfl (by decide +kernel)
set_option maxRecDepth 20000 in
theorem gX9_init_X7_init : GoodIn wsX9_init (wsX7_init) := ggX9_init_X7_init
set_option maxRecDepth 20000 in
theorem ggX9_init_X3_init : GoodIn wsX9_init wsX3_init := goodIn_k ckX9_init_in _ [(4, 3), (4, 4), (0, 1), (0, 2), (0, 8), (4, 5), (4, 6), (4, 7), (3, 2), (4, 8), (4, 9), (4, 10), (4, 11), (4, 12), (4, 13), (4, 14), (2, 21), (4, 15), (4, 16), (10, 0), (10, 1), (10, 2), (10, 3), (10, 4), (10, 5), (10, 6), (10, 7), (10, 8), (10, 9), (10, 10), (10, 11), (10, 12)] rfl (by decide +kernel)
set_option maxRecDepth 20000 in
theorem gX9_init_X3_init : GoodIn wsX9_init (wsX3_init) := ggX9_init_X3_init
set_option maxRecDepth 20000 in
theorem ggX9_init_X5_init : GoodIn wsX9_init wsX5_init := goodIn_k ckX9_init_in _ [(4, 19), (4, 20), (0, 1), (0, 2), (4, 21), (4, 22), (0, 12), (0, 13), (4, 23), (0, 8), (5, 0), (5, 1), (1, 19), (1, 20), (1, 21), (1, 22), (1, 23), (2, 0), (2, 1), (2, 2), (2, 3), (2, 4), (2, 5), (2, 6), (2, 7), (2, 8), (2, 9), (2, 10), (2, 11), (2, 12), (2, 13), (2, 14), (2, 15), (2, 16), (2, 17), (2, 18), (2, 19), (2, 20), (2, 21), (2, 22), (2, 23), (3, 0), (3, 1), (3, 2), (3, 3), (3, 4), (11, 0), (11, 1), (11, 2), (8, 0), (8, 1), (13, 0), (13, 1), (13, 2), (13, 3), (14, 0), (14, 1), (14, 2), (14, 3), (14, 4), (14, 5), (14, 6), (14, 7), (14, 8), (14, 9), (14, 10)] rfl (by decide +kernel)
set_option maxRecDepth 20000 in
theorem gX9_init_X5_init : GoodIn wsX9_init (wsX5_init) := ggX9_init_X5_init
set_option maxRecDepth 20000 in
theorem ggX9_init_X0_init : GoodIn wsX9_init wsX0_init := goodIn_k ckX9_init_in _ [(5, 4), (5, 5), (0, 1), (0, 2), (0, 8), (5, 6), (5, 7), (2, 21), (5, 8), (5, 9), (5, 10), (12, 0), (12, 1), (12, 2), (12, 3), (12, 4), (12, 5)] rfl (by decide +kernel)
set_option maxRecDepth 20000 in
theorem gX9_init_X0_init : GoodIn wsX9_init (wsX0_init) := ggX9_init_X0_init
theorem dX9_init_0 : decode cX9_init 0 = .ok (.aload_n 0, 1) := de_42 (by decide +kernel)
theorem dX9_init_1 : decode cX9_init 1 = .ok (.invokespecial 3, 3) := de_183 (by decide +kernel)
theorem dX9_init_4 : decode cX9_init 4 = .ok (.aload_n 0, 1) := de_42 (by decide +kernel)
theorem dX9_init_5 : decode cX9_init 5 = .ok (.new 9, 3) := de_187 (by decide +kernel)
theorem dX9_init_8 : decode cX9_init 8 = .ok (.dup, 1) := de_89 (by decide +kernel)
theorem dX9_init_9 : decode cX9_init 9 = .ok (.invokespecial 11, 3) := de_183 (by decide +kernel)
theorem dX9_init_12 : decode cX9_init 12 = .ok (.putfield 12, 3) := de_181 (by decide +kernel)
theorem dX9_init_15 : decode cX9_init 15 = .ok (.aload_n 0, 1) := de_42 (by decide +kernel)
theorem dX9_init_16 : decode cX9_init 16 = .ok (.iconst 4, 1) := de_7 (by decide +kernel)
theorem dX9_init_17 : decode cX9_init 17 = .ok (.anewarray 9, 3) := de_189 (by decide +kernel)
theorem dX9_init_20 : decode cX9_init 20 = .ok (.putfield 16, 3) := de_181 (by decide +kernel)
theorem dX9_init_23 : decode cX9_init 23 = .ok (.aload_n 0, 1) := de_42 (by decide +kernel)
theorem dX9_init_24 : decode cX9_init 24 = .ok (.iconst 4, 1) := de_7 (by decide +kernel)
theorem dX9_init_25 : decode cX9_init 25 = .ok (.newarray .int, 2) := by decide +kernel
theorem dX9_init_27 : decode cX9_init 27 = .ok (.putfield 20, 3) := de_181 (by decide +kernel)
theorem dX9_init_30 : decode cX9_init 30 = .ok (.aload_n 0, 1) := de_42 (by decide +kernel)
theorem dX9_init_31 : decode cX9_init 31 = .ok (.iconst 4, 1) := de_7 (by decide +kernel)
theorem dX9_init_32 : decode cX9_init 32 = .ok (.newarray .int, 2) := by decide +kernel
theorem dX9_init_34 : decode cX9_init 34 = .ok (.putfield 24, 3) := de_181 (by decide +kernel)
theorem dX9_init_37 : decode cX9_init 37 = .ok (.iconst 0, 1) := de_3 (by decide +kernel)
theorem dX9_init_38 : decode cX9_init 38 = .ok (.istore_n 1, 1) := de_60 (by decide +kernel)
theorem dX9_init_39 : decode cX9_init 39 = .ok (.iload_n 1, 1) := de_27 (by decide +kernel)
theorem dX9_init_40 : decode cX9_init 40 = .ok (.iconst 4, 1) := de_7 (by decide +kernel)
theorem dX9_init_41 : decode cX9_init 41 = .ok (.if_icmp .ge 29, 3) := de_162 (by decide +kernel)
theorem dX9_init_44 : decode cX9_init 44 = .ok (.aload_n 0, 1) := de_42 (by decide +kernel)
theorem dX9_init_45 : decode cX9_init 45 = .ok (.getfield 16, 3) := de_180 (by decide +kernel)
theorem dX9_init_48 : decode cX9_init 48 = .ok (.iload_n 1, 1) := de_27 (by decide +kernel)
theorem dX9_init_49 : decode cX9_init 49 = .ok (.new 9, 3) := de_187 (by decide +kernel)
theorem dX9_init_52 : decode cX9_init 52 = .ok (.dup, 1) := de_89 (by decide +kernel)
theorem dX9_init_53 : decode cX9_init 53 = .ok (.invokespecial 11, 3) := de_183 (by decide +kernel)
theorem dX9_init_56 : decode cX9_init 56 = .ok (.aastore, 1) := de_83 (by decide +kernel)
theorem dX9_init_57 : decode cX9_init 57 = .ok (.aload_n 0, 1) := de_42 (by decide +kernel)
theorem dX9_init_58 : decode cX9_init 58 = .ok (.getfield 20, 3) := de_180 (by decide +kernel)
theorem dX9_init_61 : decode cX9_init 61 = .ok (.iload_n 1, 1) := de_27 (by decide +kernel)
theorem dX9_init_62 : decode cX9_init 62 = .ok (.iconst (-1), 1) := de_2 (by decide +kernel)
theorem dX9_init_63 : decode cX9_init 63 = .ok (.iastore, 1) := de_79 (by decide +kernel)
theorem dX9_init_64 : decode cX9_init 64 = .ok (.iinc 1 1, 3) := de_132 (by decide +kernel)
theorem dX9_init_67 : decode cX9_init 67 = .ok (.goto (-28), 3) := de_167 (by decide +kernel)
theorem dX9_init_70 : decode cX9_init 70 = .ok (.aload_n 0, 1) := de_42 (by decide +kernel)
theorem dX9_init_71 : decode cX9_init 71 = .ok (.new 27, 3) := de_187 (by decide +kernel)
theorem dX9_init_74 : decode cX9_init 74 = .ok (.dup, 1) := de_89 (by decide +kernel)
theorem dX9_init_75 : decode cX9_init 75 = .ok (.invokespecial 29, 3) := de_183 (by decide +kernel)
theorem dX9_init_78 : decode cX9_init 78 = .ok (.putfield 30, 3) := de_181 (by decide +kernel)
theorem dX9_init_81 : decode cX9_init 81 = .ok (.aload_n 0, 1) := de_42 (by decide +kernel)
theorem dX9_init_82 : decode cX9_init 82 = .ok (.new 34, 3) := de_187 (by decide +kernel)
theorem dX9_init_85 : decode cX9_init 85 = .ok (.dup, 1) := de_89 (by decide +kernel)
theorem dX9_init_86 : decode cX9_init 86 = .ok (.aload_n 0, 1) := de_42 (by decide +kernel)
theorem dX9_init_87 : decode cX9_init 87 = .ok (.getfield 30, 3) := de_180 (by decide +kernel)
theorem dX9_init_90 : decode cX9_init 90 = .ok (.invokespecial 36, 3) := de_183 (by decide +kernel)
theorem dX9_init_93 : decode cX9_init 93 = .ok (.putfield 39, 3) := de_181 (by decide +kernel)
theorem dX9_init_96 : decode cX9_init 96 = .ok (.aload_n 0, 1) := de_42 (by decide +kernel)
theorem dX9_init_97 : decode cX9_init 97 = .ok (.new 43, 3) := de_187 (by decide +kernel)
theorem dX9_init_100 : decode cX9_init 100 = .ok (.dup, 1) := de_89 (by decide +kernel)
theorem dX9_init_101 : decode cX9_init 101 = .ok (.invokespecial 45, 3) := de_183 (by decide +kernel)
theorem dX9_init_104 : decode cX9_init 104 = .ok (.putfield 46, 3) := de_181 (by decide +kernel)
theorem dX9_init_107 : decode cX9_init 107 = .ok (.aload_n 0, 1) := de_42 (by decide +kernel)
theorem dX9_init_108 : decode cX9_init 108 = .ok (.new 50, 3) := de_187 (by decide +kernel)
theorem dX9_init_111 : decode cX9_init 111 = .ok (.dup, 1) := de_89 (by decide +kernel)
theorem dX9_init_112 : decode cX9_init 112 = .ok (.aload_n 0, 1) := de_42 (by decide +kernel)
theorem dX9_init_113 : decode cX9_init 113 = .ok (.getfield 30, 3) := de_180 (by decide +kernel)
theorem dX9_init_116 : decode cX9_init 116 = .ok (.invokespecial 52, 3) := de_183 (by decide +kernel)
theorem dX9_init_119 : decode cX9_init 119 = .ok (.putfield 53, 3) := de_181 (by decide +kernel)
theorem dX9_init_122 : decode cX9_init 122 = .ok (.aload_n 0, 1) := de_42 (by decide +kernel)
theorem dX9_init_123 : decode cX9_init 123 = .ok (.new 57, 3) := de_187 (by decide +kernel)
theorem dX9_init_126 : decode cX9_init 126 = .ok (.dup, 1) := de_89 (by decide +kernel)
theorem dX9_init_127 : decode cX9_init 127 = .ok (.invokespecial 59, 3) := de_183 (by decide +kernel)
theorem dX9_init_130 : decode cX9_init 130 = .ok (.putfield 60, 3) := de_181 (by decide +kernel)
theorem dX9_init_133 : decode cX9_init 133 = .ok (.aload_n 0, 1) := de_42 (by decide +kernel)
theorem dX9_init_134 : decode cX9_init 134 = .ok (.bipush 6, 2) := de_16 (by decide +kernel)
theorem dX9_init_136 : decode cX9_init 136 = .ok (.newarray .int, 2) := by decide +kernel
theorem dX9_init_138 : decode cX9_init 138 = .ok (.putfield 64, 3) := de_181 (by decide +kernel)
theorem dX9_init_141 : decode cX9_init 141 = .ok (.aload_n 0, 1) := de_42 (by decide +kernel)
theorem dX9_init_142 : decode cX9_init 142 = .ok (.iconst 0, 1) := de_3 (by decide +kernel)
theorem dX9_init_143 : decode cX9_init 143 = .ok (.putfield 67, 3) := de_181 (by decide +kernel)
theorem dX9_init_146 : decode cX9_init 146 = .ok (.aload_n 0, 1) := de_42 (by decide +kernel)
theorem dX9_init_147 : decode cX9_init 147 = .ok (.bipush 8, 2) := de_16 (by decide +kernel)
theorem dX9_init_149 : decode cX9_init 149 = .ok (.newarray .int, 2) := by decide +kernel
theorem dX9_init_151 : decode cX9_init 151 = .ok (.putfield 71, 3) := de_181 (by decide +kernel)
theorem dX9_init_154 : decode cX9_init 154 = .ok (.return_, 1) := de_177 (by decide +kernel)
def ckX9_window : List (List Cond) := [wsX9_window_r1, wsX9_window_r2, wsX9_window_r3, wsX9_window_r4, wsX9_window_r5, wsX9_window_r6, wsX9_window_r7, wsX9_window_r8, wsX9_window_r9, wsX9_window_r10, wsX90, wsX70, wsX10, wsX60, wsX40, wsX80, wsX30]
theorem ckX9_window_in : ∀ c ∈ ckX9_window, ∀ w ∈ c, w ∈ wsX9_window := List.forall_mem_cons.mpr ⟨fun _ h9 => List.mem_cons_of_mem _ (List.mem_append_left _ (List.mem_append_left _ (List.mem_append_left _ (List.mem_append_left _ (List.mem_append_left _ (List.mem_append_left _ (List.mem_append_left _ (List.mem_append_left _ h9)))))))), List.forall_mem_cons.mpr ⟨fun _ h9 => List.mem_cons_of_mem _ (List.mem_append_left _ (List.mem_append_left _ (List.mem_append_left _ (List.mem_append_left _ (List.mem_append_left _ (List.mem_append_left _ (List.mem_append_left _ (List.mem_append_right _ (List.mem_append_left _ h9))))))))), List.forall_mem_cons.mpr ⟨fun _ h9 => List.mem_cons_of_mem _ (List.mem_append_left _ (List.mem_append_left _ (List.mem_append_left _ (List.mem_append_left _ (List.mem_append_left _ (List.mem_append_left _ (List.mem_append_left _ (List.mem_append_right _ (List.mem_append_right _ (List.mem_append_left _ h9)))))))))), List.forall_mem_cons.mpr ⟨fun _ h9 => List.mem_cons_of_mem _ (List.mem_append_left _ (List.mem_append_left _ (List.mem_append_left _ (List.mem_append_left _ (List.mem_append_left _ (List.mem_append_left _ (List.mem_append_left _ (List.mem_append_right _ (List.mem_append_right _ (List.mem_append_right _ (List.mem_append_left _ h9))))))))))), List.forall_mem_cons.mpr ⟨fun _ h9 => List.mem_cons_of_mem _ (List.mem_append_left _ (List.mem_append_left _ (List.mem_append_left _ (List.mem_append_left _ (List.mem_append_left _ (List.mem_append_left _ (List.mem_append_left _ (List.mem_append_right _ (List.mem_append_right _ (List.mem_append_right _ (List.mem_append_right _ (List.mem_append_left _ h9)))))))))))), List.forall_mem_cons.mpr ⟨fun _ h9 => List.mem_cons_of_mem _ (List.mem_append_left _ (List.mem_append_left _ (List.mem_append_left _ (List.mem_append_left _ (List.mem_append_left _ (List.mem_append_left _ (List.mem_append_left _ (List.mem_append_right _ (List.mem_append_right _ (List.mem_append_right _ (List.mem_append_right _ (List.mem_append_right _ (List.mem_append_left _ h9))))))))))))), List.forall_mem_cons.mpr ⟨fun _ h9 => List.mem_cons_of_mem _ (List.mem_append_left _ (List.mem_append_left _ (List.mem_append_left _ (List.mem_append_left _ (List.mem_append_left _ (List.mem_append_left _ (List.mem_append_left _ (List.mem_append_right _ (List.mem_append_right _ (List.mem_append_right _ (List.mem_append_right _ (List.mem_append_right _ (List.mem_append_right _ (List.mem_append_left _ h9)))))))))))))), List.forall_mem_cons.mpr ⟨fun _ h9 => List.mem_cons_of_mem _ (List.mem_append_left _ (List.mem_append_left _ (List.mem_append_left _ (List.mem_append_left _ (List.mem_append_left _ (List.mem_append_left _ (List.mem_append_left _ (List.mem_append_right _ (List.mem_append_right _ (List.mem_append_right _ (List.mem_append_right _ (List.mem_append_right _ (List.mem_append_right _ (List.mem_append_right _ (List.mem_append_left _ h9))))))))))))))), List.forall_mem_cons.mpr ⟨fun _ h9 => List.mem_cons_of_mem _ (List.mem_append_left _ (List.mem_append_left _ (List.mem_append_left _ (List.mem_append_left _ (List.mem_append_left _ (List.mem_append_left _ (List.mem_append_left _ (List.mem_append_right _ (List.mem_append_right _ (List.mem_append_right _ (List.mem_append_right _ (List.mem_append_right _ (List.mem_append_right _ (List.mem_append_right _ (List.mem_append_right _ (List.mem_append_left _ h9)))))))))))))))), List.forall_mem_cons.mpr ⟨fun _ h9 => List.mem_cons_of_mem _ (List.mem_append_left _ (List.mem_append_left _ (List.mem_append_left _ (List.mem_append_left _ (List.mem_append_left _ (List.mem_append_left _ (List.mem_append_left _ (List.mem_append_right _ (List.mem_append_right _ (List.mem_append_right _ (List.mem_append_right _ (List.mem_append_right _ (List.mem_append_right _ (List.mem_append_right _ (List.mem_append_right _ (List.mem_append_right _ h9)))))))))))))))), List.forall_mem_cons.mpr ⟨fun _ h9 => List.mem_cons_of_mem _ (List.mem_append_left _ (List.mem_append_left _ (List.mem_append_left _ (List.mem_append_left _ (List.mem_append_left _ (List.mem_append_left _ (List.mem_append_right _ h9))))))), List.forall_mem_cons.mpr ⟨fun _ h9 => List.mem_cons_of_mem _ (List.mem_append_left _ (List.mem_append_left _ (List.mem_append_left _ (List.mem_append_left _ (List.mem_append_left _ (List.mem_append_right _ h9)))))), List.forall_mem_cons.mpr ⟨fun _ h9 => List.mem_cons_of_mem _ (List.mem_append_left _ (List.mem_append_left _ (List.mem_append_left _ (List.mem_append_left _ (List.mem_append_right _ h9))))), List.forall_mem_cons.mpr ⟨fun _ h9 => List.mem_cons_of_mem _ (List.mem_append_left _ (List.mem_append_left _ (List.mem_append_left _ (List.mem_append_right _ h9)))), List.forall_mem_cons.mpr ⟨fun _ h9 => List.mem_cons_of_mem _ (List.mem_append_left _ (List.mem_append_left _ (List.mem_append_right _ h9))), List.forall_mem_cons.mpr ⟨fun _ h9 => List.mem_cons_of_mem _ (List.mem_append_left _ (List.mem_append_right _ h9)), List.forall_mem_cons.mpr ⟨fun _ h9 => List.mem_cons_of_mem _ (List.mem_append_right _ h9), List.forall_mem_nil _⟩⟩⟩⟩⟩⟩⟩⟩⟩⟩⟩⟩⟩⟩⟩⟩⟩
set_option maxRecDepth 20000 in
theorem ggX9_window_X9_tell : GoodIn wsX9_window wsX9_tell := goodIn_k ckX9_window_in _ [(0, 7), (0, 8), (10, 0), (10, 1), (10, 2), (10, 3), (10, 4), (10, 5), (10, 6), (10, 7), (10, 8), (10, 9), (10, 10), (10, 11)] rfl (by decide +kernel)
set_option maxRecDepth 20000 in
theorem gX9_window_X9_tell : GoodIn wsX9_window (wsV RX9 74 RX9 yX9_tell wsX9_tell) := goodIn_app (goodIn_r ([.methodLink RX9 74 yX9_tell, .instanceMethod yX9_tell, .selects RX9 yX9_tell yX9_tell, .initialized RX9] : List Cond) [4, 5, 6, 7] rfl (by decide +kernel)) ggX9_window_X9_tell
set_option maxRecDepth 20000 in
theorem ggX9_window_X9_isSide : GoodIn wsX9_window wsX9_isSide := goodIn_r _ [12] rfl (by decide +kernel)
set_option maxRecDepth 20000 in
theorem gX9_window_X9_isSide : GoodIn wsX9_window (va_wsS RX9 78 yX9_isSide wsX9_isSide) := goodIn_app (goodIn_r ([.methodLink RX9 78 yX9_isSide, .static yX9_isSide, .initialized yX9_isSide.cls] : List Cond) [10, 11, 7] rfl (by decide +kernel)) ggX9_window_X9_isSide
set_option maxRecDepth 20000 in
theorem ggX9_window_X1_open : GoodIn wsX9_window wsX1_open := goodIn_k ckX9_window_in _ [(0, 16), (0, 17), (0, 18), (0, 19), (0, 20), (0, 21), (0, 22), (0, 15), (0, 23), (1, 0), (1, 1), (1, 2), (1, 3), (12, 0), (12, 1), (12, 2), (12, 3), (12, 4), (12, 5), (12, 6)] rfl (by decide +kernel)
set_option maxRecDepth 20000 in
theorem gX9_window_X1_open : GoodIn wsX9_window (wsV RX9 82 RX1 yX1_open wsX1_open) := goodIn_app (goodIn_r ([.methodLink RX9 82 yX1_open, .instanceMethod yX1_open, .selects RX1 yX1_open yX1_open, .initialized RX1] : List Cond) [13, 14, 15, 16] rfl (by decide +kernel)) ggX9_window_X1_open
set_option maxRecDepth 20000 in
theorem ggX9_window_X9_redraw : GoodIn wsX9_window wsX9_redraw := goodIn_k ckX9_window_in _ [(1, 7), (1, 8), (0, 0), (0, 1), (1, 9), (1, 10), (1, 11), (1, 12), (1, 13), (1, 14), (1, 15), (1, 16), (1, 17), (1, 18), (1, 19), (1, 20), (1, 21), (1, 22), (1, 23), (2, 0), (2, 1), (2, 2), (2, 3), (2, 4), (2, 5), (2, 6), (2, 7), (2, 8), (2, 9), (0, 6), (2, 10), (2, 11), (2, 12), (2, 13), (2, 14), (2, 15), (2, 16), (2, 17), (2, 18), (2, 19), (2, 20), (2, 21), (2, 22), (2, 23), (3, 0), (3, 1), (3, 2), (3, 3), (3, 4), (3, 5), (3, 6), (3, 7), (3, 8), (3, 9), (3, 10), (3, 11), (3, 12), (3, 13), (3, 14), (3, 15), (3, 16), (3, 17), (3, 18), (3, 19), (3, 20), (3, 21), (3, 22), (3, 23), (4, 0), (4, 1), (4, 2), (4, 3), (4, 4), (4, 5), (4, 6), (4, 7), (4, 8), (4, 9), (4, 10), (4, 11), (4, 12), (4, 13), (4, 14), (4, 15), (4, 16), (4, 17), (4, 18), (4, 19), (4, 20), (4, 21), (4, 22), (4, 23), (5, 0), (5, 1), (5, 2), (5, 3), (5, 4), (5, 5), (5, 6), (5, 7), (5, 8), (5, 9), (5, 10), (5, 11), (5, 12), (5, 13), (5, 14), (5, 15), (5, 16), (5, 17), (5, 18), (5, 19), (5, 20), (5, 21), (5, 22), (5, 23), (6, 0), (6, 1), (6, 2), (6, 3), (6, 4), (6, 5), (6, 6), (6, 7), (6, 8), (6, 9), (6, 10), (6, 11), (6, 12), (6, 13), (6, 14), (6, 15), (6, 16), (6, 17), (6, 18), (6, 19), (6, 20), (6, 21), (6, 22), (6, 23), (7, 0), (7, 1), (7, 2), (7, 3), (7, 4), (7, 5), (7, 6), (7, 7), (7, 8), (7, 9), (7, 10), (7, 11), (7, 12), (7, 13), (7, 14), (7, 15), (7, 16), (7, 17), (7, 18), (7, 19), (7, 20), (7, 21), (7, 22), (7, 23), (8, 0), (8, 1), (8, 2), (8, 3), (8, 4), (8, 5), (8, 6), (8, 7), (8, 8), (8, 9), (8, 10), (8, 11), (8, 12), (8, 13), (8, 14), (8, 15), (8, 16), (8, 17), (8, 18), (8, 19), (8, 20), (8, 21), (8, 22), (8, 23), (9, 0), (9, 1), (9, 2), (9, 3), (9, 4), (9, 5), (9, 6), (9, 7), (9, 8), (10, 0), (10, 1), (10, 2), (10, 3), (10, 4), (10, 5), (10, 6), (10, 7), (10, 8), (10, 9), (10, 10), (10, 11), (13, 0), (13, 1), (14, 0), (14, 1), (14, 2), (14, 3), (12, 0), (12, 1), (12, 2), (12, 3), (12, 4), (12, 5), (12, 6), (15, 0), (15, 1), (15, 2), (15, 3), (15, 4), (15, 5), (15, 6), (15, 7), (15, 8), (15, 9), (15, 10), (11, 0), (11, 1), (11, 2), (11, 3), (11, 4), (11, 5), (11, 6), (16, 0), (16, 1), (16, 2), (16, 3), (16, 4), (16, 5), (16, 6), (16, 7), (16, 8), (16, 9), (16, 10), (16, 11), (16, 12)] rfl (by decide +kernel)
set_option maxRecDepth 20000 in
theorem gX9_window_X9_redraw : GoodIn wsX9_window (wsV RX9 86 RX9 yX9_redraw wsX9_redraw) := goodIn_app (goodIn_r ([.methodLink RX9 86 yX9_redraw, .instanceMethod yX9_redraw, .selects RX9 yX9_redraw yX9_redraw, .initialized RX9] : List Cond) [29, 30, 31, 7] rfl (by decide +kernel)) ggX9_window_X9_redraw
theorem dX9_window_0 : decode cX9_window 0 = .ok (.iload_n 1, 1) := de_27 (by decide +kernel)
theorem dX9_window_1 : decode cX9_window 1 = .ok (.ifCond .lt 7, 3) := de_155 (by decide +kernel)
theorem dX9_window_4 : decode cX9_window 4 = .ok (.iload_n 2, 1) := de_28 (by decide +kernel)
theorem dX9_window_5 : decode cX9_window 5 = .ok (.ifCond .ge 10, 3) := de_156 (by decide +kernel)
theorem dX9_window_8 : decode cX9_window 8 = .ok (.aload_n 0, 1) := de_42 (by decide +kernel)
theorem dX9_window_9 : decode cX9_window 9 = .ok (.bipush (-2), 2) := de_16 (by decide +kernel)
theorem dX9_window_11 : decode cX9_window 11 = .ok (.invokevirtual 74, 3) := de_182 (by decide +kernel)
theorem dX9_window_14 : decode cX9_window 14 = .ok (.ireturn, 1) := de_172 (by decide +kernel)
theorem dX9_window_15 : decode cX9_window 15 = .ok (.iload_n 1, 1) := de_27 (by decide +kernel)
theorem dX9_window_16 : decode cX9_window 16 = .ok (.invokestatic 78, 3) := de_184 (by decide +kernel)
theorem dX9_window_19 : decode cX9_window 19 = .ok (.ifCond .eq 10, 3) := de_153 (by decide +kernel)
theorem dX9_window_22 : decode cX9_window 22 = .ok (.iload_n 2, 1) := de_28 (by decide +kernel)
theorem dX9_window_23 : decode cX9_window 23 = .ok (.invokestatic 78, 3) := de_184 (by decide +kernel)
theorem dX9_window_26 : decode cX9_window 26 = .ok (.ifCond .ne 9, 3) := de_154 (by decide +kernel)
theorem dX9_window_29 : decode cX9_window 29 = .ok (.aload_n 0, 1) := de_42 (by decide +kernel)
theorem dX9_window_30 : decode cX9_window 30 = .ok (.iconst (-1), 1) := de_2 (by decide +kernel)
theorem dX9_window_31 : decode cX9_window 31 = .ok (.invokevirtual 74, 3) := de_182 (by decide +kernel)
theorem dX9_window_34 : decode cX9_window 34 = .ok (.ireturn, 1) := de_172 (by decide +kernel)
theorem dX9_window_35 : decode cX9_window 35 = .ok (.aload_n 0, 1) := de_42 (by decide +kernel)
theorem dX9_window_36 : decode cX9_window 36 = .ok (.getfield 12, 3) := de_180 (by decide +kernel)
theorem dX9_window_39 : decode cX9_window 39 = .ok (.iload_n 1, 1) := de_27 (by decide +kernel)
theorem dX9_window_40 : decode cX9_window 40 = .ok (.iload_n 2, 1) := de_28 (by decide +kernel)
theorem dX9_window_41 : decode cX9_window 41 = .ok (.invokevirtual 82, 3) := de_182 (by decide +kernel)
theorem dX9_window_44 : decode cX9_window 44 = .ok (.aload_n 0, 1) := de_42 (by decide +kernel)
theorem dX9_window_45 : decode cX9_window 45 = .ok (.invokevirtual 86, 3) := de_182 (by decide +kernel)
theorem dX9_window_48 : decode cX9_window 48 = .ok (.aload_n 0, 1) := de_42 (by decide +kernel)
theorem dX9_window_49 : decode cX9_window 49 = .ok (.getfield 39, 3) := de_180 (by decide +kernel)
theorem dX9_window_52 : decode cX9_window 52 = .ok (.getfield 89, 3) := de_180 (by decide +kernel)
theorem dX9_window_55 : decode cX9_window 55 = .ok (.ireturn, 1) := de_172 (by decide +kernel)
def ckX9_lead : List (List Cond) := [wsX9_lead_r1, wsX9_lead_r2, wsX9_lead_r3, wsX9_lead_r4, wsX9_lead_r5, wsX9_lead_r6, wsX9_lead_r7, wsX9_lead_r8, wsX9_lead_r9, wsX9_lead_r10, wsX90, wsX10, wsX60, wsX40, wsX80, wsX70, wsX30]
theorem ckX9_lead_in : ∀ c ∈ ckX9_lead, ∀ w ∈ c, w ∈ wsX9_lead := List.forall_mem_cons.mpr ⟨fun _ h9 => List.mem_cons_of_mem _ (List.mem_append_left _ (List.mem_append_left _ (List.mem_append_left _ (List.mem_append_left _ (List.mem_append_left _ (List.mem_append_left _ (List.mem_append_left _ (List.mem_append_left _ h9)))))))), List.forall_mem_cons.mpr ⟨fun _ h9 => List.mem_cons_of_mem _ (List.mem_append_left _ (List.mem_append_left _ (List.mem_append_left _ (List.mem_append_left _ (List.mem_append_left _ (List.mem_append_left _ (List.mem_append_left _ (List.mem_append_right _ (List.mem_append_left _ h9))))))))), List.forall_mem_cons.mpr ⟨fun _ h9 => List.mem_cons_of_mem _ (List.mem_append_left _ (List.mem_append_left _ (List.mem_append_left _ (List.mem_append_left _ (List.mem_append_left _ (List.mem_append_left _ (List.mem_append_left _ (List.mem_append_right _ (List.mem_append_right _ (List.mem_append_left _ h9)))))))))), List.forall_mem_cons.mpr ⟨fun _ h9 => List.mem_cons_of_mem _ (List.mem_append_left _ (List.mem_append_left _ (List.mem_append_left _ (List.mem_append_left _ (List.mem_append_left _ (List.mem_append_left _ (List.mem_append_left _ (List.mem_append_right _ (List.mem_append_right _ (List.mem_append_right _ (List.mem_append_left _ h9))))))))))), List.forall_mem_cons.mpr ⟨fun _ h9 => List.mem_cons_of_mem _ (List.mem_append_left _ (List.mem_append_left _ (List.mem_append_left _ (List.mem_append_left _ (List.mem_append_left _ (List.mem_append_left _ (List.mem_append_left _ (List.mem_append_right _ (List.mem_append_right _ (List.mem_append_right _ (List.mem_append_right _ (List.mem_append_left _ h9)))))))))))), List.forall_mem_cons.mpr ⟨fun _ h9 => List.mem_cons_of_mem _ (List.mem_append_left _ (List.mem_append_left _ (List.mem_append_left _ (List.mem_append_left _ (List.mem_append_left _ (List.mem_append_left _ (List.mem_append_left _ (List.mem_append_right _ (List.mem_append_right _ (List.mem_append_right _ (List.mem_append_right _ (List.mem_append_right _ (List.mem_append_left _ h9))))))))))))), List.forall_mem_cons.mpr ⟨fun _ h9 => List.mem_cons_of_mem _ (List.mem_append_left _ (List.mem_append_left _ (List.mem_append_left _ (List.mem_append_left _ (List.mem_append_left _ (List.mem_append_left _ (List.mem_append_left _ (List.mem_append_right _ (List.mem_append_right _ (List.mem_append_right _ (List.mem_append_right _ (List.mem_append_right _ (List.mem_append_right _ (List.mem_append_left _ h9)))))))))))))), List.forall_mem_cons.mpr ⟨fun _ h9 => List.mem_cons_of_mem _ (List.mem_append_left _ (List.mem_append_left _ (List.mem_append_left _ (List.mem_append_left _ (List.mem_append_left _ (List.mem_append_left _ (List.mem_append_left _ (List.mem_append_right _ (List.mem_append_right _ (List.mem_append_right _ (List.mem_append_right _ (List.mem_append_right _ (List.mem_append_right _ (List.mem_append_right _ (List.mem_append_left _ h9))))))))))))))), List.forall_mem_cons.mpr ⟨fun _ h9 => List.mem_cons_of_mem _ (List.mem_append_left _ (List.mem_append_left _ (List.mem_append_left _ (List.mem_append_left _ (List.mem_append_left _ (List.mem_append_left _ (List.mem_append_left _ (List.mem_append_right _ (List.mem_append_right _ (List.mem_append_right _ (List.mem_append_right _ (List.mem_append_right _ (List.mem_append_right _ (List.mem_append_right _ (List.mem_append_right _ (List.mem_append_left _ h9)))))))))))))))), List.forall_mem_cons.mpr ⟨fun _ h9 => List.mem_cons_of_mem _ (List.mem_append_left _ (List.mem_append_left _ (List.mem_append_left _ (List.mem_append_left _ (List.mem_append_left _ (List.mem_append_left _ (List.mem_append_left _ (List.mem_append_right _ (List.mem_append_right _ (List.mem_append_right _ (List.mem_append_right _ (List.mem_append_right _ (List.mem_append_right _ (List.mem_append_right _ (List.mem_append_right _ (List.mem_append_right _ h9)))))))))))))))), List.forall_mem_cons.mpr ⟨fun _ h9 => List.mem_cons_of_mem _ (List.mem_append_left _ (List.mem_append_left _ (List.mem_append_left _ (List.mem_append_left _ (List.mem_append_left _ (List.mem_append_left _ (List.mem_append_right _ h9))))))), List.forall_mem_cons.mpr ⟨fun _ h9 => List.mem_cons_of_mem _ (List.mem_append_left _ (List.mem_append_left _ (List.mem_append_left _ (List.mem_append_left _ (List.mem_append_left _ (List.mem_append_right _ h9)))))), List.forall_mem_cons.mpr ⟨fun _ h9 => List.mem_cons_of_mem _ (List.mem_append_left _ (List.mem_append_left _ (List.mem_append_left _ (List.mem_append_left _ (List.mem_append_right _ h9))))), List.forall_mem_cons.mpr ⟨fun _ h9 => List.mem_cons_of_mem _ (List.mem_append_left _ (List.mem_append_left _ (List.mem_append_left _ (List.mem_append_right _ h9)))), List.forall_mem_cons.mpr ⟨fun _ h9 => List.mem_cons_of_mem _ (List.mem_append_left _ (List.mem_append_left _ (List.mem_append_right _ h9))), List.forall_mem_cons.mpr ⟨fun _ h9 => List.mem_cons_of_mem _ (List.mem_append_left _ (List.mem_append_right _ h9)), List.forall_mem_cons.mpr ⟨fun _ h9 => List.mem_cons_of_mem _ (List.mem_append_right _ h9), List.forall_mem_nil _⟩⟩⟩⟩⟩⟩⟩⟩⟩⟩⟩⟩⟩⟩⟩⟩⟩
set_option maxRecDepth 20000 in
theorem ggX9_lead_X1_isThere : GoodIn wsX9_lead wsX1_isThere := goodIn_k ckX9_lead_in _ [(0, 5), (0, 6), (11, 0), (11, 1), (11, 2), (11, 3), (11, 4), (11, 5), (11, 6)] rfl (by decide +kernel)
set_option maxRecDepth 20000 in
theorem gX9_lead_X1_isThere : GoodIn wsX9_lead (wsV RX9 92 RX1 yX1_isThere wsX1_isThere) := goodIn_app (goodIn_r ([.methodLink RX9 92 yX1_isThere, .instanceMethod yX1_isThere, .selects RX1 yX1_isThere yX1_isThere, .initialized RX1] : List Cond) [2, 3, 4, 5] rfl (by decide +kernel)) ggX9_lead_X1_isThere
set_option maxRecDepth 20000 in
theorem ggX9_lead_X9_tell : GoodIn wsX9_lead wsX9_tell := goodIn_k ckX9_lead_in _ [(0, 11), (0, 12), (10, 0), (10, 1), (10, 2), (10, 3), (10, 4), (10, 5), (10, 6), (10, 7), (10, 8), (10, 9), (10, 10), (10, 11)] rfl (by decide +kernel)
set_option maxRecDepth 20000 in
theorem gX9_lead_X9_tell : GoodIn wsX9_lead (wsV RX9 74 RX9 yX9_tell wsX9_tell) := goodIn_app (goodIn_r ([.methodLink RX9 74 yX9_tell, .instanceMethod yX9_tell, .selects RX9 yX9_tell yX9_tell, .initialized RX9] : List Cond) [8, 9, 10, 11] rfl (by decide +kernel)) ggX9_lead_X9_tell
set_option maxRecDepth 20000 in
theorem ggX9_lead_X1_hasPoint : GoodIn wsX9_lead wsX1_hasPoint := goodIn_k ckX9_lead_in _ [(0, 16), (0, 6), (0, 17), (11, 0), (11, 1), (11, 2), (11, 3), (11, 4), (11, 5), (11, 6)] rfl (by decide +kernel)
set_option maxRecDepth 20000 in
theorem gX9_lead_X1_hasPoint : GoodIn wsX9_lead (wsV RX9 96 RX1 yX1_hasPoint wsX1_hasPoint) := goodIn_app (goodIn_r ([.methodLink RX9 96 yX1_hasPoint, .instanceMethod yX1_hasPoint, .selects RX1 yX1_hasPoint yX1_hasPoint, .initialized RX1] : List Cond) [14, 15, 16, 5] rfl (by decide +kernel)) ggX9_lead_X1_hasPoint
set_option maxRecDepth 20000 in
theorem ggX9_lead_X1_leads : GoodIn wsX9_lead wsX1_leads := goodIn_k ckX9_lead_in _ [(0, 21), (0, 22), (11, 0), (11, 1), (11, 2), (11, 3), (11, 4), (11, 5), (11, 6)] rfl (by decide +kernel)
set_option maxRecDepth 20000 in
theorem gX9_lead_X1_leads : GoodIn wsX9_lead (wsV RX9 100 RX1 yX1_leads wsX1_leads) := goodIn_app (goodIn_r ([.methodLink RX9 100 yX1_leads, .instanceMethod yX1_leads, .selects RX1 yX1_leads yX1_leads, .initialized RX1] : List Cond) [19, 20, 21, 5] rfl (by decide +kernel)) ggX9_lead_X1_leads
set_option maxRecDepth 20000 in
theorem ggX9_lead_X1_append : GoodIn wsX9_lead wsX1_append := goodIn_k ckX9_lead_in _ [(1, 2), (0, 22), (1, 3), (1, 4), (1, 5), (1, 6), (11, 0), (11, 1), (11, 2), (11, 3), (11, 4), (11, 5), (11, 6)] rfl (by decide +kernel)
set_option maxRecDepth 20000 in
theorem gX9_lead_X1_append : GoodIn wsX9_lead (wsV RX9 104 RX1 yX1_append wsX1_append) := goodIn_app (goodIn_r ([.methodLink RX9 104 yX1_append, .instanceMethod yX1_append, .selects RX1 yX1_append yX1_append, .initialized RX1] : List Cond) [24, 25, 26, 5] rfl (by decide +kernel)) ggX9_lead_X1_append
set_option maxRecDepth 20000 in
theorem ggX9_lead_X9_redraw : GoodIn wsX9_lead wsX9_redraw := goodIn_k ckX9_lead_in _ [(1, 10), (1, 11), (0, 0), (1, 12), (1, 13), (1, 14), (1, 15), (1, 16), (1, 17), (1, 18), (1, 19), (1, 20), (1, 21), (1, 22), (1, 23), (2, 0), (2, 1), (2, 2), (2, 3), (2, 4), (2, 5), (2, 6), (2, 7), (2, 8), (2, 9), (2, 10), (2, 11), (2, 12), (2, 13), (0, 10), (2, 14), (2, 15), (2, 16), (2, 17), (2, 18), (2, 19), (2, 20), (2, 21), (2, 22), (2, 23), (3, 0), (3, 1), (3, 2), (3, 3), (3, 4), (3, 5), (3, 6), (3, 7), (3, 8), (3, 9), (3, 10), (3, 11), (3, 12), (3, 13), (3, 14), (3, 15), (3, 16), (3, 17), (3, 18), (3, 19), (3, 20), (3, 21), (3, 22), (3, 23), (4, 0), (4, 1), (4, 2), (4, 3), (4, 4), (4, 5), (4, 6), (4, 7), (4, 8), (4, 9), (4, 10), (4, 11), (4, 12), (4, 13), (4, 14), (4, 15), (4, 16), (4, 17), (4, 18), (4, 19), (4, 20), (4, 21), (4, 22), (4, 23), (5, 0), (5, 1), (5, 2), (5, 3), (5, 4), (5, 5), (5, 6), (5, 7), (5, 8), (5, 9), (5, 10), (5, 11), (5, 12), (5, 13), (5, 14), (5, 15), (5, 16), (5, 17), (5, 18), (5, 19), (5, 20), (5, 21), (5, 22), (5, 23), (6, 0), (6, 1), (6, 2), (6, 3), (6, 4), (6, 5), (6, 6), (6, 7), (6, 8), (6, 9), (6, 10), (6, 11), (6, 12), (6, 13), (6, 14), (6, 15), (6, 16), (6, 17), (6, 18), (6, 19), (6, 20), (6, 21), (6, 22), (6, 23), (7, 0), (7, 1), (7, 2), (7, 3), (7, 4), (7, 5), (7, 6), (7, 7), (7, 8), (7, 9), (7, 10), (7, 11), (7, 12), (7, 13), (7, 14), (7, 15), (7, 16), (7, 17), (7, 18), (7, 19), (7, 20), (7, 21), (7, 22), (7, 23), (8, 0), (8, 1), (8, 2), (8, 3), (8, 4), (8, 5), (8, 6), (8, 7), (8, 8), (8, 9), (8, 10), (8, 11), (8, 12), (8, 13), (8, 14), (8, 15), (8, 16), (8, 17), (8, 18), (8, 19), (8, 20), (8, 21), (8, 22), (8, 23), (9, 0), (9, 1), (9, 2), (9, 3), (9, 4), (9, 5), (9, 6), (9, 7), (9, 8), (9, 9), (9, 10), (9, 11), (9, 12), (10, 0), (10, 1), (10, 2), (10, 3), (10, 4), (10, 5), (10, 6), (10, 7), (10, 8), (10, 9), (10, 10), (10, 11), (12, 0), (12, 1), (13, 0), (13, 1), (13, 2), (13, 3), (11, 0), (11, 1), (11, 2), (11, 3), (11, 4), (11, 5), (11, 6), (14, 0), (14, 1), (14, 2), (14, 3), (14, 4), (14, 5), (14, 6), (14, 7), (14, 8), (14, 9), (14, 10), (15, 0), (15, 1), (15, 2), (15, 3), (15, 4), (15, 5), (15, 6), (16, 0), (16, 1), (16, 2), (16, 3), (16, 4), (16, 5), (16, 6), (16, 7), (16, 8), (16, 9), (16, 10), (16, 11), (16, 12)] rfl (by decide +kernel)
set_option maxRecDepth 20000 in
theorem gX9_lead_X9_redraw : GoodIn wsX9_lead (wsV RX9 86 RX9 yX9_redraw wsX9_redraw) := goodIn_app (goodIn_r ([.methodLink RX9 86 yX9_redraw, .instanceMethod yX9_redraw, .selects RX9 yX9_redraw yX9_redraw, .initialized RX9] : List Cond) [32, 33, 34, 11] rfl (by decide +kernel)) ggX9_lead_X9_redraw
theorem dX9_lead_0 : decode cX9_lead 0 = .ok (.aload_n 0, 1) := de_42 (by decide +kernel)
theorem dX9_lead_1 : decode cX9_lead 1 = .ok (.getfield 12, 3) := de_180 (by decide +kernel)
theorem dX9_lead_4 : decode cX9_lead 4 = .ok (.invokevirtual 92, 3) := de_182 (by decide +kernel)
theorem dX9_lead_7 : decode cX9_lead 7 = .ok (.ifCond .ne 10, 3) := de_154 (by decide +kernel)
theorem dX9_lead_10 : decode cX9_lead 10 = .ok (.aload_n 0, 1) := de_42 (by decide +kernel)
theorem dX9_lead_11 : decode cX9_lead 11 = .ok (.bipush (-4), 2) := de_16 (by decide +kernel)
theorem dX9_lead_13 : decode cX9_lead 13 = .ok (.invokevirtual 74, 3) := de_182 (by decide +kernel)
theorem dX9_lead_16 : decode cX9_lead 16 = .ok (.ireturn, 1) := de_172 (by decide +kernel)
theorem dX9_lead_17 : decode cX9_lead 17 = .ok (.aload_n 0, 1) := de_42 (by decide +kernel)
theorem dX9_lead_18 : decode cX9_lead 18 = .ok (.getfield 12, 3) := de_180 (by decide +kernel)
theorem dX9_lead_21 : decode cX9_lead 21 = .ok (.iload_n 1, 1) := de_27 (by decide +kernel)
theorem dX9_lead_22 : decode cX9_lead 22 = .ok (.iload_n 2, 1) := de_28 (by decide +kernel)
theorem dX9_lead_23 : decode cX9_lead 23 = .ok (.invokevirtual 96, 3) := de_182 (by decide +kernel)
theorem dX9_lead_26 : decode cX9_lead 26 = .ok (.ifCond .eq 16, 3) := de_153 (by decide +kernel)
theorem dX9_lead_29 : decode cX9_lead 29 = .ok (.aload_n 0, 1) := de_42 (by decide +kernel)
theorem dX9_lead_30 : decode cX9_lead 30 = .ok (.getfield 12, 3) := de_180 (by decide +kernel)
theorem dX9_lead_33 : decode cX9_lead 33 = .ok (.iload_n 3, 1) := de_29 (by decide +kernel)
theorem dX9_lead_34 : decode cX9_lead 34 = .ok (.iload 4, 2) := de_21 (by decide +kernel)
theorem dX9_lead_36 : decode cX9_lead 36 = .ok (.invokevirtual 96, 3) := de_182 (by decide +kernel)
theorem dX9_lead_39 : decode cX9_lead 39 = .ok (.ifCond .ne 9, 3) := de_154 (by decide +kernel)
theorem dX9_lead_42 : decode cX9_lead 42 = .ok (.aload_n 0, 1) := de_42 (by decide +kernel)
theorem dX9_lead_43 : decode cX9_lead 43 = .ok (.iconst (-1), 1) := de_2 (by decide +kernel)
theorem dX9_lead_44 : decode cX9_lead 44 = .ok (.invokevirtual 74, 3) := de_182 (by decide +kernel)
theorem dX9_lead_47 : decode cX9_lead 47 = .ok (.ireturn, 1) := de_172 (by decide +kernel)
theorem dX9_lead_48 : decode cX9_lead 48 = .ok (.iload_n 1, 1) := de_27 (by decide +kernel)
theorem dX9_lead_49 : decode cX9_lead 49 = .ok (.iload_n 3, 1) := de_29 (by decide +kernel)
theorem dX9_lead_50 : decode cX9_lead 50 = .ok (.if_icmp .ne 16, 3) := de_160 (by decide +kernel)
theorem dX9_lead_53 : decode cX9_lead 53 = .ok (.iload_n 2, 1) := de_28 (by decide +kernel)
theorem dX9_lead_54 : decode cX9_lead 54 = .ok (.iload 4, 2) := de_21 (by decide +kernel)
theorem dX9_lead_56 : decode cX9_lead 56 = .ok (.if_icmp .ne 10, 3) := de_160 (by decide +kernel)
theorem dX9_lead_59 : decode cX9_lead 59 = .ok (.aload_n 0, 1) := de_42 (by decide +kernel)
theorem dX9_lead_60 : decode cX9_lead 60 = .ok (.bipush (-2), 2) := de_16 (by decide +kernel)
theorem dX9_lead_62 : decode cX9_lead 62 = .ok (.invokevirtual 74, 3) := de_182 (by decide +kernel)
theorem dX9_lead_65 : decode cX9_lead 65 = .ok (.ireturn, 1) := de_172 (by decide +kernel)
theorem dX9_lead_66 : decode cX9_lead 66 = .ok (.aload_n 0, 1) := de_42 (by decide +kernel)
theorem dX9_lead_67 : decode cX9_lead 67 = .ok (.getfield 12, 3) := de_180 (by decide +kernel)
theorem dX9_lead_70 : decode cX9_lead 70 = .ok (.invokevirtual 100, 3) := de_182 (by decide +kernel)
theorem dX9_lead_73 : decode cX9_lead 73 = .ok (.bipush 14, 2) := de_16 (by decide +kernel)
theorem dX9_lead_75 : decode cX9_lead 75 = .ok (.if_icmp .lt 10, 3) := de_161 (by decide +kernel)
theorem dX9_lead_78 : decode cX9_lead 78 = .ok (.aload_n 0, 1) := de_42 (by decide +kernel)
theorem dX9_lead_79 : decode cX9_lead 79 = .ok (.bipush (-3), 2) := de_16 (by decide +kernel)
theorem dX9_lead_81 : decode cX9_lead 81 = .ok (.invokevirtual 74, 3) := de_182 (by decide +kernel)
theorem dX9_lead_84 : decode cX9_lead 84 = .ok (.ireturn, 1) := de_172 (by decide +kernel)
theorem dX9_lead_85 : decode cX9_lead 85 = .ok (.aload_n 0, 1) := de_42 (by decide +kernel)
theorem dX9_lead_86 : decode cX9_lead 86 = .ok (.getfield 12, 3) := de_180 (by decide +kernel)
theorem dX9_lead_89 : decode cX9_lead 89 = .ok (.iload_n 1, 1) := de_27 (by decide +kernel)
theorem dX9_lead_90 : decode cX9_lead 90 = .ok (.iload_n 2, 1) := de_28 (by decide +kernel)
theorem dX9_lead_91 : decode cX9_lead 91 = .ok (.iload_n 3, 1) := de_29 (by decide +kernel)
theorem dX9_lead_92 : decode cX9_lead 92 = .ok (.iload 4, 2) := de_21 (by decide +kernel)
theorem dX9_lead_94 : decode cX9_lead 94 = .ok (.invokevirtual 104, 3) := de_182 (by decide +kernel)
theorem dX9_lead_97 : decode cX9_lead 97 = .ok (.aload_n 0, 1) := de_42 (by decide +kernel)
theorem dX9_lead_98 : decode cX9_lead 98 = .ok (.invokevirtual 86, 3) := de_182 (by decide +kernel)
theorem dX9_lead_101 : decode cX9_lead 101 = .ok (.aload_n 0, 1) := de_42 (by decide +kernel)
theorem dX9_lead_102 : decode cX9_lead 102 = .ok (.getfield 12, 3) := de_180 (by decide +kernel)
theorem dX9_lead_105 : decode cX9_lead 105 = .ok (.invokevirtual 100, 3) := de_182 (by decide +kernel)
theorem dX9_lead_108 : decode cX9_lead 108 = .ok (.iconst 1, 1) := de_4 (by decide +kernel)
theorem dX9_lead_109 : decode cX9_lead 109 = .ok (.isub, 1) := de_100 (by decide +kernel)
theorem dX9_lead_110 : decode cX9_lead 110 = .ok (.ireturn, 1) := de_172 (by decide +kernel)
def ckX9_undo : List (List Cond) := [wsX9_undo_r1, wsX9_undo_r2, wsX9_undo_r3, wsX9_undo_r4, wsX9_undo_r5, wsX9_undo_r6, wsX9_undo_r7, wsX9_undo_r8, wsX9_undo_r9, wsX9_undo_r10, wsX90, wsX10, wsX60, wsX40, wsX80, wsX70, wsX30]
theorem ckX9_undo_in : ∀ c ∈ ckX9_undo, ∀ w ∈ c, w ∈ wsX9_undo := List.forall_mem_cons.mpr ⟨fun _ h9 => List.mem_cons_of_mem _ (List.mem_append_left _ (List.mem_append_left _ (List.mem_append_left _ (List.mem_append_left _ (List.mem_append_left _ (List.mem_append_left _ (List.mem_append_left _ (List.mem_append_left _ h9)))))))), List.forall_mem_cons.mpr ⟨fun _ h9 => List.mem_cons_of_mem _ (List.mem_append_left _ (List.mem_append_left _ (List.mem_append_left _ (List.mem_append_left _ (List.mem_append_left _ (List.mem_append_left _ (List.mem_append_left _ (List.mem_append_right _ (List.mem_append_left _ h9))))))))), List.forall_mem_cons.mpr ⟨fun _ h9 => List.mem_cons_of_mem _ (List.mem_append_left _ (List.mem_append_left _ (List.mem_append_left _ (List.mem_append_left _ (List.mem_append_left _ (List.mem_append_left _ (List.mem_append_left _ (List.mem_append_right _ (List.mem_append_right _ (List.mem_append_left _ h9)))))))))), List.forall_mem_cons.mpr ⟨fun _ h9 => List.mem_cons_of_mem _ (List.mem_append_left _ (List.mem_append_left _ (List.mem_append_left _ (List.mem_append_left _ (List.mem_append_left _ (List.mem_append_left _ (List.mem_append_left _ (List.mem_append_right _ (List.mem_append_right _ (List.mem_append_right _ (List.mem_append_left _ h9))))))))))), List.forall_mem_cons.mpr ⟨fun _ h9 => List.mem_cons_of_mem _ (List.mem_append_left _ (List.mem_append_left _ (List.mem_append_left _ (List.mem_append_left _ (List.mem_append_left _ (List.mem_append_left _ (List.mem_append_left _ (List.mem_append_right _ (List.mem_append_right _ (List.mem_append_right _ (List.mem_append_right _ (List.mem_append_left _ h9)))))))))))), List.forall_mem_cons.mpr ⟨fun _ h9 => List.mem_cons_of_mem _ (List.mem_append_left _ (List.mem_append_left _ (List.mem_append_left _ (List.mem_append_left _ (List.mem_append_left _ (List.mem_append_left _ (List.mem_append_left _ (List.mem_append_right _ (List.mem_append_right _ (List.mem_append_right _ (List.mem_append_right _ (List.mem_append_right _ (List.mem_append_left _ h9))))))))))))), List.forall_mem_cons.mpr ⟨fun _ h9 => List.mem_cons_of_mem _ (List.mem_append_left _ (List.mem_append_left _ (List.mem_append_left _ (List.mem_append_left _ (List.mem_append_left _ (List.mem_append_left _ (List.mem_append_left _ (List.mem_append_right _ (List.mem_append_right _ (List.mem_append_right _ (List.mem_append_right _ (List.mem_append_right _ (List.mem_append_right _ (List.mem_append_left _ h9)))))))))))))), List.forall_mem_cons.mpr ⟨fun _ h9 => List.mem_cons_of_mem _ (List.mem_append_left _ (List.mem_append_left _ (List.mem_append_left _ (List.mem_append_left _ (List.mem_append_left _ (List.mem_append_left _ (List.mem_append_left _ (List.mem_append_right _ (List.mem_append_right _ (List.mem_append_right _ (List.mem_append_right _ (List.mem_append_right _ (List.mem_append_right _ (List.mem_append_right _ (List.mem_append_left _ h9))))))))))))))), List.forall_mem_cons.mpr ⟨fun _ h9 => List.mem_cons_of_mem _ (List.mem_append_left _ (List.mem_append_left _ (List.mem_append_left _ (List.mem_append_left _ (List.mem_append_left _ (List.mem_append_left _ (List.mem_append_left _ (List.mem_append_right _ (List.mem_append_right _ (List.mem_append_right _ (List.mem_append_right _ (List.mem_append_right _ (List.mem_append_right _ (List.mem_append_right _ (List.mem_append_right _ (List.mem_append_left _ h9)))))))))))))))), List.forall_mem_cons.mpr ⟨fun _ h9 => List.mem_cons_of_mem _ (List.mem_append_left _ (List.mem_append_left _ (List.mem_append_left _ (List.mem_append_left _ (List.mem_append_left _ (List.mem_append_left _ (List.mem_append_left _ (List.mem_append_right _ (List.mem_append_right _ (List.mem_append_right _ (List.mem_append_right _ (List.mem_append_right _ (List.mem_append_right _ (List.mem_append_right _ (List.mem_append_right _ (List.mem_append_right _ h9)))))))))))))))), List.forall_mem_cons.mpr ⟨fun _ h9 => List.mem_cons_of_mem _ (List.mem_append_left _ (List.mem_append_left _ (List.mem_append_left _ (List.mem_append_left _ (List.mem_append_left _ (List.mem_append_left _ (List.mem_append_right _ h9))))))), List.forall_mem_cons.mpr ⟨fun _ h9 => List.mem_cons_of_mem _ (List.mem_append_left _ (List.mem_append_left _ (List.mem_append_left _ (List.mem_append_left _ (List.mem_append_left _ (List.mem_append_right _ h9)))))), List.forall_mem_cons.mpr ⟨fun _ h9 => List.mem_cons_of_mem _ (List.mem_append_left _ (List.mem_append_left _ (List.mem_append_left _ (List.mem_append_left _ (List.mem_append_right _ h9))))), List.forall_mem_cons.mpr ⟨fun _ h9 => List.mem_cons_of_mem _ (List.mem_append_left _ (List.mem_append_left _ (List.mem_append_left _ (List.mem_append_right _ h9)))), List.forall_mem_cons.mpr ⟨fun _ h9 => List.mem_cons_of_mem _ (List.mem_append_left _ (List.mem_append_left _ (List.mem_append_right _ h9))), List.forall_mem_cons.mpr ⟨fun _ h9 => List.mem_cons_of_mem _ (List.mem_append_left _ (List.mem_append_right _ h9)), List.forall_mem_cons.mpr ⟨fun _ h9 => List.mem_cons_of_mem _ (List.mem_append_right _ h9), List.forall_mem_nil _⟩⟩⟩⟩⟩⟩⟩⟩⟩⟩⟩⟩⟩⟩⟩⟩⟩
set_option maxRecDepth 20000 in
theorem ggX9_undo_X1_isThere : GoodIn wsX9_undo wsX1_isThere := goodIn_k ckX9_undo_in _ [(0, 5), (0, 6), (11, 0), (11, 1), (11, 2), (11, 3), (11, 4), (11, 5), (11, 6)] rfl (by decide +kernel)
set_option maxRecDepth 20000 in
theorem gX9_undo_X1_isThere : GoodIn wsX9_undo (wsV RX9 92 RX1 yX1_isThere wsX1_isThere) := goodIn_app (goodIn_r ([.methodLink RX9 92 yX1_isThere, .instanceMethod yX1_isThere, .selects RX1 yX1_isThere yX1_isThere, .initialized RX1] : List Cond) [2, 3, 4, 5] rfl (by decide +kernel)) ggX9_undo_X1_isThere
set_option maxRecDepth 20000 in
theorem ggX9_undo_X1_leads : GoodIn wsX9_undo wsX1_leads := goodIn_k ckX9_undo_in _ [(0, 10), (0, 11), (11, 0), (11, 1), (11, 2), (11, 3), (11, 4), (11, 5), (11, 6)] rfl (by decide +kernel)
set_option maxRecDepth 20000 in
theorem gX9_undo_X1_leads : GoodIn wsX9_undo (wsV RX9 100 RX1 yX1_leads wsX1_leads) := goodIn_app (goodIn_r ([.methodLink RX9 100 yX1_leads, .instanceMethod yX1_leads, .selects RX1 yX1_leads yX1_leads, .initialized RX1] : List Cond) [8, 9, 10, 5] rfl (by decide +kernel)) ggX9_undo_X1_leads
set_option maxRecDepth 20000 in
theorem ggX9_undo_X9_tell : GoodIn wsX9_undo wsX9_tell := goodIn_k ckX9_undo_in _ [(0, 16), (0, 17), (10, 0), (10, 1), (10, 2), (10, 3), (10, 4), (10, 5), (10, 6), (10, 7), (10, 8), (10, 9), (10, 10), (10, 11)] rfl (by decide +kernel)
set_option maxRecDepth 20000 in
theorem gX9_undo_X9_tell : GoodIn wsX9_undo (wsV RX9 74 RX9 yX9_tell wsX9_tell) := goodIn_app (goodIn_r ([.methodLink RX9 74 yX9_tell, .instanceMethod yX9_tell, .selects RX9 yX9_tell yX9_tell, .initialized RX9] : List Cond) [13, 14, 15, 16] rfl (by decide +kernel)) ggX9_undo_X9_tell
set_option maxRecDepth 20000 in
theorem ggX9_undo_X1_dropLatest : GoodIn wsX9_undo wsX1_dropLatest := goodIn_k ckX9_undo_in _ [(0, 21), (0, 11), (11, 0), (11, 1), (11, 2), (11, 3), (11, 4), (11, 5), (11, 6)] rfl (by decide +kernel)
set_option maxRecDepth 20000 in
theorem gX9_undo_X1_dropLatest : GoodIn wsX9_undo (wsV RX9 108 RX1 yX1_dropLatest wsX1_dropLatest) := goodIn_app (goodIn_r ([.methodLink RX9 108 yX1_dropLatest, .instanceMethod yX1_dropLatest, .selects RX1 yX1_dropLatest yX1_dropLatest, .initialized RX1] : List Cond) [19, 20, 21, 5] rfl (by decide +kernel)) ggX9_undo_X1_dropLatest
set_option maxRecDepth 20000 in
theorem ggX9_undo_X9_redraw : GoodIn wsX9_undo wsX9_redraw := goodIn_k ckX9_undo_in _ [(1, 1), (1, 2), (0, 0), (1, 3), (1, 4), (1, 5), (1, 6), (1, 7), (1, 8), (1, 9), (1, 10), (1, 11), (1, 12), (1, 13), (1, 14), (1, 15), (1, 16), (1, 17), (1, 18), (1, 19), (1, 20), (1, 21), (1, 22), (1, 23), (2, 0), (2, 1), (2, 2), (2, 3), (2, 4), (0, 15), (2, 5), (2, 6), (2, 7), (2, 8), (2, 9), (2, 10), (2, 11), (2, 12), (2, 13), (2, 14), (2, 15), (2, 16), (2, 17), (2, 18), (2, 19), (2, 20), (2, 21), (2, 22), (2, 23), (3, 0), (3, 1), (3, 2), (3, 3), (3, 4), (3, 5), (3, 6), (3, 7), (3, 8), (3, 9), (3, 10), (3, 11), (3, 12), (3, 13), (3, 14), (3, 15), (3, 16), (3, 17), (3, 18), (3, 19), (3, 20), (3, 21), (3, 22), (3, 23), (4, 0), (4, 1), (4, 2), (4, 3), (4, 4), (4, 5), (4, 6), (4, 7), (4, 8), (4, 9), (4, 10), (4, 11), (4, 12), (4, 13), (4, 14), (4, 15), (4, 16), (4, 17), (4, 18), (4, 19), (4, 20), (4, 21), (4, 22), (4, 23), (5, 0), (5, 1), (5, 2), (5, 3), (5, 4), (5, 5), (5, 6), (5, 7), (5, 8), (5, 9), (5, 10), (5, 11), (5, 12), (5, 13), (5, 14), (5, 15), (5, 16), (5, 17), (5, 18), (5, 19), (5, 20), (5, 21), (5, 22), (5, 23), (6, 0), (6, 1), (6, 2), (6, 3), (6, 4), (6, 5), (6, 6), (6, 7), (6, 8), (6, 9), (6, 10), (6, 11), (6, 12), (6, 13), (6, 14), (6, 15), (6, 16), (6, 17), (6, 18), (6, 19), (6, 20), (6, 21), (6, 22), (6, 23), (7, 0), (7, 1), (7, 2), (7, 3), (7, 4), (7, 5), (7, 6), (7, 7), (7, 8), (7, 9), (7, 10), (7, 11), (7, 12), (7, 13), (7, 14), (7, 15), (7, 16), (7, 17), (7, 18), (7, 19), (7, 20), (7, 21), (7, 22), (7, 23), (8, 0), (8, 1), (8, 2), (8, 3), (8, 4), (8, 5), (8, 6), (8, 7), (8, 8), (8, 9), (8, 10), (8, 11), (8, 12), (8, 13), (8, 14), (8, 15), (8, 16), (8, 17), (8, 18), (8, 19), (8, 20), (8, 21), (8, 22), (8, 23), (9, 0), (9, 1), (9, 2), (9, 3), (10, 0), (10, 1), (10, 2), (10, 3), (10, 4), (10, 5), (10, 6), (10, 7), (10, 8), (10, 9), (10, 10), (10, 11), (12, 0), (12, 1), (13, 0), (13, 1), (13, 2), (13, 3), (11, 0), (11, 1), (11, 2), (11, 3), (11, 4), (11, 5), (11, 6), (14, 0), (14, 1), (14, 2), (14, 3), (14, 4), (14, 5), (14, 6), (14, 7), (14, 8), (14, 9), (14, 10), (15, 0), (15, 1), (15, 2), (15, 3), (15, 4), (15, 5), (15, 6), (16, 0), (16, 1), (16, 2), (16, 3), (16, 4), (16, 5), (16, 6), (16, 7), (16, 8), (16, 9), (16, 10), (16, 11), (16, 12)] rfl (by decide +kernel)
set_option maxRecDepth 20000 in
theorem gX9_undo_X9_redraw : GoodIn wsX9_undo (wsV RX9 86 RX9 yX9_redraw wsX9_redraw) := goodIn_app (goodIn_r ([.methodLink RX9 86 yX9_redraw, .instanceMethod yX9_redraw, .selects RX9 yX9_redraw yX9_redraw, .initialized RX9] : List Cond) [23, 24, 25, 16] rfl (by decide +kernel)) ggX9_undo_X9_redraw
theorem dX9_undo_0 : decode cX9_undo 0 = .ok (.aload_n 0, 1) := de_42 (by decide +kernel)
theorem dX9_undo_1 : decode cX9_undo 1 = .ok (.getfield 12, 3) := de_180 (by decide +kernel)
theorem dX9_undo_4 : decode cX9_undo 4 = .ok (.invokevirtual 92, 3) := de_182 (by decide +kernel)
theorem dX9_undo_7 : decode cX9_undo 7 = .ok (.ifCond .eq 13, 3) := de_153 (by decide +kernel)
theorem dX9_undo_10 : decode cX9_undo 10 = .ok (.aload_n 0, 1) := de_42 (by decide +kernel)
theorem dX9_undo_11 : decode cX9_undo 11 = .ok (.getfield 12, 3) := de_180 (by decide +kernel)
theorem dX9_undo_14 : decode cX9_undo 14 = .ok (.invokevirtual 100, 3) := de_182 (by decide +kernel)
theorem dX9_undo_17 : decode cX9_undo 17 = .ok (.ifCond .ne 10, 3) := de_154 (by decide +kernel)
theorem dX9_undo_20 : decode cX9_undo 20 = .ok (.aload_n 0, 1) := de_42 (by decide +kernel)
theorem dX9_undo_21 : decode cX9_undo 21 = .ok (.bipush (-4), 2) := de_16 (by decide +kernel)
theorem dX9_undo_23 : decode cX9_undo 23 = .ok (.invokevirtual 74, 3) := de_182 (by decide +kernel)
theorem dX9_undo_26 : decode cX9_undo 26 = .ok (.ireturn, 1) := de_172 (by decide +kernel)
theorem dX9_undo_27 : decode cX9_undo 27 = .ok (.aload_n 0, 1) := de_42 (by decide +kernel)
theorem dX9_undo_28 : decode cX9_undo 28 = .ok (.getfield 12, 3) := de_180 (by decide +kernel)
theorem dX9_undo_31 : decode cX9_undo 31 = .ok (.invokevirtual 108, 3) := de_182 (by decide +kernel)
theorem dX9_undo_34 : decode cX9_undo 34 = .ok (.aload_n 0, 1) := de_42 (by decide +kernel)
theorem dX9_undo_35 : decode cX9_undo 35 = .ok (.invokevirtual 86, 3) := de_182 (by decide +kernel)
theorem dX9_undo_38 : decode cX9_undo 38 = .ok (.aload_n 0, 1) := de_42 (by decide +kernel)
theorem dX9_undo_39 : decode cX9_undo 39 = .ok (.getfield 12, 3) := de_180 (by decide +kernel)
theorem dX9_undo_42 : decode cX9_undo 42 = .ok (.invokevirtual 100, 3) := de_182 (by decide +kernel)
theorem dX9_undo_45 : decode cX9_undo 45 = .ok (.ireturn, 1) := de_172 (by decide +kernel)
set_option maxRecDepth 20000 in
theorem ggX9_count_X1_isThere : GoodIn wsX9_count wsX1_isThere := goodIn_r _ [16, 17, 48, 49, 50, 51, 52, 53, 54] rfl (by decide +kernel)
set_option maxRecDepth 20000 in
theorem gX9_count_X1_isThere : GoodIn wsX9_count (wsV RX9 92 RX1 yX1_isThere wsX1_isThere) := goodIn_app (goodIn_r ([.methodLink RX9 92 yX1_isThere, .instanceMethod yX1_isThere, .selects RX1 yX1_isThere yX1_isThere, .initialized RX1] : List Cond) [12, 13, 14, 15] rfl (by decide +kernel)) ggX9_count_X1_isThere
def ckX9_count : List (List Cond) := [wsX9_count_r1, wsX9_count_r2, wsX90, wsX10, wsX60, wsX40, wsX80, wsX70]
theorem ckX9_count_in : ∀ c ∈ ckX9_count, ∀ w ∈ c, w ∈ wsX9_count := List.forall_mem_cons.mpr ⟨fun _ h9 => List.mem_cons_of_mem _ (List.mem_append_left _ (List.mem_append_left _ (List.mem_append_left _ (List.mem_append_left _ (List.mem_append_left _ (List.mem_append_left _ (List.mem_append_left _ h9))))))), List.forall_mem_cons.mpr ⟨fun _ h9 => List.mem_cons_of_mem _ (List.mem_append_left _ (List.mem_append_left _ (List.mem_append_left _ (List.mem_append_left _ (List.mem_append_left _ (List.mem_append_left _ (List.mem_append_right _ h9))))))), List.forall_mem_cons.mpr ⟨fun _ h9 => List.mem_cons_of_mem _ (List.mem_append_left _ (List.mem_append_left _ (List.mem_append_left _ (List.mem_append_left _ (List.mem_append_left _ (List.mem_append_right _ h9)))))), List.forall_mem_cons.mpr ⟨fun _ h9 => List.mem_cons_of_mem _ (List.mem_append_left _ (List.mem_append_left _ (List.mem_append_left _ (List.mem_append_left _ (List.mem_append_right _ h9))))), List.forall_mem_cons.mpr ⟨fun _ h9 => List.mem_cons_of_mem _ (List.mem_append_left _ (List.mem_append_left _ (List.mem_append_left _ (List.mem_append_right _ h9)))), List.forall_mem_cons.mpr ⟨fun _ h9 => List.mem_cons_of_mem _ (List.mem_append_left _ (List.mem_append_left _ (List.mem_append_right _ h9))), List.forall_mem_cons.mpr ⟨fun _ h9 => List.mem_cons_of_mem _ (List.mem_append_left _ (List.mem_append_right _ h9)), List.forall_mem_cons.mpr ⟨fun _ h9 => List.mem_cons_of_mem _ (List.mem_append_right _ h9), List.forall_mem_nil _⟩⟩⟩⟩⟩⟩⟩⟩
set_option maxRecDepth 20000 in
theorem ggX9_count_X9_tell : GoodIn wsX9_count wsX9_tell := goodIn_k ckX9_count_in _ [(0, 21), (0, 22), (2, 0), (2, 1), (2, 2), (2, 3), (2, 4), (2, 5), (2, 6), (2, 7), (2, 8), (2, 9), (2, 10), (2, 11)] rfl (by decide +kernel)
set_option maxRecDepth 20000 in
theorem gX9_count_X9_tell : GoodIn wsX9_count (wsV RX9 74 RX9 yX9_tell wsX9_tell) := goodIn_app (goodIn_r ([.methodLink RX9 74 yX9_tell, .instanceMethod yX9_tell, .selects RX9 yX9_tell yX9_tell, .initialized RX9] : List Cond) [18, 19, 20, 21] rfl (by decide +kernel)) ggX9_count_X9_tell
set_option maxRecDepth 20000 in
theorem ggX9_count_X1_leads : GoodIn wsX9_count wsX1_leads := goodIn_k ckX9_count_in _ [(1, 2), (1, 3), (3, 0), (3, 1), (3, 2), (3, 3), (3, 4), (3, 5), (3, 6)] rfl (by decide +kernel)
set_option maxRecDepth 20000 in
theorem gX9_count_X1_leads : GoodIn wsX9_count (wsV RX9 100 RX1 yX1_leads wsX1_leads) := goodIn_app (goodIn_r ([.methodLink RX9 100 yX1_leads, .instanceMethod yX1_leads, .selects RX1 yX1_leads yX1_leads, .initialized RX1] : List Cond) [24, 25, 26, 15] rfl (by decide +kernel)) ggX9_count_X1_leads
set_option maxRecDepth 20000 in
theorem ggX9_count_X8_looseSteps : GoodIn wsX9_count wsX8_looseSteps := goodIn_k ckX9_count_in _ [(1, 8), (1, 9), (1, 10), (6, 0), (6, 1), (6, 2), (6, 3), (6, 4), (6, 5), (6, 6), (6, 7), (6, 8), (6, 9), (6, 10)] rfl (by decide +kernel)
set_option maxRecDepth 20000 in
theorem gX9_count_X8_looseSteps : GoodIn wsX9_count (wsV RX9 133 RX8 yX8_looseSteps wsX8_looseSteps) := goodIn_app (goodIn_r ([.methodLink RX9 133 yX8_looseSteps, .instanceMethod yX8_looseSteps, .selects RX8 yX8_looseSteps yX8_looseSteps, .initialized RX8] : List Cond) [29, 30, 31, 32] rfl (by decide +kernel)) ggX9_count_X8_looseSteps
theorem dX9_count_0 : decode cX9_count 0 = .ok (.aload_n 0, 1) := de_42 (by decide +kernel)
theorem dX9_count_1 : decode cX9_count 1 = .ok (.getfield 12, 3) := de_180 (by decide +kernel)
theorem dX9_count_4 : decode cX9_count 4 = .ok (.invokevirtual 92, 3) := de_182 (by decide +kernel)
theorem dX9_count_7 : decode cX9_count 7 = .ok (.ifCond .ne 10, 3) := de_154 (by decide +kernel)
theorem dX9_count_10 : decode cX9_count 10 = .ok (.aload_n 0, 1) := de_42 (by decide +kernel)
theorem dX9_count_11 : decode cX9_count 11 = .ok (.bipush (-4), 2) := de_16 (by decide +kernel)
theorem dX9_count_13 : decode cX9_count 13 = .ok (.invokevirtual 74, 3) := de_182 (by decide +kernel)
theorem dX9_count_16 : decode cX9_count 16 = .ok (.ireturn, 1) := de_172 (by decide +kernel)
theorem dX9_count_17 : decode cX9_count 17 = .ok (.iload_n 1, 1) := de_27 (by decide +kernel)
theorem dX9_count_18 : decode cX9_count 18 = .ok (.tableswitch 120 0 7 #[46, 54, 62, 70, 81, 94, 107, 115], 46) := by decide +kernel
theorem dX9_count_64 : decode cX9_count 64 = .ok (.aload_n 0, 1) := de_42 (by decide +kernel)
theorem dX9_count_65 : decode cX9_count 65 = .ok (.getfield 12, 3) := de_180 (by decide +kernel)
theorem dX9_count_68 : decode cX9_count 68 = .ok (.getfield 111, 3) := de_180 (by decide +kernel)
theorem dX9_count_71 : decode cX9_count 71 = .ok (.ireturn, 1) := de_172 (by decide +kernel)
theorem dX9_count_72 : decode cX9_count 72 = .ok (.aload_n 0, 1) := de_42 (by decide +kernel)
theorem dX9_count_73 : decode cX9_count 73 = .ok (.getfield 12, 3) := de_180 (by decide +kernel)
theorem dX9_count_76 : decode cX9_count 76 = .ok (.getfield 114, 3) := de_180 (by decide +kernel)
theorem dX9_count_79 : decode cX9_count 79 = .ok (.ireturn, 1) := de_172 (by decide +kernel)
theorem dX9_count_80 : decode cX9_count 80 = .ok (.aload_n 0, 1) := de_42 (by decide +kernel)
theorem dX9_count_81 : decode cX9_count 81 = .ok (.getfield 12, 3) := de_180 (by decide +kernel)
theorem dX9_count_84 : decode cX9_count 84 = .ok (.invokevirtual 100, 3) := de_182 (by decide +kernel)
theorem dX9_count_87 : decode cX9_count 87 = .ok (.ireturn, 1) := de_172 (by decide +kernel)
theorem dX9_count_88 : decode cX9_count 88 = .ok (.aload_n 0, 1) := de_42 (by decide +kernel)
theorem dX9_count_89 : decode cX9_count 89 = .ok (.getfield 30, 3) := de_180 (by decide +kernel)
theorem dX9_count_92 : decode cX9_count 92 = .ok (.getfield 117, 3) := de_180 (by decide +kernel)
theorem dX9_count_95 : decode cX9_count 95 = .ok (.getfield 121, 3) := de_180 (by decide +kernel)
theorem dX9_count_98 : decode cX9_count 98 = .ok (.ireturn, 1) := de_172 (by decide +kernel)
theorem dX9_count_99 : decode cX9_count 99 = .ok (.aload_n 0, 1) := de_42 (by decide +kernel)
theorem dX9_count_100 : decode cX9_count 100 = .ok (.getfield 30, 3) := de_180 (by decide +kernel)
theorem dX9_count_103 : decode cX9_count 103 = .ok (.getfield 124, 3) := de_180 (by decide +kernel)
theorem dX9_count_106 : decode cX9_count 106 = .ok (.getfield 128, 3) := de_180 (by decide +kernel)
theorem dX9_count_109 : decode cX9_count 109 = .ok (.iconst 2, 1) := de_5 (by decide +kernel)
theorem dX9_count_110 : decode cX9_count 110 = .ok (.idiv, 1) := de_108 (by decide +kernel)
theorem dX9_count_111 : decode cX9_count 111 = .ok (.ireturn, 1) := de_172 (by decide +kernel)
theorem dX9_count_112 : decode cX9_count 112 = .ok (.aload_n 0, 1) := de_42 (by decide +kernel)
theorem dX9_count_113 : decode cX9_count 113 = .ok (.getfield 30, 3) := de_180 (by decide +kernel)
theorem dX9_count_116 : decode cX9_count 116 = .ok (.getfield 124, 3) := de_180 (by decide +kernel)
theorem dX9_count_119 : decode cX9_count 119 = .ok (.invokevirtual 133, 3) := de_182 (by decide +kernel)
theorem dX9_count_122 : decode cX9_count 122 = .ok (.iconst 2, 1) := de_5 (by decide +kernel)
theorem dX9_count_123 : decode cX9_count 123 = .ok (.idiv, 1) := de_108 (by decide +kernel)
theorem dX9_count_124 : decode cX9_count 124 = .ok (.ireturn, 1) := de_172 (by decide +kernel)
theorem dX9_count_125 : decode cX9_count 125 = .ok (.aload_n 0, 1) := de_42 (by decide +kernel)
theorem dX9_count_126 : decode cX9_count 126 = .ok (.getfield 39, 3) := de_180 (by decide +kernel)
theorem dX9_count_129 : decode cX9_count 129 = .ok (.getfield 89, 3) := de_180 (by decide +kernel)
theorem dX9_count_132 : decode cX9_count 132 = .ok (.ireturn, 1) := de_172 (by decide +kernel)
theorem dX9_count_133 : decode cX9_count 133 = .ok (.aload_n 0, 1) := de_42 (by decide +kernel)
theorem dX9_count_134 : decode cX9_count 134 = .ok (.getfield 67, 3) := de_180 (by decide +kernel)
theorem dX9_count_137 : decode cX9_count 137 = .ok (.ireturn, 1) := de_172 (by decide +kernel)
theorem dX9_count_138 : decode cX9_count 138 = .ok (.aload_n 0, 1) := de_42 (by decide +kernel)
theorem dX9_count_139 : decode cX9_count 139 = .ok (.iconst (-1), 1) := de_2 (by decide +kernel)
theorem dX9_count_140 : decode cX9_count 140 = .ok (.invokevirtual 74, 3) := de_182 (by decide +kernel)
theorem dX9_count_143 : decode cX9_count 143 = .ok (.ireturn, 1) := de_172 (by decide +kernel)
def ckX9_joint : List (List Cond) := [wsX9_joint_r1, wsX9_joint_r2, wsX90, wsX60, wsX40, wsX10, wsX80]
theorem ckX9_joint_in : ∀ c ∈ ckX9_joint, ∀ w ∈ c, w ∈ wsX9_joint := List.forall_mem_cons.mpr ⟨fun _ h9 => List.mem_cons_of_mem _ (List.mem_append_left _ (List.mem_append_left _ (List.mem_append_left _ (List.mem_append_left _ (List.mem_append_left _ (List.mem_append_left _ h9)))))), List.forall_mem_cons.mpr ⟨fun _ h9 => List.mem_cons_of_mem _ (List.mem_append_left _ (List.mem_append_left _ (List.mem_append_left _ (List.mem_append_left _ (List.mem_append_left _ (List.mem_append_right _ h9)))))), List.forall_mem_cons.mpr ⟨fun _ h9 => List.mem_cons_of_mem _ (List.mem_append_left _ (List.mem_append_left _ (List.mem_append_left _ (List.mem_append_left _ (List.mem_append_right _ h9))))), List.forall_mem_cons.mpr ⟨fun _ h9 => List.mem_cons_of_mem _ (List.mem_append_left _ (List.mem_append_left _ (List.mem_append_left _ (List.mem_append_right _ h9)))), List.forall_mem_cons.mpr ⟨fun _ h9 => List.mem_cons_of_mem _ (List.mem_append_left _ (List.mem_append_left _ (List.mem_append_right _ h9))), List.forall_mem_cons.mpr ⟨fun _ h9 => List.mem_cons_of_mem _ (List.mem_append_left _ (List.mem_append_right _ h9)), List.forall_mem_cons.mpr ⟨fun _ h9 => List.mem_cons_of_mem _ (List.mem_append_right _ h9), List.forall_mem_nil _⟩⟩⟩⟩⟩⟩⟩
set_option maxRecDepth 20000 in
theorem ggX9_joint_X1_isThere : GoodIn wsX9_joint wsX1_isThere := goodIn_k ckX9_joint_in _ [(0, 11), (0, 12), (5, 0), (5, 1), (5, 2), (5, 3), (5, 4), (5, 5), (5, 6)] rfl (by decide +kernel)
set_option maxRecDepth 20000 in
theorem gX9_joint_X1_isThere : GoodIn wsX9_joint (wsV RX9 92 RX1 yX1_isThere wsX1_isThere) := goodIn_app (goodIn_r ([.methodLink RX9 92 yX1_isThere, .instanceMethod yX1_isThere, .selects RX1 yX1_isThere yX1_isThere, .initialized RX1] : List Cond) [8, 9, 10, 11] rfl (by decide +kernel)) ggX9_joint_X1_isThere
set_option maxRecDepth 20000 in
theorem ggX9_joint_X9_tell : GoodIn wsX9_joint wsX9_tell := goodIn_k ckX9_joint_in _ [(0, 17), (0, 18), (2, 0), (2, 1), (2, 2), (2, 3), (2, 4), (2, 5), (2, 6), (2, 7), (2, 8), (2, 9), (2, 10), (2, 11)] rfl (by decide +kernel)
set_option maxRecDepth 20000 in
theorem gX9_joint_X9_tell : GoodIn wsX9_joint (wsV RX9 74 RX9 yX9_tell wsX9_tell) := goodIn_app (goodIn_r ([.methodLink RX9 74 yX9_tell, .instanceMethod yX9_tell, .selects RX9 yX9_tell yX9_tell, .initialized RX9] : List Cond) [14, 15, 16, 17] rfl (by decide +kernel)) ggX9_joint_X9_tell
set_option maxRecDepth 20000 in
theorem ggX9_joint_X9_hasJoint : GoodIn wsX9_joint wsX9_hasJoint := goodIn_k ckX9_joint_in _ [(0, 22), (0, 1), (0, 2), (0, 23), (2, 0), (2, 1), (2, 2), (2, 3), (2, 4), (2, 5), (2, 6), (2, 7), (2, 8), (2, 9), (2, 10), (2, 11), (3, 0), (3, 1), (4, 0), (4, 1), (4, 2), (4, 3)] rfl (by decide +kernel)
set_option maxRecDepth 20000 in
theorem gX9_joint_X9_hasJoint : GoodIn wsX9_joint (wsV RX9 136 RX9 yX9_hasJoint wsX9_hasJoint) := goodIn_app (goodIn_r ([.methodLink RX9 136 yX9_hasJoint, .instanceMethod yX9_hasJoint, .selects RX9 yX9_hasJoint yX9_hasJoint, .initialized RX9] : List Cond) [20, 21, 22, 17] rfl (by decide +kernel)) ggX9_joint_X9_hasJoint
set_option maxRecDepth 20000 in
theorem ggX9_joint_X4_above : GoodIn wsX9_joint wsX4_above := goodIn_r _ [29, 30, 17, 31] rfl (by decide +kernel)
set_option maxRecDepth 20000 in
theorem gX9_joint_X4_above : GoodIn wsX9_joint (wsV RX9 145 RX4 yX4_above wsX4_above) := goodIn_app (goodIn_r ([.methodLink RX9 145 yX4_above, .instanceMethod yX4_above, .selects RX4 yX4_above yX4_above, .initialized RX4] : List Cond) [25, 26, 27, 28] rfl (by decide +kernel)) ggX9_joint_X4_above
set_option maxRecDepth 20000 in
theorem ggX9_joint_X4_below : GoodIn wsX9_joint wsX4_below := goodIn_r _ [35, 30, 17, 31] rfl (by decide +kernel)
set_option maxRecDepth 20000 in
theorem gX9_joint_X4_below : GoodIn wsX9_joint (wsV RX9 149 RX4 yX4_below wsX4_below) := goodIn_app (goodIn_r ([.methodLink RX9 149 yX4_below, .instanceMethod yX4_below, .selects RX4 yX4_below yX4_below, .initialized RX4] : List Cond) [32, 33, 34, 28] rfl (by decide +kernel)) ggX9_joint_X4_below
set_option maxRecDepth 20000 in
theorem ggX9_joint_X8_endsAt : GoodIn wsX9_joint wsX8_endsAt := goodIn_k ckX9_joint_in _ [(1, 15), (1, 16), (6, 0), (6, 1), (6, 2), (6, 3), (6, 4), (6, 5), (6, 6), (6, 7), (6, 8), (6, 9), (6, 10)] rfl (by decide +kernel)
set_option maxRecDepth 20000 in
theorem gX9_joint_X8_endsAt : GoodIn wsX9_joint (wsV RX9 155 RX8 yX8_endsAt wsX8_endsAt) := goodIn_app (goodIn_r ([.methodLink RX9 155 yX8_endsAt, .instanceMethod yX8_endsAt, .selects RX8 yX8_endsAt yX8_endsAt, .initialized RX8] : List Cond) [36, 37, 38, 39] rfl (by decide +kernel)) ggX9_joint_X8_endsAt
set_option maxRecDepth 20000 in
theorem ggX9_joint_X8_firmEndsAt : GoodIn wsX9_joint wsX8_firmEndsAt := goodIn_k ckX9_joint_in _ [(1, 20), (1, 21), (6, 0), (6, 1), (6, 2), (6, 3), (6, 4), (6, 5), (6, 6), (6, 7), (6, 8), (6, 9), (6, 10)] rfl (by decide +kernel)
set_option maxRecDepth 20000 in
theorem gX9_joint_X8_firmEndsAt : GoodIn wsX9_joint (wsV RX9 158 RX8 yX8_firmEndsAt wsX8_firmEndsAt) := goodIn_app (goodIn_r ([.methodLink RX9 158 yX8_firmEndsAt, .instanceMethod yX8_firmEndsAt, .selects RX8 yX8_firmEndsAt yX8_firmEndsAt, .initialized RX8] : List Cond) [42, 43, 44, 39] rfl (by decide +kernel)) ggX9_joint_X8_firmEndsAt
theorem dX9_joint_0 : decode cX9_joint 0 = .ok (.aload_n 0, 1) := de_42 (by decide +kernel)
theorem dX9_joint_1 : decode cX9_joint 1 = .ok (.getfield 12, 3) := de_180 (by decide +kernel)
theorem dX9_joint_4 : decode cX9_joint 4 = .ok (.invokevirtual 92, 3) := de_182 (by decide +kernel)
theorem dX9_joint_7 : decode cX9_joint 7 = .ok (.ifCond .ne 10, 3) := de_154 (by decide +kernel)
theorem dX9_joint_10 : decode cX9_joint 10 = .ok (.aload_n 0, 1) := de_42 (by decide +kernel)
theorem dX9_joint_11 : decode cX9_joint 11 = .ok (.bipush (-4), 2) := de_16 (by decide +kernel)
theorem dX9_joint_13 : decode cX9_joint 13 = .ok (.invokevirtual 74, 3) := de_182 (by decide +kernel)
theorem dX9_joint_16 : decode cX9_joint 16 = .ok (.ireturn, 1) := de_172 (by decide +kernel)
theorem dX9_joint_17 : decode cX9_joint 17 = .ok (.aload_n 0, 1) := de_42 (by decide +kernel)
theorem dX9_joint_18 : decode cX9_joint 18 = .ok (.iload_n 1, 1) := de_27 (by decide +kernel)
theorem dX9_joint_19 : decode cX9_joint 19 = .ok (.invokevirtual 136, 3) := de_182 (by decide +kernel)
theorem dX9_joint_22 : decode cX9_joint 22 = .ok (.ifCond .ne 9, 3) := de_154 (by decide +kernel)
theorem dX9_joint_25 : decode cX9_joint 25 = .ok (.aload_n 0, 1) := de_42 (by decide +kernel)
theorem dX9_joint_26 : decode cX9_joint 26 = .ok (.iconst (-1), 1) := de_2 (by decide +kernel)
theorem dX9_joint_27 : decode cX9_joint 27 = .ok (.invokevirtual 74, 3) := de_182 (by decide +kernel)
theorem dX9_joint_30 : decode cX9_joint 30 = .ok (.ireturn, 1) := de_172 (by decide +kernel)
theorem dX9_joint_31 : decode cX9_joint 31 = .ok (.aload_n 0, 1) := de_42 (by decide +kernel)
theorem dX9_joint_32 : decode cX9_joint 32 = .ok (.getfield 30, 3) := de_180 (by decide +kernel)
theorem dX9_joint_35 : decode cX9_joint 35 = .ok (.getfield 117, 3) := de_180 (by decide +kernel)
theorem dX9_joint_38 : decode cX9_joint 38 = .ok (.astore_n 3, 1) := de_78 (by decide +kernel)
theorem dX9_joint_39 : decode cX9_joint 39 = .ok (.iload_n 2, 1) := de_28 (by decide +kernel)
theorem dX9_joint_40 : decode cX9_joint 40 = .ok (.tableswitch 132 0 5 #[40, 57, 74, 91, 108, 120], 40) := by decide +kernel
theorem dX9_joint_80 : decode cX9_joint 80 = .ok (.aload_n 3, 1) := de_45 (by decide +kernel)
theorem dX9_joint_81 : decode cX9_joint 81 = .ok (.aload_n 3, 1) := de_45 (by decide +kernel)
theorem dX9_joint_82 : decode cX9_joint 82 = .ok (.getfield 139, 3) := de_180 (by decide +kernel)
theorem dX9_joint_85 : decode cX9_joint 85 = .ok (.iload_n 1, 1) := de_27 (by decide +kernel)
theorem dX9_joint_86 : decode cX9_joint 86 = .ok (.iaload, 1) := de_46 (by decide +kernel)
theorem dX9_joint_87 : decode cX9_joint 87 = .ok (.aload_n 3, 1) := de_45 (by decide +kernel)
theorem dX9_joint_88 : decode cX9_joint 88 = .ok (.getfield 142, 3) := de_180 (by decide +kernel)
theorem dX9_joint_91 : decode cX9_joint 91 = .ok (.iload_n 1, 1) := de_27 (by decide +kernel)
theorem dX9_joint_92 : decode cX9_joint 92 = .ok (.iaload, 1) := de_46 (by decide +kernel)
theorem dX9_joint_93 : decode cX9_joint 93 = .ok (.invokevirtual 145, 3) := de_182 (by decide +kernel)
theorem dX9_joint_96 : decode cX9_joint 96 = .ok (.ireturn, 1) := de_172 (by decide +kernel)
theorem dX9_joint_97 : decode cX9_joint 97 = .ok (.aload_n 3, 1) := de_45 (by decide +kernel)
theorem dX9_joint_98 : decode cX9_joint 98 = .ok (.aload_n 3, 1) := de_45 (by decide +kernel)
theorem dX9_joint_99 : decode cX9_joint 99 = .ok (.getfield 139, 3) := de_180 (by decide +kernel)
theorem dX9_joint_102 : decode cX9_joint 102 = .ok (.iload_n 1, 1) := de_27 (by decide +kernel)
theorem dX9_joint_103 : decode cX9_joint 103 = .ok (.iaload, 1) := de_46 (by decide +kernel)
theorem dX9_joint_104 : decode cX9_joint 104 = .ok (.aload_n 3, 1) := de_45 (by decide +kernel)
theorem dX9_joint_105 : decode cX9_joint 105 = .ok (.getfield 142, 3) := de_180 (by decide +kernel)
theorem dX9_joint_108 : decode cX9_joint 108 = .ok (.iload_n 1, 1) := de_27 (by decide +kernel)
theorem dX9_joint_109 : decode cX9_joint 109 = .ok (.iaload, 1) := de_46 (by decide +kernel)
theorem dX9_joint_110 : decode cX9_joint 110 = .ok (.invokevirtual 149, 3) := de_182 (by decide +kernel)
theorem dX9_joint_113 : decode cX9_joint 113 = .ok (.ireturn, 1) := de_172 (by decide +kernel)
theorem dX9_joint_114 : decode cX9_joint 114 = .ok (.aload_n 3, 1) := de_45 (by decide +kernel)
theorem dX9_joint_115 : decode cX9_joint 115 = .ok (.aload_n 3, 1) := de_45 (by decide +kernel)
theorem dX9_joint_116 : decode cX9_joint 116 = .ok (.getfield 152, 3) := de_180 (by decide +kernel)
theorem dX9_joint_119 : decode cX9_joint 119 = .ok (.iload_n 1, 1) := de_27 (by decide +kernel)
theorem dX9_joint_120 : decode cX9_joint 120 = .ok (.iaload, 1) := de_46 (by decide +kernel)
theorem dX9_joint_121 : decode cX9_joint 121 = .ok (.aload_n 3, 1) := de_45 (by decide +kernel)
theorem dX9_joint_122 : decode cX9_joint 122 = .ok (.getfield 142, 3) := de_180 (by decide +kernel)
theorem dX9_joint_125 : decode cX9_joint 125 = .ok (.iload_n 1, 1) := de_27 (by decide +kernel)
theorem dX9_joint_126 : decode cX9_joint 126 = .ok (.iaload, 1) := de_46 (by decide +kernel)
theorem dX9_joint_127 : decode cX9_joint 127 = .ok (.invokevirtual 145, 3) := de_182 (by decide +kernel)
theorem dX9_joint_130 : decode cX9_joint 130 = .ok (.ireturn, 1) := de_172 (by decide +kernel)
theorem dX9_joint_131 : decode cX9_joint 131 = .ok (.aload_n 3, 1) := de_45 (by decide +kernel)
theorem dX9_joint_132 : decode cX9_joint 132 = .ok (.aload_n 3, 1) := de_45 (by decide +kernel)
theorem dX9_joint_133 : decode cX9_joint 133 = .ok (.getfield 152, 3) := de_180 (by decide +kernel)
theorem dX9_joint_136 : decode cX9_joint 136 = .ok (.iload_n 1, 1) := de_27 (by decide +kernel)
theorem dX9_joint_137 : decode cX9_joint 137 = .ok (.iaload, 1) := de_46 (by decide +kernel)
theorem dX9_joint_138 : decode cX9_joint 138 = .ok (.aload_n 3, 1) := de_45 (by decide +kernel)
theorem dX9_joint_139 : decode cX9_joint 139 = .ok (.getfield 142, 3) := de_180 (by decide +kernel)
theorem dX9_joint_142 : decode cX9_joint 142 = .ok (.iload_n 1, 1) := de_27 (by decide +kernel)
theorem dX9_joint_143 : decode cX9_joint 143 = .ok (.iaload, 1) := de_46 (by decide +kernel)
theorem dX9_joint_144 : decode cX9_joint 144 = .ok (.invokevirtual 149, 3) := de_182 (by decide +kernel)
theorem dX9_joint_147 : decode cX9_joint 147 = .ok (.ireturn, 1) := de_172 (by decide +kernel)
theorem dX9_joint_148 : decode cX9_joint 148 = .ok (.aload_n 0, 1) := de_42 (by decide +kernel)
theorem dX9_joint_149 : decode cX9_joint 149 = .ok (.getfield 30, 3) := de_180 (by decide +kernel)
theorem dX9_joint_152 : decode cX9_joint 152 = .ok (.getfield 124, 3) := de_180 (by decide +kernel)
theorem dX9_joint_155 : decode cX9_joint 155 = .ok (.iload_n 1, 1) := de_27 (by decide +kernel)
theorem dX9_joint_156 : decode cX9_joint 156 = .ok (.invokevirtual 155, 3) := de_182 (by decide +kernel)
theorem dX9_joint_159 : decode cX9_joint 159 = .ok (.ireturn, 1) := de_172 (by decide +kernel)
theorem dX9_joint_160 : decode cX9_joint 160 = .ok (.aload_n 0, 1) := de_42 (by decide +kernel)
theorem dX9_joint_161 : decode cX9_joint 161 = .ok (.getfield 30, 3) := de_180 (by decide +kernel)
theorem dX9_joint_164 : decode cX9_joint 164 = .ok (.getfield 124, 3) := de_180 (by decide +kernel)
theorem dX9_joint_167 : decode cX9_joint 167 = .ok (.iload_n 1, 1) := de_27 (by decide +kernel)
theorem dX9_joint_168 : decode cX9_joint 168 = .ok (.invokevirtual 158, 3) := de_182 (by decide +kernel)
theorem dX9_joint_171 : decode cX9_joint 171 = .ok (.ireturn, 1) := de_172 (by decide +kernel)
theorem dX9_joint_172 : decode cX9_joint 172 = .ok (.aload_n 0, 1) := de_42 (by decide +kernel)
theorem dX9_joint_173 : decode cX9_joint 173 = .ok (.iconst (-1), 1) := de_2 (by decide +kernel)
theorem dX9_joint_174 : decode cX9_joint 174 = .ok (.invokevirtual 74, 3) := de_182 (by decide +kernel)
theorem dX9_joint_177 : decode cX9_joint 177 = .ok (.ireturn, 1) := de_172 (by decide +kernel)
def ckX9_piece : List (List Cond) := [wsX9_piece_r1, wsX9_piece_r2, wsX90, wsX60, wsX80, wsX10, wsX40]
theorem ckX9_piece_in : ∀ c ∈ ckX9_piece, ∀ w ∈ c, w ∈ wsX9_piece := List.forall_mem_cons.mpr ⟨fun _ h9 => List.mem_cons_of_mem _ (List.mem_append_left _ (List.mem_append_left _ (List.mem_append_left _ (List.mem_append_left _ (List.mem_append_left _ (List.mem_append_left _ h9)))))), List.forall_mem_cons.mpr ⟨fun _ h9 => List.mem_cons_of_mem _ (List.mem_append_left _ (List.mem_append_left _ (List.mem_append_left _ (List.mem_append_left _ (List.mem_append_left _ (List.mem_append_right _ h9)))))), List.forall_mem_cons.mpr ⟨fun _ h9 => List.mem_cons_of_mem _ (List.mem_append_left _ (List.mem_append_left _ (List.mem_append_left _ (List.mem_append_left _ (List.mem_append_right _ h9))))), List.forall_mem_cons.mpr ⟨fun _ h9 => List.mem_cons_of_mem _ (List.mem_append_left _ (List.mem_append_left _ (List.mem_append_left _ (List.mem_append_right _ h9)))), List.forall_mem_cons.mpr ⟨fun _ h9 => List.mem_cons_of_mem _ (List.mem_append_left _ (List.mem_append_left _ (List.mem_append_right _ h9))), List.forall_mem_cons.mpr ⟨fun _ h9 => List.mem_cons_of_mem _ (List.mem_append_left _ (List.mem_append_right _ h9)), List.forall_mem_cons.mpr ⟨fun _ h9 => List.mem_cons_of_mem _ (List.mem_append_right _ h9), List.forall_mem_nil _⟩⟩⟩⟩⟩⟩⟩
set_option maxRecDepth 20000 in
theorem ggX9_piece_X1_isThere : GoodIn wsX9_piece wsX1_isThere := goodIn_k ckX9_piece_in _ [(0, 8), (0, 9), (5, 0), (5, 1), (5, 2), (5, 3), (5, 4), (5, 5), (5, 6)] rfl (by decide +kernel)
set_option maxRecDepth 20000 in
theorem gX9_piece_X1_isThere : GoodIn wsX9_piece (wsV RX9 92 RX1 yX1_isThere wsX1_isThere) := goodIn_app (goodIn_r ([.methodLink RX9 92 yX1_isThere, .instanceMethod yX1_isThere, .selects RX1 yX1_isThere yX1_isThere, .initialized RX1] : List Cond) [5, 6, 7, 8] rfl (by decide +kernel)) ggX9_piece_X1_isThere
set_option maxRecDepth 20000 in
theorem ggX9_piece_X9_tell : GoodIn wsX9_piece wsX9_tell := goodIn_k ckX9_piece_in _ [(0, 14), (0, 15), (2, 0), (2, 1), (2, 2), (2, 3), (2, 4), (2, 5), (2, 6), (2, 7), (2, 8), (2, 9), (2, 10), (2, 11)] rfl (by decide +kernel)
set_option maxRecDepth 20000 in
theorem gX9_piece_X9_tell : GoodIn wsX9_piece (wsV RX9 74 RX9 yX9_tell wsX9_tell) := goodIn_app (goodIn_r ([.methodLink RX9 74 yX9_tell, .instanceMethod yX9_tell, .selects RX9 yX9_tell yX9_tell, .initialized RX9] : List Cond) [11, 12, 13, 14] rfl (by decide +kernel)) ggX9_piece_X9_tell
set_option maxRecDepth 20000 in
theorem ggX9_piece_X9_hasJoint : GoodIn wsX9_piece wsX9_hasJoint := goodIn_k ckX9_piece_in _ [(0, 19), (0, 1), (0, 20), (0, 21), (2, 0), (2, 1), (2, 2), (2, 3), (2, 4), (2, 5), (2, 6), (2, 7), (2, 8), (2, 9), (2, 10), (2, 11), (3, 0), (3, 1), (6, 0), (6, 1), (6, 2), (6, 3)] rfl (by decide +kernel)
set_option maxRecDepth 20000 in
theorem gX9_piece_X9_hasJoint : GoodIn wsX9_piece (wsV RX9 136 RX9 yX9_hasJoint wsX9_hasJoint) := goodIn_app (goodIn_r ([.methodLink RX9 136 yX9_hasJoint, .instanceMethod yX9_hasJoint, .selects RX9 yX9_hasJoint yX9_hasJoint, .initialized RX9] : List Cond) [17, 18, 19, 14] rfl (by decide +kernel)) ggX9_piece_X9_hasJoint
set_option maxRecDepth 20000 in
theorem ggX9_piece_X8_stepBetween : GoodIn wsX9_piece wsX8_stepBetween := goodIn_k ckX9_piece_in _ [(1, 2), (1, 3), (1, 4), (4, 0), (4, 1), (4, 2), (4, 3), (4, 4), (4, 5), (4, 6), (4, 7), (4, 8), (4, 9), (4, 10)] rfl (by decide +kernel)
set_option maxRecDepth 20000 in
theorem gX9_piece_X8_stepBetween : GoodIn wsX9_piece (wsV RX9 161 RX8 yX8_stepBetween wsX8_stepBetween) := goodIn_app (goodIn_r ([.methodLink RX9 161 yX8_stepBetween, .instanceMethod yX8_stepBetween, .selects RX8 yX8_stepBetween yX8_stepBetween, .initialized RX8] : List Cond) [23, 24, 25, 26] rfl (by decide +kernel)) ggX9_piece_X8_stepBetween
theorem dX9_piece_0 : decode cX9_piece 0 = .ok (.aload_n 0, 1) := de_42 (by decide +kernel)
theorem dX9_piece_1 : decode cX9_piece 1 = .ok (.getfield 12, 3) := de_180 (by decide +kernel)
theorem dX9_piece_4 : decode cX9_piece 4 = .ok (.invokevirtual 92, 3) := de_182 (by decide +kernel)
theorem dX9_piece_7 : decode cX9_piece 7 = .ok (.ifCond .ne 10, 3) := de_154 (by decide +kernel)
theorem dX9_piece_10 : decode cX9_piece 10 = .ok (.aload_n 0, 1) := de_42 (by decide +kernel)
theorem dX9_piece_11 : decode cX9_piece 11 = .ok (.bipush (-4), 2) := de_16 (by decide +kernel)
theorem dX9_piece_13 : decode cX9_piece 13 = .ok (.invokevirtual 74, 3) := de_182 (by decide +kernel)
theorem dX9_piece_16 : decode cX9_piece 16 = .ok (.ireturn, 1) := de_172 (by decide +kernel)
theorem dX9_piece_17 : decode cX9_piece 17 = .ok (.aload_n 0, 1) := de_42 (by decide +kernel)
theorem dX9_piece_18 : decode cX9_piece 18 = .ok (.iload_n 1, 1) := de_27 (by decide +kernel)
theorem dX9_piece_19 : decode cX9_piece 19 = .ok (.invokevirtual 136, 3) := de_182 (by decide +kernel)
theorem dX9_piece_22 : decode cX9_piece 22 = .ok (.ifCond .eq 11, 3) := de_153 (by decide +kernel)
theorem dX9_piece_25 : decode cX9_piece 25 = .ok (.aload_n 0, 1) := de_42 (by decide +kernel)
theorem dX9_piece_26 : decode cX9_piece 26 = .ok (.iload_n 2, 1) := de_28 (by decide +kernel)
theorem dX9_piece_27 : decode cX9_piece 27 = .ok (.invokevirtual 136, 3) := de_182 (by decide +kernel)
theorem dX9_piece_30 : decode cX9_piece 30 = .ok (.ifCond .ne 9, 3) := de_154 (by decide +kernel)
theorem dX9_piece_33 : decode cX9_piece 33 = .ok (.aload_n 0, 1) := de_42 (by decide +kernel)
theorem dX9_piece_34 : decode cX9_piece 34 = .ok (.iconst (-1), 1) := de_2 (by decide +kernel)
theorem dX9_piece_35 : decode cX9_piece 35 = .ok (.invokevirtual 74, 3) := de_182 (by decide +kernel)
theorem dX9_piece_38 : decode cX9_piece 38 = .ok (.ireturn, 1) := de_172 (by decide +kernel)
theorem dX9_piece_39 : decode cX9_piece 39 = .ok (.aload_n 0, 1) := de_42 (by decide +kernel)
theorem dX9_piece_40 : decode cX9_piece 40 = .ok (.getfield 30, 3) := de_180 (by decide +kernel)
theorem dX9_piece_43 : decode cX9_piece 43 = .ok (.getfield 124, 3) := de_180 (by decide +kernel)
theorem dX9_piece_46 : decode cX9_piece 46 = .ok (.iload_n 1, 1) := de_27 (by decide +kernel)
theorem dX9_piece_47 : decode cX9_piece 47 = .ok (.iload_n 2, 1) := de_28 (by decide +kernel)
theorem dX9_piece_48 : decode cX9_piece 48 = .ok (.invokevirtual 161, 3) := de_182 (by decide +kernel)
theorem dX9_piece_51 : decode cX9_piece 51 = .ok (.istore_n 3, 1) := de_62 (by decide +kernel)
theorem dX9_piece_52 : decode cX9_piece 52 = .ok (.iload_n 3, 1) := de_29 (by decide +kernel)
theorem dX9_piece_53 : decode cX9_piece 53 = .ok (.ifCond .ge 5, 3) := de_156 (by decide +kernel)
theorem dX9_piece_56 : decode cX9_piece 56 = .ok (.iconst 0, 1) := de_3 (by decide +kernel)
theorem dX9_piece_57 : decode cX9_piece 57 = .ok (.ireturn, 1) := de_172 (by decide +kernel)
theorem dX9_piece_58 : decode cX9_piece 58 = .ok (.aload_n 0, 1) := de_42 (by decide +kernel)
theorem dX9_piece_59 : decode cX9_piece 59 = .ok (.getfield 30, 3) := de_180 (by decide +kernel)
theorem dX9_piece_62 : decode cX9_piece 62 = .ok (.getfield 124, 3) := de_180 (by decide +kernel)
theorem dX9_piece_65 : decode cX9_piece 65 = .ok (.getfield 164, 3) := de_180 (by decide +kernel)
theorem dX9_piece_68 : decode cX9_piece 68 = .ok (.iload_n 3, 1) := de_29 (by decide +kernel)
theorem dX9_piece_69 : decode cX9_piece 69 = .ok (.baload, 1) := de_51 (by decide +kernel)
theorem dX9_piece_70 : decode cX9_piece 70 = .ok (.ifCond .eq 7, 3) := de_153 (by decide +kernel)
theorem dX9_piece_73 : decode cX9_piece 73 = .ok (.iconst 2, 1) := de_5 (by decide +kernel)
theorem dX9_piece_74 : decode cX9_piece 74 = .ok (.goto 4, 3) := de_167 (by decide +kernel)
theorem dX9_piece_77 : decode cX9_piece 77 = .ok (.iconst 1, 1) := de_4 (by decide +kernel)
theorem dX9_piece_78 : decode cX9_piece 78 = .ok (.ireturn, 1) := de_172 (by decide +kernel)
set_option maxRecDepth 20000 in
theorem ggX9_corner_X1_isThere : GoodIn wsX9_corner wsX1_isThere := goodIn_r _ [7, 8, 45, 46, 47, 48, 49, 50, 51] rfl (by decide +kernel)
set_option maxRecDepth 20000 in
theorem gX9_corner_X1_isThere : GoodIn wsX9_corner (wsV RX9 92 RX1 yX1_isThere wsX1_isThere) := goodIn_app (goodIn_r ([.methodLink RX9 92 yX1_isThere, .instanceMethod yX1_isThere, .selects RX1 yX1_isThere yX1_isThere, .initialized RX1] : List Cond) [3, 4, 5, 6] rfl (by decide +kernel)) ggX9_corner_X1_isThere
def ckX9_corner : List (List Cond) := [wsX9_corner_r1, wsX9_corner_r2, wsX90, wsX10, wsX70, wsX80]
theorem ckX9_corner_in : ∀ c ∈ ckX9_corner, ∀ w ∈ c, w ∈ wsX9_corner := List.forall_mem_cons.mpr ⟨fun _ h9 => List.mem_cons_of_mem _ (List.mem_append_left _ (List.mem_append_left _ (List.mem_append_left _ (List.mem_append_left _ (List.mem_append_left _ h9))))), List.forall_mem_cons.mpr ⟨fun _ h9 => List.mem_cons_of_mem _ (List.mem_append_left _ (List.mem_append_left _ (List.mem_append_left _ (List.mem_append_left _ (List.mem_append_right _ h9))))), List.forall_mem_cons.mpr ⟨fun _ h9 => List.mem_cons_of_mem _ (List.mem_append_left _ (List.mem_append_left _ (List.mem_append_left _ (List.mem_append_right _ h9)))), List.forall_mem_cons.mpr ⟨fun _ h9 => List.mem_cons_of_mem _ (List.mem_append_left _ (List.mem_append_left _ (List.mem_append_right _ h9))), List.forall_mem_cons.mpr ⟨fun _ h9 => List.mem_cons_of_mem _ (List.mem_append_left _ (List.mem_append_right _ h9)), List.forall_mem_cons.mpr ⟨fun _ h9 => List.mem_cons_of_mem _ (List.mem_append_right _ h9), List.forall_mem_nil _⟩⟩⟩⟩⟩⟩
set_option maxRecDepth 20000 in
theorem ggX9_corner_X9_tell : GoodIn wsX9_corner wsX9_tell := goodIn_k ckX9_corner_in _ [(0, 12), (0, 13), (2, 0), (2, 1), (2, 2), (2, 3), (2, 4), (2, 5), (2, 6), (2, 7), (2, 8), (2, 9), (2, 10), (2, 11)] rfl (by decide +kernel)
set_option maxRecDepth 20000 in
theorem gX9_corner_X9_tell : GoodIn wsX9_corner (wsV RX9 74 RX9 yX9_tell wsX9_tell) := goodIn_app (goodIn_r ([.methodLink RX9 74 yX9_tell, .instanceMethod yX9_tell, .selects RX9 yX9_tell yX9_tell, .initialized RX9] : List Cond) [9, 10, 11, 12] rfl (by decide +kernel)) ggX9_corner_X9_tell
set_option maxRecDepth 20000 in
theorem ggX9_corner_X9_hasPane : GoodIn wsX9_corner wsX9_hasPane := goodIn_k ckX9_corner_in _ [(0, 17), (0, 1), (0, 18), (2, 0), (2, 1), (2, 2), (2, 3), (2, 4), (2, 5), (2, 6), (2, 7), (2, 8), (2, 9), (2, 10), (2, 11), (4, 0), (4, 1), (4, 2), (4, 3), (4, 4), (4, 5), (4, 6)] rfl (by decide +kernel)
set_option maxRecDepth 20000 in
theorem gX9_corner_X9_hasPane : GoodIn wsX9_corner (wsV RX9 168 RX9 yX9_hasPane wsX9_hasPane) := goodIn_app (goodIn_r ([.methodLink RX9 168 yX9_hasPane, .instanceMethod yX9_hasPane, .selects RX9 yX9_hasPane yX9_hasPane, .initialized RX9] : List Cond) [15, 16, 17, 12] rfl (by decide +kernel)) ggX9_corner_X9_hasPane
set_option maxRecDepth 20000 in
theorem ggX9_corner_X7_corners : GoodIn wsX9_corner wsX7_corners := goodIn_k ckX9_corner_in _ [(0, 23), (1, 0), (4, 0), (4, 1), (4, 2), (4, 3), (4, 4), (4, 5), (4, 6)] rfl (by decide +kernel)
set_option maxRecDepth 20000 in
theorem gX9_corner_X7_corners : GoodIn wsX9_corner (wsV RX9 171 RX7 yX7_corners wsX7_corners) := goodIn_app (goodIn_r ([.methodLink RX9 171 yX7_corners, .instanceMethod yX7_corners, .selects RX7 yX7_corners yX7_corners, .initialized RX7] : List Cond) [20, 21, 22, 23] rfl (by decide +kernel)) ggX9_corner_X7_corners
set_option maxRecDepth 20000 in
theorem ggX9_corner_X7_jointAtCorner : GoodIn wsX9_corner wsX7_jointAtCorner := goodIn_k ckX9_corner_in _ [(1, 4), (1, 5), (1, 6), (1, 7), (1, 0), (4, 0), (4, 1), (4, 2), (4, 3), (4, 4), (4, 5), (4, 6), (5, 0), (5, 1), (5, 2), (5, 3), (5, 4), (5, 5), (5, 6), (5, 7), (5, 8), (5, 9), (5, 10)] rfl (by decide +kernel)
set_option maxRecDepth 20000 in
theorem gX9_corner_X7_jointAtCorner : GoodIn wsX9_corner (wsV RX9 174 RX7 yX7_jointAtCorner wsX7_jointAtCorner) := goodIn_app (goodIn_r ([.methodLink RX9 174 yX7_jointAtCorner, .instanceMethod yX7_jointAtCorner, .selects RX7 yX7_jointAtCorner yX7_jointAtCorner, .initialized RX7] : List Cond) [26, 27, 28, 23] rfl (by decide +kernel)) ggX9_corner_X7_jointAtCorner
theorem dX9_corner_0 : decode cX9_corner 0 = .ok (.aload_n 0, 1) := de_42 (by decide +kernel)
theorem dX9_corner_1 : decode cX9_corner 1 = .ok (.getfield 12, 3) := de_180 (by decide +kernel)
theorem dX9_corner_4 : decode cX9_corner 4 = .ok (.invokevirtual 92, 3) := de_182 (by decide +kernel)
theorem dX9_corner_7 : decode cX9_corner 7 = .ok (.ifCond .ne 10, 3) := de_154 (by decide +kernel)
theorem dX9_corner_10 : decode cX9_corner 10 = .ok (.aload_n 0, 1) := de_42 (by decide +kernel)
theorem dX9_corner_11 : decode cX9_corner 11 = .ok (.bipush (-4), 2) := de_16 (by decide +kernel)
theorem dX9_corner_13 : decode cX9_corner 13 = .ok (.invokevirtual 74, 3) := de_182 (by decide +kernel)
theorem dX9_corner_16 : decode cX9_corner 16 = .ok (.ireturn, 1) := de_172 (by decide +kernel)
theorem dX9_corner_17 : decode cX9_corner 17 = .ok (.aload_n 0, 1) := de_42 (by decide +kernel)
theorem dX9_corner_18 : decode cX9_corner 18 = .ok (.iload_n 1, 1) := de_27 (by decide +kernel)
theorem dX9_corner_19 : decode cX9_corner 19 = .ok (.invokevirtual 168, 3) := de_182 (by decide +kernel)
theorem dX9_corner_22 : decode cX9_corner 22 = .ok (.ifCond .eq 19, 3) := de_153 (by decide +kernel)
theorem dX9_corner_25 : decode cX9_corner 25 = .ok (.iload_n 2, 1) := de_28 (by decide +kernel)
theorem dX9_corner_26 : decode cX9_corner 26 = .ok (.ifCond .lt 15, 3) := de_155 (by decide +kernel)
theorem dX9_corner_29 : decode cX9_corner 29 = .ok (.iload_n 2, 1) := de_28 (by decide +kernel)
theorem dX9_corner_30 : decode cX9_corner 30 = .ok (.aload_n 0, 1) := de_42 (by decide +kernel)
theorem dX9_corner_31 : decode cX9_corner 31 = .ok (.getfield 39, 3) := de_180 (by decide +kernel)
theorem dX9_corner_34 : decode cX9_corner 34 = .ok (.iload_n 1, 1) := de_27 (by decide +kernel)
theorem dX9_corner_35 : decode cX9_corner 35 = .ok (.invokevirtual 171, 3) := de_182 (by decide +kernel)
theorem dX9_corner_38 : decode cX9_corner 38 = .ok (.if_icmp .lt 9, 3) := de_161 (by decide +kernel)
theorem dX9_corner_41 : decode cX9_corner 41 = .ok (.aload_n 0, 1) := de_42 (by decide +kernel)
theorem dX9_corner_42 : decode cX9_corner 42 = .ok (.iconst (-1), 1) := de_2 (by decide +kernel)
theorem dX9_corner_43 : decode cX9_corner 43 = .ok (.invokevirtual 74, 3) := de_182 (by decide +kernel)
theorem dX9_corner_46 : decode cX9_corner 46 = .ok (.ireturn, 1) := de_172 (by decide +kernel)
theorem dX9_corner_47 : decode cX9_corner 47 = .ok (.aload_n 0, 1) := de_42 (by decide +kernel)
theorem dX9_corner_48 : decode cX9_corner 48 = .ok (.getfield 39, 3) := de_180 (by decide +kernel)
theorem dX9_corner_51 : decode cX9_corner 51 = .ok (.iload_n 1, 1) := de_27 (by decide +kernel)
theorem dX9_corner_52 : decode cX9_corner 52 = .ok (.iload_n 2, 1) := de_28 (by decide +kernel)
theorem dX9_corner_53 : decode cX9_corner 53 = .ok (.invokevirtual 174, 3) := de_182 (by decide +kernel)
theorem dX9_corner_56 : decode cX9_corner 56 = .ok (.ireturn, 1) := de_172 (by decide +kernel)
def ckX9_pane : List (List Cond) := [wsX9_pane_r1, wsX9_pane_r2, wsX9_pane_r3, wsX9_pane_r4, wsX90, wsX30, wsX10, wsX70, wsX40, wsX80]
theorem ckX9_pane_in : ∀ c ∈ ckX9_pane, ∀ w ∈ c, w ∈ wsX9_pane := List.forall_mem_cons.mpr ⟨fun _ h9 => List.mem_cons_of_mem _ (List.mem_append_left _ (List.mem_append_left _ (List.mem_append_left _ (List.mem_append_left _ (List.mem_append_left _ (List.mem_append_left _ (List.mem_append_left _ h9))))))), List.forall_mem_cons.mpr ⟨fun _ h9 => List.mem_cons_of_mem _ (List.mem_append_left _ (List.mem_append_left _ (List.mem_append_left _ (List.mem_append_left _ (List.mem_append_left _ (List.mem_append_left _ (List.mem_append_right _ (List.mem_append_left _ h9)))))))), List.forall_mem_cons.mpr ⟨fun _ h9 => List.mem_cons_of_mem _ (List.mem_append_left _ (List.mem_append_left _ (List.mem_append_left _ (List.mem_append_left _ (List.mem_append_left _ (List.mem_append_left _ (List.mem_append_right _ (List.mem_append_right _ (List.mem_append_left _ h9))))))))), List.forall_mem_cons.mpr ⟨fun _ h9 => List.mem_cons_of_mem _ (List.mem_append_left _ (List.mem_append_left _ (List.mem_append_left _ (List.mem_append_left _ (List.mem_append_left _ (List.mem_append_left _ (List.mem_append_right _ (List.mem_append_right _ (List.mem_append_right _ h9))))))))), List.forall_mem_cons.mpr ⟨fun _ h9 => List.mem_cons_of_mem _ (List.mem_append_left _ (List.mem_append_left _ (List.mem_append_left _ (List.mem_append_left _ (List.mem_append_left _ (List.mem_append_right _ h9)))))), List.forall_mem_cons.mpr ⟨fun _ h9 => List.mem_cons_of_mem _ (List.mem_append_left _ (List.mem_append_left _ (List.mem_append_left _ (List.mem_append_left _ (List.mem_append_right _ h9))))), List.forall_mem_cons.mpr ⟨fun _ h9 => List.mem_cons_of_mem _ (List.mem_append_left _ (List.mem_append_left _ (List.mem_append_left _ (List.mem_append_right _ h9)))), List.forall_mem_cons.mpr ⟨fun _ h9 => List.mem_cons_of_mem _ (List.mem_append_left _ (List.mem_append_left _ (List.mem_append_right _ h9))), List.forall_mem_cons.mpr ⟨fun _ h9 => List.mem_cons_of_mem _ (List.mem_append_left _ (List.mem_append_right _ h9)), List.forall_mem_cons.mpr ⟨fun _ h9 => List.mem_cons_of_mem _ (List.mem_append_right _ h9), List.forall_mem_nil _⟩⟩⟩⟩⟩⟩⟩⟩⟩⟩
set_option maxRecDepth 20000 in
theorem ggX9_pane_X1_isThere : GoodIn wsX9_pane wsX1_isThere := goodIn_k ckX9_pane_in _ [(0, 10), (0, 11), (6, 0), (6, 1), (6, 2), (6, 3), (6, 4), (6, 5), (6, 6)] rfl (by decide +kernel)
set_option maxRecDepth 20000 in
theorem gX9_pane_X1_isThere : GoodIn wsX9_pane (wsV RX9 92 RX1 yX1_isThere wsX1_isThere) := goodIn_app (goodIn_r ([.methodLink RX9 92 yX1_isThere, .instanceMethod yX1_isThere, .selects RX1 yX1_isThere yX1_isThere, .initialized RX1] : List Cond) [7, 8, 9, 10] rfl (by decide +kernel)) ggX9_pane_X1_isThere
set_option maxRecDepth 20000 in
theorem ggX9_pane_X9_tell : GoodIn wsX9_pane wsX9_tell := goodIn_k ckX9_pane_in _ [(0, 16), (0, 17), (4, 0), (4, 1), (4, 2), (4, 3), (4, 4), (4, 5), (4, 6), (4, 7), (4, 8), (4, 9), (4, 10), (4, 11)] rfl (by decide +kernel)
set_option maxRecDepth 20000 in
theorem gX9_pane_X9_tell : GoodIn wsX9_pane (wsV RX9 74 RX9 yX9_tell wsX9_tell) := goodIn_app (goodIn_r ([.methodLink RX9 74 yX9_tell, .instanceMethod yX9_tell, .selects RX9 yX9_tell yX9_tell, .initialized RX9] : List Cond) [13, 14, 15, 16] rfl (by decide +kernel)) ggX9_pane_X9_tell
set_option maxRecDepth 20000 in
theorem ggX9_pane_X9_hasPane : GoodIn wsX9_pane wsX9_hasPane := goodIn_k ckX9_pane_in _ [(0, 21), (0, 1), (0, 22), (4, 0), (4, 1), (4, 2), (4, 3), (4, 4), (4, 5), (4, 6), (4, 7), (4, 8), (4, 9), (4, 10), (4, 11), (7, 0), (7, 1), (7, 2), (7, 3), (7, 4), (7, 5), (7, 6)] rfl (by decide +kernel)
set_option maxRecDepth 20000 in
theorem gX9_pane_X9_hasPane : GoodIn wsX9_pane (wsV RX9 168 RX9 yX9_hasPane wsX9_hasPane) := goodIn_app (goodIn_r ([.methodLink RX9 168 yX9_hasPane, .instanceMethod yX9_hasPane, .selects RX9 yX9_hasPane yX9_hasPane, .initialized RX9] : List Cond) [19, 20, 21, 16] rfl (by decide +kernel)) ggX9_pane_X9_hasPane
set_option maxRecDepth 20000 in
theorem ggX9_pane_X7_corners : GoodIn wsX9_pane wsX7_corners := goodIn_k ckX9_pane_in _ [(1, 3), (1, 4), (7, 0), (7, 1), (7, 2), (7, 3), (7, 4), (7, 5), (7, 6)] rfl (by decide +kernel)
set_option maxRecDepth 20000 in
theorem gX9_pane_X7_corners : GoodIn wsX9_pane (wsV RX9 171 RX7 yX7_corners wsX7_corners) := goodIn_app (goodIn_r ([.methodLink RX9 171 yX7_corners, .instanceMethod yX7_corners, .selects RX7 yX7_corners yX7_corners, .initialized RX7] : List Cond) [24, 25, 26, 27] rfl (by decide +kernel)) ggX9_pane_X7_corners
set_option maxRecDepth 20000 in
theorem ggX9_pane_X7_boxLeft : GoodIn wsX9_pane wsX7_boxLeft := goodIn_k ckX9_pane_in _ [(1, 8), (1, 9), (1, 10), (1, 11), (1, 12), (1, 13), (1, 14), (1, 15), (1, 16), (1, 0), (1, 1), (1, 2), (1, 3), (1, 4), (1, 17), (1, 18), (1, 19), (1, 20), (1, 21), (1, 22), (1, 23), (2, 0), (2, 1), (2, 2), (7, 0), (7, 1), (7, 2), (7, 3), (7, 4), (7, 5), (7, 6), (8, 0), (8, 1), (8, 2), (8, 3), (9, 0), (9, 1), (9, 2), (9, 3), (9, 4), (9, 5), (9, 6), (9, 7), (9, 8), (9, 9), (9, 10)] rfl (by decide +kernel)
set_option maxRecDepth 20000 in
theorem gX9_pane_X7_boxLeft : GoodIn wsX9_pane (wsV RX9 177 RX7 yX7_boxLeft wsX7_boxLeft) := goodIn_app (goodIn_r ([.methodLink RX9 177 yX7_boxLeft, .instanceMethod yX7_boxLeft, .selects RX7 yX7_boxLeft yX7_boxLeft, .initialized RX7] : List Cond) [30, 31, 32, 27] rfl (by decide +kernel)) ggX9_pane_X7_boxLeft
set_option maxRecDepth 20000 in
theorem ggX9_pane_X7_boxBottom : GoodIn wsX9_pane wsX7_boxBottom := goodIn_k ckX9_pane_in _ [(2, 6), (1, 9), (2, 7), (1, 11), (1, 12), (1, 13), (1, 14), (1, 15), (1, 16), (1, 0), (1, 1), (1, 2), (1, 3), (1, 4), (1, 17), (1, 18), (1, 19), (1, 20), (1, 21), (1, 22), (1, 23), (2, 0), (2, 1), (2, 2), (7, 0), (7, 1), (7, 2), (7, 3), (7, 4), (7, 5), (7, 6), (8, 0), (8, 1), (8, 2), (8, 3), (9, 0), (9, 1), (9, 2), (9, 3), (9, 4), (9, 5), (9, 6), (9, 7), (9, 8), (9, 9), (9, 10)] rfl (by decide +kernel)
set_option maxRecDepth 20000 in
theorem gX9_pane_X7_boxBottom : GoodIn wsX9_pane (wsV RX9 180 RX7 yX7_boxBottom wsX7_boxBottom) := goodIn_app (goodIn_r ([.methodLink RX9 180 yX7_boxBottom, .instanceMethod yX7_boxBottom, .selects RX7 yX7_boxBottom yX7_boxBottom, .initialized RX7] : List Cond) [52, 53, 54, 27] rfl (by decide +kernel)) ggX9_pane_X7_boxBottom
set_option maxRecDepth 20000 in
theorem ggX9_pane_X7_boxWidth : GoodIn wsX9_pane wsX7_boxWidth := goodIn_k ckX9_pane_in _ [(2, 11), (1, 9), (1, 10), (1, 11), (2, 12), (2, 13), (1, 14), (2, 14), (1, 16), (1, 0), (1, 1), (1, 2), (1, 3), (1, 4), (1, 17), (1, 18), (1, 19), (1, 20), (1, 21), (1, 22), (1, 23), (2, 15), (2, 16), (2, 17), (2, 18), (1, 6), (1, 7), (1, 8), (1, 12), (1, 13), (1, 15), (2, 0), (2, 1), (2, 2), (7, 0), (7, 1), (7, 2), (7, 3), (7, 4), (7, 5), (7, 6), (8, 0), (8, 1), (8, 2), (8, 3), (9, 0), (9, 1), (9, 2), (9, 3), (9, 4), (9, 5), (9, 6), (9, 7), (9, 8), (9, 9), (9, 10)] rfl (by decide +kernel)
set_option maxRecDepth 20000 in
theorem gX9_pane_X7_boxWidth : GoodIn wsX9_pane (wsV RX9 183 RX7 yX7_boxWidth wsX7_boxWidth) := goodIn_app (goodIn_r ([.methodLink RX9 183 yX7_boxWidth, .instanceMethod yX7_boxWidth, .selects RX7 yX7_boxWidth yX7_boxWidth, .initialized RX7] : List Cond) [57, 58, 59, 27] rfl (by decide +kernel)) ggX9_pane_X7_boxWidth
set_option maxRecDepth 20000 in
theorem ggX9_pane_X7_boxHeight : GoodIn wsX9_pane wsX7_boxHeight := goodIn_k ckX9_pane_in _ [(2, 22), (1, 9), (2, 7), (1, 11), (2, 12), (2, 13), (1, 14), (2, 14), (1, 16), (1, 0), (1, 1), (1, 2), (1, 3), (1, 4), (1, 17), (1, 18), (1, 19), (1, 20), (1, 21), (1, 22), (1, 23), (2, 15), (2, 16), (2, 17), (2, 23), (2, 4), (2, 5), (2, 6), (1, 12), (1, 13), (1, 15), (2, 0), (2, 1), (2, 2), (7, 0), (7, 1), (7, 2), (7, 3), (7, 4), (7, 5), (7, 6), (8, 0), (8, 1), (8, 2), (8, 3), (9, 0), (9, 1), (9, 2), (9, 3), (9, 4), (9, 5), (9, 6), (9, 7), (9, 8), (9, 9), (9, 10)] rfl (by decide +kernel)
set_option maxRecDepth 20000 in
theorem gX9_pane_X7_boxHeight : GoodIn wsX9_pane (wsV RX9 186 RX7 yX7_boxHeight wsX7_boxHeight) := goodIn_app (goodIn_r ([.methodLink RX9 186 yX7_boxHeight, .instanceMethod yX7_boxHeight, .selects RX7 yX7_boxHeight yX7_boxHeight, .initialized RX7] : List Cond) [68, 69, 70, 27] rfl (by decide +kernel)) ggX9_pane_X7_boxHeight
set_option maxRecDepth 20000 in
theorem ggX9_pane_X7_touchesOthers : GoodIn wsX9_pane wsX7_touchesOthers := goodIn_k ckX9_pane_in _ [(3, 3), (1, 16), (1, 0), (1, 1), (1, 2), (1, 3), (1, 4), (3, 4), (3, 5), (3, 6), (3, 7), (3, 8), (1, 21), (3, 9), (1, 23), (7, 0), (7, 1), (7, 2), (7, 3), (7, 4), (7, 5), (7, 6), (9, 0), (9, 1), (9, 2), (9, 3), (9, 4), (9, 5), (9, 6), (9, 7), (9, 8), (9, 9), (9, 10)] rfl (by decide +kernel)
set_option maxRecDepth 20000 in
theorem gX9_pane_X7_touchesOthers : GoodIn wsX9_pane (wsV RX9 198 RX7 yX7_touchesOthers wsX7_touchesOthers) := goodIn_app (goodIn_r ([.methodLink RX9 198 yX7_touchesOthers, .instanceMethod yX7_touchesOthers, .selects RX7 yX7_touchesOthers yX7_touchesOthers, .initialized RX7] : List Cond) [73, 74, 75, 27] rfl (by decide +kernel)) ggX9_pane_X7_touchesOthers
set_option maxRecDepth 20000 in
theorem ggX9_pane_X7_touches : GoodIn wsX9_pane wsX7_touches := goodIn_k ckX9_pane_in _ [(3, 13), (1, 16), (1, 0), (1, 1), (1, 2), (1, 3), (1, 4), (3, 4), (3, 5), (3, 6), (3, 7), (3, 8), (1, 21), (3, 9), (1, 23), (7, 0), (7, 1), (7, 2), (7, 3), (7, 4), (7, 5), (7, 6), (9, 0), (9, 1), (9, 2), (9, 3), (9, 4), (9, 5), (9, 6), (9, 7), (9, 8), (9, 9), (9, 10)] rfl (by decide +kernel)
set_option maxRecDepth 20000 in
theorem gX9_pane_X7_touches : GoodIn wsX9_pane (wsV RX9 201 RX7 yX7_touches wsX7_touches) := goodIn_app (goodIn_r ([.methodLink RX9 201 yX7_touches, .instanceMethod yX7_touches, .selects RX7 yX7_touches yX7_touches, .initialized RX7] : List Cond) [83, 84, 85, 27] rfl (by decide +kernel)) ggX9_pane_X7_touches
theorem dX9_pane_0 : decode cX9_pane 0 = .ok (.aload_n 0, 1) := de_42 (by decide +kernel)
theorem dX9_pane_1 : decode cX9_pane 1 = .ok (.getfield 12, 3) := de_180 (by decide +kernel)
theorem dX9_pane_4 : decode cX9_pane 4 = .ok (.invokevirtual 92, 3) := de_182 (by decide +kernel)
theorem dX9_pane_7 : decode cX9_pane 7 = .ok (.ifCond .ne 10, 3) := de_154 (by decide +kernel)
theorem dX9_pane_10 : decode cX9_pane 10 = .ok (.aload_n 0, 1) := de_42 (by decide +kernel)
theorem dX9_pane_11 : decode cX9_pane 11 = .ok (.bipush (-4), 2) := de_16 (by decide +kernel)
theorem dX9_pane_13 : decode cX9_pane 13 = .ok (.invokevirtual 74, 3) := de_182 (by decide +kernel)
theorem dX9_pane_16 : decode cX9_pane 16 = .ok (.ireturn, 1) := de_172 (by decide +kernel)
theorem dX9_pane_17 : decode cX9_pane 17 = .ok (.aload_n 0, 1) := de_42 (by decide +kernel)
theorem dX9_pane_18 : decode cX9_pane 18 = .ok (.iload_n 1, 1) := de_27 (by decide +kernel)
theorem dX9_pane_19 : decode cX9_pane 19 = .ok (.invokevirtual 168, 3) := de_182 (by decide +kernel)
theorem dX9_pane_22 : decode cX9_pane 22 = .ok (.ifCond .ne 9, 3) := de_154 (by decide +kernel)
theorem dX9_pane_25 : decode cX9_pane 25 = .ok (.aload_n 0, 1) := de_42 (by decide +kernel)
theorem dX9_pane_26 : decode cX9_pane 26 = .ok (.iconst (-1), 1) := de_2 (by decide +kernel)
theorem dX9_pane_27 : decode cX9_pane 27 = .ok (.invokevirtual 74, 3) := de_182 (by decide +kernel)
theorem dX9_pane_30 : decode cX9_pane 30 = .ok (.ireturn, 1) := de_172 (by decide +kernel)
theorem dX9_pane_31 : decode cX9_pane 31 = .ok (.iload_n 2, 1) := de_28 (by decide +kernel)
theorem dX9_pane_32 : decode cX9_pane 32 = .ok (.tableswitch 150 0 9 #[56, 65, 74, 83, 92, 101, 111, 121, 131, 140], 56) := by decide +kernel
theorem dX9_pane_88 : decode cX9_pane 88 = .ok (.aload_n 0, 1) := de_42 (by decide +kernel)
theorem dX9_pane_89 : decode cX9_pane 89 = .ok (.getfield 39, 3) := de_180 (by decide +kernel)
theorem dX9_pane_92 : decode cX9_pane 92 = .ok (.iload_n 1, 1) := de_27 (by decide +kernel)
theorem dX9_pane_93 : decode cX9_pane 93 = .ok (.invokevirtual 171, 3) := de_182 (by decide +kernel)
theorem dX9_pane_96 : decode cX9_pane 96 = .ok (.ireturn, 1) := de_172 (by decide +kernel)
theorem dX9_pane_97 : decode cX9_pane 97 = .ok (.aload_n 0, 1) := de_42 (by decide +kernel)
theorem dX9_pane_98 : decode cX9_pane 98 = .ok (.getfield 39, 3) := de_180 (by decide +kernel)
theorem dX9_pane_101 : decode cX9_pane 101 = .ok (.iload_n 1, 1) := de_27 (by decide +kernel)
theorem dX9_pane_102 : decode cX9_pane 102 = .ok (.invokevirtual 177, 3) := de_182 (by decide +kernel)
theorem dX9_pane_105 : decode cX9_pane 105 = .ok (.ireturn, 1) := de_172 (by decide +kernel)
theorem dX9_pane_106 : decode cX9_pane 106 = .ok (.aload_n 0, 1) := de_42 (by decide +kernel)
theorem dX9_pane_107 : decode cX9_pane 107 = .ok (.getfield 39, 3) := de_180 (by decide +kernel)
theorem dX9_pane_110 : decode cX9_pane 110 = .ok (.iload_n 1, 1) := de_27 (by decide +kernel)
theorem dX9_pane_111 : decode cX9_pane 111 = .ok (.invokevirtual 180, 3) := de_182 (by decide +kernel)
theorem dX9_pane_114 : decode cX9_pane 114 = .ok (.ireturn, 1) := de_172 (by decide +kernel)
theorem dX9_pane_115 : decode cX9_pane 115 = .ok (.aload_n 0, 1) := de_42 (by decide +kernel)
theorem dX9_pane_116 : decode cX9_pane 116 = .ok (.getfield 39, 3) := de_180 (by decide +kernel)
theorem dX9_pane_119 : decode cX9_pane 119 = .ok (.iload_n 1, 1) := de_27 (by decide +kernel)
theorem dX9_pane_120 : decode cX9_pane 120 = .ok (.invokevirtual 183, 3) := de_182 (by decide +kernel)
theorem dX9_pane_123 : decode cX9_pane 123 = .ok (.ireturn, 1) := de_172 (by decide +kernel)
theorem dX9_pane_124 : decode cX9_pane 124 = .ok (.aload_n 0, 1) := de_42 (by decide +kernel)
theorem dX9_pane_125 : decode cX9_pane 125 = .ok (.getfield 39, 3) := de_180 (by decide +kernel)
theorem dX9_pane_128 : decode cX9_pane 128 = .ok (.iload_n 1, 1) := de_27 (by decide +kernel)
theorem dX9_pane_129 : decode cX9_pane 129 = .ok (.invokevirtual 186, 3) := de_182 (by decide +kernel)
theorem dX9_pane_132 : decode cX9_pane 132 = .ok (.ireturn, 1) := de_172 (by decide +kernel)
theorem dX9_pane_133 : decode cX9_pane 133 = .ok (.aload_n 0, 1) := de_42 (by decide +kernel)
theorem dX9_pane_134 : decode cX9_pane 134 = .ok (.getfield 46, 3) := de_180 (by decide +kernel)
theorem dX9_pane_137 : decode cX9_pane 137 = .ok (.getfield 189, 3) := de_180 (by decide +kernel)
theorem dX9_pane_140 : decode cX9_pane 140 = .ok (.iload_n 1, 1) := de_27 (by decide +kernel)
theorem dX9_pane_141 : decode cX9_pane 141 = .ok (.iaload, 1) := de_46 (by decide +kernel)
theorem dX9_pane_142 : decode cX9_pane 142 = .ok (.ireturn, 1) := de_172 (by decide +kernel)
theorem dX9_pane_143 : decode cX9_pane 143 = .ok (.aload_n 0, 1) := de_42 (by decide +kernel)
theorem dX9_pane_144 : decode cX9_pane 144 = .ok (.getfield 46, 3) := de_180 (by decide +kernel)
theorem dX9_pane_147 : decode cX9_pane 147 = .ok (.getfield 192, 3) := de_180 (by decide +kernel)
theorem dX9_pane_150 : decode cX9_pane 150 = .ok (.iload_n 1, 1) := de_27 (by decide +kernel)
theorem dX9_pane_151 : decode cX9_pane 151 = .ok (.iaload, 1) := de_46 (by decide +kernel)
theorem dX9_pane_152 : decode cX9_pane 152 = .ok (.ireturn, 1) := de_172 (by decide +kernel)
theorem dX9_pane_153 : decode cX9_pane 153 = .ok (.aload_n 0, 1) := de_42 (by decide +kernel)
theorem dX9_pane_154 : decode cX9_pane 154 = .ok (.getfield 46, 3) := de_180 (by decide +kernel)
theorem dX9_pane_157 : decode cX9_pane 157 = .ok (.getfield 195, 3) := de_180 (by decide +kernel)
theorem dX9_pane_160 : decode cX9_pane 160 = .ok (.iload_n 1, 1) := de_27 (by decide +kernel)
theorem dX9_pane_161 : decode cX9_pane 161 = .ok (.iaload, 1) := de_46 (by decide +kernel)
theorem dX9_pane_162 : decode cX9_pane 162 = .ok (.ireturn, 1) := de_172 (by decide +kernel)
theorem dX9_pane_163 : decode cX9_pane 163 = .ok (.aload_n 0, 1) := de_42 (by decide +kernel)
theorem dX9_pane_164 : decode cX9_pane 164 = .ok (.getfield 39, 3) := de_180 (by decide +kernel)
theorem dX9_pane_167 : decode cX9_pane 167 = .ok (.iload_n 1, 1) := de_27 (by decide +kernel)
theorem dX9_pane_168 : decode cX9_pane 168 = .ok (.invokevirtual 198, 3) := de_182 (by decide +kernel)
theorem dX9_pane_171 : decode cX9_pane 171 = .ok (.ireturn, 1) := de_172 (by decide +kernel)
theorem dX9_pane_172 : decode cX9_pane 172 = .ok (.aload_n 0, 1) := de_42 (by decide +kernel)
theorem dX9_pane_173 : decode cX9_pane 173 = .ok (.getfield 39, 3) := de_180 (by decide +kernel)
theorem dX9_pane_176 : decode cX9_pane 176 = .ok (.iload_n 1, 1) := de_27 (by decide +kernel)
theorem dX9_pane_177 : decode cX9_pane 177 = .ok (.iload_n 1, 1) := de_27 (by decide +kernel)
theorem dX9_pane_178 : decode cX9_pane 178 = .ok (.invokevirtual 201, 3) := de_182 (by decide +kernel)
theorem dX9_pane_181 : decode cX9_pane 181 = .ok (.ireturn, 1) := de_172 (by decide +kernel)
theorem dX9_pane_182 : decode cX9_pane 182 = .ok (.aload_n 0, 1) := de_42 (by decide +kernel)
theorem dX9_pane_183 : decode cX9_pane 183 = .ok (.iconst (-1), 1) := de_2 (by decide +kernel)
theorem dX9_pane_184 : decode cX9_pane 184 = .ok (.invokevirtual 74, 3) := de_182 (by decide +kernel)
theorem dX9_pane_187 : decode cX9_pane 187 = .ok (.ireturn, 1) := de_172 (by decide +kernel)
def ckX9_area : List (List Cond) := [wsX9_area_r1, wsX9_area_r2, wsX9_area_r3, wsX90, wsX10, wsX70, wsX80, wsX40, wsX20]
theorem ckX9_area_in : ∀ c ∈ ckX9_area, ∀ w ∈ c, w ∈ wsX9_area := List.forall_mem_cons.mpr ⟨fun _ h9 => List.mem_cons_of_mem _ (List.mem_append_left _ (List.mem_append_left _ (List.mem_append_left _ (List.mem_append_left _ (List.mem_append_left _ (List.mem_append_left _ (List.mem_append_left _ h9))))))), List.forall_mem_cons.mpr ⟨fun _ h9 => List.mem_cons_of_mem _ (List.mem_append_left _ (List.mem_append_left _ (List.mem_append_left _ (List.mem_append_left _ (List.mem_append_left _ (List.mem_append_left _ (List.mem_append_right _ (List.mem_append_left _ h9)))))))), List.forall_mem_cons.mpr ⟨fun _ h9 => List.mem_cons_of_mem _ (List.mem_append_left _ (List.mem_append_left _ (List.mem_append_left _ (List.mem_append_left _ (List.mem_append_left _ (List.mem_append_left _ (List.mem_append_right _ (List.mem_append_right _ h9)))))))), List.forall_mem_cons.mpr ⟨fun _ h9 => List.mem_cons_of_mem _ (List.mem_append_left _ (List.mem_append_left _ (List.mem_append_left _ (List.mem_append_left _ (List.mem_append_left _ (List.mem_append_right _ h9)))))), List.forall_mem_cons.mpr ⟨fun _ h9 => List.mem_cons_of_mem _ (List.mem_append_left _ (List.mem_append_left _ (List.mem_append_left _ (List.mem_append_left _ (List.mem_append_right _ h9))))), List.forall_mem_cons.mpr ⟨fun _ h9 => List.mem_cons_of_mem _ (List.mem_append_left _ (List.mem_append_left _ (List.mem_append_left _ (List.mem_append_right _ h9)))), List.forall_mem_cons.mpr ⟨fun _ h9 => List.mem_cons_of_mem _ (List.mem_append_left _ (List.mem_append_left _ (List.mem_append_right _ h9))), List.forall_mem_cons.mpr ⟨fun _ h9 => List.mem_cons_of_mem _ (List.mem_append_left _ (List.mem_append_right _ h9)), List.forall_mem_cons.mpr ⟨fun _ h9 => List.mem_cons_of_mem _ (List.mem_append_right _ h9), List.forall_mem_nil _⟩⟩⟩⟩⟩⟩⟩⟩⟩
set_option maxRecDepth 20000 in
theorem ggX9_area_X1_isThere : GoodIn wsX9_area wsX1_isThere := goodIn_k ckX9_area_in _ [(0, 6), (0, 7), (4, 0), (4, 1), (4, 2), (4, 3), (4, 4), (4, 5), (4, 6)] rfl (by decide +kernel)
set_option maxRecDepth 20000 in
theorem gX9_area_X1_isThere : GoodIn wsX9_area (wsV RX9 92 RX1 yX1_isThere wsX1_isThere) := goodIn_app (goodIn_r ([.methodLink RX9 92 yX1_isThere, .instanceMethod yX1_isThere, .selects RX1 yX1_isThere yX1_isThere, .initialized RX1] : List Cond) [3, 4, 5, 6] rfl (by decide +kernel)) ggX9_area_X1_isThere
set_option maxRecDepth 20000 in
theorem ggX9_area_X9_tell : GoodIn wsX9_area wsX9_tell := goodIn_k ckX9_area_in _ [(0, 12), (0, 13), (3, 0), (3, 1), (3, 2), (3, 3), (3, 4), (3, 5), (3, 6), (3, 7), (3, 8), (3, 9), (3, 10), (3, 11)] rfl (by decide +kernel)
set_option maxRecDepth 20000 in
theorem gX9_area_X9_tell : GoodIn wsX9_area (wsV RX9 74 RX9 yX9_tell wsX9_tell) := goodIn_app (goodIn_r ([.methodLink RX9 74 yX9_tell, .instanceMethod yX9_tell, .selects RX9 yX9_tell yX9_tell, .initialized RX9] : List Cond) [9, 10, 11, 12] rfl (by decide +kernel)) ggX9_area_X9_tell
set_option maxRecDepth 20000 in
theorem ggX9_area_X9_hasPane : GoodIn wsX9_area wsX9_hasPane := goodIn_k ckX9_area_in _ [(0, 17), (0, 1), (0, 18), (3, 0), (3, 1), (3, 2), (3, 3), (3, 4), (3, 5), (3, 6), (3, 7), (3, 8), (3, 9), (3, 10), (3, 11), (5, 0), (5, 1), (5, 2), (5, 3), (5, 4), (5, 5), (5, 6)] rfl (by decide +kernel)
set_option maxRecDepth 20000 in
theorem gX9_area_X9_hasPane : GoodIn wsX9_area (wsV RX9 168 RX9 yX9_hasPane wsX9_hasPane) := goodIn_app (goodIn_r ([.methodLink RX9 168 yX9_hasPane, .instanceMethod yX9_hasPane, .selects RX9 yX9_hasPane yX9_hasPane, .initialized RX9] : List Cond) [15, 16, 17, 12] rfl (by decide +kernel)) ggX9_area_X9_hasPane
set_option maxRecDepth 20000 in
theorem ggX9_area_X7_millionths : GoodIn wsX9_area wsX7_millionths := goodIn_k ckX9_area_in _ [(0, 23), (1, 0), (1, 1), (1, 2), (1, 3), (1, 4), (1, 5), (1, 6), (1, 7), (1, 8), (1, 9), (1, 10), (1, 11), (1, 12), (1, 13), (1, 14), (1, 15), (1, 16), (1, 17), (1, 18), (1, 19), (1, 20), (1, 21), (1, 22), (1, 23), (2, 0), (2, 1), (2, 2), (2, 3), (2, 4), (2, 5), (2, 6), (2, 7), (2, 8), (2, 9), (5, 0), (5, 1), (5, 2), (5, 3), (5, 4), (5, 5), (5, 6), (6, 0), (6, 1), (6, 2), (6, 3), (6, 4), (6, 5), (6, 6), (6, 7), (6, 8), (6, 9), (6, 10), (7, 0), (7, 1), (7, 2), (7, 3), (8, 0), (8, 1), (8, 2)] rfl (by decide +kernel)
set_option maxRecDepth 20000 in
theorem gX9_area_X7_millionths : GoodIn wsX9_area (wsV RX9 204 RX7 yX7_millionths wsX7_millionths) := goodIn_app (goodIn_r ([.methodLink RX9 204 yX7_millionths, .instanceMethod yX7_millionths, .selects RX7 yX7_millionths yX7_millionths, .initialized RX7] : List Cond) [20, 21, 22, 23] rfl (by decide +kernel)) ggX9_area_X7_millionths
theorem dX9_area_0 : decode cX9_area 0 = .ok (.aload_n 0, 1) := de_42 (by decide +kernel)
theorem dX9_area_1 : decode cX9_area 1 = .ok (.getfield 12, 3) := de_180 (by decide +kernel)
theorem dX9_area_4 : decode cX9_area 4 = .ok (.invokevirtual 92, 3) := de_182 (by decide +kernel)
theorem dX9_area_7 : decode cX9_area 7 = .ok (.ifCond .ne 11, 3) := de_154 (by decide +kernel)
theorem dX9_area_10 : decode cX9_area 10 = .ok (.aload_n 0, 1) := de_42 (by decide +kernel)
theorem dX9_area_11 : decode cX9_area 11 = .ok (.bipush (-4), 2) := de_16 (by decide +kernel)
theorem dX9_area_13 : decode cX9_area 13 = .ok (.invokevirtual 74, 3) := de_182 (by decide +kernel)
theorem dX9_area_16 : decode cX9_area 16 = .ok (.i2l, 1) := de_133 (by decide +kernel)
theorem dX9_area_17 : decode cX9_area 17 = .ok (.lreturn, 1) := de_173 (by decide +kernel)
theorem dX9_area_18 : decode cX9_area 18 = .ok (.aload_n 0, 1) := de_42 (by decide +kernel)
theorem dX9_area_19 : decode cX9_area 19 = .ok (.iload_n 1, 1) := de_27 (by decide +kernel)
theorem dX9_area_20 : decode cX9_area 20 = .ok (.invokevirtual 168, 3) := de_182 (by decide +kernel)
theorem dX9_area_23 : decode cX9_area 23 = .ok (.ifCond .ne 10, 3) := de_154 (by decide +kernel)
theorem dX9_area_26 : decode cX9_area 26 = .ok (.aload_n 0, 1) := de_42 (by decide +kernel)
theorem dX9_area_27 : decode cX9_area 27 = .ok (.iconst (-1), 1) := de_2 (by decide +kernel)
theorem dX9_area_28 : decode cX9_area 28 = .ok (.invokevirtual 74, 3) := de_182 (by decide +kernel)
theorem dX9_area_31 : decode cX9_area 31 = .ok (.i2l, 1) := de_133 (by decide +kernel)
theorem dX9_area_32 : decode cX9_area 32 = .ok (.lreturn, 1) := de_173 (by decide +kernel)
theorem dX9_area_33 : decode cX9_area 33 = .ok (.aload_n 0, 1) := de_42 (by decide +kernel)
theorem dX9_area_34 : decode cX9_area 34 = .ok (.getfield 39, 3) := de_180 (by decide +kernel)
theorem dX9_area_37 : decode cX9_area 37 = .ok (.iload_n 1, 1) := de_27 (by decide +kernel)
theorem dX9_area_38 : decode cX9_area 38 = .ok (.invokevirtual 204, 3) := de_182 (by decide +kernel)
theorem dX9_area_41 : decode cX9_area 41 = .ok (.lreturn, 1) := de_173 (by decide +kernel)
set_option maxRecDepth 20000 in
theorem ggX9_touch_X1_isThere : GoodIn wsX9_touch wsX1_isThere := goodIn_r _ [7, 8, 50, 51, 52, 53, 54, 55, 56] rfl (by decide +kernel)
set_option maxRecDepth 20000 in
theorem gX9_touch_X1_isThere : GoodIn wsX9_touch (wsV RX9 92 RX1 yX1_isThere wsX1_isThere) := goodIn_app (goodIn_r ([.methodLink RX9 92 yX1_isThere, .instanceMethod yX1_isThere, .selects RX1 yX1_isThere yX1_isThere, .initialized RX1] : List Cond) [3, 4, 5, 6] rfl (by decide +kernel)) ggX9_touch_X1_isThere
def ckX9_touch : List (List Cond) := [wsX9_touch_r1, wsX9_touch_r2, wsX90, wsX10, wsX70, wsX80]
theorem ckX9_touch_in : ∀ c ∈ ckX9_touch, ∀ w ∈ c, w ∈ wsX9_touch := List.forall_mem_cons.mpr ⟨fun _ h9 => List.mem_cons_of_mem _ (List.mem_append_left _ (List.mem_append_left _ (List.mem_append_left _ (List.mem_append_left _ (List.mem_append_left _ h9))))), List.forall_mem_cons.mpr ⟨fun _ h9 => List.mem_cons_of_mem _ (List.mem_append_left _ (List.mem_append_left _ (List.mem_append_left _ (List.mem_append_left _ (List.mem_append_right _ h9))))), List.forall_mem_cons.mpr ⟨fun _ h9 => List.mem_cons_of_mem _ (List.mem_append_left _ (List.mem_append_left _ (List.mem_append_left _ (List.mem_append_right _ h9)))), List.forall_mem_cons.mpr ⟨fun _ h9 => List.mem_cons_of_mem _ (List.mem_append_left _ (List.mem_append_left _ (List.mem_append_right _ h9))), List.forall_mem_cons.mpr ⟨fun _ h9 => List.mem_cons_of_mem _ (List.mem_append_left _ (List.mem_append_right _ h9)), List.forall_mem_cons.mpr ⟨fun _ h9 => List.mem_cons_of_mem _ (List.mem_append_right _ h9), List.forall_mem_nil _⟩⟩⟩⟩⟩⟩
set_option maxRecDepth 20000 in
theorem ggX9_touch_X9_tell : GoodIn wsX9_touch wsX9_tell := goodIn_k ckX9_touch_in _ [(0, 12), (0, 13), (2, 0), (2, 1), (2, 2), (2, 3), (2, 4), (2, 5), (2, 6), (2, 7), (2, 8), (2, 9), (2, 10), (2, 11)] rfl (by decide +kernel)
set_option maxRecDepth 20000 in
theorem gX9_touch_X9_tell : GoodIn wsX9_touch (wsV RX9 74 RX9 yX9_tell wsX9_tell) := goodIn_app (goodIn_r ([.methodLink RX9 74 yX9_tell, .instanceMethod yX9_tell, .selects RX9 yX9_tell yX9_tell, .initialized RX9] : List Cond) [9, 10, 11, 12] rfl (by decide +kernel)) ggX9_touch_X9_tell
set_option maxRecDepth 20000 in
theorem ggX9_touch_X9_hasPane : GoodIn wsX9_touch wsX9_hasPane := goodIn_k ckX9_touch_in _ [(0, 17), (0, 1), (0, 18), (2, 0), (2, 1), (2, 2), (2, 3), (2, 4), (2, 5), (2, 6), (2, 7), (2, 8), (2, 9), (2, 10), (2, 11), (4, 0), (4, 1), (4, 2), (4, 3), (4, 4), (4, 5), (4, 6)] rfl (by decide +kernel)
set_option maxRecDepth 20000 in
theorem gX9_touch_X9_hasPane : GoodIn wsX9_touch (wsV RX9 168 RX9 yX9_hasPane wsX9_hasPane) := goodIn_app (goodIn_r ([.methodLink RX9 168 yX9_hasPane, .instanceMethod yX9_hasPane, .selects RX9 yX9_hasPane yX9_hasPane, .initialized RX9] : List Cond) [15, 16, 17, 12] rfl (by decide +kernel)) ggX9_touch_X9_hasPane
set_option maxRecDepth 20000 in
theorem ggX9_touch_X7_touches : GoodIn wsX9_touch wsX7_touches := goodIn_k ckX9_touch_in _ [(0, 23), (1, 0), (1, 1), (1, 2), (0, 22), (1, 3), (1, 4), (1, 5), (1, 6), (1, 7), (1, 8), (1, 9), (1, 10), (1, 11), (1, 12), (4, 0), (4, 1), (4, 2), (4, 3), (4, 4), (4, 5), (4, 6), (5, 0), (5, 1), (5, 2), (5, 3), (5, 4), (5, 5), (5, 6), (5, 7), (5, 8), (5, 9), (5, 10)] rfl (by decide +kernel)
set_option maxRecDepth 20000 in
theorem gX9_touch_X7_touches : GoodIn wsX9_touch (wsV RX9 201 RX7 yX7_touches wsX7_touches) := goodIn_app (goodIn_r ([.methodLink RX9 201 yX7_touches, .instanceMethod yX7_touches, .selects RX7 yX7_touches yX7_touches, .initialized RX7] : List Cond) [20, 21, 22, 23] rfl (by decide +kernel)) ggX9_touch_X7_touches
theorem dX9_touch_0 : decode cX9_touch 0 = .ok (.aload_n 0, 1) := de_42 (by decide +kernel)
theorem dX9_touch_1 : decode cX9_touch 1 = .ok (.getfield 12, 3) := de_180 (by decide +kernel)
theorem dX9_touch_4 : decode cX9_touch 4 = .ok (.invokevirtual 92, 3) := de_182 (by decide +kernel)
theorem dX9_touch_7 : decode cX9_touch 7 = .ok (.ifCond .ne 10, 3) := de_154 (by decide +kernel)
theorem dX9_touch_10 : decode cX9_touch 10 = .ok (.aload_n 0, 1) := de_42 (by decide +kernel)
theorem dX9_touch_11 : decode cX9_touch 11 = .ok (.bipush (-4), 2) := de_16 (by decide +kernel)
theorem dX9_touch_13 : decode cX9_touch 13 = .ok (.invokevirtual 74, 3) := de_182 (by decide +kernel)
theorem dX9_touch_16 : decode cX9_touch 16 = .ok (.ireturn, 1) := de_172 (by decide +kernel)
theorem dX9_touch_17 : decode cX9_touch 17 = .ok (.aload_n 0, 1) := de_42 (by decide +kernel)
theorem dX9_touch_18 : decode cX9_touch 18 = .ok (.iload_n 1, 1) := de_27 (by decide +kernel)
theorem dX9_touch_19 : decode cX9_touch 19 = .ok (.invokevirtual 168, 3) := de_182 (by decide +kernel)
theorem dX9_touch_22 : decode cX9_touch 22 = .ok (.ifCond .eq 11, 3) := de_153 (by decide +kernel)
theorem dX9_touch_25 : decode cX9_touch 25 = .ok (.aload_n 0, 1) := de_42 (by decide +kernel)
theorem dX9_touch_26 : decode cX9_touch 26 = .ok (.iload_n 2, 1) := de_28 (by decide +kernel)
theorem dX9_touch_27 : decode cX9_touch 27 = .ok (.invokevirtual 168, 3) := de_182 (by decide +kernel)
theorem dX9_touch_30 : decode cX9_touch 30 = .ok (.ifCond .ne 9, 3) := de_154 (by decide +kernel)
theorem dX9_touch_33 : decode cX9_touch 33 = .ok (.aload_n 0, 1) := de_42 (by decide +kernel)
theorem dX9_touch_34 : decode cX9_touch 34 = .ok (.iconst (-1), 1) := de_2 (by decide +kernel)
theorem dX9_touch_35 : decode cX9_touch 35 = .ok (.invokevirtual 74, 3) := de_182 (by decide +kernel)
theorem dX9_touch_38 : decode cX9_touch 38 = .ok (.ireturn, 1) := de_172 (by decide +kernel)
theorem dX9_touch_39 : decode cX9_touch 39 = .ok (.aload_n 0, 1) := de_42 (by decide +kernel)
theorem dX9_touch_40 : decode cX9_touch 40 = .ok (.getfield 39, 3) := de_180 (by decide +kernel)
theorem dX9_touch_43 : decode cX9_touch 43 = .ok (.iload_n 1, 1) := de_27 (by decide +kernel)
theorem dX9_touch_44 : decode cX9_touch 44 = .ok (.iload_n 2, 1) := de_28 (by decide +kernel)
theorem dX9_touch_45 : decode cX9_touch 45 = .ok (.invokevirtual 201, 3) := de_182 (by decide +kernel)
theorem dX9_touch_48 : decode cX9_touch 48 = .ok (.ireturn, 1) := de_172 (by decide +kernel)
def ckX9_at : List (List Cond) := [wsX9_at_r1, wsX9_at_r2, wsX9_at_r3, wsX90, wsX10, wsX70, wsX80, wsX40]
theorem ckX9_at_in : ∀ c ∈ ckX9_at, ∀ w ∈ c, w ∈ wsX9_at := List.forall_mem_cons.mpr ⟨fun _ h9 => List.mem_cons_of_mem _ (List.mem_append_left _ (List.mem_append_left _ (List.mem_append_left _ (List.mem_append_left _ (List.mem_append_left _ (List.mem_append_left _ h9)))))), List.forall_mem_cons.mpr ⟨fun _ h9 => List.mem_cons_of_mem _ (List.mem_append_left _ (List.mem_append_left _ (List.mem_append_left _ (List.mem_append_left _ (List.mem_append_left _ (List.mem_append_right _ (List.mem_append_left _ h9))))))), List.forall_mem_cons.mpr ⟨fun _ h9 => List.mem_cons_of_mem _ (List.mem_append_left _ (List.mem_append_left _ (List.mem_append_left _ (List.mem_append_left _ (List.mem_append_left _ (List.mem_append_right _ (List.mem_append_right _ h9))))))), List.forall_mem_cons.mpr ⟨fun _ h9 => List.mem_cons_of_mem _ (List.mem_append_left _ (List.mem_append_left _ (List.mem_append_left _ (List.mem_append_left _ (List.mem_append_right _ h9))))), List.forall_mem_cons.mpr ⟨fun _ h9 => List.mem_cons_of_mem _ (List.mem_append_left _ (List.mem_append_left _ (List.mem_append_left _ (List.mem_append_right _ h9)))), List.forall_mem_cons.mpr ⟨fun _ h9 => List.mem_cons_of_mem _ (List.mem_append_left _ (List.mem_append_left _ (List.mem_append_right _ h9))), List.forall_mem_cons.mpr ⟨fun _ h9 => List.mem_cons_of_mem _ (List.mem_append_left _ (List.mem_append_right _ h9)), List.forall_mem_cons.mpr ⟨fun _ h9 => List.mem_cons_of_mem _ (List.mem_append_right _ h9), List.forall_mem_nil _⟩⟩⟩⟩⟩⟩⟩⟩
set_option maxRecDepth 20000 in
theorem ggX9_at_X1_isThere : GoodIn wsX9_at wsX1_isThere := goodIn_k ckX9_at_in _ [(0, 8), (0, 9), (4, 0), (4, 1), (4, 2), (4, 3), (4, 4), (4, 5), (4, 6)] rfl (by decide +kernel)
set_option maxRecDepth 20000 in
theorem gX9_at_X1_isThere : GoodIn wsX9_at (wsV RX9 92 RX1 yX1_isThere wsX1_isThere) := goodIn_app (goodIn_r ([.methodLink RX9 92 yX1_isThere, .instanceMethod yX1_isThere, .selects RX1 yX1_isThere yX1_isThere, .initialized RX1] : List Cond) [5, 6, 7, 8] rfl (by decide +kernel)) ggX9_at_X1_isThere
set_option maxRecDepth 20000 in
theorem ggX9_at_X9_tell : GoodIn wsX9_at wsX9_tell := goodIn_k ckX9_at_in _ [(0, 14), (0, 15), (3, 0), (3, 1), (3, 2), (3, 3), (3, 4), (3, 5), (3, 6), (3, 7), (3, 8), (3, 9), (3, 10), (3, 11)] rfl (by decide +kernel)
set_option maxRecDepth 20000 in
theorem gX9_at_X9_tell : GoodIn wsX9_at (wsV RX9 74 RX9 yX9_tell wsX9_tell) := goodIn_app (goodIn_r ([.methodLink RX9 74 yX9_tell, .instanceMethod yX9_tell, .selects RX9 yX9_tell yX9_tell, .initialized RX9] : List Cond) [11, 12, 13, 14] rfl (by decide +kernel)) ggX9_at_X9_tell
set_option maxRecDepth 20000 in
theorem ggX9_at_X7_around : GoodIn wsX9_at wsX7_around := goodIn_k ckX9_at_in _ [(0, 20), (0, 21), (0, 22), (0, 23), (1, 0), (1, 1), (1, 2), (1, 3), (1, 4), (1, 5), (1, 6), (1, 7), (1, 8), (1, 9), (1, 10), (1, 11), (1, 12), (0, 19), (1, 13), (1, 14), (1, 15), (1, 16), (1, 17), (1, 18), (1, 19), (1, 20), (1, 21), (1, 22), (1, 23), (2, 0), (2, 1), (2, 2), (2, 3), (2, 4), (2, 5), (2, 6), (2, 7), (2, 8), (2, 9), (2, 10), (2, 11), (2, 12), (2, 13), (2, 14), (2, 15), (2, 16), (2, 17), (2, 18), (2, 19), (2, 20), (5, 0), (5, 1), (5, 2), (5, 3), (5, 4), (5, 5), (5, 6), (6, 0), (6, 1), (6, 2), (6, 3), (6, 4), (6, 5), (6, 6), (6, 7), (6, 8), (6, 9), (6, 10), (7, 0), (7, 1), (7, 2), (7, 3)] rfl (by decide +kernel)
set_option maxRecDepth 20000 in
theorem gX9_at_X7_around : GoodIn wsX9_at (wsV RX9 208 RX7 yX7_around wsX7_around) := goodIn_app (goodIn_r ([.methodLink RX9 208 yX7_around, .instanceMethod yX7_around, .selects RX7 yX7_around yX7_around, .initialized RX7] : List Cond) [17, 18, 19, 20] rfl (by decide +kernel)) ggX9_at_X7_around
theorem dX9_at_0 : decode cX9_at 0 = .ok (.aload_n 0, 1) := de_42 (by decide +kernel)
theorem dX9_at_1 : decode cX9_at 1 = .ok (.getfield 12, 3) := de_180 (by decide +kernel)
theorem dX9_at_4 : decode cX9_at 4 = .ok (.invokevirtual 92, 3) := de_182 (by decide +kernel)
theorem dX9_at_7 : decode cX9_at 7 = .ok (.ifCond .ne 10, 3) := de_154 (by decide +kernel)
theorem dX9_at_10 : decode cX9_at 10 = .ok (.aload_n 0, 1) := de_42 (by decide +kernel)
theorem dX9_at_11 : decode cX9_at 11 = .ok (.bipush (-4), 2) := de_16 (by decide +kernel)
theorem dX9_at_13 : decode cX9_at 13 = .ok (.invokevirtual 74, 3) := de_182 (by decide +kernel)
theorem dX9_at_16 : decode cX9_at 16 = .ok (.ireturn, 1) := de_172 (by decide +kernel)
theorem dX9_at_17 : decode cX9_at 17 = .ok (.iload_n 1, 1) := de_27 (by decide +kernel)
theorem dX9_at_18 : decode cX9_at 18 = .ok (.ifCond .le 33, 3) := de_158 (by decide +kernel)
theorem dX9_at_21 : decode cX9_at 21 = .ok (.iload_n 2, 1) := de_28 (by decide +kernel)
theorem dX9_at_22 : decode cX9_at 22 = .ok (.ifCond .le 29, 3) := de_158 (by decide +kernel)
theorem dX9_at_25 : decode cX9_at 25 = .ok (.iload_n 1, 1) := de_27 (by decide +kernel)
theorem dX9_at_26 : decode cX9_at 26 = .ok (.iconst 2, 1) := de_5 (by decide +kernel)
theorem dX9_at_27 : decode cX9_at 27 = .ok (.aload_n 0, 1) := de_42 (by decide +kernel)
theorem dX9_at_28 : decode cX9_at 28 = .ok (.getfield 12, 3) := de_180 (by decide +kernel)
theorem dX9_at_31 : decode cX9_at 31 = .ok (.getfield 111, 3) := de_180 (by decide +kernel)
theorem dX9_at_34 : decode cX9_at 34 = .ok (.imul, 1) := de_104 (by decide +kernel)
theorem dX9_at_35 : decode cX9_at 35 = .ok (.if_icmp .ge 16, 3) := de_162 (by decide +kernel)
theorem dX9_at_38 : decode cX9_at 38 = .ok (.iload_n 2, 1) := de_28 (by decide +kernel)
theorem dX9_at_39 : decode cX9_at 39 = .ok (.iconst 2, 1) := de_5 (by decide +kernel)
theorem dX9_at_40 : decode cX9_at 40 = .ok (.aload_n 0, 1) := de_42 (by decide +kernel)
theorem dX9_at_41 : decode cX9_at 41 = .ok (.getfield 12, 3) := de_180 (by decide +kernel)
theorem dX9_at_44 : decode cX9_at 44 = .ok (.getfield 114, 3) := de_180 (by decide +kernel)
theorem dX9_at_47 : decode cX9_at 47 = .ok (.imul, 1) := de_104 (by decide +kernel)
theorem dX9_at_48 : decode cX9_at 48 = .ok (.if_icmp .lt 9, 3) := de_161 (by decide +kernel)
theorem dX9_at_51 : decode cX9_at 51 = .ok (.aload_n 0, 1) := de_42 (by decide +kernel)
theorem dX9_at_52 : decode cX9_at 52 = .ok (.iconst (-1), 1) := de_2 (by decide +kernel)
theorem dX9_at_53 : decode cX9_at 53 = .ok (.invokevirtual 74, 3) := de_182 (by decide +kernel)
theorem dX9_at_56 : decode cX9_at 56 = .ok (.ireturn, 1) := de_172 (by decide +kernel)
theorem dX9_at_57 : decode cX9_at 57 = .ok (.aload_n 0, 1) := de_42 (by decide +kernel)
theorem dX9_at_58 : decode cX9_at 58 = .ok (.getfield 39, 3) := de_180 (by decide +kernel)
theorem dX9_at_61 : decode cX9_at 61 = .ok (.iload_n 1, 1) := de_27 (by decide +kernel)
theorem dX9_at_62 : decode cX9_at 62 = .ok (.iload_n 2, 1) := de_28 (by decide +kernel)
theorem dX9_at_63 : decode cX9_at 63 = .ok (.iconst 2, 1) := de_5 (by decide +kernel)
theorem dX9_at_64 : decode cX9_at 64 = .ok (.invokevirtual 208, 3) := de_182 (by decide +kernel)
theorem dX9_at_67 : decode cX9_at 67 = .ok (.istore_n 3, 1) := de_62 (by decide +kernel)
theorem dX9_at_68 : decode cX9_at 68 = .ok (.iload_n 3, 1) := de_29 (by decide +kernel)
theorem dX9_at_69 : decode cX9_at 69 = .ok (.ifCond .ge 12, 3) := de_156 (by decide +kernel)
theorem dX9_at_72 : decode cX9_at 72 = .ok (.aload_n 0, 1) := de_42 (by decide +kernel)
theorem dX9_at_73 : decode cX9_at 73 = .ok (.bipush (-7), 2) := de_16 (by decide +kernel)
theorem dX9_at_75 : decode cX9_at 75 = .ok (.invokevirtual 74, 3) := de_182 (by decide +kernel)
theorem dX9_at_78 : decode cX9_at 78 = .ok (.goto 4, 3) := de_167 (by decide +kernel)
theorem dX9_at_81 : decode cX9_at 81 = .ok (.iload_n 3, 1) := de_29 (by decide +kernel)
theorem dX9_at_82 : decode cX9_at 82 = .ok (.ireturn, 1) := de_172 (by decide +kernel)
set_option maxRecDepth 20000 in
theorem ggX9_glass_X1_isThere : GoodIn wsX9_glass wsX1_isThere := goodIn_r _ [7, 8, 44, 45, 46, 47, 48, 49, 50] rfl (by decide +kernel)
set_option maxRecDepth 20000 in
theorem gX9_glass_X1_isThere : GoodIn wsX9_glass (wsV RX9 92 RX1 yX1_isThere wsX1_isThere) := goodIn_app (goodIn_r ([.methodLink RX9 92 yX1_isThere, .instanceMethod yX1_isThere, .selects RX1 yX1_isThere yX1_isThere, .initialized RX1] : List Cond) [3, 4, 5, 6] rfl (by decide +kernel)) ggX9_glass_X1_isThere
def ckX9_glass : List (List Cond) := [wsX9_glass_r1, wsX9_glass_r2, wsX90, wsX10, wsX70, wsX30]
theorem ckX9_glass_in : ∀ c ∈ ckX9_glass, ∀ w ∈ c, w ∈ wsX9_glass := List.forall_mem_cons.mpr ⟨fun _ h9 => List.mem_cons_of_mem _ (List.mem_append_left _ (List.mem_append_left _ (List.mem_append_left _ (List.mem_append_left _ (List.mem_append_left _ h9))))), List.forall_mem_cons.mpr ⟨fun _ h9 => List.mem_cons_of_mem _ (List.mem_append_left _ (List.mem_append_left _ (List.mem_append_left _ (List.mem_append_left _ (List.mem_append_right _ h9))))), List.forall_mem_cons.mpr ⟨fun _ h9 => List.mem_cons_of_mem _ (List.mem_append_left _ (List.mem_append_left _ (List.mem_append_left _ (List.mem_append_right _ h9)))), List.forall_mem_cons.mpr ⟨fun _ h9 => List.mem_cons_of_mem _ (List.mem_append_left _ (List.mem_append_left _ (List.mem_append_right _ h9))), List.forall_mem_cons.mpr ⟨fun _ h9 => List.mem_cons_of_mem _ (List.mem_append_left _ (List.mem_append_right _ h9)), List.forall_mem_cons.mpr ⟨fun _ h9 => List.mem_cons_of_mem _ (List.mem_append_right _ h9), List.forall_mem_nil _⟩⟩⟩⟩⟩⟩
set_option maxRecDepth 20000 in
theorem ggX9_glass_X9_tell : GoodIn wsX9_glass wsX9_tell := goodIn_k ckX9_glass_in _ [(0, 12), (0, 13), (2, 0), (2, 1), (2, 2), (2, 3), (2, 4), (2, 5), (2, 6), (2, 7), (2, 8), (2, 9), (2, 10), (2, 11)] rfl (by decide +kernel)
set_option maxRecDepth 20000 in
theorem gX9_glass_X9_tell : GoodIn wsX9_glass (wsV RX9 74 RX9 yX9_tell wsX9_tell) := goodIn_app (goodIn_r ([.methodLink RX9 74 yX9_tell, .instanceMethod yX9_tell, .selects RX9 yX9_tell yX9_tell, .initialized RX9] : List Cond) [9, 10, 11, 12] rfl (by decide +kernel)) ggX9_glass_X9_tell
set_option maxRecDepth 20000 in
theorem ggX9_glass_X9_hasPane : GoodIn wsX9_glass wsX9_hasPane := goodIn_k ckX9_glass_in _ [(0, 17), (0, 18), (0, 19), (2, 0), (2, 1), (2, 2), (2, 3), (2, 4), (2, 5), (2, 6), (2, 7), (2, 8), (2, 9), (2, 10), (2, 11), (4, 0), (4, 1), (4, 2), (4, 3), (4, 4), (4, 5), (4, 6)] rfl (by decide +kernel)
set_option maxRecDepth 20000 in
theorem gX9_glass_X9_hasPane : GoodIn wsX9_glass (wsV RX9 168 RX9 yX9_hasPane wsX9_hasPane) := goodIn_app (goodIn_r ([.methodLink RX9 168 yX9_hasPane, .instanceMethod yX9_hasPane, .selects RX9 yX9_hasPane yX9_hasPane, .initialized RX9] : List Cond) [15, 16, 17, 12] rfl (by decide +kernel)) ggX9_glass_X9_hasPane
set_option maxRecDepth 20000 in
theorem ggX9_glass_X9_isKind : GoodIn wsX9_glass wsX9_isKind := goodIn_r _ [23] rfl (by decide +kernel)
set_option maxRecDepth 20000 in
theorem gX9_glass_X9_isKind : GoodIn wsX9_glass (va_wsS RX9 212 yX9_isKind wsX9_isKind) := goodIn_app (goodIn_r ([.methodLink RX9 212 yX9_isKind, .static yX9_isKind, .initialized yX9_isKind.cls] : List Cond) [21, 22, 12] rfl (by decide +kernel)) ggX9_glass_X9_isKind
set_option maxRecDepth 20000 in
theorem ggX9_glass_X3_put : GoodIn wsX9_glass wsX3_put := goodIn_k ckX9_glass_in _ [(1, 3), (1, 4), (1, 5), (1, 6), (5, 0), (5, 1), (5, 2), (5, 3), (5, 4), (5, 5), (5, 6), (5, 7), (5, 8), (5, 9), (5, 10), (5, 11), (5, 12)] rfl (by decide +kernel)
set_option maxRecDepth 20000 in
theorem gX9_glass_X3_put : GoodIn wsX9_glass (wsV RX9 215 RX3 yX3_put wsX3_put) := goodIn_app (goodIn_r ([.methodLink RX9 215 yX3_put, .instanceMethod yX3_put, .selects RX3 yX3_put yX3_put, .initialized RX3] : List Cond) [24, 25, 26, 27] rfl (by decide +kernel)) ggX9_glass_X3_put
theorem dX9_glass_0 : decode cX9_glass 0 = .ok (.aload_n 0, 1) := de_42 (by decide +kernel)
theorem dX9_glass_1 : decode cX9_glass 1 = .ok (.getfield 12, 3) := de_180 (by decide +kernel)
theorem dX9_glass_4 : decode cX9_glass 4 = .ok (.invokevirtual 92, 3) := de_182 (by decide +kernel)
theorem dX9_glass_7 : decode cX9_glass 7 = .ok (.ifCond .ne 10, 3) := de_154 (by decide +kernel)
theorem dX9_glass_10 : decode cX9_glass 10 = .ok (.aload_n 0, 1) := de_42 (by decide +kernel)
theorem dX9_glass_11 : decode cX9_glass 11 = .ok (.bipush (-4), 2) := de_16 (by decide +kernel)
theorem dX9_glass_13 : decode cX9_glass 13 = .ok (.invokevirtual 74, 3) := de_182 (by decide +kernel)
theorem dX9_glass_16 : decode cX9_glass 16 = .ok (.ireturn, 1) := de_172 (by decide +kernel)
theorem dX9_glass_17 : decode cX9_glass 17 = .ok (.aload_n 0, 1) := de_42 (by decide +kernel)
theorem dX9_glass_18 : decode cX9_glass 18 = .ok (.iload_n 1, 1) := de_27 (by decide +kernel)
theorem dX9_glass_19 : decode cX9_glass 19 = .ok (.invokevirtual 168, 3) := de_182 (by decide +kernel)
theorem dX9_glass_22 : decode cX9_glass 22 = .ok (.ifCond .ne 9, 3) := de_154 (by decide +kernel)
theorem dX9_glass_25 : decode cX9_glass 25 = .ok (.aload_n 0, 1) := de_42 (by decide +kernel)
theorem dX9_glass_26 : decode cX9_glass 26 = .ok (.iconst (-1), 1) := de_2 (by decide +kernel)
theorem dX9_glass_27 : decode cX9_glass 27 = .ok (.invokevirtual 74, 3) := de_182 (by decide +kernel)
theorem dX9_glass_30 : decode cX9_glass 30 = .ok (.ireturn, 1) := de_172 (by decide +kernel)
theorem dX9_glass_31 : decode cX9_glass 31 = .ok (.iload_n 2, 1) := de_28 (by decide +kernel)
theorem dX9_glass_32 : decode cX9_glass 32 = .ok (.invokestatic 212, 3) := de_184 (by decide +kernel)
theorem dX9_glass_35 : decode cX9_glass 35 = .ok (.ifCond .ne 10, 3) := de_154 (by decide +kernel)
theorem dX9_glass_38 : decode cX9_glass 38 = .ok (.aload_n 0, 1) := de_42 (by decide +kernel)
theorem dX9_glass_39 : decode cX9_glass 39 = .ok (.bipush (-5), 2) := de_16 (by decide +kernel)
theorem dX9_glass_41 : decode cX9_glass 41 = .ok (.invokevirtual 74, 3) := de_182 (by decide +kernel)
theorem dX9_glass_44 : decode cX9_glass 44 = .ok (.ireturn, 1) := de_172 (by decide +kernel)
theorem dX9_glass_45 : decode cX9_glass 45 = .ok (.aload_n 0, 1) := de_42 (by decide +kernel)
theorem dX9_glass_46 : decode cX9_glass 46 = .ok (.getfield 46, 3) := de_180 (by decide +kernel)
theorem dX9_glass_49 : decode cX9_glass 49 = .ok (.iload_n 1, 1) := de_27 (by decide +kernel)
theorem dX9_glass_50 : decode cX9_glass 50 = .ok (.iload_n 2, 1) := de_28 (by decide +kernel)
theorem dX9_glass_51 : decode cX9_glass 51 = .ok (.iload_n 3, 1) := de_29 (by decide +kernel)
theorem dX9_glass_52 : decode cX9_glass 52 = .ok (.invokevirtual 215, 3) := de_182 (by decide +kernel)
theorem dX9_glass_55 : decode cX9_glass 55 = .ok (.iconst 1, 1) := de_4 (by decide +kernel)
theorem dX9_glass_56 : decode cX9_glass 56 = .ok (.ireturn, 1) := de_172 (by decide +kernel)
def ckX9_colours : List (List Cond) := [wsX9_colours_r1, wsX9_colours_r2, wsX9_colours_r3, wsX90, wsX10, wsX30]
theorem ckX9_colours_in : ∀ c ∈ ckX9_colours, ∀ w ∈ c, w ∈ wsX9_colours := List.forall_mem_cons.mpr ⟨fun _ h9 => List.mem_cons_of_mem _ (List.mem_append_left _ (List.mem_append_left _ (List.mem_append_left _ (List.mem_append_left _ h9)))), List.forall_mem_cons.mpr ⟨fun _ h9 => List.mem_cons_of_mem _ (List.mem_append_left _ (List.mem_append_left _ (List.mem_append_left _ (List.mem_append_right _ (List.mem_append_left _ h9))))), List.forall_mem_cons.mpr ⟨fun _ h9 => List.mem_cons_of_mem _ (List.mem_append_left _ (List.mem_append_left _ (List.mem_append_left _ (List.mem_append_right _ (List.mem_append_right _ h9))))), List.forall_mem_cons.mpr ⟨fun _ h9 => List.mem_cons_of_mem _ (List.mem_append_left _ (List.mem_append_left _ (List.mem_append_right _ h9))), List.forall_mem_cons.mpr ⟨fun _ h9 => List.mem_cons_of_mem _ (List.mem_append_left _ (List.mem_append_right _ h9)), List.forall_mem_cons.mpr ⟨fun _ h9 => List.mem_cons_of_mem _ (List.mem_append_right _ h9), List.forall_mem_nil _⟩⟩⟩⟩⟩⟩
set_option maxRecDepth 20000 in
theorem ggX9_colours_X1_isThere : GoodIn wsX9_colours wsX1_isThere := goodIn_k ckX9_colours_in _ [(0, 7), (0, 8), (4, 0), (4, 1), (4, 2), (4, 3), (4, 4), (4, 5), (4, 6)] rfl (by decide +kernel)
set_option maxRecDepth 20000 in
theorem gX9_colours_X1_isThere : GoodIn wsX9_colours (wsV RX9 92 RX1 yX1_isThere wsX1_isThere) := goodIn_app (goodIn_r ([.methodLink RX9 92 yX1_isThere, .instanceMethod yX1_isThere, .selects RX1 yX1_isThere yX1_isThere, .initialized RX1] : List Cond) [4, 5, 6, 7] rfl (by decide +kernel)) ggX9_colours_X1_isThere
set_option maxRecDepth 20000 in
theorem ggX9_colours_X9_tell : GoodIn wsX9_colours wsX9_tell := goodIn_k ckX9_colours_in _ [(0, 13), (0, 14), (3, 0), (3, 1), (3, 2), (3, 3), (3, 4), (3, 5), (3, 6), (3, 7), (3, 8), (3, 9), (3, 10), (3, 11)] rfl (by decide +kernel)
set_option maxRecDepth 20000 in
theorem gX9_colours_X9_tell : GoodIn wsX9_colours (wsV RX9 74 RX9 yX9_tell wsX9_tell) := goodIn_app (goodIn_r ([.methodLink RX9 74 yX9_tell, .instanceMethod yX9_tell, .selects RX9 yX9_tell yX9_tell, .initialized RX9] : List Cond) [10, 11, 12, 13] rfl (by decide +kernel)) ggX9_colours_X9_tell
set_option maxRecDepth 20000 in
theorem ggX9_colours_X3_colourAll : GoodIn wsX9_colours wsX3_colourAll := goodIn_k ckX9_colours_in _ [(0, 19), (0, 20), (0, 21), (0, 22), (0, 23), (1, 0), (1, 1), (1, 2), (0, 18), (1, 3), (1, 4), (1, 5), (1, 6), (1, 7), (1, 8), (1, 9), (1, 10), (1, 11), (1, 12), (1, 13), (1, 14), (1, 15), (1, 16), (1, 17), (1, 18), (1, 19), (1, 20), (1, 21), (1, 22), (1, 23), (2, 0), (2, 1), (2, 2), (2, 3), (2, 4), (2, 5), (2, 6), (2, 7), (5, 0), (5, 1), (5, 2), (5, 3), (5, 4), (5, 5), (5, 6), (5, 7), (5, 8), (5, 9), (5, 10), (5, 11), (5, 12)] rfl (by decide +kernel)
set_option maxRecDepth 20000 in
theorem gX9_colours_X3_colourAll : GoodIn wsX9_colours (wsV RX9 220 RX3 yX3_colourAll wsX3_colourAll) := goodIn_app (goodIn_r ([.methodLink RX9 220 yX3_colourAll, .instanceMethod yX3_colourAll, .selects RX3 yX3_colourAll yX3_colourAll, .initialized RX3] : List Cond) [16, 17, 18, 19] rfl (by decide +kernel)) ggX9_colours_X3_colourAll
theorem dX9_colours_0 : decode cX9_colours 0 = .ok (.aload_n 0, 1) := de_42 (by decide +kernel)
theorem dX9_colours_1 : decode cX9_colours 1 = .ok (.getfield 12, 3) := de_180 (by decide +kernel)
theorem dX9_colours_4 : decode cX9_colours 4 = .ok (.invokevirtual 92, 3) := de_182 (by decide +kernel)
theorem dX9_colours_7 : decode cX9_colours 7 = .ok (.ifCond .ne 10, 3) := de_154 (by decide +kernel)
theorem dX9_colours_10 : decode cX9_colours 10 = .ok (.aload_n 0, 1) := de_42 (by decide +kernel)
theorem dX9_colours_11 : decode cX9_colours 11 = .ok (.bipush (-4), 2) := de_16 (by decide +kernel)
theorem dX9_colours_13 : decode cX9_colours 13 = .ok (.invokevirtual 74, 3) := de_182 (by decide +kernel)
theorem dX9_colours_16 : decode cX9_colours 16 = .ok (.ireturn, 1) := de_172 (by decide +kernel)
theorem dX9_colours_17 : decode cX9_colours 17 = .ok (.iload_n 1, 1) := de_27 (by decide +kernel)
theorem dX9_colours_18 : decode cX9_colours 18 = .ok (.ifCond .lt 9, 3) := de_155 (by decide +kernel)
theorem dX9_colours_21 : decode cX9_colours 21 = .ok (.iload_n 1, 1) := de_27 (by decide +kernel)
theorem dX9_colours_22 : decode cX9_colours 22 = .ok (.ldc 219, 2) := de_18 (by decide +kernel)
theorem dX9_colours_24 : decode cX9_colours 24 = .ok (.if_icmp .le 9, 3) := de_164 (by decide +kernel)
theorem dX9_colours_27 : decode cX9_colours 27 = .ok (.aload_n 0, 1) := de_42 (by decide +kernel)
theorem dX9_colours_28 : decode cX9_colours 28 = .ok (.iconst (-1), 1) := de_2 (by decide +kernel)
theorem dX9_colours_29 : decode cX9_colours 29 = .ok (.invokevirtual 74, 3) := de_182 (by decide +kernel)
theorem dX9_colours_32 : decode cX9_colours 32 = .ok (.ireturn, 1) := de_172 (by decide +kernel)
theorem dX9_colours_33 : decode cX9_colours 33 = .ok (.aload_n 0, 1) := de_42 (by decide +kernel)
theorem dX9_colours_34 : decode cX9_colours 34 = .ok (.getfield 46, 3) := de_180 (by decide +kernel)
theorem dX9_colours_37 : decode cX9_colours 37 = .ok (.iload_n 1, 1) := de_27 (by decide +kernel)
theorem dX9_colours_38 : decode cX9_colours 38 = .ok (.invokevirtual 220, 3) := de_182 (by decide +kernel)
theorem dX9_colours_41 : decode cX9_colours 41 = .ok (.istore_n 2, 1) := de_61 (by decide +kernel)
theorem dX9_colours_42 : decode cX9_colours 42 = .ok (.iload_n 2, 1) := de_28 (by decide +kernel)
theorem dX9_colours_43 : decode cX9_colours 43 = .ok (.ifCond .ge 11, 3) := de_156 (by decide +kernel)
theorem dX9_colours_46 : decode cX9_colours 46 = .ok (.aload_n 0, 1) := de_42 (by decide +kernel)
theorem dX9_colours_47 : decode cX9_colours 47 = .ok (.iload_n 2, 1) := de_28 (by decide +kernel)
theorem dX9_colours_48 : decode cX9_colours 48 = .ok (.invokevirtual 74, 3) := de_182 (by decide +kernel)
theorem dX9_colours_51 : decode cX9_colours 51 = .ok (.goto 4, 3) := de_167 (by decide +kernel)
theorem dX9_colours_54 : decode cX9_colours 54 = .ok (.iload_n 2, 1) := de_28 (by decide +kernel)
theorem dX9_colours_55 : decode cX9_colours 55 = .ok (.ireturn, 1) := de_172 (by decide +kernel)
def ckX9_lack : List (List Cond) := [wsX9_lack_r1, wsX9_lack_r2, wsX9_lack_r3, wsX90, wsX10, wsX30]
theorem ckX9_lack_in : ∀ c ∈ ckX9_lack, ∀ w ∈ c, w ∈ wsX9_lack := List.forall_mem_cons.mpr ⟨fun _ h9 => List.mem_cons_of_mem _ (List.mem_append_left _ (List.mem_append_left _ (List.mem_append_left _ (List.mem_append_left _ h9)))), List.forall_mem_cons.mpr ⟨fun _ h9 => List.mem_cons_of_mem _ (List.mem_append_left _ (List.mem_append_left _ (List.mem_append_left _ (List.mem_append_right _ (List.mem_append_left _ h9))))), List.forall_mem_cons.mpr ⟨fun _ h9 => List.mem_cons_of_mem _ (List.mem_append_left _ (List.mem_append_left _ (List.mem_append_left _ (List.mem_append_right _ (List.mem_append_right _ h9))))), List.forall_mem_cons.mpr ⟨fun _ h9 => List.mem_cons_of_mem _ (List.mem_append_left _ (List.mem_append_left _ (List.mem_append_right _ h9))), List.forall_mem_cons.mpr ⟨fun _ h9 => List.mem_cons_of_mem _ (List.mem_append_left _ (List.mem_append_right _ h9)), List.forall_mem_cons.mpr ⟨fun _ h9 => List.mem_cons_of_mem _ (List.mem_append_right _ h9), List.forall_mem_nil _⟩⟩⟩⟩⟩⟩
set_option maxRecDepth 20000 in
theorem ggX9_lack_X1_isThere : GoodIn wsX9_lack wsX1_isThere := goodIn_k ckX9_lack_in _ [(0, 6), (0, 7), (4, 0), (4, 1), (4, 2), (4, 3), (4, 4), (4, 5), (4, 6)] rfl (by decide +kernel)
set_option maxRecDepth 20000 in
theorem gX9_lack_X1_isThere : GoodIn wsX9_lack (wsV RX9 92 RX1 yX1_isThere wsX1_isThere) := goodIn_app (goodIn_r ([.methodLink RX9 92 yX1_isThere, .instanceMethod yX1_isThere, .selects RX1 yX1_isThere yX1_isThere, .initialized RX1] : List Cond) [3, 4, 5, 6] rfl (by decide +kernel)) ggX9_lack_X1_isThere
set_option maxRecDepth 20000 in
theorem ggX9_lack_X9_tell : GoodIn wsX9_lack wsX9_tell := goodIn_k ckX9_lack_in _ [(0, 12), (0, 13), (3, 0), (3, 1), (3, 2), (3, 3), (3, 4), (3, 5), (3, 6), (3, 7), (3, 8), (3, 9), (3, 10), (3, 11)] rfl (by decide +kernel)
set_option maxRecDepth 20000 in
theorem gX9_lack_X9_tell : GoodIn wsX9_lack (wsV RX9 74 RX9 yX9_tell wsX9_tell) := goodIn_app (goodIn_r ([.methodLink RX9 74 yX9_tell, .instanceMethod yX9_tell, .selects RX9 yX9_tell yX9_tell, .initialized RX9] : List Cond) [9, 10, 11, 12] rfl (by decide +kernel)) ggX9_lack_X9_tell
set_option maxRecDepth 20000 in
theorem ggX9_lack_X3_leaveOut : GoodIn wsX9_lack wsX3_leaveOut := goodIn_k ckX9_lack_in _ [(0, 18), (0, 19), (0, 20), (0, 21), (0, 22), (0, 23), (1, 0), (0, 17), (1, 1), (1, 2), (1, 3), (1, 4), (1, 5), (1, 6), (1, 7), (1, 8), (1, 9), (1, 10), (1, 11), (1, 12), (1, 13), (1, 14), (1, 15), (1, 16), (1, 17), (1, 18), (1, 19), (1, 20), (1, 21), (1, 22), (1, 23), (2, 0), (2, 1), (2, 2), (2, 3), (2, 4), (2, 5), (2, 6), (5, 0), (5, 1), (5, 2), (5, 3), (5, 4), (5, 5), (5, 6), (5, 7), (5, 8), (5, 9), (5, 10), (5, 11), (5, 12)] rfl (by decide +kernel)
set_option maxRecDepth 20000 in
theorem gX9_lack_X3_leaveOut : GoodIn wsX9_lack (wsV RX9 223 RX3 yX3_leaveOut wsX3_leaveOut) := goodIn_app (goodIn_r ([.methodLink RX9 223 yX3_leaveOut, .instanceMethod yX3_leaveOut, .selects RX3 yX3_leaveOut yX3_leaveOut, .initialized RX3] : List Cond) [15, 16, 17, 18] rfl (by decide +kernel)) ggX9_lack_X3_leaveOut
theorem dX9_lack_0 : decode cX9_lack 0 = .ok (.aload_n 0, 1) := de_42 (by decide +kernel)
theorem dX9_lack_1 : decode cX9_lack 1 = .ok (.getfield 12, 3) := de_180 (by decide +kernel)
theorem dX9_lack_4 : decode cX9_lack 4 = .ok (.invokevirtual 92, 3) := de_182 (by decide +kernel)
theorem dX9_lack_7 : decode cX9_lack 7 = .ok (.ifCond .ne 10, 3) := de_154 (by decide +kernel)
theorem dX9_lack_10 : decode cX9_lack 10 = .ok (.aload_n 0, 1) := de_42 (by decide +kernel)
theorem dX9_lack_11 : decode cX9_lack 11 = .ok (.bipush (-4), 2) := de_16 (by decide +kernel)
theorem dX9_lack_13 : decode cX9_lack 13 = .ok (.invokevirtual 74, 3) := de_182 (by decide +kernel)
theorem dX9_lack_16 : decode cX9_lack 16 = .ok (.ireturn, 1) := de_172 (by decide +kernel)
theorem dX9_lack_17 : decode cX9_lack 17 = .ok (.iload_n 1, 1) := de_27 (by decide +kernel)
theorem dX9_lack_18 : decode cX9_lack 18 = .ok (.ifCond .lt 10, 3) := de_155 (by decide +kernel)
theorem dX9_lack_21 : decode cX9_lack 21 = .ok (.iload_n 1, 1) := de_27 (by decide +kernel)
theorem dX9_lack_22 : decode cX9_lack 22 = .ok (.sipush 20000, 3) := de_17 (by decide +kernel)
theorem dX9_lack_25 : decode cX9_lack 25 = .ok (.if_icmp .le 9, 3) := de_164 (by decide +kernel)
theorem dX9_lack_28 : decode cX9_lack 28 = .ok (.aload_n 0, 1) := de_42 (by decide +kernel)
theorem dX9_lack_29 : decode cX9_lack 29 = .ok (.iconst (-1), 1) := de_2 (by decide +kernel)
theorem dX9_lack_30 : decode cX9_lack 30 = .ok (.invokevirtual 74, 3) := de_182 (by decide +kernel)
theorem dX9_lack_33 : decode cX9_lack 33 = .ok (.ireturn, 1) := de_172 (by decide +kernel)
theorem dX9_lack_34 : decode cX9_lack 34 = .ok (.aload_n 0, 1) := de_42 (by decide +kernel)
theorem dX9_lack_35 : decode cX9_lack 35 = .ok (.getfield 46, 3) := de_180 (by decide +kernel)
theorem dX9_lack_38 : decode cX9_lack 38 = .ok (.iload_n 1, 1) := de_27 (by decide +kernel)
theorem dX9_lack_39 : decode cX9_lack 39 = .ok (.invokevirtual 223, 3) := de_182 (by decide +kernel)
theorem dX9_lack_42 : decode cX9_lack 42 = .ok (.istore_n 2, 1) := de_61 (by decide +kernel)
theorem dX9_lack_43 : decode cX9_lack 43 = .ok (.iload_n 2, 1) := de_28 (by decide +kernel)
theorem dX9_lack_44 : decode cX9_lack 44 = .ok (.ifCond .ge 11, 3) := de_156 (by decide +kernel)
theorem dX9_lack_47 : decode cX9_lack 47 = .ok (.aload_n 0, 1) := de_42 (by decide +kernel)
theorem dX9_lack_48 : decode cX9_lack 48 = .ok (.iload_n 2, 1) := de_28 (by decide +kernel)
theorem dX9_lack_49 : decode cX9_lack 49 = .ok (.invokevirtual 74, 3) := de_182 (by decide +kernel)
theorem dX9_lack_52 : decode cX9_lack 52 = .ok (.goto 4, 3) := de_167 (by decide +kernel)
theorem dX9_lack_55 : decode cX9_lack 55 = .ok (.iload_n 2, 1) := de_28 (by decide +kernel)
theorem dX9_lack_56 : decode cX9_lack 56 = .ok (.ireturn, 1) := de_172 (by decide +kernel)
set_option maxRecDepth 20000 in
theorem ggX9_bits_X1_isThere : GoodIn wsX9_bits wsX1_isThere := goodIn_r _ [7, 8, 33, 34, 35, 36, 37, 38, 39] rfl (by decide +kernel)
set_option maxRecDepth 20000 in
theorem gX9_bits_X1_isThere : GoodIn wsX9_bits (wsV RX9 92 RX1 yX1_isThere wsX1_isThere) := goodIn_app (goodIn_r ([.methodLink RX9 92 yX1_isThere, .instanceMethod yX1_isThere, .selects RX1 yX1_isThere yX1_isThere, .initialized RX1] : List Cond) [3, 4, 5, 6] rfl (by decide +kernel)) ggX9_bits_X1_isThere
set_option maxRecDepth 20000 in
theorem ggX9_bits_X9_tell : GoodIn wsX9_bits wsX9_tell := goodIn_r _ [13, 14, 21, 22, 23, 24, 25, 26, 27, 28, 29, 30, 31, 32] rfl (by decide +kernel)
set_option maxRecDepth 20000 in
theorem gX9_bits_X9_tell : GoodIn wsX9_bits (wsV RX9 74 RX9 yX9_tell wsX9_tell) := goodIn_app (goodIn_r ([.methodLink RX9 74 yX9_tell, .instanceMethod yX9_tell, .selects RX9 yX9_tell yX9_tell, .initialized RX9] : List Cond) [9, 10, 11, 12] rfl (by decide +kernel)) ggX9_bits_X9_tell
set_option maxRecDepth 20000 in
theorem ggX9_bits_X3_leftFrom : GoodIn wsX9_bits wsX3_leftFrom := goodIn_r _ [19, 20, 40, 41, 42, 43, 44, 45, 46, 47, 48, 49, 50, 51, 52] rfl (by decide +kernel)
set_option maxRecDepth 20000 in
theorem gX9_bits_X3_leftFrom : GoodIn wsX9_bits (wsV RX9 226 RX3 yX3_leftFrom wsX3_leftFrom) := goodIn_app (goodIn_r ([.methodLink RX9 226 yX3_leftFrom, .instanceMethod yX3_leftFrom, .selects RX3 yX3_leftFrom yX3_leftFrom, .initialized RX3] : List Cond) [15, 16, 17, 18] rfl (by decide +kernel)) ggX9_bits_X3_leftFrom
theorem dX9_bits_0 : decode cX9_bits 0 = .ok (.aload_n 0, 1) := de_42 (by decide +kernel)
theorem dX9_bits_1 : decode cX9_bits 1 = .ok (.getfield 12, 3) := de_180 (by decide +kernel)
theorem dX9_bits_4 : decode cX9_bits 4 = .ok (.invokevirtual 92, 3) := de_182 (by decide +kernel)
theorem dX9_bits_7 : decode cX9_bits 7 = .ok (.ifCond .ne 10, 3) := de_154 (by decide +kernel)
theorem dX9_bits_10 : decode cX9_bits 10 = .ok (.aload_n 0, 1) := de_42 (by decide +kernel)
theorem dX9_bits_11 : decode cX9_bits 11 = .ok (.bipush (-4), 2) := de_16 (by decide +kernel)
theorem dX9_bits_13 : decode cX9_bits 13 = .ok (.invokevirtual 74, 3) := de_182 (by decide +kernel)
theorem dX9_bits_16 : decode cX9_bits 16 = .ok (.ireturn, 1) := de_172 (by decide +kernel)
theorem dX9_bits_17 : decode cX9_bits 17 = .ok (.iload_n 1, 1) := de_27 (by decide +kernel)
theorem dX9_bits_18 : decode cX9_bits 18 = .ok (.ifCond .lt 9, 3) := de_155 (by decide +kernel)
theorem dX9_bits_21 : decode cX9_bits 21 = .ok (.iload_n 1, 1) := de_27 (by decide +kernel)
theorem dX9_bits_22 : decode cX9_bits 22 = .ok (.bipush 10, 2) := de_16 (by decide +kernel)
theorem dX9_bits_24 : decode cX9_bits 24 = .ok (.if_icmp .lt 9, 3) := de_161 (by decide +kernel)
theorem dX9_bits_27 : decode cX9_bits 27 = .ok (.aload_n 0, 1) := de_42 (by decide +kernel)
theorem dX9_bits_28 : decode cX9_bits 28 = .ok (.iconst (-1), 1) := de_2 (by decide +kernel)
theorem dX9_bits_29 : decode cX9_bits 29 = .ok (.invokevirtual 74, 3) := de_182 (by decide +kernel)
theorem dX9_bits_32 : decode cX9_bits 32 = .ok (.ireturn, 1) := de_172 (by decide +kernel)
theorem dX9_bits_33 : decode cX9_bits 33 = .ok (.aload_n 0, 1) := de_42 (by decide +kernel)
theorem dX9_bits_34 : decode cX9_bits 34 = .ok (.getfield 46, 3) := de_180 (by decide +kernel)
theorem dX9_bits_37 : decode cX9_bits 37 = .ok (.bipush 30, 2) := de_16 (by decide +kernel)
theorem dX9_bits_39 : decode cX9_bits 39 = .ok (.iload_n 1, 1) := de_27 (by decide +kernel)
theorem dX9_bits_40 : decode cX9_bits 40 = .ok (.imul, 1) := de_104 (by decide +kernel)
theorem dX9_bits_41 : decode cX9_bits 41 = .ok (.invokevirtual 226, 3) := de_182 (by decide +kernel)
theorem dX9_bits_44 : decode cX9_bits 44 = .ok (.ireturn, 1) := de_172 (by decide +kernel)
set_option maxRecDepth 20000 in
theorem ggX9_pick_X1_isThere : GoodIn wsX9_pick wsX1_isThere := goodIn_r _ [8, 9, 34, 35, 36, 37, 38, 39, 40] rfl (by decide +kernel)
set_option maxRecDepth 20000 in
theorem gX9_pick_X1_isThere : GoodIn wsX9_pick (wsV RX9 92 RX1 yX1_isThere wsX1_isThere) := goodIn_app (goodIn_r ([.methodLink RX9 92 yX1_isThere, .instanceMethod yX1_isThere, .selects RX1 yX1_isThere yX1_isThere, .initialized RX1] : List Cond) [4, 5, 6, 7] rfl (by decide +kernel)) ggX9_pick_X1_isThere
set_option maxRecDepth 20000 in
theorem ggX9_pick_X9_tell : GoodIn wsX9_pick wsX9_tell := goodIn_r _ [14, 15, 22, 23, 24, 25, 26, 27, 28, 29, 30, 31, 32, 33] rfl (by decide +kernel)
set_option maxRecDepth 20000 in
theorem gX9_pick_X9_tell : GoodIn wsX9_pick (wsV RX9 74 RX9 yX9_tell wsX9_tell) := goodIn_app (goodIn_r ([.methodLink RX9 74 yX9_tell, .instanceMethod yX9_tell, .selects RX9 yX9_tell yX9_tell, .initialized RX9] : List Cond) [10, 11, 12, 13] rfl (by decide +kernel)) ggX9_pick_X9_tell
set_option maxRecDepth 20000 in
theorem ggX9_pick_X9_hasPane : GoodIn wsX9_pick wsX9_hasPane := goodIn_r _ [19, 20, 21, 22, 23, 24, 25, 26, 27, 28, 29, 30, 31, 32, 33, 41, 42, 43, 44, 45, 46, 47] rfl (by decide +kernel)
set_option maxRecDepth 20000 in
theorem gX9_pick_X9_hasPane : GoodIn wsX9_pick (wsV RX9 168 RX9 yX9_hasPane wsX9_hasPane) := goodIn_app (goodIn_r ([.methodLink RX9 168 yX9_hasPane, .instanceMethod yX9_hasPane, .selects RX9 yX9_hasPane yX9_hasPane, .initialized RX9] : List Cond) [16, 17, 18, 13] rfl (by decide +kernel)) ggX9_pick_X9_hasPane
theorem dX9_pick_0 : decode cX9_pick 0 = .ok (.aload_n 0, 1) := de_42 (by decide +kernel)
theorem dX9_pick_1 : decode cX9_pick 1 = .ok (.getfield 12, 3) := de_180 (by decide +kernel)
theorem dX9_pick_4 : decode cX9_pick 4 = .ok (.invokevirtual 92, 3) := de_182 (by decide +kernel)
theorem dX9_pick_7 : decode cX9_pick 7 = .ok (.ifCond .ne 10, 3) := de_154 (by decide +kernel)
theorem dX9_pick_10 : decode cX9_pick 10 = .ok (.aload_n 0, 1) := de_42 (by decide +kernel)
theorem dX9_pick_11 : decode cX9_pick 11 = .ok (.bipush (-4), 2) := de_16 (by decide +kernel)
theorem dX9_pick_13 : decode cX9_pick 13 = .ok (.invokevirtual 74, 3) := de_182 (by decide +kernel)
theorem dX9_pick_16 : decode cX9_pick 16 = .ok (.ireturn, 1) := de_172 (by decide +kernel)
theorem dX9_pick_17 : decode cX9_pick 17 = .ok (.aload_n 0, 1) := de_42 (by decide +kernel)
theorem dX9_pick_18 : decode cX9_pick 18 = .ok (.iload_n 1, 1) := de_27 (by decide +kernel)
theorem dX9_pick_19 : decode cX9_pick 19 = .ok (.invokevirtual 168, 3) := de_182 (by decide +kernel)
theorem dX9_pick_22 : decode cX9_pick 22 = .ok (.ifCond .ne 9, 3) := de_154 (by decide +kernel)
theorem dX9_pick_25 : decode cX9_pick 25 = .ok (.aload_n 0, 1) := de_42 (by decide +kernel)
theorem dX9_pick_26 : decode cX9_pick 26 = .ok (.iconst (-1), 1) := de_2 (by decide +kernel)
theorem dX9_pick_27 : decode cX9_pick 27 = .ok (.invokevirtual 74, 3) := de_182 (by decide +kernel)
theorem dX9_pick_30 : decode cX9_pick 30 = .ok (.ireturn, 1) := de_172 (by decide +kernel)
theorem dX9_pick_31 : decode cX9_pick 31 = .ok (.aload_n 0, 1) := de_42 (by decide +kernel)
theorem dX9_pick_32 : decode cX9_pick 32 = .ok (.getfield 67, 3) := de_180 (by decide +kernel)
theorem dX9_pick_35 : decode cX9_pick 35 = .ok (.bipush 6, 2) := de_16 (by decide +kernel)
theorem dX9_pick_37 : decode cX9_pick 37 = .ok (.if_icmp .lt 10, 3) := de_161 (by decide +kernel)
theorem dX9_pick_40 : decode cX9_pick 40 = .ok (.aload_n 0, 1) := de_42 (by decide +kernel)
theorem dX9_pick_41 : decode cX9_pick 41 = .ok (.bipush (-3), 2) := de_16 (by decide +kernel)
theorem dX9_pick_43 : decode cX9_pick 43 = .ok (.invokevirtual 74, 3) := de_182 (by decide +kernel)
theorem dX9_pick_46 : decode cX9_pick 46 = .ok (.ireturn, 1) := de_172 (by decide +kernel)
theorem dX9_pick_47 : decode cX9_pick 47 = .ok (.aload_n 0, 1) := de_42 (by decide +kernel)
theorem dX9_pick_48 : decode cX9_pick 48 = .ok (.getfield 64, 3) := de_180 (by decide +kernel)
theorem dX9_pick_51 : decode cX9_pick 51 = .ok (.aload_n 0, 1) := de_42 (by decide +kernel)
theorem dX9_pick_52 : decode cX9_pick 52 = .ok (.getfield 67, 3) := de_180 (by decide +kernel)
theorem dX9_pick_55 : decode cX9_pick 55 = .ok (.iload_n 1, 1) := de_27 (by decide +kernel)
theorem dX9_pick_56 : decode cX9_pick 56 = .ok (.iastore, 1) := de_79 (by decide +kernel)
theorem dX9_pick_57 : decode cX9_pick 57 = .ok (.aload_n 0, 1) := de_42 (by decide +kernel)
theorem dX9_pick_58 : decode cX9_pick 58 = .ok (.dup, 1) := de_89 (by decide +kernel)
theorem dX9_pick_59 : decode cX9_pick 59 = .ok (.getfield 67, 3) := de_180 (by decide +kernel)
theorem dX9_pick_62 : decode cX9_pick 62 = .ok (.iconst 1, 1) := de_4 (by decide +kernel)
theorem dX9_pick_63 : decode cX9_pick 63 = .ok (.iadd, 1) := de_96 (by decide +kernel)
theorem dX9_pick_64 : decode cX9_pick 64 = .ok (.putfield 67, 3) := de_181 (by decide +kernel)
theorem dX9_pick_67 : decode cX9_pick 67 = .ok (.aload_n 0, 1) := de_42 (by decide +kernel)
theorem dX9_pick_68 : decode cX9_pick 68 = .ok (.getfield 67, 3) := de_180 (by decide +kernel)
theorem dX9_pick_71 : decode cX9_pick 71 = .ok (.ireturn, 1) := de_172 (by decide +kernel)
set_option maxRecDepth 20000 in
theorem ggX9_unpick_X1_isThere : GoodIn wsX9_unpick wsX1_isThere := goodIn_r _ [7, 8, 27, 28, 29, 30, 31, 32, 33] rfl (by decide +kernel)
set_option maxRecDepth 20000 in
theorem gX9_unpick_X1_isThere : GoodIn wsX9_unpick (wsV RX9 92 RX1 yX1_isThere wsX1_isThere) := goodIn_app (goodIn_r ([.methodLink RX9 92 yX1_isThere, .instanceMethod yX1_isThere, .selects RX1 yX1_isThere yX1_isThere, .initialized RX1] : List Cond) [3, 4, 5, 6] rfl (by decide +kernel)) ggX9_unpick_X1_isThere
set_option maxRecDepth 20000 in
theorem ggX9_unpick_X9_tell : GoodIn wsX9_unpick wsX9_tell := goodIn_r _ [13, 14, 15, 16, 17, 18, 19, 20, 21, 22, 23, 24, 25, 26] rfl (by decide +kernel)
set_option maxRecDepth 20000 in
theorem gX9_unpick_X9_tell : GoodIn wsX9_unpick (wsV RX9 74 RX9 yX9_tell wsX9_tell) := goodIn_app (goodIn_r ([.methodLink RX9 74 yX9_tell, .instanceMethod yX9_tell, .selects RX9 yX9_tell yX9_tell, .initialized RX9] : List Cond) [9, 10, 11, 12] rfl (by decide +kernel)) ggX9_unpick_X9_tell
theorem dX9_unpick_0 : decode cX9_unpick 0 = .ok (.aload_n 0, 1) := de_42 (by decide +kernel)
theorem dX9_unpick_1 : decode cX9_unpick 1 = .ok (.getfield 12, 3) := de_180 (by decide +kernel)
theorem dX9_unpick_4 : decode cX9_unpick 4 = .ok (.invokevirtual 92, 3) := de_182 (by decide +kernel)
theorem dX9_unpick_7 : decode cX9_unpick 7 = .ok (.ifCond .ne 10, 3) := de_154 (by decide +kernel)
theorem dX9_unpick_10 : decode cX9_unpick 10 = .ok (.aload_n 0, 1) := de_42 (by decide +kernel)
theorem dX9_unpick_11 : decode cX9_unpick 11 = .ok (.bipush (-4), 2) := de_16 (by decide +kernel)
theorem dX9_unpick_13 : decode cX9_unpick 13 = .ok (.invokevirtual 74, 3) := de_182 (by decide +kernel)
theorem dX9_unpick_16 : decode cX9_unpick 16 = .ok (.ireturn, 1) := de_172 (by decide +kernel)
theorem dX9_unpick_17 : decode cX9_unpick 17 = .ok (.aload_n 0, 1) := de_42 (by decide +kernel)
theorem dX9_unpick_18 : decode cX9_unpick 18 = .ok (.getfield 67, 3) := de_180 (by decide +kernel)
theorem dX9_unpick_21 : decode cX9_unpick 21 = .ok (.istore_n 1, 1) := de_60 (by decide +kernel)
theorem dX9_unpick_22 : decode cX9_unpick 22 = .ok (.aload_n 0, 1) := de_42 (by decide +kernel)
theorem dX9_unpick_23 : decode cX9_unpick 23 = .ok (.iconst 0, 1) := de_3 (by decide +kernel)
theorem dX9_unpick_24 : decode cX9_unpick 24 = .ok (.putfield 67, 3) := de_181 (by decide +kernel)
theorem dX9_unpick_27 : decode cX9_unpick 27 = .ok (.iload_n 1, 1) := de_27 (by decide +kernel)
theorem dX9_unpick_28 : decode cX9_unpick 28 = .ok (.ireturn, 1) := de_172 (by decide +kernel)
def ckX9_sheets : List (List Cond) := [wsX9_sheets_r1, wsX9_sheets_r2, wsX9_sheets_r3, wsX9_sheets_r4, wsX9_sheets_r5, wsX90, wsX10, wsX30, wsX00, wsX70, wsX40, wsX80]
theorem ckX9_sheets_in : ∀ c ∈ ckX9_sheets, ∀ w ∈ c, w ∈ wsX9_sheets := List.forall_mem_cons.mpr ⟨fun _ h9 => List.mem_cons_of_mem _ (List.mem_append_left _ (List.mem_append_left _ (List.mem_append_left _ (List.mem_append_left _ (List.mem_append_left _ (List.mem_append_left _ (List.mem_append_left _ (List.mem_append_left _ h9)))))))), List.forall_mem_cons.mpr ⟨fun _ h9 => List.mem_cons_of_mem _ (List.mem_append_left _ (List.mem_append_left _ (List.mem_append_left _ (List.mem_append_left _ (List.mem_append_left _ (List.mem_append_left _ (List.mem_append_left _ (List.mem_append_right _ (List.mem_append_left _ h9))))))))), List.forall_mem_cons.mpr ⟨fun _ h9 => List.mem_cons_of_mem _ (List.mem_append_left _ (List.mem_append_left _ (List.mem_append_left _ (List.mem_append_left _ (List.mem_append_left _ (List.mem_append_left _ (List.mem_append_left _ (List.mem_append_right _ (List.mem_append_right _ (List.mem_append_left _ h9)))))))))), List.forall_mem_cons.mpr ⟨fun _ h9 => List.mem_cons_of_mem _ (List.mem_append_left _ (List.mem_append_left _ (List.mem_append_left _ (List.mem_append_left _ (List.mem_append_left _ (List.mem_append_left _ (List.mem_append_left _ (List.mem_append_right _ (List.mem_append_right _ (List.mem_append_right _ (List.mem_append_left _ h9))))))))))), List.forall_mem_cons.mpr ⟨fun _ h9 => List.mem_cons_of_mem _ (List.mem_append_left _ (List.mem_append_left _ (List.mem_append_left _ (List.mem_append_left _ (List.mem_append_left _ (List.mem_append_left _ (List.mem_append_left _ (List.mem_append_right _ (List.mem_append_right _ (List.mem_append_right _ (List.mem_append_right _ h9))))))))))), List.forall_mem_cons.mpr ⟨fun _ h9 => List.mem_cons_of_mem _ (List.mem_append_left _ (List.mem_append_left _ (List.mem_append_left _ (List.mem_append_left _ (List.mem_append_left _ (List.mem_append_left _ (List.mem_append_right _ h9))))))), List.forall_mem_cons.mpr ⟨fun _ h9 => List.mem_cons_of_mem _ (List.mem_append_left _ (List.mem_append_left _ (List.mem_append_left _ (List.mem_append_left _ (List.mem_append_left _ (List.mem_append_right _ h9)))))), List.forall_mem_cons.mpr ⟨fun _ h9 => List.mem_cons_of_mem _ (List.mem_append_left _ (List.mem_append_left _ (List.mem_append_left _ (List.mem_append_left _ (List.mem_append_right _ h9))))), List.forall_mem_cons.mpr ⟨fun _ h9 => List.mem_cons_of_mem _ (List.mem_append_left _ (List.mem_append_left _ (List.mem_append_left _ (List.mem_append_right _ h9)))), List.forall_mem_cons.mpr ⟨fun _ h9 => List.mem_cons_of_mem _ (List.mem_append_left _ (List.mem_append_left _ (List.mem_append_right _ h9))), List.forall_mem_cons.mpr ⟨fun _ h9 => List.mem_cons_of_mem _ (List.mem_append_left _ (List.mem_append_right _ h9)), List.forall_mem_cons.mpr ⟨fun _ h9 => List.mem_cons_of_mem _ (List.mem_append_right _ h9), List.forall_mem_nil _⟩⟩⟩⟩⟩⟩⟩⟩⟩⟩⟩⟩
set_option maxRecDepth 20000 in
theorem ggX9_sheets_X1_isThere : GoodIn wsX9_sheets wsX1_isThere := goodIn_k ckX9_sheets_in _ [(0, 6), (0, 7), (6, 0), (6, 1), (6, 2), (6, 3), (6, 4), (6, 5), (6, 6)] rfl (by decide +kernel)
set_option maxRecDepth 20000 in
theorem gX9_sheets_X1_isThere : GoodIn wsX9_sheets (wsV RX9 92 RX1 yX1_isThere wsX1_isThere) := goodIn_app (goodIn_r ([.methodLink RX9 92 yX1_isThere, .instanceMethod yX1_isThere, .selects RX1 yX1_isThere yX1_isThere, .initialized RX1] : List Cond) [3, 4, 5, 6] rfl (by decide +kernel)) ggX9_sheets_X1_isThere
set_option maxRecDepth 20000 in
theorem ggX9_sheets_X9_tell : GoodIn wsX9_sheets wsX9_tell := goodIn_k ckX9_sheets_in _ [(0, 12), (0, 13), (5, 0), (5, 1), (5, 2), (5, 3), (5, 4), (5, 5), (5, 6), (5, 7), (5, 8), (5, 9), (5, 10), (5, 11)] rfl (by decide +kernel)
set_option maxRecDepth 20000 in
theorem gX9_sheets_X9_tell : GoodIn wsX9_sheets (wsV RX9 74 RX9 yX9_tell wsX9_tell) := goodIn_app (goodIn_r ([.methodLink RX9 74 yX9_tell, .instanceMethod yX9_tell, .selects RX9 yX9_tell yX9_tell, .initialized RX9] : List Cond) [9, 10, 11, 12] rfl (by decide +kernel)) ggX9_sheets_X9_tell
set_option maxRecDepth 20000 in
theorem ggX9_sheets_X9_isSide : GoodIn wsX9_sheets wsX9_isSide := goodIn_r _ [17] rfl (by decide +kernel)
