set_option maxRecDepth 20000 in
theorem ggX6_init_X4_init : GoodIn wsX6_init wsX4_init := goodIn_r _ [14, 15, 2, 3, 16, 17, 18, 19, 36, 37, 38, 39] rfl (by decide +kernel)
set_option maxRecDepth 20000 in
theorem gX6_init_X4_init : GoodIn wsX6_init (wsX4_init) := ggX6_init_X4_init
def ckX6_init : List (List Cond) := [wsX6_init_r1, wsX6_init_r2, wsX40, wsX60, wsX80]
theorem ckX6_init_in : ∀ c ∈ ckX6_init, ∀ w ∈ c, w ∈ wsX6_init := List.forall_mem_cons.mpr ⟨fun _ h9 => List.mem_cons_of_mem _ (List.mem_append_left _ (List.mem_append_left _ (List.mem_append_left _ (List.mem_append_left _ h9)))), List.forall_mem_cons.mpr ⟨fun _ h9 => List.mem_cons_of_mem _ (List.mem_append_left _ (List.mem_append_left _ (List.mem_append_left _ (List.mem_append_right _ h9)))), List.forall_mem_cons.mpr ⟨fun _ h9 => List.mem_cons_of_mem _ (List.mem_append_left _ (List.mem_append_left _ (List.mem_append_right _ h9))), List.forall_mem_cons.mpr ⟨fun _ h9 => List.mem_cons_of_mem _ (List.mem_append_left _ (List.mem_append_right _ h9)), List.forall_mem_cons.mpr ⟨fun _ h9 => List.mem_cons_of_mem _ (List.mem_append_right _ h9), List.forall_mem_nil _⟩⟩⟩⟩⟩
set_option maxRecDepth 20000 in
theorem ggX6_init_X8_init : GoodIn wsX6_init wsX8_init := goodIn_k ckX6_init_in _ [(0, 21), (0, 22), (0, 1), (0, 2), (0, 23), (0, 15), (1, 0), (1, 1), (1, 2), (1, 3), (1, 4), (1, 5), (1, 6), (1, 7), (1, 8), (1, 9), (1, 10), (4, 0), (4, 1), (4, 2), (4, 3), (4, 4), (4, 5), (4, 6), (4, 7), (4, 8), (4, 9), (4, 10)] rfl (by decide +kernel)
set_option maxRecDepth 20000 in
theorem gX6_init_X8_init : GoodIn wsX6_init (wsX8_init) := ggX6_init_X8_init
theorem dX6_init_0 : decode cX6_init 0 = .ok (.aload_n 0, 1) := de_42 (by decide +kernel)
theorem dX6_init_1 : decode cX6_init 1 = .ok (.invokespecial 1, 3) := de_183 (by decide +kernel)
theorem dX6_init_4 : decode cX6_init 4 = .ok (.aload_n 0, 1) := de_42 (by decide +kernel)
theorem dX6_init_5 : decode cX6_init 5 = .ok (.new 7, 3) := de_187 (by decide +kernel)
theorem dX6_init_8 : decode cX6_init 8 = .ok (.dup, 1) := de_89 (by decide +kernel)
theorem dX6_init_9 : decode cX6_init 9 = .ok (.invokespecial 9, 3) := de_183 (by decide +kernel)
theorem dX6_init_12 : decode cX6_init 12 = .ok (.putfield 10, 3) := de_181 (by decide +kernel)
theorem dX6_init_15 : decode cX6_init 15 = .ok (.aload_n 0, 1) := de_42 (by decide +kernel)
theorem dX6_init_16 : decode cX6_init 16 = .ok (.new 16, 3) := de_187 (by decide +kernel)
theorem dX6_init_19 : decode cX6_init 19 = .ok (.dup, 1) := de_89 (by decide +kernel)
theorem dX6_init_20 : decode cX6_init 20 = .ok (.aload_n 0, 1) := de_42 (by decide +kernel)
theorem dX6_init_21 : decode cX6_init 21 = .ok (.getfield 10, 3) := de_180 (by decide +kernel)
theorem dX6_init_24 : decode cX6_init 24 = .ok (.invokespecial 18, 3) := de_183 (by decide +kernel)
theorem dX6_init_27 : decode cX6_init 27 = .ok (.putfield 21, 3) := de_181 (by decide +kernel)
theorem dX6_init_30 : decode cX6_init 30 = .ok (.return_, 1) := de_177 (by decide +kernel)
def ckX6_lay : List (List Cond) := [wsX6_lay_r1, wsX6_lay_r2, wsX6_lay_r3, wsX6_lay_r4, wsX6_lay_r5, wsX60, wsX40, wsX10, wsX80]
theorem ckX6_lay_in : ∀ c ∈ ckX6_lay, ∀ w ∈ c, w ∈ wsX6_lay := List.forall_mem_cons.mpr ⟨fun _ h9 => List.mem_cons_of_mem _ (List.mem_append_left _ (List.mem_append_left _ (List.mem_append_left _ (List.mem_append_left _ (List.mem_append_left _ h9))))), List.forall_mem_cons.mpr ⟨fun _ h9 => List.mem_cons_of_mem _ (List.mem_append_left _ (List.mem_append_left _ (List.mem_append_left _ (List.mem_append_left _ (List.mem_append_right _ (List.mem_append_left _ h9)))))), List.forall_mem_cons.mpr ⟨fun _ h9 => List.mem_cons_of_mem _ (List.mem_append_left _ (List.mem_append_left _ (List.mem_append_left _ (List.mem_append_left _ (List.mem_append_right _ (List.mem_append_right _ (List.mem_append_left _ h9))))))), List.forall_mem_cons.mpr ⟨fun _ h9 => List.mem_cons_of_mem _ (List.mem_append_left _ (List.mem_append_left _ (List.mem_append_left _ (List.mem_append_left _ (List.mem_append_right _ (List.mem_append_right _ (List.mem_append_right _ (List.mem_append_left _ h9)))))))), List.forall_mem_cons.mpr ⟨fun _ h9 => List.mem_cons_of_mem _ (List.mem_append_left _ (List.mem_append_left _ (List.mem_append_left _ (List.mem_append_left _ (List.mem_append_right _ (List.mem_append_right _ (List.mem_append_right _ (List.mem_append_right _ h9)))))))), List.forall_mem_cons.mpr ⟨fun _ h9 => List.mem_cons_of_mem _ (List.mem_append_left _ (List.mem_append_left _ (List.mem_append_left _ (List.mem_append_right _ h9)))), List.forall_mem_cons.mpr ⟨fun _ h9 => List.mem_cons_of_mem _ (List.mem_append_left _ (List.mem_append_left _ (List.mem_append_right _ h9))), List.forall_mem_cons.mpr ⟨fun _ h9 => List.mem_cons_of_mem _ (List.mem_append_left _ (List.mem_append_right _ h9)), List.forall_mem_cons.mpr ⟨fun _ h9 => List.mem_cons_of_mem _ (List.mem_append_right _ h9), List.forall_mem_nil _⟩⟩⟩⟩⟩⟩⟩⟩⟩
set_option maxRecDepth 20000 in
theorem ggX6_lay_X4_gather : GoodIn wsX6_lay wsX4_gather := goodIn_k ckX6_lay_in _ [(0, 6), (0, 7), (0, 8), (0, 9), (0, 10), (0, 11), (0, 12), (0, 13), (0, 14), (0, 15), (0, 5), (0, 16), (0, 17), (0, 18), (0, 19), (0, 20), (0, 21), (0, 22), (0, 23), (1, 0), (1, 1), (1, 2), (1, 3), (1, 4), (1, 5), (1, 6), (1, 7), (1, 8), (1, 9), (1, 10), (1, 11), (1, 12), (1, 13), (1, 14), (6, 0), (6, 1), (6, 2), (6, 3), (7, 0), (7, 1), (7, 2), (7, 3), (7, 4), (7, 5), (7, 6)] rfl (by decide +kernel)
set_option maxRecDepth 20000 in
theorem gX6_lay_X4_gather : GoodIn wsX6_lay (wsV RX6 25 RX4 yX4_gather wsX4_gather) := goodIn_app (goodIn_r ([.methodLink RX6 25 yX4_gather, .instanceMethod yX4_gather, .selects RX4 yX4_gather yX4_gather, .initialized RX4] : List Cond) [3, 4, 5, 6] rfl (by decide +kernel)) ggX6_lay_X4_gather
set_option maxRecDepth 20000 in
theorem ggX6_lay_X8_part : GoodIn wsX6_lay wsX8_part := goodIn_k ckX6_lay_in _ [(1, 19), (1, 20), (1, 21), (1, 22), (1, 23), (2, 0), (2, 1), (2, 2), (2, 3), (1, 18), (2, 4), (2, 5), (2, 6), (2, 7), (0, 5), (2, 8), (0, 9), (1, 2), (0, 10), (0, 11), (0, 12), (1, 1), (1, 0), (2, 9), (2, 10), (2, 11), (2, 12), (2, 13), (2, 14), (2, 15), (2, 16), (2, 17), (2, 18), (2, 19), (2, 20), (2, 21), (2, 22), (2, 23), (3, 0), (3, 1), (3, 2), (3, 3), (3, 4), (3, 5), (3, 6), (3, 7), (3, 8), (3, 9), (3, 10), (3, 11), (3, 12), (3, 13), (3, 14), (3, 15), (3, 16), (3, 17), (3, 18), (3, 19), (3, 20), (3, 21), (3, 22), (3, 23), (4, 0), (4, 1), (4, 2), (4, 3), (4, 4), (4, 5), (4, 6), (4, 7), (4, 8), (4, 9), (4, 10), (4, 11), (4, 12), (4, 13), (4, 14), (4, 15), (4, 16), (4, 17), (4, 18), (4, 19), (8, 0), (8, 1), (8, 2), (8, 3), (8, 4), (8, 5), (8, 6), (8, 7), (8, 8), (8, 9), (8, 10), (6, 0), (6, 1), (6, 2), (6, 3), (7, 0), (7, 1), (7, 2), (7, 3), (7, 4), (7, 5), (7, 6)] rfl (by decide +kernel)
set_option maxRecDepth 20000 in
theorem gX6_lay_X8_part : GoodIn wsX6_lay (wsV RX6 29 RX8 yX8_part wsX8_part) := goodIn_app (goodIn_r ([.methodLink RX6 29 yX8_part, .instanceMethod yX8_part, .selects RX8 yX8_part yX8_part, .initialized RX8] : List Cond) [40, 41, 42, 43] rfl (by decide +kernel)) ggX6_lay_X8_part
theorem dX6_lay_0 : decode cX6_lay 0 = .ok (.aload_n 0, 1) := de_42 (by decide +kernel)
theorem dX6_lay_1 : decode cX6_lay 1 = .ok (.getfield 10, 3) := de_180 (by decide +kernel)
theorem dX6_lay_4 : decode cX6_lay 4 = .ok (.aload_n 1, 1) := de_43 (by decide +kernel)
theorem dX6_lay_5 : decode cX6_lay 5 = .ok (.invokevirtual 25, 3) := de_182 (by decide +kernel)
theorem dX6_lay_8 : decode cX6_lay 8 = .ok (.aload_n 0, 1) := de_42 (by decide +kernel)
theorem dX6_lay_9 : decode cX6_lay 9 = .ok (.getfield 21, 3) := de_180 (by decide +kernel)
theorem dX6_lay_12 : decode cX6_lay 12 = .ok (.aload_n 1, 1) := de_43 (by decide +kernel)
theorem dX6_lay_13 : decode cX6_lay 13 = .ok (.invokevirtual 29, 3) := de_182 (by decide +kernel)
theorem dX6_lay_16 : decode cX6_lay 16 = .ok (.return_, 1) := de_177 (by decide +kernel)
