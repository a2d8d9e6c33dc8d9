set_option maxRecDepth 20000 in
theorem ggX6_init_X4_init : GoodIn wsX6_init wsX4_init := by sorry
set_option maxRecDepth 20000 in
theorem gX6_init_X4_init : GoodIn wsX6_init (wsX4_init) := by sorry
set_option maxRecDepth 20000 in
theorem ggX6_init_X8_init : GoodIn wsX6_init wsX8_init := by sorry
set_option maxRecDepth 20000 in
theorem gX6_init_X8_init : GoodIn wsX6_init (wsX8_init) := by sorry
theorem dX6_init_0 : decode cX6_init 0 = .ok (.aload_n 0, 1) := by sorry
theorem dX6_init_1 : decode cX6_init 1 = .ok (.invokespecial 1, 3) := by sorry
theorem dX6_init_4 : decode cX6_init 4 = .ok (.aload_n 0, 1) := by sorry
theorem dX6_init_5 : decode cX6_init 5 = .ok (.new 7, 3) := by sorry
theorem dX6_init_8 : decode cX6_init 8 = .ok (.dup, 1) := by sorry
theorem dX6_init_9 : decode cX6_init 9 = .ok (.invokespecial 9, 3) := by sorry
theorem dX6_init_12 : decode cX6_init 12 = .ok (.putfield 10, 3) := by sorry
theorem dX6_init_15 : decode cX6_init 15 = .ok (.aload_n 0, 1) := by sorry
theorem dX6_init_16 : decode cX6_init 16 = .ok (.new 16, 3) := by sorry
theorem dX6_init_19 : decode cX6_init 19 = .ok (.dup, 1) := by sorry
theorem dX6_init_20 : decode cX6_init 20 = .ok (.aload_n 0, 1) := by sorry
theorem dX6_init_21 : decode cX6_init 21 = .ok (.getfield 10, 3) := by sorry
theorem dX6_init_24 : decode cX6_init 24 = .ok (.invokespecial 18, 3) := by sorry
theorem dX6_init_27 : decode cX6_init 27 = .ok (.putfield 21, 3) := by sorry
theorem dX6_init_30 : decode cX6_init 30 = .ok (.return_, 1) := by sorry
set_option maxRecDepth 20000 in
theorem ggX6_lay_X4_gather : GoodIn wsX6_lay wsX4_gather := by sorry
set_option maxRecDepth 20000 in
theorem gX6_lay_X4_gather : GoodIn wsX6_lay (wsV RX6 25 RX4 yX4_gather wsX4_gather) := by sorry
set_option maxRecDepth 20000 in
theorem ggX6_lay_X8_part : GoodIn wsX6_lay wsX8_part := by sorry
set_option maxRecDepth 20000 in
theorem gX6_lay_X8_part : GoodIn wsX6_lay (wsV RX6 29 RX8 yX8_part wsX8_part) := by sorry
theorem dX6_lay_0 : decode cX6_lay 0 = .ok (.aload_n 0, 1) := by sorry
theorem dX6_lay_1 : decode cX6_lay 1 = .ok (.getfield 10, 3) := by sorry
theorem dX6_lay_4 : decode cX6_lay 4 = .ok (.aload_n 1, 1) := by sorry
theorem dX6_lay_5 : decode cX6_lay 5 = .ok (.invokevirtual 25, 3) := by sorry
theorem dX6_lay_8 : decode cX6_lay 8 = .ok (.aload_n 0, 1) := by sorry
theorem dX6_lay_9 : decode cX6_lay 9 = .ok (.getfield 21, 3) := by sorry
theorem dX6_lay_12 : decode cX6_lay 12 = .ok (.aload_n 1, 1) := by sorry
theorem dX6_lay_13 : decode cX6_lay 13 = .ok (.invokevirtual 29, 3) := by sorry
theorem dX6_lay_16 : decode cX6_lay 16 = .ok (.return_, 1) := by sorry
