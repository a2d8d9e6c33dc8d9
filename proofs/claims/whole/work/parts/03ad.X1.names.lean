theorem dX1_init_0 : decode cX1_init 0 = .ok (.aload_n 0, 1) := by decide +kernel
theorem dX1_init_1 : decode cX1_init 1 = .ok (.invokespecial 3, 3) := by decide +kernel
theorem dX1_init_4 : decode cX1_init 4 = .ok (.aload_n 0, 1) := by decide +kernel
theorem dX1_init_5 : decode cX1_init 5 = .ok (.bipush 18, 2) := by decide +kernel
theorem dX1_init_7 : decode cX1_init 7 = .ok (.newarray .int, 2) := by decide +kernel
theorem dX1_init_9 : decode cX1_init 9 = .ok (.putfield 9, 3) := by decide +kernel
theorem dX1_init_12 : decode cX1_init 12 = .ok (.aload_n 0, 1) := by decide +kernel
theorem dX1_init_13 : decode cX1_init 13 = .ok (.bipush 18, 2) := by decide +kernel
theorem dX1_init_15 : decode cX1_init 15 = .ok (.newarray .int, 2) := by decide +kernel
theorem dX1_init_17 : decode cX1_init 17 = .ok (.putfield 15, 3) := by decide +kernel
theorem dX1_init_20 : decode cX1_init 20 = .ok (.aload_n 0, 1) := by decide +kernel
theorem dX1_init_21 : decode cX1_init 21 = .ok (.bipush 18, 2) := by decide +kernel
theorem dX1_init_23 : decode cX1_init 23 = .ok (.newarray .int, 2) := by decide +kernel
theorem dX1_init_25 : decode cX1_init 25 = .ok (.putfield 18, 3) := by decide +kernel
theorem dX1_init_28 : decode cX1_init 28 = .ok (.aload_n 0, 1) := by decide +kernel
theorem dX1_init_29 : decode cX1_init 29 = .ok (.bipush 18, 2) := by decide +kernel
theorem dX1_init_31 : decode cX1_init 31 = .ok (.newarray .int, 2) := by decide +kernel
theorem dX1_init_33 : decode cX1_init 33 = .ok (.putfield 21, 3) := by decide +kernel
theorem dX1_init_36 : decode cX1_init 36 = .ok (.return_, 1) := by decide +kernel
set_option maxRecDepth 20000 in
theorem ggX1_open_X1_append : GoodIn wsX1_open wsX1_append := goodIn_r _ [8, 3, 9, 10, 11, 12, 13, 14, 15, 16, 17, 18, 19] rfl (by decide +kernel)
set_option maxRecDepth 20000 in
theorem gX1_open_X1_append : GoodIn wsX1_open (wsV RX1 34 RX1 yX1_append wsX1_append) := goodIn_app (goodIn_r ([.methodLink RX1 34 yX1_append, .instanceMethod yX1_append, .selects RX1 yX1_append yX1_append, .initialized RX1] : List Cond) [4, 5, 6, 7] rfl (by decide +kernel)) ggX1_open_X1_append
theorem dX1_open_0 : decode cX1_open 0 = .ok (.aload_n 0, 1) := by decide +kernel
theorem dX1_open_1 : decode cX1_open 1 = .ok (.iload_n 1, 1) := by decide +kernel
theorem dX1_open_2 : decode cX1_open 2 = .ok (.putfield 24, 3) := by decide +kernel
theorem dX1_open_5 : decode cX1_open 5 = .ok (.aload_n 0, 1) := by decide +kernel
theorem dX1_open_6 : decode cX1_open 6 = .ok (.iload_n 2, 1) := by decide +kernel
theorem dX1_open_7 : decode cX1_open 7 = .ok (.putfield 28, 3) := by decide +kernel
theorem dX1_open_10 : decode cX1_open 10 = .ok (.aload_n 0, 1) := by decide +kernel
theorem dX1_open_11 : decode cX1_open 11 = .ok (.iconst 0, 1) := by decide +kernel
theorem dX1_open_12 : decode cX1_open 12 = .ok (.putfield 31, 3) := by decide +kernel
theorem dX1_open_15 : decode cX1_open 15 = .ok (.aload_n 0, 1) := by decide +kernel
theorem dX1_open_16 : decode cX1_open 16 = .ok (.iconst 0, 1) := by decide +kernel
theorem dX1_open_17 : decode cX1_open 17 = .ok (.iconst 0, 1) := by decide +kernel
theorem dX1_open_18 : decode cX1_open 18 = .ok (.iload_n 1, 1) := by decide +kernel
theorem dX1_open_19 : decode cX1_open 19 = .ok (.iconst 0, 1) := by decide +kernel
theorem dX1_open_20 : decode cX1_open 20 = .ok (.invokevirtual 34, 3) := by decide +kernel
theorem dX1_open_23 : decode cX1_open 23 = .ok (.aload_n 0, 1) := by decide +kernel
theorem dX1_open_24 : decode cX1_open 24 = .ok (.iload_n 1, 1) := by decide +kernel
theorem dX1_open_25 : decode cX1_open 25 = .ok (.iconst 0, 1) := by decide +kernel
theorem dX1_open_26 : decode cX1_open 26 = .ok (.iload_n 1, 1) := by decide +kernel
theorem dX1_open_27 : decode cX1_open 27 = .ok (.iload_n 2, 1) := by decide +kernel
theorem dX1_open_28 : decode cX1_open 28 = .ok (.invokevirtual 34, 3) := by decide +kernel
theorem dX1_open_31 : decode cX1_open 31 = .ok (.aload_n 0, 1) := by decide +kernel
theorem dX1_open_32 : decode cX1_open 32 = .ok (.iconst 0, 1) := by decide +kernel
theorem dX1_open_33 : decode cX1_open 33 = .ok (.iload_n 2, 1) := by decide +kernel
theorem dX1_open_34 : decode cX1_open 34 = .ok (.iload_n 1, 1) := by decide +kernel
theorem dX1_open_35 : decode cX1_open 35 = .ok (.iload_n 2, 1) := by decide +kernel
theorem dX1_open_36 : decode cX1_open 36 = .ok (.invokevirtual 34, 3) := by decide +kernel
theorem dX1_open_39 : decode cX1_open 39 = .ok (.aload_n 0, 1) := by decide +kernel
theorem dX1_open_40 : decode cX1_open 40 = .ok (.iconst 0, 1) := by decide +kernel
theorem dX1_open_41 : decode cX1_open 41 = .ok (.iconst 0, 1) := by decide +kernel
theorem dX1_open_42 : decode cX1_open 42 = .ok (.iconst 0, 1) := by decide +kernel
theorem dX1_open_43 : decode cX1_open 43 = .ok (.iload_n 2, 1) := by decide +kernel
theorem dX1_open_44 : decode cX1_open 44 = .ok (.invokevirtual 34, 3) := by decide +kernel
theorem dX1_open_47 : decode cX1_open 47 = .ok (.return_, 1) := by decide +kernel
theorem dX1_isThere_0 : decode cX1_isThere 0 = .ok (.aload_n 0, 1) := by decide +kernel
theorem dX1_isThere_1 : decode cX1_isThere 1 = .ok (.getfield 24, 3) := by decide +kernel
theorem dX1_isThere_4 : decode cX1_isThere 4 = .ok (.ifCond .le 7, 3) := by decide +kernel
theorem dX1_isThere_7 : decode cX1_isThere 7 = .ok (.iconst 1, 1) := by decide +kernel
theorem dX1_isThere_8 : decode cX1_isThere 8 = .ok (.goto 4, 3) := by decide +kernel
theorem dX1_isThere_11 : decode cX1_isThere 11 = .ok (.iconst 0, 1) := by decide +kernel
theorem dX1_isThere_12 : decode cX1_isThere 12 = .ok (.ireturn, 1) := by decide +kernel
theorem dX1_hasPoint_0 : decode cX1_hasPoint 0 = .ok (.iload_n 1, 1) := by decide +kernel
theorem dX1_hasPoint_1 : decode cX1_hasPoint 1 = .ok (.ifCond .lt 27, 3) := by decide +kernel
theorem dX1_hasPoint_4 : decode cX1_hasPoint 4 = .ok (.iload_n 1, 1) := by decide +kernel
theorem dX1_hasPoint_5 : decode cX1_hasPoint 5 = .ok (.aload_n 0, 1) := by decide +kernel
theorem dX1_hasPoint_6 : decode cX1_hasPoint 6 = .ok (.getfield 24, 3) := by decide +kernel
theorem dX1_hasPoint_9 : decode cX1_hasPoint 9 = .ok (.if_icmp .gt 19, 3) := by decide +kernel
theorem dX1_hasPoint_12 : decode cX1_hasPoint 12 = .ok (.iload_n 2, 1) := by decide +kernel
theorem dX1_hasPoint_13 : decode cX1_hasPoint 13 = .ok (.ifCond .lt 15, 3) := by decide +kernel
theorem dX1_hasPoint_16 : decode cX1_hasPoint 16 = .ok (.iload_n 2, 1) := by decide +kernel
theorem dX1_hasPoint_17 : decode cX1_hasPoint 17 = .ok (.aload_n 0, 1) := by decide +kernel
theorem dX1_hasPoint_18 : decode cX1_hasPoint 18 = .ok (.getfield 28, 3) := by decide +kernel
theorem dX1_hasPoint_21 : decode cX1_hasPoint 21 = .ok (.if_icmp .gt 7, 3) := by decide +kernel
theorem dX1_hasPoint_24 : decode cX1_hasPoint 24 = .ok (.iconst 1, 1) := by decide +kernel
theorem dX1_hasPoint_25 : decode cX1_hasPoint 25 = .ok (.goto 4, 3) := by decide +kernel
theorem dX1_hasPoint_28 : decode cX1_hasPoint 28 = .ok (.iconst 0, 1) := by decide +kernel
theorem dX1_hasPoint_29 : decode cX1_hasPoint 29 = .ok (.ireturn, 1) := by decide +kernel
theorem dX1_leads_0 : decode cX1_leads 0 = .ok (.aload_n 0, 1) := by decide +kernel
theorem dX1_leads_1 : decode cX1_leads 1 = .ok (.getfield 31, 3) := by decide +kernel
theorem dX1_leads_4 : decode cX1_leads 4 = .ok (.iconst 4, 1) := by decide +kernel
theorem dX1_leads_5 : decode cX1_leads 5 = .ok (.isub, 1) := by decide +kernel
theorem dX1_leads_6 : decode cX1_leads 6 = .ok (.ireturn, 1) := by decide +kernel
theorem dX1_append_0 : decode cX1_append 0 = .ok (.aload_n 0, 1) := by decide +kernel
theorem dX1_append_1 : decode cX1_append 1 = .ok (.getfield 31, 3) := by decide +kernel
theorem dX1_append_4 : decode cX1_append 4 = .ok (.bipush 18, 2) := by decide +kernel
theorem dX1_append_6 : decode cX1_append 6 = .ok (.if_icmp .lt 4, 3) := by decide +kernel
theorem dX1_append_9 : decode cX1_append 9 = .ok (.return_, 1) := by decide +kernel
theorem dX1_append_10 : decode cX1_append 10 = .ok (.aload_n 0, 1) := by decide +kernel
theorem dX1_append_11 : decode cX1_append 11 = .ok (.getfield 9, 3) := by decide +kernel
theorem dX1_append_14 : decode cX1_append 14 = .ok (.aload_n 0, 1) := by decide +kernel
theorem dX1_append_15 : decode cX1_append 15 = .ok (.getfield 31, 3) := by decide +kernel
theorem dX1_append_18 : decode cX1_append 18 = .ok (.iload_n 1, 1) := by decide +kernel
theorem dX1_append_19 : decode cX1_append 19 = .ok (.iastore, 1) := by decide +kernel
theorem dX1_append_20 : decode cX1_append 20 = .ok (.aload_n 0, 1) := by decide +kernel
theorem dX1_append_21 : decode cX1_append 21 = .ok (.getfield 15, 3) := by decide +kernel
theorem dX1_append_24 : decode cX1_append 24 = .ok (.aload_n 0, 1) := by decide +kernel
theorem dX1_append_25 : decode cX1_append 25 = .ok (.getfield 31, 3) := by decide +kernel
theorem dX1_append_28 : decode cX1_append 28 = .ok (.iload_n 2, 1) := by decide +kernel
theorem dX1_append_29 : decode cX1_append 29 = .ok (.iastore, 1) := by decide +kernel
theorem dX1_append_30 : decode cX1_append 30 = .ok (.aload_n 0, 1) := by decide +kernel
theorem dX1_append_31 : decode cX1_append 31 = .ok (.getfield 18, 3) := by decide +kernel
theorem dX1_append_34 : decode cX1_append 34 = .ok (.aload_n 0, 1) := by decide +kernel
theorem dX1_append_35 : decode cX1_append 35 = .ok (.getfield 31, 3) := by decide +kernel
theorem dX1_append_38 : decode cX1_append 38 = .ok (.iload_n 3, 1) := by decide +kernel
theorem dX1_append_39 : decode cX1_append 39 = .ok (.iastore, 1) := by decide +kernel
theorem dX1_append_40 : decode cX1_append 40 = .ok (.aload_n 0, 1) := by decide +kernel
theorem dX1_append_41 : decode cX1_append 41 = .ok (.getfield 21, 3) := by decide +kernel
theorem dX1_append_44 : decode cX1_append 44 = .ok (.aload_n 0, 1) := by decide +kernel
theorem dX1_append_45 : decode cX1_append 45 = .ok (.getfield 31, 3) := by decide +kernel
theorem dX1_append_48 : decode cX1_append 48 = .ok (.iload 4, 2) := by decide +kernel
theorem dX1_append_50 : decode cX1_append 50 = .ok (.iastore, 1) := by decide +kernel
theorem dX1_append_51 : decode cX1_append 51 = .ok (.aload_n 0, 1) := by decide +kernel
theorem dX1_append_52 : decode cX1_append 52 = .ok (.dup, 1) := by decide +kernel
theorem dX1_append_53 : decode cX1_append 53 = .ok (.getfield 31, 3) := by decide +kernel
theorem dX1_append_56 : decode cX1_append 56 = .ok (.iconst 1, 1) := by decide +kernel
theorem dX1_append_57 : decode cX1_append 57 = .ok (.iadd, 1) := by decide +kernel
theorem dX1_append_58 : decode cX1_append 58 = .ok (.putfield 31, 3) := by decide +kernel
theorem dX1_append_61 : decode cX1_append 61 = .ok (.return_, 1) := by decide +kernel
theorem dX1_dropLatest_0 : decode cX1_dropLatest 0 = .ok (.aload_n 0, 1) := by decide +kernel
theorem dX1_dropLatest_1 : decode cX1_dropLatest 1 = .ok (.getfield 31, 3) := by decide +kernel
theorem dX1_dropLatest_4 : decode cX1_dropLatest 4 = .ok (.iconst 4, 1) := by decide +kernel
theorem dX1_dropLatest_5 : decode cX1_dropLatest 5 = .ok (.if_icmp .le 13, 3) := by decide +kernel
theorem dX1_dropLatest_8 : decode cX1_dropLatest 8 = .ok (.aload_n 0, 1) := by decide +kernel
theorem dX1_dropLatest_9 : decode cX1_dropLatest 9 = .ok (.dup, 1) := by decide +kernel
theorem dX1_dropLatest_10 : decode cX1_dropLatest 10 = .ok (.getfield 31, 3) := by decide +kernel
theorem dX1_dropLatest_13 : decode cX1_dropLatest 13 = .ok (.iconst 1, 1) := by decide +kernel
theorem dX1_dropLatest_14 : decode cX1_dropLatest 14 = .ok (.isub, 1) := by decide +kernel
theorem dX1_dropLatest_15 : decode cX1_dropLatest 15 = .ok (.putfield 31, 3) := by decide +kernel
theorem dX1_dropLatest_18 : decode cX1_dropLatest 18 = .ok (.return_, 1) := by decide +kernel
theorem dX1_copy_0 : decode cX1_copy 0 = .ok (.aload_n 0, 1) := by decide +kernel
theorem dX1_copy_1 : decode cX1_copy 1 = .ok (.aload_n 1, 1) := by decide +kernel
theorem dX1_copy_2 : decode cX1_copy 2 = .ok (.getfield 24, 3) := by decide +kernel
theorem dX1_copy_5 : decode cX1_copy 5 = .ok (.putfield 24, 3) := by decide +kernel
theorem dX1_copy_8 : decode cX1_copy 8 = .ok (.aload_n 0, 1) := by decide +kernel
theorem dX1_copy_9 : decode cX1_copy 9 = .ok (.aload_n 1, 1) := by decide +kernel
theorem dX1_copy_10 : decode cX1_copy 10 = .ok (.getfield 28, 3) := by decide +kernel
theorem dX1_copy_13 : decode cX1_copy 13 = .ok (.putfield 28, 3) := by decide +kernel
theorem dX1_copy_16 : decode cX1_copy 16 = .ok (.aload_n 0, 1) := by decide +kernel
theorem dX1_copy_17 : decode cX1_copy 17 = .ok (.aload_n 1, 1) := by decide +kernel
theorem dX1_copy_18 : decode cX1_copy 18 = .ok (.getfield 31, 3) := by decide +kernel
theorem dX1_copy_21 : decode cX1_copy 21 = .ok (.putfield 31, 3) := by decide +kernel
theorem dX1_copy_24 : decode cX1_copy 24 = .ok (.aload_n 1, 1) := by decide +kernel
theorem dX1_copy_25 : decode cX1_copy 25 = .ok (.getfield 9, 3) := by decide +kernel
theorem dX1_copy_28 : decode cX1_copy 28 = .ok (.iconst 0, 1) := by decide +kernel
theorem dX1_copy_29 : decode cX1_copy 29 = .ok (.aload_n 0, 1) := by decide +kernel
theorem dX1_copy_30 : decode cX1_copy 30 = .ok (.getfield 9, 3) := by decide +kernel
theorem dX1_copy_33 : decode cX1_copy 33 = .ok (.iconst 0, 1) := by decide +kernel
theorem dX1_copy_34 : decode cX1_copy 34 = .ok (.bipush 18, 2) := by decide +kernel
theorem dX1_copy_36 : decode cX1_copy 36 = .ok (.invokestatic 38, 3) := by decide +kernel
theorem dX1_copy_39 : decode cX1_copy 39 = .ok (.aload_n 1, 1) := by decide +kernel
theorem dX1_copy_40 : decode cX1_copy 40 = .ok (.getfield 15, 3) := by decide +kernel
theorem dX1_copy_43 : decode cX1_copy 43 = .ok (.iconst 0, 1) := by decide +kernel
theorem dX1_copy_44 : decode cX1_copy 44 = .ok (.aload_n 0, 1) := by decide +kernel
theorem dX1_copy_45 : decode cX1_copy 45 = .ok (.getfield 15, 3) := by decide +kernel
theorem dX1_copy_48 : decode cX1_copy 48 = .ok (.iconst 0, 1) := by decide +kernel
theorem dX1_copy_49 : decode cX1_copy 49 = .ok (.bipush 18, 2) := by decide +kernel
theorem dX1_copy_51 : decode cX1_copy 51 = .ok (.invokestatic 38, 3) := by decide +kernel
theorem dX1_copy_54 : decode cX1_copy 54 = .ok (.aload_n 1, 1) := by decide +kernel
theorem dX1_copy_55 : decode cX1_copy 55 = .ok (.getfield 18, 3) := by decide +kernel
theorem dX1_copy_58 : decode cX1_copy 58 = .ok (.iconst 0, 1) := by decide +kernel
theorem dX1_copy_59 : decode cX1_copy 59 = .ok (.aload_n 0, 1) := by decide +kernel
theorem dX1_copy_60 : decode cX1_copy 60 = .ok (.getfield 18, 3) := by decide +kernel
theorem dX1_copy_63 : decode cX1_copy 63 = .ok (.iconst 0, 1) := by decide +kernel
theorem dX1_copy_64 : decode cX1_copy 64 = .ok (.bipush 18, 2) := by decide +kernel
theorem dX1_copy_66 : decode cX1_copy 66 = .ok (.invokestatic 38, 3) := by decide +kernel
theorem dX1_copy_69 : decode cX1_copy 69 = .ok (.aload_n 1, 1) := by decide +kernel
theorem dX1_copy_70 : decode cX1_copy 70 = .ok (.getfield 21, 3) := by decide +kernel
theorem dX1_copy_73 : decode cX1_copy 73 = .ok (.iconst 0, 1) := by decide +kernel
theorem dX1_copy_74 : decode cX1_copy 74 = .ok (.aload_n 0, 1) := by decide +kernel
theorem dX1_copy_75 : decode cX1_copy 75 = .ok (.getfield 21, 3) := by decide +kernel
theorem dX1_copy_78 : decode cX1_copy 78 = .ok (.iconst 0, 1) := by decide +kernel
theorem dX1_copy_79 : decode cX1_copy 79 = .ok (.bipush 18, 2) := by decide +kernel
theorem dX1_copy_81 : decode cX1_copy 81 = .ok (.invokestatic 38, 3) := by decide +kernel
theorem dX1_copy_84 : decode cX1_copy 84 = .ok (.return_, 1) := by decide +kernel
