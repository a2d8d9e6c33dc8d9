theorem dX9_greatestCommon_0 : decode cX9_greatestCommon 0 = .ok (.iload_n 0, 1) := by decide +kernel
theorem dX9_greatestCommon_1 : decode cX9_greatestCommon 1 = .ok (.istore_n 2, 1) := by decide +kernel
theorem dX9_greatestCommon_2 : decode cX9_greatestCommon 2 = .ok (.iload_n 1, 1) := by decide +kernel
theorem dX9_greatestCommon_3 : decode cX9_greatestCommon 3 = .ok (.istore_n 3, 1) := by decide +kernel
theorem dX9_greatestCommon_4 : decode cX9_greatestCommon 4 = .ok (.iconst 0, 1) := by decide +kernel
theorem dX9_greatestCommon_5 : decode cX9_greatestCommon 5 = .ok (.istore 4, 2) := by decide +kernel
theorem dX9_greatestCommon_7 : decode cX9_greatestCommon 7 = .ok (.iload 4, 2) := by decide +kernel
theorem dX9_greatestCommon_9 : decode cX9_greatestCommon 9 = .ok (.bipush 50, 2) := by decide +kernel
theorem dX9_greatestCommon_11 : decode cX9_greatestCommon 11 = .ok (.if_icmp .ge 23, 3) := by decide +kernel
theorem dX9_greatestCommon_14 : decode cX9_greatestCommon 14 = .ok (.iload_n 3, 1) := by decide +kernel
theorem dX9_greatestCommon_15 : decode cX9_greatestCommon 15 = .ok (.ifCond .eq 19, 3) := by decide +kernel
theorem dX9_greatestCommon_18 : decode cX9_greatestCommon 18 = .ok (.iload_n 2, 1) := by decide +kernel
theorem dX9_greatestCommon_19 : decode cX9_greatestCommon 19 = .ok (.iload_n 3, 1) := by decide +kernel
theorem dX9_greatestCommon_20 : decode cX9_greatestCommon 20 = .ok (.irem, 1) := by decide +kernel
theorem dX9_greatestCommon_21 : decode cX9_greatestCommon 21 = .ok (.istore 5, 2) := by decide +kernel
theorem dX9_greatestCommon_23 : decode cX9_greatestCommon 23 = .ok (.iload_n 3, 1) := by decide +kernel
theorem dX9_greatestCommon_24 : decode cX9_greatestCommon 24 = .ok (.istore_n 2, 1) := by decide +kernel
theorem dX9_greatestCommon_25 : decode cX9_greatestCommon 25 = .ok (.iload 5, 2) := by decide +kernel
theorem dX9_greatestCommon_27 : decode cX9_greatestCommon 27 = .ok (.istore_n 3, 1) := by decide +kernel
theorem dX9_greatestCommon_28 : decode cX9_greatestCommon 28 = .ok (.iinc 4 1, 3) := by decide +kernel
theorem dX9_greatestCommon_31 : decode cX9_greatestCommon 31 = .ok (.goto (-24), 3) := by decide +kernel
theorem dX9_greatestCommon_34 : decode cX9_greatestCommon 34 = .ok (.iload_n 2, 1) := by decide +kernel
theorem dX9_greatestCommon_35 : decode cX9_greatestCommon 35 = .ok (.ireturn, 1) := by decide +kernel
