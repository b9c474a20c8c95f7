/-! decode rows -/
theorem dX0_init_0 : decode cX0_init 0 = .ok (.aload_n 0, 1) := by decide +kernel
theorem dX0_init_1 : decode cX0_init 1 = .ok (.invokespecial 3, 3) := by decide +kernel
theorem dX0_init_4 : decode cX0_init 4 = .ok (.return_, 1) := by decide +kernel
theorem dX0_reset_0 : decode cX0_reset 0 = .ok (.aload_n 0, 1) := by decide +kernel
theorem dX0_reset_1 : decode cX0_reset 1 = .ok (.iconst 0, 1) := by decide +kernel
theorem dX0_reset_2 : decode cX0_reset 2 = .ok (.putfield 9, 3) := by decide +kernel
theorem dX0_reset_5 : decode cX0_reset 5 = .ok (.aload_n 0, 1) := by decide +kernel
theorem dX0_reset_6 : decode cX0_reset 6 = .ok (.iconst 0, 1) := by decide +kernel
theorem dX0_reset_7 : decode cX0_reset 7 = .ok (.putfield 15, 3) := by decide +kernel
theorem dX0_reset_10 : decode cX0_reset 10 = .ok (.aload_n 0, 1) := by decide +kernel
theorem dX0_reset_11 : decode cX0_reset 11 = .ok (.iconst 0, 1) := by decide +kernel
theorem dX0_reset_12 : decode cX0_reset 12 = .ok (.putfield 18, 3) := by decide +kernel
theorem dX0_reset_15 : decode cX0_reset 15 = .ok (.aload_n 0, 1) := by decide +kernel
theorem dX0_reset_16 : decode cX0_reset 16 = .ok (.iconst 0, 1) := by decide +kernel
theorem dX0_reset_17 : decode cX0_reset 17 = .ok (.putfield 21, 3) := by decide +kernel
theorem dX0_reset_20 : decode cX0_reset 20 = .ok (.aload_n 0, 1) := by decide +kernel
theorem dX0_reset_21 : decode cX0_reset 21 = .ok (.iconst (-1), 1) := by decide +kernel
theorem dX0_reset_22 : decode cX0_reset 22 = .ok (.putfield 25, 3) := by decide +kernel
theorem dX0_reset_25 : decode cX0_reset 25 = .ok (.aload_n 0, 1) := by decide +kernel
theorem dX0_reset_26 : decode cX0_reset 26 = .ok (.iconst 0, 1) := by decide +kernel
theorem dX0_reset_27 : decode cX0_reset 27 = .ok (.putfield 28, 3) := by decide +kernel
theorem dX0_reset_30 : decode cX0_reset 30 = .ok (.aload_n 0, 1) := by decide +kernel
theorem dX0_reset_31 : decode cX0_reset 31 = .ok (.iconst 0, 1) := by decide +kernel
theorem dX0_reset_32 : decode cX0_reset 32 = .ok (.putfield 31, 3) := by decide +kernel
theorem dX0_reset_35 : decode cX0_reset 35 = .ok (.aload_n 0, 1) := by decide +kernel
theorem dX0_reset_36 : decode cX0_reset 36 = .ok (.iconst 0, 1) := by decide +kernel
theorem dX0_reset_37 : decode cX0_reset 37 = .ok (.putfield 34, 3) := by decide +kernel
theorem dX0_reset_40 : decode cX0_reset 40 = .ok (.aload_n 0, 1) := by decide +kernel
theorem dX0_reset_41 : decode cX0_reset 41 = .ok (.iconst 0, 1) := by decide +kernel
theorem dX0_reset_42 : decode cX0_reset 42 = .ok (.putfield 37, 3) := by decide +kernel
theorem dX0_reset_45 : decode cX0_reset 45 = .ok (.return_, 1) := by decide +kernel
theorem dX0_copyFrom_0 : decode cX0_copyFrom 0 = .ok (.aload_n 0, 1) := by decide +kernel
theorem dX0_copyFrom_1 : decode cX0_copyFrom 1 = .ok (.aload_n 1, 1) := by decide +kernel
theorem dX0_copyFrom_2 : decode cX0_copyFrom 2 = .ok (.getfield 40, 3) := by decide +kernel
theorem dX0_copyFrom_5 : decode cX0_copyFrom 5 = .ok (.putfield 40, 3) := by decide +kernel
theorem dX0_copyFrom_8 : decode cX0_copyFrom 8 = .ok (.aload_n 0, 1) := by decide +kernel
theorem dX0_copyFrom_9 : decode cX0_copyFrom 9 = .ok (.aload_n 1, 1) := by decide +kernel
theorem dX0_copyFrom_10 : decode cX0_copyFrom 10 = .ok (.getfield 43, 3) := by decide +kernel
theorem dX0_copyFrom_13 : decode cX0_copyFrom 13 = .ok (.putfield 43, 3) := by decide +kernel
theorem dX0_copyFrom_16 : decode cX0_copyFrom 16 = .ok (.aload_n 0, 1) := by decide +kernel
theorem dX0_copyFrom_17 : decode cX0_copyFrom 17 = .ok (.aload_n 1, 1) := by decide +kernel
theorem dX0_copyFrom_18 : decode cX0_copyFrom 18 = .ok (.getfield 46, 3) := by decide +kernel
theorem dX0_copyFrom_21 : decode cX0_copyFrom 21 = .ok (.putfield 46, 3) := by decide +kernel
theorem dX0_copyFrom_24 : decode cX0_copyFrom 24 = .ok (.aload_n 0, 1) := by decide +kernel
theorem dX0_copyFrom_25 : decode cX0_copyFrom 25 = .ok (.aload_n 1, 1) := by decide +kernel
theorem dX0_copyFrom_26 : decode cX0_copyFrom 26 = .ok (.getfield 49, 3) := by decide +kernel
theorem dX0_copyFrom_29 : decode cX0_copyFrom 29 = .ok (.putfield 49, 3) := by decide +kernel
theorem dX0_copyFrom_32 : decode cX0_copyFrom 32 = .ok (.aload_n 0, 1) := by decide +kernel
theorem dX0_copyFrom_33 : decode cX0_copyFrom 33 = .ok (.aload_n 1, 1) := by decide +kernel
theorem dX0_copyFrom_34 : decode cX0_copyFrom 34 = .ok (.getfield 52, 3) := by decide +kernel
theorem dX0_copyFrom_37 : decode cX0_copyFrom 37 = .ok (.putfield 52, 3) := by decide +kernel
theorem dX0_copyFrom_40 : decode cX0_copyFrom 40 = .ok (.aload_n 0, 1) := by decide +kernel
theorem dX0_copyFrom_41 : decode cX0_copyFrom 41 = .ok (.aload_n 1, 1) := by decide +kernel
theorem dX0_copyFrom_42 : decode cX0_copyFrom 42 = .ok (.getfield 55, 3) := by decide +kernel
theorem dX0_copyFrom_45 : decode cX0_copyFrom 45 = .ok (.putfield 55, 3) := by decide +kernel
theorem dX0_copyFrom_48 : decode cX0_copyFrom 48 = .ok (.aload_n 0, 1) := by decide +kernel
theorem dX0_copyFrom_49 : decode cX0_copyFrom 49 = .ok (.aload_n 1, 1) := by decide +kernel
theorem dX0_copyFrom_50 : decode cX0_copyFrom 50 = .ok (.getfield 9, 3) := by decide +kernel
theorem dX0_copyFrom_53 : decode cX0_copyFrom 53 = .ok (.putfield 9, 3) := by decide +kernel
theorem dX0_copyFrom_56 : decode cX0_copyFrom 56 = .ok (.aload_n 0, 1) := by decide +kernel
theorem dX0_copyFrom_57 : decode cX0_copyFrom 57 = .ok (.aload_n 1, 1) := by decide +kernel
theorem dX0_copyFrom_58 : decode cX0_copyFrom 58 = .ok (.getfield 15, 3) := by decide +kernel
theorem dX0_copyFrom_61 : decode cX0_copyFrom 61 = .ok (.putfield 15, 3) := by decide +kernel
theorem dX0_copyFrom_64 : decode cX0_copyFrom 64 = .ok (.aload_n 0, 1) := by decide +kernel
theorem dX0_copyFrom_65 : decode cX0_copyFrom 65 = .ok (.aload_n 1, 1) := by decide +kernel
theorem dX0_copyFrom_66 : decode cX0_copyFrom 66 = .ok (.getfield 18, 3) := by decide +kernel
theorem dX0_copyFrom_69 : decode cX0_copyFrom 69 = .ok (.putfield 18, 3) := by decide +kernel
theorem dX0_copyFrom_72 : decode cX0_copyFrom 72 = .ok (.aload_n 0, 1) := by decide +kernel
theorem dX0_copyFrom_73 : decode cX0_copyFrom 73 = .ok (.aload_n 1, 1) := by decide +kernel
theorem dX0_copyFrom_74 : decode cX0_copyFrom 74 = .ok (.getfield 21, 3) := by decide +kernel
theorem dX0_copyFrom_77 : decode cX0_copyFrom 77 = .ok (.putfield 21, 3) := by decide +kernel
theorem dX0_copyFrom_80 : decode cX0_copyFrom 80 = .ok (.aload_n 0, 1) := by decide +kernel
theorem dX0_copyFrom_81 : decode cX0_copyFrom 81 = .ok (.aload_n 1, 1) := by decide +kernel
theorem dX0_copyFrom_82 : decode cX0_copyFrom 82 = .ok (.getfield 25, 3) := by decide +kernel
theorem dX0_copyFrom_85 : decode cX0_copyFrom 85 = .ok (.putfield 25, 3) := by decide +kernel
theorem dX0_copyFrom_88 : decode cX0_copyFrom 88 = .ok (.aload_n 0, 1) := by decide +kernel
theorem dX0_copyFrom_89 : decode cX0_copyFrom 89 = .ok (.aload_n 1, 1) := by decide +kernel
theorem dX0_copyFrom_90 : decode cX0_copyFrom 90 = .ok (.getfield 28, 3) := by decide +kernel
theorem dX0_copyFrom_93 : decode cX0_copyFrom 93 = .ok (.putfield 28, 3) := by decide +kernel
theorem dX0_copyFrom_96 : decode cX0_copyFrom 96 = .ok (.aload_n 0, 1) := by decide +kernel
theorem dX0_copyFrom_97 : decode cX0_copyFrom 97 = .ok (.aload_n 1, 1) := by decide +kernel
theorem dX0_copyFrom_98 : decode cX0_copyFrom 98 = .ok (.getfield 31, 3) := by decide +kernel
theorem dX0_copyFrom_101 : decode cX0_copyFrom 101 = .ok (.putfield 31, 3) := by decide +kernel
theorem dX0_copyFrom_104 : decode cX0_copyFrom 104 = .ok (.aload_n 0, 1) := by decide +kernel
theorem dX0_copyFrom_105 : decode cX0_copyFrom 105 = .ok (.aload_n 1, 1) := by decide +kernel
theorem dX0_copyFrom_106 : decode cX0_copyFrom 106 = .ok (.getfield 34, 3) := by decide +kernel
theorem dX0_copyFrom_109 : decode cX0_copyFrom 109 = .ok (.putfield 34, 3) := by decide +kernel
theorem dX0_copyFrom_112 : decode cX0_copyFrom 112 = .ok (.aload_n 0, 1) := by decide +kernel
theorem dX0_copyFrom_113 : decode cX0_copyFrom 113 = .ok (.aload_n 1, 1) := by decide +kernel
theorem dX0_copyFrom_114 : decode cX0_copyFrom 114 = .ok (.getfield 37, 3) := by decide +kernel
theorem dX0_copyFrom_117 : decode cX0_copyFrom 117 = .ok (.putfield 37, 3) := by decide +kernel
theorem dX0_copyFrom_120 : decode cX0_copyFrom 120 = .ok (.return_, 1) := by decide +kernel
theorem dX0_isUsable_0 : decode cX0_isUsable 0 = .ok (.aload_n 0, 1) := by decide +kernel
theorem dX0_isUsable_1 : decode cX0_isUsable 1 = .ok (.getfield 21, 3) := by decide +kernel
theorem dX0_isUsable_4 : decode cX0_isUsable 4 = .ok (.ifCond .ne 32, 3) := by decide +kernel
theorem dX0_isUsable_7 : decode cX0_isUsable 7 = .ok (.aload_n 0, 1) := by decide +kernel
theorem dX0_isUsable_8 : decode cX0_isUsable 8 = .ok (.getfield 15, 3) := by decide +kernel
theorem dX0_isUsable_11 : decode cX0_isUsable 11 = .ok (.ifCond .ne 25, 3) := by decide +kernel
theorem dX0_isUsable_14 : decode cX0_isUsable 14 = .ok (.aload_n 0, 1) := by decide +kernel
theorem dX0_isUsable_15 : decode cX0_isUsable 15 = .ok (.getfield 18, 3) := by decide +kernel
theorem dX0_isUsable_18 : decode cX0_isUsable 18 = .ok (.ifCond .ne 18, 3) := by decide +kernel
theorem dX0_isUsable_21 : decode cX0_isUsable 21 = .ok (.aload_n 0, 1) := by decide +kernel
theorem dX0_isUsable_22 : decode cX0_isUsable 22 = .ok (.getfield 9, 3) := by decide +kernel
theorem dX0_isUsable_25 : decode cX0_isUsable 25 = .ok (.aload_n 0, 1) := by decide +kernel
theorem dX0_isUsable_26 : decode cX0_isUsable 26 = .ok (.getfield 43, 3) := by decide +kernel
theorem dX0_isUsable_29 : decode cX0_isUsable 29 = .ok (.if_icmp .ge 7, 3) := by decide +kernel
theorem dX0_isUsable_32 : decode cX0_isUsable 32 = .ok (.iconst 1, 1) := by decide +kernel
theorem dX0_isUsable_33 : decode cX0_isUsable 33 = .ok (.goto 4, 3) := by decide +kernel
theorem dX0_isUsable_36 : decode cX0_isUsable 36 = .ok (.iconst 0, 1) := by decide +kernel
theorem dX0_isUsable_37 : decode cX0_isUsable 37 = .ok (.ireturn, 1) := by decide +kernel
theorem dX0_isWithinGap_0 : decode cX0_isWithinGap 0 = .ok (.aload_n 0, 1) := by decide +kernel
theorem dX0_isWithinGap_1 : decode cX0_isWithinGap 1 = .ok (.getfield 25, 3) := by decide +kernel
theorem dX0_isWithinGap_4 : decode cX0_isWithinGap 4 = .ok (.iconst (-1), 1) := by decide +kernel
theorem dX0_isWithinGap_5 : decode cX0_isWithinGap 5 = .ok (.if_icmp .eq 20, 3) := by decide +kernel
theorem dX0_isWithinGap_8 : decode cX0_isWithinGap 8 = .ok (.iload_n 1, 1) := by decide +kernel
theorem dX0_isWithinGap_9 : decode cX0_isWithinGap 9 = .ok (.aload_n 0, 1) := by decide +kernel
theorem dX0_isWithinGap_10 : decode cX0_isWithinGap 10 = .ok (.getfield 25, 3) := by decide +kernel
theorem dX0_isWithinGap_13 : decode cX0_isWithinGap 13 = .ok (.isub, 1) := by decide +kernel
theorem dX0_isWithinGap_14 : decode cX0_isWithinGap 14 = .ok (.aload_n 0, 1) := by decide +kernel
theorem dX0_isWithinGap_15 : decode cX0_isWithinGap 15 = .ok (.getfield 46, 3) := by decide +kernel
theorem dX0_isWithinGap_18 : decode cX0_isWithinGap 18 = .ok (.if_icmp .ge 7, 3) := by decide +kernel
theorem dX0_isWithinGap_21 : decode cX0_isWithinGap 21 = .ok (.iconst 1, 1) := by decide +kernel
theorem dX0_isWithinGap_22 : decode cX0_isWithinGap 22 = .ok (.goto 4, 3) := by decide +kernel
theorem dX0_isWithinGap_25 : decode cX0_isWithinGap 25 = .ok (.iconst 0, 1) := by decide +kernel
theorem dX0_isWithinGap_26 : decode cX0_isWithinGap 26 = .ok (.ireturn, 1) := by decide +kernel
theorem dX0_passTick_0 : decode cX0_passTick 0 = .ok (.aload_n 0, 1) := by decide +kernel
theorem dX0_passTick_1 : decode cX0_passTick 1 = .ok (.getfield 15, 3) := by decide +kernel
theorem dX0_passTick_4 : decode cX0_passTick 4 = .ok (.ifCond .le 13, 3) := by decide +kernel
theorem dX0_passTick_7 : decode cX0_passTick 7 = .ok (.aload_n 0, 1) := by decide +kernel
theorem dX0_passTick_8 : decode cX0_passTick 8 = .ok (.dup, 1) := by decide +kernel
theorem dX0_passTick_9 : decode cX0_passTick 9 = .ok (.getfield 15, 3) := by decide +kernel
theorem dX0_passTick_12 : decode cX0_passTick 12 = .ok (.iconst 1, 1) := by decide +kernel
theorem dX0_passTick_13 : decode cX0_passTick 13 = .ok (.isub, 1) := by decide +kernel
theorem dX0_passTick_14 : decode cX0_passTick 14 = .ok (.putfield 15, 3) := by decide +kernel
theorem dX0_passTick_17 : decode cX0_passTick 17 = .ok (.aload_n 0, 1) := by decide +kernel
theorem dX0_passTick_18 : decode cX0_passTick 18 = .ok (.getfield 18, 3) := by decide +kernel
theorem dX0_passTick_21 : decode cX0_passTick 21 = .ok (.ifCond .le 25, 3) := by decide +kernel
theorem dX0_passTick_24 : decode cX0_passTick 24 = .ok (.aload_n 0, 1) := by decide +kernel
theorem dX0_passTick_25 : decode cX0_passTick 25 = .ok (.dup, 1) := by decide +kernel
theorem dX0_passTick_26 : decode cX0_passTick 26 = .ok (.getfield 18, 3) := by decide +kernel
theorem dX0_passTick_29 : decode cX0_passTick 29 = .ok (.iconst 1, 1) := by decide +kernel
theorem dX0_passTick_30 : decode cX0_passTick 30 = .ok (.isub, 1) := by decide +kernel
theorem dX0_passTick_31 : decode cX0_passTick 31 = .ok (.putfield 18, 3) := by decide +kernel
theorem dX0_passTick_34 : decode cX0_passTick 34 = .ok (.aload_n 0, 1) := by decide +kernel
theorem dX0_passTick_35 : decode cX0_passTick 35 = .ok (.getfield 18, 3) := by decide +kernel
theorem dX0_passTick_38 : decode cX0_passTick 38 = .ok (.ifCond .ne 8, 3) := by decide +kernel
theorem dX0_passTick_41 : decode cX0_passTick 41 = .ok (.aload_n 0, 1) := by decide +kernel
theorem dX0_passTick_42 : decode cX0_passTick 42 = .ok (.iconst 0, 1) := by decide +kernel
theorem dX0_passTick_43 : decode cX0_passTick 43 = .ok (.putfield 9, 3) := by decide +kernel
theorem dX0_passTick_46 : decode cX0_passTick 46 = .ok (.return_, 1) := by decide +kernel
theorem dX0_jam_0 : decode cX0_jam 0 = .ok (.aload_n 0, 1) := by decide +kernel
theorem dX0_jam_1 : decode cX0_jam 1 = .ok (.aload_n 0, 1) := by decide +kernel
theorem dX0_jam_2 : decode cX0_jam 2 = .ok (.getfield 52, 3) := by decide +kernel
theorem dX0_jam_5 : decode cX0_jam 5 = .ok (.putfield 15, 3) := by decide +kernel
theorem dX0_jam_8 : decode cX0_jam 8 = .ok (.aload_n 0, 1) := by decide +kernel
theorem dX0_jam_9 : decode cX0_jam 9 = .ok (.dup, 1) := by decide +kernel
theorem dX0_jam_10 : decode cX0_jam 10 = .ok (.getfield 31, 3) := by decide +kernel
theorem dX0_jam_13 : decode cX0_jam 13 = .ok (.iconst 1, 1) := by decide +kernel
theorem dX0_jam_14 : decode cX0_jam 14 = .ok (.iadd, 1) := by decide +kernel
theorem dX0_jam_15 : decode cX0_jam 15 = .ok (.putfield 31, 3) := by decide +kernel
theorem dX0_jam_18 : decode cX0_jam 18 = .ok (.return_, 1) := by decide +kernel
theorem dX0_receive_0 : decode cX0_receive 0 = .ok (.aload_n 0, 1) := by decide +kernel
theorem dX0_receive_1 : decode cX0_receive 1 = .ok (.dup, 1) := by decide +kernel
theorem dX0_receive_2 : decode cX0_receive 2 = .ok (.getfield 9, 3) := by decide +kernel
theorem dX0_receive_5 : decode cX0_receive 5 = .ok (.iconst 1, 1) := by decide +kernel
theorem dX0_receive_6 : decode cX0_receive 6 = .ok (.iadd, 1) := by decide +kernel
theorem dX0_receive_7 : decode cX0_receive 7 = .ok (.putfield 9, 3) := by decide +kernel
theorem dX0_receive_10 : decode cX0_receive 10 = .ok (.aload_n 0, 1) := by decide +kernel
theorem dX0_receive_11 : decode cX0_receive 11 = .ok (.dup, 1) := by decide +kernel
theorem dX0_receive_12 : decode cX0_receive 12 = .ok (.getfield 28, 3) := by decide +kernel
theorem dX0_receive_15 : decode cX0_receive 15 = .ok (.iconst 1, 1) := by decide +kernel
theorem dX0_receive_16 : decode cX0_receive 16 = .ok (.iadd, 1) := by decide +kernel
theorem dX0_receive_17 : decode cX0_receive 17 = .ok (.putfield 28, 3) := by decide +kernel
theorem dX0_receive_20 : decode cX0_receive 20 = .ok (.aload_n 0, 1) := by decide +kernel
theorem dX0_receive_21 : decode cX0_receive 21 = .ok (.iload_n 1, 1) := by decide +kernel
theorem dX0_receive_22 : decode cX0_receive 22 = .ok (.putfield 25, 3) := by decide +kernel
theorem dX0_receive_25 : decode cX0_receive 25 = .ok (.aload_n 0, 1) := by decide +kernel
theorem dX0_receive_26 : decode cX0_receive 26 = .ok (.getfield 9, 3) := by decide +kernel
theorem dX0_receive_29 : decode cX0_receive 29 = .ok (.aload_n 0, 1) := by decide +kernel
theorem dX0_receive_30 : decode cX0_receive 30 = .ok (.getfield 43, 3) := by decide +kernel
theorem dX0_receive_33 : decode cX0_receive 33 = .ok (.if_icmp .ne 7, 3) := by decide +kernel
theorem dX0_receive_36 : decode cX0_receive 36 = .ok (.aload_n 0, 1) := by decide +kernel
theorem dX0_receive_37 : decode cX0_receive 37 = .ok (.invokevirtual 58, 3) := by decide +kernel
theorem dX0_receive_40 : decode cX0_receive 40 = .ok (.return_, 1) := by decide +kernel
theorem dX0_finishBag_0 : decode cX0_finishBag 0 = .ok (.aload_n 0, 1) := by decide +kernel
theorem dX0_finishBag_1 : decode cX0_finishBag 1 = .ok (.dup, 1) := by decide +kernel
theorem dX0_finishBag_2 : decode cX0_finishBag 2 = .ok (.getfield 37, 3) := by decide +kernel
theorem dX0_finishBag_5 : decode cX0_finishBag 5 = .ok (.iconst 1, 1) := by decide +kernel
theorem dX0_finishBag_6 : decode cX0_finishBag 6 = .ok (.iadd, 1) := by decide +kernel
theorem dX0_finishBag_7 : decode cX0_finishBag 7 = .ok (.putfield 37, 3) := by decide +kernel
theorem dX0_finishBag_10 : decode cX0_finishBag 10 = .ok (.aload_n 0, 1) := by decide +kernel
theorem dX0_finishBag_11 : decode cX0_finishBag 11 = .ok (.aload_n 0, 1) := by decide +kernel
theorem dX0_finishBag_12 : decode cX0_finishBag 12 = .ok (.getfield 55, 3) := by decide +kernel
theorem dX0_finishBag_15 : decode cX0_finishBag 15 = .ok (.putfield 18, 3) := by decide +kernel
theorem dX0_finishBag_18 : decode cX0_finishBag 18 = .ok (.aload_n 0, 1) := by decide +kernel
theorem dX0_finishBag_19 : decode cX0_finishBag 19 = .ok (.getfield 55, 3) := by decide +kernel
theorem dX0_finishBag_22 : decode cX0_finishBag 22 = .ok (.ifCond .ne 8, 3) := by decide +kernel
theorem dX0_finishBag_25 : decode cX0_finishBag 25 = .ok (.aload_n 0, 1) := by decide +kernel
theorem dX0_finishBag_26 : decode cX0_finishBag 26 = .ok (.iconst 0, 1) := by decide +kernel
theorem dX0_finishBag_27 : decode cX0_finishBag 27 = .ok (.putfield 9, 3) := by decide +kernel
theorem dX0_finishBag_30 : decode cX0_finishBag 30 = .ok (.return_, 1) := by decide +kernel
theorem dX1_init_0 : decode cX1_init 0 = .ok (.aload_n 0, 1) := by decide +kernel
theorem dX1_init_1 : decode cX1_init 1 = .ok (.invokespecial 3, 3) := by decide +kernel
theorem dX1_init_4 : decode cX1_init 4 = .ok (.return_, 1) := by decide +kernel
theorem dX1_reset_0 : decode cX1_reset 0 = .ok (.aload_n 0, 1) := by decide +kernel
theorem dX1_reset_1 : decode cX1_reset 1 = .ok (.iload_n 2, 1) := by decide +kernel
theorem dX1_reset_2 : decode cX1_reset 2 = .ok (.putfield 9, 3) := by decide +kernel
theorem dX1_reset_5 : decode cX1_reset 5 = .ok (.aload_n 0, 1) := by decide +kernel
theorem dX1_reset_6 : decode cX1_reset 6 = .ok (.iload_n 3, 1) := by decide +kernel
theorem dX1_reset_7 : decode cX1_reset 7 = .ok (.putfield 15, 3) := by decide +kernel
theorem dX1_reset_10 : decode cX1_reset 10 = .ok (.aload_n 0, 1) := by decide +kernel
theorem dX1_reset_11 : decode cX1_reset 11 = .ok (.iconst 0, 1) := by decide +kernel
theorem dX1_reset_12 : decode cX1_reset 12 = .ok (.putfield 18, 3) := by decide +kernel
theorem dX1_reset_15 : decode cX1_reset 15 = .ok (.aload_n 0, 1) := by decide +kernel
theorem dX1_reset_16 : decode cX1_reset 16 = .ok (.iload_n 1, 1) := by decide +kernel
theorem dX1_reset_17 : decode cX1_reset 17 = .ok (.putfield 21, 3) := by decide +kernel
theorem dX1_reset_20 : decode cX1_reset 20 = .ok (.aload_n 0, 1) := by decide +kernel
theorem dX1_reset_21 : decode cX1_reset 21 = .ok (.iconst 0, 1) := by decide +kernel
theorem dX1_reset_22 : decode cX1_reset 22 = .ok (.putfield 24, 3) := by decide +kernel
theorem dX1_reset_25 : decode cX1_reset 25 = .ok (.aload_n 0, 1) := by decide +kernel
theorem dX1_reset_26 : decode cX1_reset 26 = .ok (.iconst (-1), 1) := by decide +kernel
theorem dX1_reset_27 : decode cX1_reset 27 = .ok (.putfield 27, 3) := by decide +kernel
theorem dX1_reset_30 : decode cX1_reset 30 = .ok (.aload_n 0, 1) := by decide +kernel
theorem dX1_reset_31 : decode cX1_reset 31 = .ok (.iconst (-1), 1) := by decide +kernel
theorem dX1_reset_32 : decode cX1_reset 32 = .ok (.putfield 30, 3) := by decide +kernel
theorem dX1_reset_35 : decode cX1_reset 35 = .ok (.aload_n 0, 1) := by decide +kernel
theorem dX1_reset_36 : decode cX1_reset 36 = .ok (.iconst (-1), 1) := by decide +kernel
theorem dX1_reset_37 : decode cX1_reset 37 = .ok (.putfield 33, 3) := by decide +kernel
theorem dX1_reset_40 : decode cX1_reset 40 = .ok (.aload_n 0, 1) := by decide +kernel
theorem dX1_reset_41 : decode cX1_reset 41 = .ok (.iconst (-1), 1) := by decide +kernel
theorem dX1_reset_42 : decode cX1_reset 42 = .ok (.putfield 36, 3) := by decide +kernel
theorem dX1_reset_45 : decode cX1_reset 45 = .ok (.aload_n 0, 1) := by decide +kernel
theorem dX1_reset_46 : decode cX1_reset 46 = .ok (.iconst 0, 1) := by decide +kernel
theorem dX1_reset_47 : decode cX1_reset 47 = .ok (.putfield 39, 3) := by decide +kernel
theorem dX1_reset_50 : decode cX1_reset 50 = .ok (.return_, 1) := by decide +kernel
theorem dX1_copyFrom_0 : decode cX1_copyFrom 0 = .ok (.aload_n 0, 1) := by decide +kernel
theorem dX1_copyFrom_1 : decode cX1_copyFrom 1 = .ok (.aload_n 1, 1) := by decide +kernel
theorem dX1_copyFrom_2 : decode cX1_copyFrom 2 = .ok (.getfield 9, 3) := by decide +kernel
theorem dX1_copyFrom_5 : decode cX1_copyFrom 5 = .ok (.putfield 9, 3) := by decide +kernel
theorem dX1_copyFrom_8 : decode cX1_copyFrom 8 = .ok (.aload_n 0, 1) := by decide +kernel
theorem dX1_copyFrom_9 : decode cX1_copyFrom 9 = .ok (.aload_n 1, 1) := by decide +kernel
theorem dX1_copyFrom_10 : decode cX1_copyFrom 10 = .ok (.getfield 15, 3) := by decide +kernel
theorem dX1_copyFrom_13 : decode cX1_copyFrom 13 = .ok (.putfield 15, 3) := by decide +kernel
theorem dX1_copyFrom_16 : decode cX1_copyFrom 16 = .ok (.aload_n 0, 1) := by decide +kernel
theorem dX1_copyFrom_17 : decode cX1_copyFrom 17 = .ok (.aload_n 1, 1) := by decide +kernel
theorem dX1_copyFrom_18 : decode cX1_copyFrom 18 = .ok (.getfield 42, 3) := by decide +kernel
theorem dX1_copyFrom_21 : decode cX1_copyFrom 21 = .ok (.putfield 42, 3) := by decide +kernel
theorem dX1_copyFrom_24 : decode cX1_copyFrom 24 = .ok (.aload_n 0, 1) := by decide +kernel
theorem dX1_copyFrom_25 : decode cX1_copyFrom 25 = .ok (.aload_n 1, 1) := by decide +kernel
theorem dX1_copyFrom_26 : decode cX1_copyFrom 26 = .ok (.getfield 45, 3) := by decide +kernel
theorem dX1_copyFrom_29 : decode cX1_copyFrom 29 = .ok (.putfield 45, 3) := by decide +kernel
theorem dX1_copyFrom_32 : decode cX1_copyFrom 32 = .ok (.aload_n 0, 1) := by decide +kernel
theorem dX1_copyFrom_33 : decode cX1_copyFrom 33 = .ok (.aload_n 1, 1) := by decide +kernel
theorem dX1_copyFrom_34 : decode cX1_copyFrom 34 = .ok (.getfield 18, 3) := by decide +kernel
theorem dX1_copyFrom_37 : decode cX1_copyFrom 37 = .ok (.putfield 18, 3) := by decide +kernel
theorem dX1_copyFrom_40 : decode cX1_copyFrom 40 = .ok (.aload_n 0, 1) := by decide +kernel
theorem dX1_copyFrom_41 : decode cX1_copyFrom 41 = .ok (.aload_n 1, 1) := by decide +kernel
theorem dX1_copyFrom_42 : decode cX1_copyFrom 42 = .ok (.getfield 21, 3) := by decide +kernel
theorem dX1_copyFrom_45 : decode cX1_copyFrom 45 = .ok (.putfield 21, 3) := by decide +kernel
theorem dX1_copyFrom_48 : decode cX1_copyFrom 48 = .ok (.aload_n 0, 1) := by decide +kernel
theorem dX1_copyFrom_49 : decode cX1_copyFrom 49 = .ok (.aload_n 1, 1) := by decide +kernel
theorem dX1_copyFrom_50 : decode cX1_copyFrom 50 = .ok (.getfield 24, 3) := by decide +kernel
theorem dX1_copyFrom_53 : decode cX1_copyFrom 53 = .ok (.putfield 24, 3) := by decide +kernel
theorem dX1_copyFrom_56 : decode cX1_copyFrom 56 = .ok (.aload_n 0, 1) := by decide +kernel
theorem dX1_copyFrom_57 : decode cX1_copyFrom 57 = .ok (.aload_n 1, 1) := by decide +kernel
theorem dX1_copyFrom_58 : decode cX1_copyFrom 58 = .ok (.getfield 27, 3) := by decide +kernel
theorem dX1_copyFrom_61 : decode cX1_copyFrom 61 = .ok (.putfield 27, 3) := by decide +kernel
theorem dX1_copyFrom_64 : decode cX1_copyFrom 64 = .ok (.aload_n 0, 1) := by decide +kernel
theorem dX1_copyFrom_65 : decode cX1_copyFrom 65 = .ok (.aload_n 1, 1) := by decide +kernel
theorem dX1_copyFrom_66 : decode cX1_copyFrom 66 = .ok (.getfield 30, 3) := by decide +kernel
theorem dX1_copyFrom_69 : decode cX1_copyFrom 69 = .ok (.putfield 30, 3) := by decide +kernel
theorem dX1_copyFrom_72 : decode cX1_copyFrom 72 = .ok (.aload_n 0, 1) := by decide +kernel
theorem dX1_copyFrom_73 : decode cX1_copyFrom 73 = .ok (.aload_n 1, 1) := by decide +kernel
theorem dX1_copyFrom_74 : decode cX1_copyFrom 74 = .ok (.getfield 33, 3) := by decide +kernel
theorem dX1_copyFrom_77 : decode cX1_copyFrom 77 = .ok (.putfield 33, 3) := by decide +kernel
theorem dX1_copyFrom_80 : decode cX1_copyFrom 80 = .ok (.aload_n 0, 1) := by decide +kernel
theorem dX1_copyFrom_81 : decode cX1_copyFrom 81 = .ok (.aload_n 1, 1) := by decide +kernel
theorem dX1_copyFrom_82 : decode cX1_copyFrom 82 = .ok (.getfield 36, 3) := by decide +kernel
theorem dX1_copyFrom_85 : decode cX1_copyFrom 85 = .ok (.putfield 36, 3) := by decide +kernel
theorem dX1_copyFrom_88 : decode cX1_copyFrom 88 = .ok (.aload_n 0, 1) := by decide +kernel
theorem dX1_copyFrom_89 : decode cX1_copyFrom 89 = .ok (.aload_n 1, 1) := by decide +kernel
theorem dX1_copyFrom_90 : decode cX1_copyFrom 90 = .ok (.getfield 39, 3) := by decide +kernel
theorem dX1_copyFrom_93 : decode cX1_copyFrom 93 = .ok (.putfield 39, 3) := by decide +kernel
theorem dX1_copyFrom_96 : decode cX1_copyFrom 96 = .ok (.return_, 1) := by decide +kernel
theorem dX1_rounds_0 : decode cX1_rounds 0 = .ok (.aload_n 0, 1) := by decide +kernel
theorem dX1_rounds_1 : decode cX1_rounds 1 = .ok (.getfield 24, 3) := by decide +kernel
theorem dX1_rounds_4 : decode cX1_rounds 4 = .ok (.iconst 1, 1) := by decide +kernel
theorem dX1_rounds_5 : decode cX1_rounds 5 = .ok (.isub, 1) := by decide +kernel
theorem dX1_rounds_6 : decode cX1_rounds 6 = .ok (.iconst 0, 1) := by decide +kernel
theorem dX1_rounds_7 : decode cX1_rounds 7 = .ok (.invokestatic 48, 3) := by decide +kernel
theorem dX1_rounds_10 : decode cX1_rounds 10 = .ok (.ireturn, 1) := by decide +kernel
theorem dX1_destinationAsRead_0 : decode cX1_destinationAsRead 0 = .ok (.aload_n 0, 1) := by decide +kernel
theorem dX1_destinationAsRead_1 : decode cX1_destinationAsRead 1 = .ok (.getfield 45, 3) := by decide +kernel
theorem dX1_destinationAsRead_4 : decode cX1_destinationAsRead 4 = .ok (.iconst 1, 1) := by decide +kernel
theorem dX1_destinationAsRead_5 : decode cX1_destinationAsRead 5 = .ok (.if_icmp .ne 24, 3) := by decide +kernel
theorem dX1_destinationAsRead_8 : decode cX1_destinationAsRead 8 = .ok (.aload_n 0, 1) := by decide +kernel
theorem dX1_destinationAsRead_9 : decode cX1_destinationAsRead 9 = .ok (.getfield 9, 3) := by decide +kernel
theorem dX1_destinationAsRead_12 : decode cX1_destinationAsRead 12 = .ok (.bipush 10, 2) := by decide +kernel
theorem dX1_destinationAsRead_14 : decode cX1_destinationAsRead 14 = .ok (.irem, 1) := by decide +kernel
theorem dX1_destinationAsRead_15 : decode cX1_destinationAsRead 15 = .ok (.bipush 10, 2) := by decide +kernel
theorem dX1_destinationAsRead_17 : decode cX1_destinationAsRead 17 = .ok (.imul, 1) := by decide +kernel
theorem dX1_destinationAsRead_18 : decode cX1_destinationAsRead 18 = .ok (.aload_n 0, 1) := by decide +kernel
theorem dX1_destinationAsRead_19 : decode cX1_destinationAsRead 19 = .ok (.getfield 9, 3) := by decide +kernel
theorem dX1_destinationAsRead_22 : decode cX1_destinationAsRead 22 = .ok (.bipush 10, 2) := by decide +kernel
theorem dX1_destinationAsRead_24 : decode cX1_destinationAsRead 24 = .ok (.idiv, 1) := by decide +kernel
theorem dX1_destinationAsRead_25 : decode cX1_destinationAsRead 25 = .ok (.iadd, 1) := by decide +kernel
theorem dX1_destinationAsRead_26 : decode cX1_destinationAsRead 26 = .ok (.goto 7, 3) := by decide +kernel
theorem dX1_destinationAsRead_29 : decode cX1_destinationAsRead 29 = .ok (.aload_n 0, 1) := by decide +kernel
theorem dX1_destinationAsRead_30 : decode cX1_destinationAsRead 30 = .ok (.getfield 9, 3) := by decide +kernel
theorem dX1_destinationAsRead_33 : decode cX1_destinationAsRead 33 = .ok (.ireturn, 1) := by decide +kernel
theorem dX1_isSpoiltFor_0 : decode cX1_isSpoiltFor 0 = .ok (.aload_n 0, 1) := by decide +kernel
theorem dX1_isSpoiltFor_1 : decode cX1_isSpoiltFor 1 = .ok (.getfield 39, 3) := by decide +kernel
theorem dX1_isSpoiltFor_4 : decode cX1_isSpoiltFor 4 = .ok (.iload_n 1, 1) := by decide +kernel
theorem dX1_isSpoiltFor_5 : decode cX1_isSpoiltFor 5 = .ok (.ishr, 1) := by decide +kernel
theorem dX1_isSpoiltFor_6 : decode cX1_isSpoiltFor 6 = .ok (.iconst 1, 1) := by decide +kernel
theorem dX1_isSpoiltFor_7 : decode cX1_isSpoiltFor 7 = .ok (.iand, 1) := by decide +kernel
theorem dX1_isSpoiltFor_8 : decode cX1_isSpoiltFor 8 = .ok (.iconst 1, 1) := by decide +kernel
theorem dX1_isSpoiltFor_9 : decode cX1_isSpoiltFor 9 = .ok (.if_icmp .ne 7, 3) := by decide +kernel
theorem dX1_isSpoiltFor_12 : decode cX1_isSpoiltFor 12 = .ok (.iconst 1, 1) := by decide +kernel
theorem dX1_isSpoiltFor_13 : decode cX1_isSpoiltFor 13 = .ok (.goto 4, 3) := by decide +kernel
theorem dX1_isSpoiltFor_16 : decode cX1_isSpoiltFor 16 = .ok (.iconst 0, 1) := by decide +kernel
theorem dX1_isSpoiltFor_17 : decode cX1_isSpoiltFor 17 = .ok (.ireturn, 1) := by decide +kernel
theorem dX1_spoil_0 : decode cX1_spoil 0 = .ok (.aload_n 0, 1) := by decide +kernel
theorem dX1_spoil_1 : decode cX1_spoil 1 = .ok (.dup, 1) := by decide +kernel
theorem dX1_spoil_2 : decode cX1_spoil 2 = .ok (.getfield 39, 3) := by decide +kernel
theorem dX1_spoil_5 : decode cX1_spoil 5 = .ok (.iconst 1, 1) := by decide +kernel
theorem dX1_spoil_6 : decode cX1_spoil 6 = .ok (.iload_n 1, 1) := by decide +kernel
theorem dX1_spoil_7 : decode cX1_spoil 7 = .ok (.ishl, 1) := by decide +kernel
theorem dX1_spoil_8 : decode cX1_spoil 8 = .ok (.ior, 1) := by decide +kernel
theorem dX1_spoil_9 : decode cX1_spoil 9 = .ok (.putfield 39, 3) := by decide +kernel
theorem dX1_spoil_12 : decode cX1_spoil 12 = .ok (.return_, 1) := by decide +kernel
theorem dX2_init_0 : decode cX2_init 0 = .ok (.aload_n 0, 1) := by decide +kernel
theorem dX2_init_1 : decode cX2_init 1 = .ok (.invokespecial 3, 3) := by decide +kernel
theorem dX2_init_4 : decode cX2_init 4 = .ok (.aload_n 0, 1) := by decide +kernel
theorem dX2_init_5 : decode cX2_init 5 = .ok (.iconst 3, 1) := by decide +kernel
theorem dX2_init_6 : decode cX2_init 6 = .ok (.putfield 9, 3) := by decide +kernel
theorem dX2_init_9 : decode cX2_init 9 = .ok (.aload_n 0, 1) := by decide +kernel
theorem dX2_init_10 : decode cX2_init 10 = .ok (.bipush 8, 2) := by decide +kernel
theorem dX2_init_12 : decode cX2_init 12 = .ok (.newarray .int, 2) := by decide +kernel
theorem dX2_init_14 : decode cX2_init 14 = .ok (.putfield 15, 3) := by decide +kernel
theorem dX2_init_17 : decode cX2_init 17 = .ok (.aload_n 0, 1) := by decide +kernel
theorem dX2_init_18 : decode cX2_init 18 = .ok (.bipush 8, 2) := by decide +kernel
theorem dX2_init_20 : decode cX2_init 20 = .ok (.newarray .int, 2) := by decide +kernel
theorem dX2_init_22 : decode cX2_init 22 = .ok (.putfield 19, 3) := by decide +kernel
theorem dX2_init_25 : decode cX2_init 25 = .ok (.aload_n 0, 1) := by decide +kernel
theorem dX2_init_26 : decode cX2_init 26 = .ok (.bipush 8, 2) := by decide +kernel
theorem dX2_init_28 : decode cX2_init 28 = .ok (.newarray .int, 2) := by decide +kernel
theorem dX2_init_30 : decode cX2_init 30 = .ok (.putfield 22, 3) := by decide +kernel
theorem dX2_init_33 : decode cX2_init 33 = .ok (.aload_n 0, 1) := by decide +kernel
theorem dX2_init_34 : decode cX2_init 34 = .ok (.bipush 24, 2) := by decide +kernel
theorem dX2_init_36 : decode cX2_init 36 = .ok (.newarray .int, 2) := by decide +kernel
theorem dX2_init_38 : decode cX2_init 38 = .ok (.putfield 25, 3) := by decide +kernel
theorem dX2_init_41 : decode cX2_init 41 = .ok (.return_, 1) := by decide +kernel
theorem dX2_ruleOf_0 : decode cX2_ruleOf 0 = .ok (.iconst 0, 1) := by decide +kernel
theorem dX2_ruleOf_1 : decode cX2_ruleOf 1 = .ok (.istore_n 2, 1) := by decide +kernel
theorem dX2_ruleOf_2 : decode cX2_ruleOf 2 = .ok (.iload_n 2, 1) := by decide +kernel
theorem dX2_ruleOf_3 : decode cX2_ruleOf 3 = .ok (.aload_n 0, 1) := by decide +kernel
theorem dX2_ruleOf_4 : decode cX2_ruleOf 4 = .ok (.getfield 28, 3) := by decide +kernel
theorem dX2_ruleOf_7 : decode cX2_ruleOf 7 = .ok (.if_icmp .ge 30, 3) := by decide +kernel
theorem dX2_ruleOf_10 : decode cX2_ruleOf 10 = .ok (.iload_n 1, 1) := by decide +kernel
theorem dX2_ruleOf_11 : decode cX2_ruleOf 11 = .ok (.aload_n 0, 1) := by decide +kernel
theorem dX2_ruleOf_12 : decode cX2_ruleOf 12 = .ok (.getfield 15, 3) := by decide +kernel
theorem dX2_ruleOf_15 : decode cX2_ruleOf 15 = .ok (.iload_n 2, 1) := by decide +kernel
theorem dX2_ruleOf_16 : decode cX2_ruleOf 16 = .ok (.iaload, 1) := by decide +kernel
theorem dX2_ruleOf_17 : decode cX2_ruleOf 17 = .ok (.aload_n 0, 1) := by decide +kernel
theorem dX2_ruleOf_18 : decode cX2_ruleOf 18 = .ok (.getfield 19, 3) := by decide +kernel
theorem dX2_ruleOf_21 : decode cX2_ruleOf 21 = .ok (.iload_n 2, 1) := by decide +kernel
theorem dX2_ruleOf_22 : decode cX2_ruleOf 22 = .ok (.iaload, 1) := by decide +kernel
theorem dX2_ruleOf_23 : decode cX2_ruleOf 23 = .ok (.invokestatic 31, 3) := by decide +kernel
theorem dX2_ruleOf_26 : decode cX2_ruleOf 26 = .ok (.ifCond .eq 5, 3) := by decide +kernel
theorem dX2_ruleOf_29 : decode cX2_ruleOf 29 = .ok (.iload_n 2, 1) := by decide +kernel
theorem dX2_ruleOf_30 : decode cX2_ruleOf 30 = .ok (.ireturn, 1) := by decide +kernel
theorem dX2_ruleOf_31 : decode cX2_ruleOf 31 = .ok (.iinc 2 1, 3) := by decide +kernel
theorem dX2_ruleOf_34 : decode cX2_ruleOf 34 = .ok (.goto (-32), 3) := by decide +kernel
theorem dX2_ruleOf_37 : decode cX2_ruleOf 37 = .ok (.iconst (-1), 1) := by decide +kernel
theorem dX2_ruleOf_38 : decode cX2_ruleOf 38 = .ok (.ireturn, 1) := by decide +kernel
theorem dX2_chuteIn_0 : decode cX2_chuteIn 0 = .ok (.aload_n 0, 1) := by decide +kernel
theorem dX2_chuteIn_1 : decode cX2_chuteIn 1 = .ok (.getfield 25, 3) := by decide +kernel
theorem dX2_chuteIn_4 : decode cX2_chuteIn 4 = .ok (.iload_n 1, 1) := by decide +kernel
theorem dX2_chuteIn_5 : decode cX2_chuteIn 5 = .ok (.iconst 3, 1) := by decide +kernel
theorem dX2_chuteIn_6 : decode cX2_chuteIn 6 = .ok (.imul, 1) := by decide +kernel
theorem dX2_chuteIn_7 : decode cX2_chuteIn 7 = .ok (.iload_n 2, 1) := by decide +kernel
theorem dX2_chuteIn_8 : decode cX2_chuteIn 8 = .ok (.iadd, 1) := by decide +kernel
theorem dX2_chuteIn_9 : decode cX2_chuteIn 9 = .ok (.iaload, 1) := by decide +kernel
theorem dX2_chuteIn_10 : decode cX2_chuteIn 10 = .ok (.ireturn, 1) := by decide +kernel
theorem dX2_hasChute_0 : decode cX2_hasChute 0 = .ok (.iconst 0, 1) := by decide +kernel
theorem dX2_hasChute_1 : decode cX2_hasChute 1 = .ok (.istore_n 3, 1) := by decide +kernel
theorem dX2_hasChute_2 : decode cX2_hasChute 2 = .ok (.iload_n 3, 1) := by decide +kernel
theorem dX2_hasChute_3 : decode cX2_hasChute 3 = .ok (.aload_n 0, 1) := by decide +kernel
theorem dX2_hasChute_4 : decode cX2_hasChute 4 = .ok (.getfield 22, 3) := by decide +kernel
theorem dX2_hasChute_7 : decode cX2_hasChute 7 = .ok (.iload_n 1, 1) := by decide +kernel
theorem dX2_hasChute_8 : decode cX2_hasChute 8 = .ok (.iaload, 1) := by decide +kernel
theorem dX2_hasChute_9 : decode cX2_hasChute 9 = .ok (.if_icmp .ge 21, 3) := by decide +kernel
theorem dX2_hasChute_12 : decode cX2_hasChute 12 = .ok (.aload_n 0, 1) := by decide +kernel
theorem dX2_hasChute_13 : decode cX2_hasChute 13 = .ok (.iload_n 1, 1) := by decide +kernel
theorem dX2_hasChute_14 : decode cX2_hasChute 14 = .ok (.iload_n 3, 1) := by decide +kernel
theorem dX2_hasChute_15 : decode cX2_hasChute 15 = .ok (.invokevirtual 35, 3) := by decide +kernel
theorem dX2_hasChute_18 : decode cX2_hasChute 18 = .ok (.iload_n 2, 1) := by decide +kernel
theorem dX2_hasChute_19 : decode cX2_hasChute 19 = .ok (.if_icmp .ne 5, 3) := by decide +kernel
theorem dX2_hasChute_22 : decode cX2_hasChute 22 = .ok (.iconst 1, 1) := by decide +kernel
theorem dX2_hasChute_23 : decode cX2_hasChute 23 = .ok (.ireturn, 1) := by decide +kernel
theorem dX2_hasChute_24 : decode cX2_hasChute 24 = .ok (.iinc 3 1, 3) := by decide +kernel
theorem dX2_hasChute_27 : decode cX2_hasChute 27 = .ok (.goto (-25), 3) := by decide +kernel
theorem dX2_hasChute_30 : decode cX2_hasChute 30 = .ok (.iconst 0, 1) := by decide +kernel
theorem dX2_hasChute_31 : decode cX2_hasChute 31 = .ok (.ireturn, 1) := by decide +kernel
theorem dX2_destinationsWithoutRule_0 : decode cX2_destinationsWithoutRule 0 = .ok (.iconst 0, 1) := by decide +kernel
theorem dX2_destinationsWithoutRule_1 : decode cX2_destinationsWithoutRule 1 = .ok (.istore_n 1, 1) := by decide +kernel
theorem dX2_destinationsWithoutRule_2 : decode cX2_destinationsWithoutRule 2 = .ok (.iconst 0, 1) := by decide +kernel
theorem dX2_destinationsWithoutRule_3 : decode cX2_destinationsWithoutRule 3 = .ok (.istore_n 2, 1) := by decide +kernel
theorem dX2_destinationsWithoutRule_4 : decode cX2_destinationsWithoutRule 4 = .ok (.iload_n 2, 1) := by decide +kernel
theorem dX2_destinationsWithoutRule_5 : decode cX2_destinationsWithoutRule 5 = .ok (.bipush 100, 2) := by decide +kernel
theorem dX2_destinationsWithoutRule_7 : decode cX2_destinationsWithoutRule 7 = .ok (.if_icmp .ge 21, 3) := by decide +kernel
theorem dX2_destinationsWithoutRule_10 : decode cX2_destinationsWithoutRule 10 = .ok (.aload_n 0, 1) := by decide +kernel
theorem dX2_destinationsWithoutRule_11 : decode cX2_destinationsWithoutRule 11 = .ok (.iload_n 2, 1) := by decide +kernel
theorem dX2_destinationsWithoutRule_12 : decode cX2_destinationsWithoutRule 12 = .ok (.invokevirtual 39, 3) := by decide +kernel
theorem dX2_destinationsWithoutRule_15 : decode cX2_destinationsWithoutRule 15 = .ok (.iconst (-1), 1) := by decide +kernel
theorem dX2_destinationsWithoutRule_16 : decode cX2_destinationsWithoutRule 16 = .ok (.if_icmp .ne 6, 3) := by decide +kernel
theorem dX2_destinationsWithoutRule_19 : decode cX2_destinationsWithoutRule 19 = .ok (.iinc 1 1, 3) := by decide +kernel
theorem dX2_destinationsWithoutRule_22 : decode cX2_destinationsWithoutRule 22 = .ok (.iinc 2 1, 3) := by decide +kernel
theorem dX2_destinationsWithoutRule_25 : decode cX2_destinationsWithoutRule 25 = .ok (.goto (-21), 3) := by decide +kernel
theorem dX2_destinationsWithoutRule_28 : decode cX2_destinationsWithoutRule 28 = .ok (.iload_n 1, 1) := by decide +kernel
theorem dX2_destinationsWithoutRule_29 : decode cX2_destinationsWithoutRule 29 = .ok (.ireturn, 1) := by decide +kernel
theorem dX2_addRule_0 : decode cX2_addRule 0 = .ok (.aload_n 0, 1) := by decide +kernel
theorem dX2_addRule_1 : decode cX2_addRule 1 = .ok (.getfield 28, 3) := by decide +kernel
theorem dX2_addRule_4 : decode cX2_addRule 4 = .ok (.bipush 8, 2) := by decide +kernel
theorem dX2_addRule_6 : decode cX2_addRule 6 = .ok (.if_icmp .ge 33, 3) := by decide +kernel
theorem dX2_addRule_9 : decode cX2_addRule 9 = .ok (.aload_n 0, 1) := by decide +kernel
theorem dX2_addRule_10 : decode cX2_addRule 10 = .ok (.getfield 15, 3) := by decide +kernel
theorem dX2_addRule_13 : decode cX2_addRule 13 = .ok (.aload_n 0, 1) := by decide +kernel
theorem dX2_addRule_14 : decode cX2_addRule 14 = .ok (.getfield 28, 3) := by decide +kernel
theorem dX2_addRule_17 : decode cX2_addRule 17 = .ok (.iload_n 1, 1) := by decide +kernel
theorem dX2_addRule_18 : decode cX2_addRule 18 = .ok (.iastore, 1) := by decide +kernel
theorem dX2_addRule_19 : decode cX2_addRule 19 = .ok (.aload_n 0, 1) := by decide +kernel
theorem dX2_addRule_20 : decode cX2_addRule 20 = .ok (.getfield 19, 3) := by decide +kernel
theorem dX2_addRule_23 : decode cX2_addRule 23 = .ok (.aload_n 0, 1) := by decide +kernel
theorem dX2_addRule_24 : decode cX2_addRule 24 = .ok (.getfield 28, 3) := by decide +kernel
theorem dX2_addRule_27 : decode cX2_addRule 27 = .ok (.iload_n 2, 1) := by decide +kernel
theorem dX2_addRule_28 : decode cX2_addRule 28 = .ok (.iastore, 1) := by decide +kernel
theorem dX2_addRule_29 : decode cX2_addRule 29 = .ok (.aload_n 0, 1) := by decide +kernel
theorem dX2_addRule_30 : decode cX2_addRule 30 = .ok (.dup, 1) := by decide +kernel
theorem dX2_addRule_31 : decode cX2_addRule 31 = .ok (.getfield 28, 3) := by decide +kernel
theorem dX2_addRule_34 : decode cX2_addRule 34 = .ok (.iconst 1, 1) := by decide +kernel
theorem dX2_addRule_35 : decode cX2_addRule 35 = .ok (.iadd, 1) := by decide +kernel
theorem dX2_addRule_36 : decode cX2_addRule 36 = .ok (.putfield 28, 3) := by decide +kernel
theorem dX2_addRule_39 : decode cX2_addRule 39 = .ok (.return_, 1) := by decide +kernel
theorem dX2_addChuteToLatestRule_0 : decode cX2_addChuteToLatestRule 0 = .ok (.aload_n 0, 1) := by decide +kernel
theorem dX2_addChuteToLatestRule_1 : decode cX2_addChuteToLatestRule 1 = .ok (.getfield 28, 3) := by decide +kernel
theorem dX2_addChuteToLatestRule_4 : decode cX2_addChuteToLatestRule 4 = .ok (.iconst 1, 1) := by decide +kernel
theorem dX2_addChuteToLatestRule_5 : decode cX2_addChuteToLatestRule 5 = .ok (.isub, 1) := by decide +kernel
theorem dX2_addChuteToLatestRule_6 : decode cX2_addChuteToLatestRule 6 = .ok (.istore_n 2, 1) := by decide +kernel
theorem dX2_addChuteToLatestRule_7 : decode cX2_addChuteToLatestRule 7 = .ok (.iload_n 2, 1) := by decide +kernel
theorem dX2_addChuteToLatestRule_8 : decode cX2_addChuteToLatestRule 8 = .ok (.ifCond .lt 39, 3) := by decide +kernel
theorem dX2_addChuteToLatestRule_11 : decode cX2_addChuteToLatestRule 11 = .ok (.aload_n 0, 1) := by decide +kernel
theorem dX2_addChuteToLatestRule_12 : decode cX2_addChuteToLatestRule 12 = .ok (.getfield 22, 3) := by decide +kernel
theorem dX2_addChuteToLatestRule_15 : decode cX2_addChuteToLatestRule 15 = .ok (.iload_n 2, 1) := by decide +kernel
theorem dX2_addChuteToLatestRule_16 : decode cX2_addChuteToLatestRule 16 = .ok (.iaload, 1) := by decide +kernel
theorem dX2_addChuteToLatestRule_17 : decode cX2_addChuteToLatestRule 17 = .ok (.iconst 3, 1) := by decide +kernel
theorem dX2_addChuteToLatestRule_18 : decode cX2_addChuteToLatestRule 18 = .ok (.if_icmp .ge 29, 3) := by decide +kernel
theorem dX2_addChuteToLatestRule_21 : decode cX2_addChuteToLatestRule 21 = .ok (.aload_n 0, 1) := by decide +kernel
theorem dX2_addChuteToLatestRule_22 : decode cX2_addChuteToLatestRule 22 = .ok (.getfield 25, 3) := by decide +kernel
theorem dX2_addChuteToLatestRule_25 : decode cX2_addChuteToLatestRule 25 = .ok (.iload_n 2, 1) := by decide +kernel
theorem dX2_addChuteToLatestRule_26 : decode cX2_addChuteToLatestRule 26 = .ok (.iconst 3, 1) := by decide +kernel
theorem dX2_addChuteToLatestRule_27 : decode cX2_addChuteToLatestRule 27 = .ok (.imul, 1) := by decide +kernel
theorem dX2_addChuteToLatestRule_28 : decode cX2_addChuteToLatestRule 28 = .ok (.aload_n 0, 1) := by decide +kernel
theorem dX2_addChuteToLatestRule_29 : decode cX2_addChuteToLatestRule 29 = .ok (.getfield 22, 3) := by decide +kernel
theorem dX2_addChuteToLatestRule_32 : decode cX2_addChuteToLatestRule 32 = .ok (.iload_n 2, 1) := by decide +kernel
theorem dX2_addChuteToLatestRule_33 : decode cX2_addChuteToLatestRule 33 = .ok (.iaload, 1) := by decide +kernel
theorem dX2_addChuteToLatestRule_34 : decode cX2_addChuteToLatestRule 34 = .ok (.iadd, 1) := by decide +kernel
theorem dX2_addChuteToLatestRule_35 : decode cX2_addChuteToLatestRule 35 = .ok (.iload_n 1, 1) := by decide +kernel
theorem dX2_addChuteToLatestRule_36 : decode cX2_addChuteToLatestRule 36 = .ok (.iastore, 1) := by decide +kernel
theorem dX2_addChuteToLatestRule_37 : decode cX2_addChuteToLatestRule 37 = .ok (.aload_n 0, 1) := by decide +kernel
theorem dX2_addChuteToLatestRule_38 : decode cX2_addChuteToLatestRule 38 = .ok (.getfield 22, 3) := by decide +kernel
theorem dX2_addChuteToLatestRule_41 : decode cX2_addChuteToLatestRule 41 = .ok (.iload_n 2, 1) := by decide +kernel
theorem dX2_addChuteToLatestRule_42 : decode cX2_addChuteToLatestRule 42 = .ok (.dup2, 1) := by decide +kernel
theorem dX2_addChuteToLatestRule_43 : decode cX2_addChuteToLatestRule 43 = .ok (.iaload, 1) := by decide +kernel
theorem dX2_addChuteToLatestRule_44 : decode cX2_addChuteToLatestRule 44 = .ok (.iconst 1, 1) := by decide +kernel
theorem dX2_addChuteToLatestRule_45 : decode cX2_addChuteToLatestRule 45 = .ok (.iadd, 1) := by decide +kernel
theorem dX2_addChuteToLatestRule_46 : decode cX2_addChuteToLatestRule 46 = .ok (.iastore, 1) := by decide +kernel
theorem dX2_addChuteToLatestRule_47 : decode cX2_addChuteToLatestRule 47 = .ok (.return_, 1) := by decide +kernel
theorem dX2_isPossible_0 : decode cX2_isPossible 0 = .ok (.iconst 0, 1) := by decide +kernel
theorem dX2_isPossible_1 : decode cX2_isPossible 1 = .ok (.istore_n 2, 1) := by decide +kernel
theorem dX2_isPossible_2 : decode cX2_isPossible 2 = .ok (.iload_n 2, 1) := by decide +kernel
theorem dX2_isPossible_3 : decode cX2_isPossible 3 = .ok (.aload_n 0, 1) := by decide +kernel
theorem dX2_isPossible_4 : decode cX2_isPossible 4 = .ok (.getfield 28, 3) := by decide +kernel
theorem dX2_isPossible_7 : decode cX2_isPossible 7 = .ok (.if_icmp .ge 67, 3) := by decide +kernel
theorem dX2_isPossible_10 : decode cX2_isPossible 10 = .ok (.aload_n 0, 1) := by decide +kernel
theorem dX2_isPossible_11 : decode cX2_isPossible 11 = .ok (.getfield 19, 3) := by decide +kernel
theorem dX2_isPossible_14 : decode cX2_isPossible 14 = .ok (.iload_n 2, 1) := by decide +kernel
theorem dX2_isPossible_15 : decode cX2_isPossible 15 = .ok (.iaload, 1) := by decide +kernel
theorem dX2_isPossible_16 : decode cX2_isPossible 16 = .ok (.bipush 100, 2) := by decide +kernel
theorem dX2_isPossible_18 : decode cX2_isPossible 18 = .ok (.if_icmp .ge 18, 3) := by decide +kernel
theorem dX2_isPossible_21 : decode cX2_isPossible 21 = .ok (.aload_n 0, 1) := by decide +kernel
theorem dX2_isPossible_22 : decode cX2_isPossible 22 = .ok (.getfield 15, 3) := by decide +kernel
theorem dX2_isPossible_25 : decode cX2_isPossible 25 = .ok (.iload_n 2, 1) := by decide +kernel
theorem dX2_isPossible_26 : decode cX2_isPossible 26 = .ok (.iaload, 1) := by decide +kernel
theorem dX2_isPossible_27 : decode cX2_isPossible 27 = .ok (.aload_n 0, 1) := by decide +kernel
theorem dX2_isPossible_28 : decode cX2_isPossible 28 = .ok (.getfield 19, 3) := by decide +kernel
theorem dX2_isPossible_31 : decode cX2_isPossible 31 = .ok (.iload_n 2, 1) := by decide +kernel
theorem dX2_isPossible_32 : decode cX2_isPossible 32 = .ok (.iaload, 1) := by decide +kernel
theorem dX2_isPossible_33 : decode cX2_isPossible 33 = .ok (.if_icmp .le 5, 3) := by decide +kernel
theorem dX2_isPossible_36 : decode cX2_isPossible 36 = .ok (.iconst 0, 1) := by decide +kernel
theorem dX2_isPossible_37 : decode cX2_isPossible 37 = .ok (.ireturn, 1) := by decide +kernel
theorem dX2_isPossible_38 : decode cX2_isPossible 38 = .ok (.iconst 0, 1) := by decide +kernel
theorem dX2_isPossible_39 : decode cX2_isPossible 39 = .ok (.istore_n 3, 1) := by decide +kernel
theorem dX2_isPossible_40 : decode cX2_isPossible 40 = .ok (.iload_n 3, 1) := by decide +kernel
theorem dX2_isPossible_41 : decode cX2_isPossible 41 = .ok (.aload_n 0, 1) := by decide +kernel
theorem dX2_isPossible_42 : decode cX2_isPossible 42 = .ok (.getfield 22, 3) := by decide +kernel
theorem dX2_isPossible_45 : decode cX2_isPossible 45 = .ok (.iload_n 2, 1) := by decide +kernel
theorem dX2_isPossible_46 : decode cX2_isPossible 46 = .ok (.iaload, 1) := by decide +kernel
theorem dX2_isPossible_47 : decode cX2_isPossible 47 = .ok (.if_icmp .ge 21, 3) := by decide +kernel
theorem dX2_isPossible_50 : decode cX2_isPossible 50 = .ok (.aload_n 0, 1) := by decide +kernel
theorem dX2_isPossible_51 : decode cX2_isPossible 51 = .ok (.iload_n 2, 1) := by decide +kernel
theorem dX2_isPossible_52 : decode cX2_isPossible 52 = .ok (.iload_n 3, 1) := by decide +kernel
theorem dX2_isPossible_53 : decode cX2_isPossible 53 = .ok (.invokevirtual 35, 3) := by decide +kernel
theorem dX2_isPossible_56 : decode cX2_isPossible 56 = .ok (.iload_n 1, 1) := by decide +kernel
theorem dX2_isPossible_57 : decode cX2_isPossible 57 = .ok (.if_icmp .lt 5, 3) := by decide +kernel
theorem dX2_isPossible_60 : decode cX2_isPossible 60 = .ok (.iconst 0, 1) := by decide +kernel
theorem dX2_isPossible_61 : decode cX2_isPossible 61 = .ok (.ireturn, 1) := by decide +kernel
theorem dX2_isPossible_62 : decode cX2_isPossible 62 = .ok (.iinc 3 1, 3) := by decide +kernel
theorem dX2_isPossible_65 : decode cX2_isPossible 65 = .ok (.goto (-25), 3) := by decide +kernel
theorem dX2_isPossible_68 : decode cX2_isPossible 68 = .ok (.iinc 2 1, 3) := by decide +kernel
theorem dX2_isPossible_71 : decode cX2_isPossible 71 = .ok (.goto (-69), 3) := by decide +kernel
theorem dX2_isPossible_74 : decode cX2_isPossible 74 = .ok (.aload_n 0, 1) := by decide +kernel
theorem dX2_isPossible_75 : decode cX2_isPossible 75 = .ok (.getfield 43, 3) := by decide +kernel
theorem dX2_isPossible_78 : decode cX2_isPossible 78 = .ok (.iload_n 1, 1) := by decide +kernel
theorem dX2_isPossible_79 : decode cX2_isPossible 79 = .ok (.if_icmp .ge 7, 3) := by decide +kernel
theorem dX2_isPossible_82 : decode cX2_isPossible 82 = .ok (.iconst 1, 1) := by decide +kernel
theorem dX2_isPossible_83 : decode cX2_isPossible 83 = .ok (.goto 4, 3) := by decide +kernel
theorem dX2_isPossible_86 : decode cX2_isPossible 86 = .ok (.iconst 0, 1) := by decide +kernel
theorem dX2_isPossible_87 : decode cX2_isPossible 87 = .ok (.ireturn, 1) := by decide +kernel
theorem dX2_writeTo_0 : decode cX2_writeTo 0 = .ok (.aload_n 1, 1) := by decide +kernel
theorem dX2_writeTo_1 : decode cX2_writeTo 1 = .ok (.bipush 64, 2) := by decide +kernel
theorem dX2_writeTo_3 : decode cX2_writeTo 3 = .ok (.invokevirtual 46, 3) := by decide +kernel
theorem dX2_writeTo_6 : decode cX2_writeTo 6 = .ok (.aload_n 0, 1) := by decide +kernel
theorem dX2_writeTo_7 : decode cX2_writeTo 7 = .ok (.getfield 52, 3) := by decide +kernel
theorem dX2_writeTo_10 : decode cX2_writeTo 10 = .ok (.invokevirtual 55, 3) := by decide +kernel
theorem dX2_writeTo_13 : decode cX2_writeTo 13 = .ok (.pop, 1) := by decide +kernel
theorem dX2_writeTo_14 : decode cX2_writeTo 14 = .ok (.iconst 0, 1) := by decide +kernel
theorem dX2_writeTo_15 : decode cX2_writeTo 15 = .ok (.istore_n 2, 1) := by decide +kernel
theorem dX2_writeTo_16 : decode cX2_writeTo 16 = .ok (.iload_n 2, 1) := by decide +kernel
theorem dX2_writeTo_17 : decode cX2_writeTo 17 = .ok (.aload_n 0, 1) := by decide +kernel
theorem dX2_writeTo_18 : decode cX2_writeTo 18 = .ok (.getfield 28, 3) := by decide +kernel
theorem dX2_writeTo_21 : decode cX2_writeTo 21 = .ok (.if_icmp .ge 31, 3) := by decide +kernel
theorem dX2_writeTo_24 : decode cX2_writeTo 24 = .ok (.aload_n 1, 1) := by decide +kernel
theorem dX2_writeTo_25 : decode cX2_writeTo 25 = .ok (.iload_n 2, 1) := by decide +kernel
theorem dX2_writeTo_26 : decode cX2_writeTo 26 = .ok (.ifCond .ne 8, 3) := by decide +kernel
theorem dX2_writeTo_29 : decode cX2_writeTo 29 = .ok (.bipush 58, 2) := by decide +kernel
theorem dX2_writeTo_31 : decode cX2_writeTo 31 = .ok (.goto 5, 3) := by decide +kernel
theorem dX2_writeTo_34 : decode cX2_writeTo 34 = .ok (.bipush 59, 2) := by decide +kernel
theorem dX2_writeTo_36 : decode cX2_writeTo 36 = .ok (.invokevirtual 46, 3) := by decide +kernel
theorem dX2_writeTo_39 : decode cX2_writeTo 39 = .ok (.pop, 1) := by decide +kernel
theorem dX2_writeTo_40 : decode cX2_writeTo 40 = .ok (.aload_n 0, 1) := by decide +kernel
theorem dX2_writeTo_41 : decode cX2_writeTo 41 = .ok (.aload_n 1, 1) := by decide +kernel
theorem dX2_writeTo_42 : decode cX2_writeTo 42 = .ok (.iload_n 2, 1) := by decide +kernel
theorem dX2_writeTo_43 : decode cX2_writeTo 43 = .ok (.invokevirtual 58, 3) := by decide +kernel
theorem dX2_writeTo_46 : decode cX2_writeTo 46 = .ok (.iinc 2 1, 3) := by decide +kernel
theorem dX2_writeTo_49 : decode cX2_writeTo 49 = .ok (.goto (-33), 3) := by decide +kernel
theorem dX2_writeTo_52 : decode cX2_writeTo 52 = .ok (.aload_n 1, 1) := by decide +kernel
theorem dX2_writeTo_53 : decode cX2_writeTo 53 = .ok (.bipush 120, 2) := by decide +kernel
theorem dX2_writeTo_55 : decode cX2_writeTo 55 = .ok (.invokevirtual 46, 3) := by decide +kernel
theorem dX2_writeTo_58 : decode cX2_writeTo 58 = .ok (.aload_n 0, 1) := by decide +kernel
theorem dX2_writeTo_59 : decode cX2_writeTo 59 = .ok (.getfield 43, 3) := by decide +kernel
theorem dX2_writeTo_62 : decode cX2_writeTo 62 = .ok (.invokevirtual 55, 3) := by decide +kernel
theorem dX2_writeTo_65 : decode cX2_writeTo 65 = .ok (.pop, 1) := by decide +kernel
theorem dX2_writeTo_66 : decode cX2_writeTo 66 = .ok (.aload_n 0, 1) := by decide +kernel
theorem dX2_writeTo_67 : decode cX2_writeTo 67 = .ok (.getfield 9, 3) := by decide +kernel
theorem dX2_writeTo_70 : decode cX2_writeTo 70 = .ok (.iconst 3, 1) := by decide +kernel
theorem dX2_writeTo_71 : decode cX2_writeTo 71 = .ok (.if_icmp .eq 17, 3) := by decide +kernel
theorem dX2_writeTo_74 : decode cX2_writeTo 74 = .ok (.aload_n 1, 1) := by decide +kernel
theorem dX2_writeTo_75 : decode cX2_writeTo 75 = .ok (.bipush 42, 2) := by decide +kernel
theorem dX2_writeTo_77 : decode cX2_writeTo 77 = .ok (.invokevirtual 46, 3) := by decide +kernel
theorem dX2_writeTo_80 : decode cX2_writeTo 80 = .ok (.aload_n 0, 1) := by decide +kernel
theorem dX2_writeTo_81 : decode cX2_writeTo 81 = .ok (.getfield 9, 3) := by decide +kernel
theorem dX2_writeTo_84 : decode cX2_writeTo 84 = .ok (.invokevirtual 55, 3) := by decide +kernel
theorem dX2_writeTo_87 : decode cX2_writeTo 87 = .ok (.pop, 1) := by decide +kernel
theorem dX2_writeTo_88 : decode cX2_writeTo 88 = .ok (.return_, 1) := by decide +kernel
theorem dX2_writeRule_0 : decode cX2_writeRule 0 = .ok (.aload_n 1, 1) := by decide +kernel
theorem dX2_writeRule_1 : decode cX2_writeRule 1 = .ok (.aload_n 0, 1) := by decide +kernel
theorem dX2_writeRule_2 : decode cX2_writeRule 2 = .ok (.getfield 15, 3) := by decide +kernel
theorem dX2_writeRule_5 : decode cX2_writeRule 5 = .ok (.iload_n 2, 1) := by decide +kernel
theorem dX2_writeRule_6 : decode cX2_writeRule 6 = .ok (.iaload, 1) := by decide +kernel
theorem dX2_writeRule_7 : decode cX2_writeRule 7 = .ok (.invokevirtual 55, 3) := by decide +kernel
theorem dX2_writeRule_10 : decode cX2_writeRule 10 = .ok (.pop, 1) := by decide +kernel
theorem dX2_writeRule_11 : decode cX2_writeRule 11 = .ok (.aload_n 0, 1) := by decide +kernel
theorem dX2_writeRule_12 : decode cX2_writeRule 12 = .ok (.getfield 19, 3) := by decide +kernel
theorem dX2_writeRule_15 : decode cX2_writeRule 15 = .ok (.iload_n 2, 1) := by decide +kernel
theorem dX2_writeRule_16 : decode cX2_writeRule 16 = .ok (.iaload, 1) := by decide +kernel
theorem dX2_writeRule_17 : decode cX2_writeRule 17 = .ok (.aload_n 0, 1) := by decide +kernel
theorem dX2_writeRule_18 : decode cX2_writeRule 18 = .ok (.getfield 15, 3) := by decide +kernel
theorem dX2_writeRule_21 : decode cX2_writeRule 21 = .ok (.iload_n 2, 1) := by decide +kernel
theorem dX2_writeRule_22 : decode cX2_writeRule 22 = .ok (.iaload, 1) := by decide +kernel
theorem dX2_writeRule_23 : decode cX2_writeRule 23 = .ok (.if_icmp .eq 19, 3) := by decide +kernel
theorem dX2_writeRule_26 : decode cX2_writeRule 26 = .ok (.aload_n 1, 1) := by decide +kernel
theorem dX2_writeRule_27 : decode cX2_writeRule 27 = .ok (.bipush 45, 2) := by decide +kernel
theorem dX2_writeRule_29 : decode cX2_writeRule 29 = .ok (.invokevirtual 46, 3) := by decide +kernel
theorem dX2_writeRule_32 : decode cX2_writeRule 32 = .ok (.aload_n 0, 1) := by decide +kernel
theorem dX2_writeRule_33 : decode cX2_writeRule 33 = .ok (.getfield 19, 3) := by decide +kernel
theorem dX2_writeRule_36 : decode cX2_writeRule 36 = .ok (.iload_n 2, 1) := by decide +kernel
theorem dX2_writeRule_37 : decode cX2_writeRule 37 = .ok (.iaload, 1) := by decide +kernel
theorem dX2_writeRule_38 : decode cX2_writeRule 38 = .ok (.invokevirtual 55, 3) := by decide +kernel
theorem dX2_writeRule_41 : decode cX2_writeRule 41 = .ok (.pop, 1) := by decide +kernel
theorem dX2_writeRule_42 : decode cX2_writeRule 42 = .ok (.iconst 0, 1) := by decide +kernel
theorem dX2_writeRule_43 : decode cX2_writeRule 43 = .ok (.istore_n 3, 1) := by decide +kernel
theorem dX2_writeRule_44 : decode cX2_writeRule 44 = .ok (.iload_n 3, 1) := by decide +kernel
theorem dX2_writeRule_45 : decode cX2_writeRule 45 = .ok (.aload_n 0, 1) := by decide +kernel
theorem dX2_writeRule_46 : decode cX2_writeRule 46 = .ok (.getfield 22, 3) := by decide +kernel
theorem dX2_writeRule_49 : decode cX2_writeRule 49 = .ok (.iload_n 2, 1) := by decide +kernel
theorem dX2_writeRule_50 : decode cX2_writeRule 50 = .ok (.iaload, 1) := by decide +kernel
theorem dX2_writeRule_51 : decode cX2_writeRule 51 = .ok (.if_icmp .ge 34, 3) := by decide +kernel
theorem dX2_writeRule_54 : decode cX2_writeRule 54 = .ok (.aload_n 1, 1) := by decide +kernel
theorem dX2_writeRule_55 : decode cX2_writeRule 55 = .ok (.iload_n 3, 1) := by decide +kernel
theorem dX2_writeRule_56 : decode cX2_writeRule 56 = .ok (.ifCond .ne 8, 3) := by decide +kernel
theorem dX2_writeRule_59 : decode cX2_writeRule 59 = .ok (.bipush 61, 2) := by decide +kernel
theorem dX2_writeRule_61 : decode cX2_writeRule 61 = .ok (.goto 5, 3) := by decide +kernel
theorem dX2_writeRule_64 : decode cX2_writeRule 64 = .ok (.bipush 44, 2) := by decide +kernel
theorem dX2_writeRule_66 : decode cX2_writeRule 66 = .ok (.invokevirtual 46, 3) := by decide +kernel
theorem dX2_writeRule_69 : decode cX2_writeRule 69 = .ok (.aload_n 0, 1) := by decide +kernel
theorem dX2_writeRule_70 : decode cX2_writeRule 70 = .ok (.iload_n 2, 1) := by decide +kernel
theorem dX2_writeRule_71 : decode cX2_writeRule 71 = .ok (.iload_n 3, 1) := by decide +kernel
theorem dX2_writeRule_72 : decode cX2_writeRule 72 = .ok (.invokevirtual 35, 3) := by decide +kernel
theorem dX2_writeRule_75 : decode cX2_writeRule 75 = .ok (.invokevirtual 55, 3) := by decide +kernel
theorem dX2_writeRule_78 : decode cX2_writeRule 78 = .ok (.pop, 1) := by decide +kernel
theorem dX2_writeRule_79 : decode cX2_writeRule 79 = .ok (.iinc 3 1, 3) := by decide +kernel
theorem dX2_writeRule_82 : decode cX2_writeRule 82 = .ok (.goto (-38), 3) := by decide +kernel
theorem dX2_writeRule_85 : decode cX2_writeRule 85 = .ok (.return_, 1) := by decide +kernel
theorem dX3_init_0 : decode cX3_init 0 = .ok (.aload_n 0, 1) := by decide +kernel
theorem dX3_init_1 : decode cX3_init 1 = .ok (.invokespecial 3, 3) := by decide +kernel
theorem dX3_init_4 : decode cX3_init 4 = .ok (.aload_n 0, 1) := by decide +kernel
theorem dX3_init_5 : decode cX3_init 5 = .ok (.new 9, 3) := by decide +kernel
theorem dX3_init_8 : decode cX3_init 8 = .ok (.dup, 1) := by decide +kernel
theorem dX3_init_9 : decode cX3_init 9 = .ok (.invokespecial 11, 3) := by decide +kernel
theorem dX3_init_12 : decode cX3_init 12 = .ok (.putfield 12, 3) := by decide +kernel
theorem dX3_init_15 : decode cX3_init 15 = .ok (.aload_n 0, 1) := by decide +kernel
theorem dX3_init_16 : decode cX3_init 16 = .ok (.aload_n 1, 1) := by decide +kernel
theorem dX3_init_17 : decode cX3_init 17 = .ok (.putfield 18, 3) := by decide +kernel
theorem dX3_init_20 : decode cX3_init 20 = .ok (.aload_n 0, 1) := by decide +kernel
theorem dX3_init_21 : decode cX3_init 21 = .ok (.iload_n 2, 1) := by decide +kernel
theorem dX3_init_22 : decode cX3_init 22 = .ok (.aload_n 1, 1) := by decide +kernel
theorem dX3_init_23 : decode cX3_init 23 = .ok (.arraylength, 1) := by decide +kernel
theorem dX3_init_24 : decode cX3_init 24 = .ok (.invokestatic 22, 3) := by decide +kernel
theorem dX3_init_27 : decode cX3_init 27 = .ok (.putfield 28, 3) := by decide +kernel
theorem dX3_init_30 : decode cX3_init 30 = .ok (.return_, 1) := by decide +kernel
theorem dX3_readPlan_0 : decode cX3_readPlan 0 = .ok (.aload_n 0, 1) := by decide +kernel
theorem dX3_readPlan_1 : decode cX3_readPlan 1 = .ok (.bipush 64, 2) := by decide +kernel
theorem dX3_readPlan_3 : decode cX3_readPlan 3 = .ok (.invokevirtual 32, 3) := by decide +kernel
theorem dX3_readPlan_6 : decode cX3_readPlan 6 = .ok (.ifCond .ne 5, 3) := by decide +kernel
theorem dX3_readPlan_9 : decode cX3_readPlan 9 = .ok (.iconst 0, 1) := by decide +kernel
theorem dX3_readPlan_10 : decode cX3_readPlan 10 = .ok (.ireturn, 1) := by decide +kernel
theorem dX3_readPlan_11 : decode cX3_readPlan 11 = .ok (.aload_n 0, 1) := by decide +kernel
theorem dX3_readPlan_12 : decode cX3_readPlan 12 = .ok (.getfield 12, 3) := by decide +kernel
theorem dX3_readPlan_15 : decode cX3_readPlan 15 = .ok (.aload_n 0, 1) := by decide +kernel
theorem dX3_readPlan_16 : decode cX3_readPlan 16 = .ok (.invokevirtual 36, 3) := by decide +kernel
theorem dX3_readPlan_19 : decode cX3_readPlan 19 = .ok (.putfield 40, 3) := by decide +kernel
theorem dX3_readPlan_22 : decode cX3_readPlan 22 = .ok (.aload_n 0, 1) := by decide +kernel
theorem dX3_readPlan_23 : decode cX3_readPlan 23 = .ok (.getfield 12, 3) := by decide +kernel
theorem dX3_readPlan_26 : decode cX3_readPlan 26 = .ok (.getfield 40, 3) := by decide +kernel
theorem dX3_readPlan_29 : decode cX3_readPlan 29 = .ok (.iconst (-1), 1) := by decide +kernel
theorem dX3_readPlan_30 : decode cX3_readPlan 30 = .ok (.if_icmp .eq 28, 3) := by decide +kernel
theorem dX3_readPlan_33 : decode cX3_readPlan 33 = .ok (.aload_n 0, 1) := by decide +kernel
theorem dX3_readPlan_34 : decode cX3_readPlan 34 = .ok (.bipush 58, 2) := by decide +kernel
theorem dX3_readPlan_36 : decode cX3_readPlan 36 = .ok (.invokevirtual 32, 3) := by decide +kernel
theorem dX3_readPlan_39 : decode cX3_readPlan 39 = .ok (.ifCond .eq 19, 3) := by decide +kernel
theorem dX3_readPlan_42 : decode cX3_readPlan 42 = .ok (.aload_n 0, 1) := by decide +kernel
theorem dX3_readPlan_43 : decode cX3_readPlan 43 = .ok (.invokevirtual 43, 3) := by decide +kernel
theorem dX3_readPlan_46 : decode cX3_readPlan 46 = .ok (.ifCond .eq 12, 3) := by decide +kernel
theorem dX3_readPlan_49 : decode cX3_readPlan 49 = .ok (.aload_n 0, 1) := by decide +kernel
theorem dX3_readPlan_50 : decode cX3_readPlan 50 = .ok (.bipush 120, 2) := by decide +kernel
theorem dX3_readPlan_52 : decode cX3_readPlan 52 = .ok (.invokevirtual 32, 3) := by decide +kernel
theorem dX3_readPlan_55 : decode cX3_readPlan 55 = .ok (.ifCond .ne 5, 3) := by decide +kernel
theorem dX3_readPlan_58 : decode cX3_readPlan 58 = .ok (.iconst 0, 1) := by decide +kernel
theorem dX3_readPlan_59 : decode cX3_readPlan 59 = .ok (.ireturn, 1) := by decide +kernel
theorem dX3_readPlan_60 : decode cX3_readPlan 60 = .ok (.aload_n 0, 1) := by decide +kernel
theorem dX3_readPlan_61 : decode cX3_readPlan 61 = .ok (.getfield 12, 3) := by decide +kernel
theorem dX3_readPlan_64 : decode cX3_readPlan 64 = .ok (.aload_n 0, 1) := by decide +kernel
theorem dX3_readPlan_65 : decode cX3_readPlan 65 = .ok (.bipush 7, 2) := by decide +kernel
theorem dX3_readPlan_67 : decode cX3_readPlan 67 = .ok (.invokevirtual 47, 3) := by decide +kernel
theorem dX3_readPlan_70 : decode cX3_readPlan 70 = .ok (.putfield 51, 3) := by decide +kernel
theorem dX3_readPlan_73 : decode cX3_readPlan 73 = .ok (.aload_n 0, 1) := by decide +kernel
theorem dX3_readPlan_74 : decode cX3_readPlan 74 = .ok (.getfield 12, 3) := by decide +kernel
theorem dX3_readPlan_77 : decode cX3_readPlan 77 = .ok (.getfield 51, 3) := by decide +kernel
theorem dX3_readPlan_80 : decode cX3_readPlan 80 = .ok (.iconst (-1), 1) := by decide +kernel
theorem dX3_readPlan_81 : decode cX3_readPlan 81 = .ok (.if_icmp .eq 10, 3) := by decide +kernel
theorem dX3_readPlan_84 : decode cX3_readPlan 84 = .ok (.aload_n 0, 1) := by decide +kernel
theorem dX3_readPlan_85 : decode cX3_readPlan 85 = .ok (.invokevirtual 54, 3) := by decide +kernel
theorem dX3_readPlan_88 : decode cX3_readPlan 88 = .ok (.ifCond .ne 5, 3) := by decide +kernel
theorem dX3_readPlan_91 : decode cX3_readPlan 91 = .ok (.iconst 0, 1) := by decide +kernel
theorem dX3_readPlan_92 : decode cX3_readPlan 92 = .ok (.ireturn, 1) := by decide +kernel
theorem dX3_readPlan_93 : decode cX3_readPlan 93 = .ok (.aload_n 0, 1) := by decide +kernel
theorem dX3_readPlan_94 : decode cX3_readPlan 94 = .ok (.getfield 57, 3) := by decide +kernel
theorem dX3_readPlan_97 : decode cX3_readPlan 97 = .ok (.aload_n 0, 1) := by decide +kernel
theorem dX3_readPlan_98 : decode cX3_readPlan 98 = .ok (.getfield 28, 3) := by decide +kernel
theorem dX3_readPlan_101 : decode cX3_readPlan 101 = .ok (.if_icmp .ne 7, 3) := by decide +kernel
theorem dX3_readPlan_104 : decode cX3_readPlan 104 = .ok (.iconst 1, 1) := by decide +kernel
theorem dX3_readPlan_105 : decode cX3_readPlan 105 = .ok (.goto 4, 3) := by decide +kernel
theorem dX3_readPlan_108 : decode cX3_readPlan 108 = .ok (.iconst 0, 1) := by decide +kernel
theorem dX3_readPlan_109 : decode cX3_readPlan 109 = .ok (.ireturn, 1) := by decide +kernel
theorem dX3_readRules_0 : decode cX3_readRules 0 = .ok (.iconst 1, 1) := by decide +kernel
theorem dX3_readRules_1 : decode cX3_readRules 1 = .ok (.istore_n 1, 1) := by decide +kernel
theorem dX3_readRules_2 : decode cX3_readRules 2 = .ok (.iconst 1, 1) := by decide +kernel
theorem dX3_readRules_3 : decode cX3_readRules 3 = .ok (.istore_n 2, 1) := by decide +kernel
theorem dX3_readRules_4 : decode cX3_readRules 4 = .ok (.iload_n 2, 1) := by decide +kernel
theorem dX3_readRules_5 : decode cX3_readRules 5 = .ok (.bipush 8, 2) := by decide +kernel
theorem dX3_readRules_7 : decode cX3_readRules 7 = .ok (.if_icmp .gt 43, 3) := by decide +kernel
theorem dX3_readRules_10 : decode cX3_readRules 10 = .ok (.iload_n 1, 1) := by decide +kernel
theorem dX3_readRules_11 : decode cX3_readRules 11 = .ok (.ifCond .eq 39, 3) := by decide +kernel
theorem dX3_readRules_14 : decode cX3_readRules 14 = .ok (.aload_n 0, 1) := by decide +kernel
theorem dX3_readRules_15 : decode cX3_readRules 15 = .ok (.invokevirtual 60, 3) := by decide +kernel
theorem dX3_readRules_18 : decode cX3_readRules 18 = .ok (.ifCond .ne 5, 3) := by decide +kernel
theorem dX3_readRules_21 : decode cX3_readRules 21 = .ok (.iconst 0, 1) := by decide +kernel
theorem dX3_readRules_22 : decode cX3_readRules 22 = .ok (.ireturn, 1) := by decide +kernel
theorem dX3_readRules_23 : decode cX3_readRules 23 = .ok (.iload_n 2, 1) := by decide +kernel
theorem dX3_readRules_24 : decode cX3_readRules 24 = .ok (.bipush 8, 2) := by decide +kernel
theorem dX3_readRules_26 : decode cX3_readRules 26 = .ok (.if_icmp .ge 16, 3) := by decide +kernel
theorem dX3_readRules_29 : decode cX3_readRules 29 = .ok (.aload_n 0, 1) := by decide +kernel
theorem dX3_readRules_30 : decode cX3_readRules 30 = .ok (.bipush 59, 2) := by decide +kernel
theorem dX3_readRules_32 : decode cX3_readRules 32 = .ok (.invokevirtual 32, 3) := by decide +kernel
theorem dX3_readRules_35 : decode cX3_readRules 35 = .ok (.ifCond .eq 7, 3) := by decide +kernel
theorem dX3_readRules_38 : decode cX3_readRules 38 = .ok (.iconst 1, 1) := by decide +kernel
theorem dX3_readRules_39 : decode cX3_readRules 39 = .ok (.goto 4, 3) := by decide +kernel
theorem dX3_readRules_42 : decode cX3_readRules 42 = .ok (.iconst 0, 1) := by decide +kernel
theorem dX3_readRules_43 : decode cX3_readRules 43 = .ok (.istore_n 1, 1) := by decide +kernel
theorem dX3_readRules_44 : decode cX3_readRules 44 = .ok (.iinc 2 1, 3) := by decide +kernel
theorem dX3_readRules_47 : decode cX3_readRules 47 = .ok (.goto (-43), 3) := by decide +kernel
theorem dX3_readRules_50 : decode cX3_readRules 50 = .ok (.iconst 1, 1) := by decide +kernel
theorem dX3_readRules_51 : decode cX3_readRules 51 = .ok (.ireturn, 1) := by decide +kernel
theorem dX3_readRule_0 : decode cX3_readRule 0 = .ok (.aload_n 0, 1) := by decide +kernel
theorem dX3_readRule_1 : decode cX3_readRule 1 = .ok (.invokevirtual 36, 3) := by decide +kernel
theorem dX3_readRule_4 : decode cX3_readRule 4 = .ok (.istore_n 1, 1) := by decide +kernel
theorem dX3_readRule_5 : decode cX3_readRule 5 = .ok (.iload_n 1, 1) := by decide +kernel
theorem dX3_readRule_6 : decode cX3_readRule 6 = .ok (.iconst (-1), 1) := by decide +kernel
theorem dX3_readRule_7 : decode cX3_readRule 7 = .ok (.if_icmp .ne 5, 3) := by decide +kernel
theorem dX3_readRule_10 : decode cX3_readRule 10 = .ok (.iconst 0, 1) := by decide +kernel
theorem dX3_readRule_11 : decode cX3_readRule 11 = .ok (.ireturn, 1) := by decide +kernel
theorem dX3_readRule_12 : decode cX3_readRule 12 = .ok (.aload_n 0, 1) := by decide +kernel
theorem dX3_readRule_13 : decode cX3_readRule 13 = .ok (.bipush 45, 2) := by decide +kernel
theorem dX3_readRule_15 : decode cX3_readRule 15 = .ok (.invokevirtual 32, 3) := by decide +kernel
theorem dX3_readRule_18 : decode cX3_readRule 18 = .ok (.ifCond .eq 10, 3) := by decide +kernel
theorem dX3_readRule_21 : decode cX3_readRule 21 = .ok (.aload_n 0, 1) := by decide +kernel
theorem dX3_readRule_22 : decode cX3_readRule 22 = .ok (.invokevirtual 36, 3) := by decide +kernel
theorem dX3_readRule_25 : decode cX3_readRule 25 = .ok (.goto 4, 3) := by decide +kernel
theorem dX3_readRule_28 : decode cX3_readRule 28 = .ok (.iload_n 1, 1) := by decide +kernel
theorem dX3_readRule_29 : decode cX3_readRule 29 = .ok (.istore_n 2, 1) := by decide +kernel
theorem dX3_readRule_30 : decode cX3_readRule 30 = .ok (.iload_n 2, 1) := by decide +kernel
theorem dX3_readRule_31 : decode cX3_readRule 31 = .ok (.iconst (-1), 1) := by decide +kernel
theorem dX3_readRule_32 : decode cX3_readRule 32 = .ok (.if_icmp .eq 12, 3) := by decide +kernel
theorem dX3_readRule_35 : decode cX3_readRule 35 = .ok (.aload_n 0, 1) := by decide +kernel
theorem dX3_readRule_36 : decode cX3_readRule 36 = .ok (.bipush 61, 2) := by decide +kernel
theorem dX3_readRule_38 : decode cX3_readRule 38 = .ok (.invokevirtual 32, 3) := by decide +kernel
theorem dX3_readRule_41 : decode cX3_readRule 41 = .ok (.ifCond .ne 5, 3) := by decide +kernel
theorem dX3_readRule_44 : decode cX3_readRule 44 = .ok (.iconst 0, 1) := by decide +kernel
theorem dX3_readRule_45 : decode cX3_readRule 45 = .ok (.ireturn, 1) := by decide +kernel
theorem dX3_readRule_46 : decode cX3_readRule 46 = .ok (.aload_n 0, 1) := by decide +kernel
theorem dX3_readRule_47 : decode cX3_readRule 47 = .ok (.getfield 12, 3) := by decide +kernel
theorem dX3_readRule_50 : decode cX3_readRule 50 = .ok (.iload_n 1, 1) := by decide +kernel
theorem dX3_readRule_51 : decode cX3_readRule 51 = .ok (.iload_n 2, 1) := by decide +kernel
theorem dX3_readRule_52 : decode cX3_readRule 52 = .ok (.invokevirtual 63, 3) := by decide +kernel
theorem dX3_readRule_55 : decode cX3_readRule 55 = .ok (.aload_n 0, 1) := by decide +kernel
theorem dX3_readRule_56 : decode cX3_readRule 56 = .ok (.invokevirtual 67, 3) := by decide +kernel
theorem dX3_readRule_59 : decode cX3_readRule 59 = .ok (.ireturn, 1) := by decide +kernel
theorem dX3_readChutes_0 : decode cX3_readChutes 0 = .ok (.iconst 1, 1) := by decide +kernel
theorem dX3_readChutes_1 : decode cX3_readChutes 1 = .ok (.istore_n 1, 1) := by decide +kernel
theorem dX3_readChutes_2 : decode cX3_readChutes 2 = .ok (.iconst 1, 1) := by decide +kernel
theorem dX3_readChutes_3 : decode cX3_readChutes 3 = .ok (.istore_n 2, 1) := by decide +kernel
theorem dX3_readChutes_4 : decode cX3_readChutes 4 = .ok (.iload_n 2, 1) := by decide +kernel
theorem dX3_readChutes_5 : decode cX3_readChutes 5 = .ok (.iconst 3, 1) := by decide +kernel
theorem dX3_readChutes_6 : decode cX3_readChutes 6 = .ok (.if_icmp .gt 85, 3) := by decide +kernel
theorem dX3_readChutes_9 : decode cX3_readChutes 9 = .ok (.iload_n 1, 1) := by decide +kernel
theorem dX3_readChutes_10 : decode cX3_readChutes 10 = .ok (.ifCond .eq 81, 3) := by decide +kernel
theorem dX3_readChutes_13 : decode cX3_readChutes 13 = .ok (.aload_n 0, 1) := by decide +kernel
theorem dX3_readChutes_14 : decode cX3_readChutes 14 = .ok (.bipush 7, 2) := by decide +kernel
theorem dX3_readChutes_16 : decode cX3_readChutes 16 = .ok (.invokevirtual 70, 3) := by decide +kernel
theorem dX3_readChutes_19 : decode cX3_readChutes 19 = .ok (.istore_n 3, 1) := by decide +kernel
theorem dX3_readChutes_20 : decode cX3_readChutes 20 = .ok (.iload_n 3, 1) := by decide +kernel
theorem dX3_readChutes_21 : decode cX3_readChutes 21 = .ok (.iconst (-1), 1) := by decide +kernel
theorem dX3_readChutes_22 : decode cX3_readChutes 22 = .ok (.if_icmp .eq 23, 3) := by decide +kernel
theorem dX3_readChutes_25 : decode cX3_readChutes 25 = .ok (.aload_n 0, 1) := by decide +kernel
theorem dX3_readChutes_26 : decode cX3_readChutes 26 = .ok (.getfield 12, 3) := by decide +kernel
theorem dX3_readChutes_29 : decode cX3_readChutes 29 = .ok (.aload_n 0, 1) := by decide +kernel
theorem dX3_readChutes_30 : decode cX3_readChutes 30 = .ok (.getfield 12, 3) := by decide +kernel
theorem dX3_readChutes_33 : decode cX3_readChutes 33 = .ok (.getfield 73, 3) := by decide +kernel
theorem dX3_readChutes_36 : decode cX3_readChutes 36 = .ok (.iconst 1, 1) := by decide +kernel
theorem dX3_readChutes_37 : decode cX3_readChutes 37 = .ok (.isub, 1) := by decide +kernel
theorem dX3_readChutes_38 : decode cX3_readChutes 38 = .ok (.iload_n 3, 1) := by decide +kernel
theorem dX3_readChutes_39 : decode cX3_readChutes 39 = .ok (.invokevirtual 76, 3) := by decide +kernel
theorem dX3_readChutes_42 : decode cX3_readChutes 42 = .ok (.ifCond .eq 5, 3) := by decide +kernel
theorem dX3_readChutes_45 : decode cX3_readChutes 45 = .ok (.iconst 0, 1) := by decide +kernel
theorem dX3_readChutes_46 : decode cX3_readChutes 46 = .ok (.ireturn, 1) := by decide +kernel
theorem dX3_readChutes_47 : decode cX3_readChutes 47 = .ok (.aload_n 0, 1) := by decide +kernel
theorem dX3_readChutes_48 : decode cX3_readChutes 48 = .ok (.dup, 1) := by decide +kernel
theorem dX3_readChutes_49 : decode cX3_readChutes 49 = .ok (.getfield 57, 3) := by decide +kernel
theorem dX3_readChutes_52 : decode cX3_readChutes 52 = .ok (.iconst 1, 1) := by decide +kernel
theorem dX3_readChutes_53 : decode cX3_readChutes 53 = .ok (.iadd, 1) := by decide +kernel
theorem dX3_readChutes_54 : decode cX3_readChutes 54 = .ok (.putfield 57, 3) := by decide +kernel
theorem dX3_readChutes_57 : decode cX3_readChutes 57 = .ok (.aload_n 0, 1) := by decide +kernel
theorem dX3_readChutes_58 : decode cX3_readChutes 58 = .ok (.getfield 12, 3) := by decide +kernel
theorem dX3_readChutes_61 : decode cX3_readChutes 61 = .ok (.iload_n 3, 1) := by decide +kernel
theorem dX3_readChutes_62 : decode cX3_readChutes 62 = .ok (.invokevirtual 80, 3) := by decide +kernel
theorem dX3_readChutes_65 : decode cX3_readChutes 65 = .ok (.iload_n 2, 1) := by decide +kernel
theorem dX3_readChutes_66 : decode cX3_readChutes 66 = .ok (.iconst 3, 1) := by decide +kernel
theorem dX3_readChutes_67 : decode cX3_readChutes 67 = .ok (.if_icmp .ge 16, 3) := by decide +kernel
theorem dX3_readChutes_70 : decode cX3_readChutes 70 = .ok (.aload_n 0, 1) := by decide +kernel
theorem dX3_readChutes_71 : decode cX3_readChutes 71 = .ok (.bipush 44, 2) := by decide +kernel
theorem dX3_readChutes_73 : decode cX3_readChutes 73 = .ok (.invokevirtual 32, 3) := by decide +kernel
theorem dX3_readChutes_76 : decode cX3_readChutes 76 = .ok (.ifCond .eq 7, 3) := by decide +kernel
theorem dX3_readChutes_79 : decode cX3_readChutes 79 = .ok (.iconst 1, 1) := by decide +kernel
theorem dX3_readChutes_80 : decode cX3_readChutes 80 = .ok (.goto 4, 3) := by decide +kernel
theorem dX3_readChutes_83 : decode cX3_readChutes 83 = .ok (.iconst 0, 1) := by decide +kernel
theorem dX3_readChutes_84 : decode cX3_readChutes 84 = .ok (.istore_n 1, 1) := by decide +kernel
theorem dX3_readChutes_85 : decode cX3_readChutes 85 = .ok (.iinc 2 1, 3) := by decide +kernel
theorem dX3_readChutes_88 : decode cX3_readChutes 88 = .ok (.goto (-84), 3) := by decide +kernel
theorem dX3_readChutes_91 : decode cX3_readChutes 91 = .ok (.iconst 1, 1) := by decide +kernel
theorem dX3_readChutes_92 : decode cX3_readChutes 92 = .ok (.ireturn, 1) := by decide +kernel
theorem dX3_readBound_0 : decode cX3_readBound 0 = .ok (.aload_n 0, 1) := by decide +kernel
theorem dX3_readBound_1 : decode cX3_readBound 1 = .ok (.bipush 42, 2) := by decide +kernel
theorem dX3_readBound_3 : decode cX3_readBound 3 = .ok (.invokevirtual 32, 3) := by decide +kernel
theorem dX3_readBound_6 : decode cX3_readBound 6 = .ok (.ifCond .eq 16, 3) := by decide +kernel
theorem dX3_readBound_9 : decode cX3_readBound 9 = .ok (.aload_n 0, 1) := by decide +kernel
theorem dX3_readBound_10 : decode cX3_readBound 10 = .ok (.getfield 12, 3) := by decide +kernel
theorem dX3_readBound_13 : decode cX3_readBound 13 = .ok (.aload_n 0, 1) := by decide +kernel
theorem dX3_readBound_14 : decode cX3_readBound 14 = .ok (.bipush 9, 2) := by decide +kernel
theorem dX3_readBound_16 : decode cX3_readBound 16 = .ok (.invokevirtual 47, 3) := by decide +kernel
theorem dX3_readBound_19 : decode cX3_readBound 19 = .ok (.putfield 84, 3) := by decide +kernel
theorem dX3_readBound_22 : decode cX3_readBound 22 = .ok (.aload_n 0, 1) := by decide +kernel
theorem dX3_readBound_23 : decode cX3_readBound 23 = .ok (.getfield 12, 3) := by decide +kernel
theorem dX3_readBound_26 : decode cX3_readBound 26 = .ok (.getfield 84, 3) := by decide +kernel
theorem dX3_readBound_29 : decode cX3_readBound 29 = .ok (.iconst (-1), 1) := by decide +kernel
theorem dX3_readBound_30 : decode cX3_readBound 30 = .ok (.if_icmp .eq 7, 3) := by decide +kernel
theorem dX3_readBound_33 : decode cX3_readBound 33 = .ok (.iconst 1, 1) := by decide +kernel
theorem dX3_readBound_34 : decode cX3_readBound 34 = .ok (.goto 4, 3) := by decide +kernel
theorem dX3_readBound_37 : decode cX3_readBound 37 = .ok (.iconst 0, 1) := by decide +kernel
theorem dX3_readBound_38 : decode cX3_readBound 38 = .ok (.ireturn, 1) := by decide +kernel
theorem dX3_readNumber_0 : decode cX3_readNumber 0 = .ok (.aload_n 0, 1) := by decide +kernel
theorem dX3_readNumber_1 : decode cX3_readNumber 1 = .ok (.bipush 9, 2) := by decide +kernel
theorem dX3_readNumber_3 : decode cX3_readNumber 3 = .ok (.invokevirtual 47, 3) := by decide +kernel
theorem dX3_readNumber_6 : decode cX3_readNumber 6 = .ok (.istore_n 1, 1) := by decide +kernel
theorem dX3_readNumber_7 : decode cX3_readNumber 7 = .ok (.iload_n 1, 1) := by decide +kernel
theorem dX3_readNumber_8 : decode cX3_readNumber 8 = .ok (.iconst (-1), 1) := by decide +kernel
theorem dX3_readNumber_9 : decode cX3_readNumber 9 = .ok (.if_icmp .ne 5, 3) := by decide +kernel
theorem dX3_readNumber_12 : decode cX3_readNumber 12 = .ok (.iconst (-1), 1) := by decide +kernel
theorem dX3_readNumber_13 : decode cX3_readNumber 13 = .ok (.ireturn, 1) := by decide +kernel
theorem dX3_readNumber_14 : decode cX3_readNumber 14 = .ok (.iconst 1, 1) := by decide +kernel
theorem dX3_readNumber_15 : decode cX3_readNumber 15 = .ok (.istore_n 2, 1) := by decide +kernel
theorem dX3_readNumber_16 : decode cX3_readNumber 16 = .ok (.iload_n 2, 1) := by decide +kernel
theorem dX3_readNumber_17 : decode cX3_readNumber 17 = .ok (.iconst 4, 1) := by decide +kernel
theorem dX3_readNumber_18 : decode cX3_readNumber 18 = .ok (.if_icmp .ge 30, 3) := by decide +kernel
theorem dX3_readNumber_21 : decode cX3_readNumber 21 = .ok (.aload_n 0, 1) := by decide +kernel
theorem dX3_readNumber_22 : decode cX3_readNumber 22 = .ok (.bipush 9, 2) := by decide +kernel
theorem dX3_readNumber_24 : decode cX3_readNumber 24 = .ok (.invokevirtual 47, 3) := by decide +kernel
theorem dX3_readNumber_27 : decode cX3_readNumber 27 = .ok (.istore_n 3, 1) := by decide +kernel
theorem dX3_readNumber_28 : decode cX3_readNumber 28 = .ok (.iload_n 3, 1) := by decide +kernel
theorem dX3_readNumber_29 : decode cX3_readNumber 29 = .ok (.iconst (-1), 1) := by decide +kernel
theorem dX3_readNumber_30 : decode cX3_readNumber 30 = .ok (.if_icmp .ne 5, 3) := by decide +kernel
theorem dX3_readNumber_33 : decode cX3_readNumber 33 = .ok (.iload_n 1, 1) := by decide +kernel
theorem dX3_readNumber_34 : decode cX3_readNumber 34 = .ok (.ireturn, 1) := by decide +kernel
theorem dX3_readNumber_35 : decode cX3_readNumber 35 = .ok (.iload_n 1, 1) := by decide +kernel
theorem dX3_readNumber_36 : decode cX3_readNumber 36 = .ok (.bipush 10, 2) := by decide +kernel
theorem dX3_readNumber_38 : decode cX3_readNumber 38 = .ok (.imul, 1) := by decide +kernel
theorem dX3_readNumber_39 : decode cX3_readNumber 39 = .ok (.iload_n 3, 1) := by decide +kernel
theorem dX3_readNumber_40 : decode cX3_readNumber 40 = .ok (.iadd, 1) := by decide +kernel
theorem dX3_readNumber_41 : decode cX3_readNumber 41 = .ok (.istore_n 1, 1) := by decide +kernel
theorem dX3_readNumber_42 : decode cX3_readNumber 42 = .ok (.iinc 2 1, 3) := by decide +kernel
theorem dX3_readNumber_45 : decode cX3_readNumber 45 = .ok (.goto (-29), 3) := by decide +kernel
theorem dX3_readNumber_48 : decode cX3_readNumber 48 = .ok (.iload_n 1, 1) := by decide +kernel
theorem dX3_readNumber_49 : decode cX3_readNumber 49 = .ok (.ireturn, 1) := by decide +kernel
theorem dX3_readDigit_0 : decode cX3_readDigit 0 = .ok (.aload_n 0, 1) := by decide +kernel
theorem dX3_readDigit_1 : decode cX3_readDigit 1 = .ok (.iload_n 1, 1) := by decide +kernel
theorem dX3_readDigit_2 : decode cX3_readDigit 2 = .ok (.invokevirtual 70, 3) := by decide +kernel
theorem dX3_readDigit_5 : decode cX3_readDigit 5 = .ok (.istore_n 2, 1) := by decide +kernel
theorem dX3_readDigit_6 : decode cX3_readDigit 6 = .ok (.iload_n 2, 1) := by decide +kernel
theorem dX3_readDigit_7 : decode cX3_readDigit 7 = .ok (.iconst (-1), 1) := by decide +kernel
theorem dX3_readDigit_8 : decode cX3_readDigit 8 = .ok (.if_icmp .eq 13, 3) := by decide +kernel
theorem dX3_readDigit_11 : decode cX3_readDigit 11 = .ok (.aload_n 0, 1) := by decide +kernel
theorem dX3_readDigit_12 : decode cX3_readDigit 12 = .ok (.dup, 1) := by decide +kernel
theorem dX3_readDigit_13 : decode cX3_readDigit 13 = .ok (.getfield 57, 3) := by decide +kernel
theorem dX3_readDigit_16 : decode cX3_readDigit 16 = .ok (.iconst 1, 1) := by decide +kernel
theorem dX3_readDigit_17 : decode cX3_readDigit 17 = .ok (.iadd, 1) := by decide +kernel
theorem dX3_readDigit_18 : decode cX3_readDigit 18 = .ok (.putfield 57, 3) := by decide +kernel
theorem dX3_readDigit_21 : decode cX3_readDigit 21 = .ok (.iload_n 2, 1) := by decide +kernel
theorem dX3_readDigit_22 : decode cX3_readDigit 22 = .ok (.ireturn, 1) := by decide +kernel
theorem dX3_nextDigit_0 : decode cX3_nextDigit 0 = .ok (.aload_n 0, 1) := by decide +kernel
theorem dX3_nextDigit_1 : decode cX3_nextDigit 1 = .ok (.getfield 57, 3) := by decide +kernel
theorem dX3_nextDigit_4 : decode cX3_nextDigit 4 = .ok (.aload_n 0, 1) := by decide +kernel
theorem dX3_nextDigit_5 : decode cX3_nextDigit 5 = .ok (.getfield 28, 3) := by decide +kernel
theorem dX3_nextDigit_8 : decode cX3_nextDigit 8 = .ok (.if_icmp .ge 18, 3) := by decide +kernel
theorem dX3_nextDigit_11 : decode cX3_nextDigit 11 = .ok (.aload_n 0, 1) := by decide +kernel
theorem dX3_nextDigit_12 : decode cX3_nextDigit 12 = .ok (.getfield 18, 3) := by decide +kernel
theorem dX3_nextDigit_15 : decode cX3_nextDigit 15 = .ok (.aload_n 0, 1) := by decide +kernel
theorem dX3_nextDigit_16 : decode cX3_nextDigit 16 = .ok (.getfield 57, 3) := by decide +kernel
theorem dX3_nextDigit_19 : decode cX3_nextDigit 19 = .ok (.caload, 1) := by decide +kernel
theorem dX3_nextDigit_20 : decode cX3_nextDigit 20 = .ok (.bipush 48, 2) := by decide +kernel
theorem dX3_nextDigit_22 : decode cX3_nextDigit 22 = .ok (.isub, 1) := by decide +kernel
theorem dX3_nextDigit_23 : decode cX3_nextDigit 23 = .ok (.goto 4, 3) := by decide +kernel
theorem dX3_nextDigit_26 : decode cX3_nextDigit 26 = .ok (.iconst (-1), 1) := by decide +kernel
theorem dX3_nextDigit_27 : decode cX3_nextDigit 27 = .ok (.istore_n 2, 1) := by decide +kernel
theorem dX3_nextDigit_28 : decode cX3_nextDigit 28 = .ok (.iload_n 2, 1) := by decide +kernel
theorem dX3_nextDigit_29 : decode cX3_nextDigit 29 = .ok (.ifCond .lt 12, 3) := by decide +kernel
theorem dX3_nextDigit_32 : decode cX3_nextDigit 32 = .ok (.iload_n 2, 1) := by decide +kernel
theorem dX3_nextDigit_33 : decode cX3_nextDigit 33 = .ok (.iload_n 1, 1) := by decide +kernel
theorem dX3_nextDigit_34 : decode cX3_nextDigit 34 = .ok (.if_icmp .gt 7, 3) := by decide +kernel
theorem dX3_nextDigit_37 : decode cX3_nextDigit 37 = .ok (.iload_n 2, 1) := by decide +kernel
theorem dX3_nextDigit_38 : decode cX3_nextDigit 38 = .ok (.goto 4, 3) := by decide +kernel
theorem dX3_nextDigit_41 : decode cX3_nextDigit 41 = .ok (.iconst (-1), 1) := by decide +kernel
theorem dX3_nextDigit_42 : decode cX3_nextDigit 42 = .ok (.ireturn, 1) := by decide +kernel
theorem dX3_skip_0 : decode cX3_skip 0 = .ok (.aload_n 0, 1) := by decide +kernel
theorem dX3_skip_1 : decode cX3_skip 1 = .ok (.getfield 57, 3) := by decide +kernel
theorem dX3_skip_4 : decode cX3_skip 4 = .ok (.aload_n 0, 1) := by decide +kernel
theorem dX3_skip_5 : decode cX3_skip 5 = .ok (.getfield 28, 3) := by decide +kernel
theorem dX3_skip_8 : decode cX3_skip 8 = .ok (.if_icmp .ge 20, 3) := by decide +kernel
theorem dX3_skip_11 : decode cX3_skip 11 = .ok (.aload_n 0, 1) := by decide +kernel
theorem dX3_skip_12 : decode cX3_skip 12 = .ok (.getfield 18, 3) := by decide +kernel
theorem dX3_skip_15 : decode cX3_skip 15 = .ok (.aload_n 0, 1) := by decide +kernel
theorem dX3_skip_16 : decode cX3_skip 16 = .ok (.getfield 57, 3) := by decide +kernel
theorem dX3_skip_19 : decode cX3_skip 19 = .ok (.caload, 1) := by decide +kernel
theorem dX3_skip_20 : decode cX3_skip 20 = .ok (.iload_n 1, 1) := by decide +kernel
theorem dX3_skip_21 : decode cX3_skip 21 = .ok (.if_icmp .ne 7, 3) := by decide +kernel
theorem dX3_skip_24 : decode cX3_skip 24 = .ok (.iconst 1, 1) := by decide +kernel
theorem dX3_skip_25 : decode cX3_skip 25 = .ok (.goto 4, 3) := by decide +kernel
theorem dX3_skip_28 : decode cX3_skip 28 = .ok (.iconst 0, 1) := by decide +kernel
theorem dX3_skip_29 : decode cX3_skip 29 = .ok (.istore_n 2, 1) := by decide +kernel
theorem dX3_skip_30 : decode cX3_skip 30 = .ok (.iload_n 2, 1) := by decide +kernel
theorem dX3_skip_31 : decode cX3_skip 31 = .ok (.ifCond .eq 13, 3) := by decide +kernel
theorem dX3_skip_34 : decode cX3_skip 34 = .ok (.aload_n 0, 1) := by decide +kernel
theorem dX3_skip_35 : decode cX3_skip 35 = .ok (.dup, 1) := by decide +kernel
theorem dX3_skip_36 : decode cX3_skip 36 = .ok (.getfield 57, 3) := by decide +kernel
theorem dX3_skip_39 : decode cX3_skip 39 = .ok (.iconst 1, 1) := by decide +kernel
theorem dX3_skip_40 : decode cX3_skip 40 = .ok (.iadd, 1) := by decide +kernel
theorem dX3_skip_41 : decode cX3_skip 41 = .ok (.putfield 57, 3) := by decide +kernel
theorem dX3_skip_44 : decode cX3_skip 44 = .ok (.iload_n 2, 1) := by decide +kernel
theorem dX3_skip_45 : decode cX3_skip 45 = .ok (.ireturn, 1) := by decide +kernel
theorem dX4_init_0 : decode cX4_init 0 = .ok (.aload_n 0, 1) := by decide +kernel
theorem dX4_init_1 : decode cX4_init 1 = .ok (.invokespecial 3, 3) := by decide +kernel
theorem dX4_init_4 : decode cX4_init 4 = .ok (.aload_n 0, 1) := by decide +kernel
theorem dX4_init_5 : decode cX4_init 5 = .ok (.iconst 3, 1) := by decide +kernel
theorem dX4_init_6 : decode cX4_init 6 = .ok (.anewarray 9, 3) := by decide +kernel
theorem dX4_init_9 : decode cX4_init 9 = .ok (.putfield 11, 3) := by decide +kernel
theorem dX4_init_12 : decode cX4_init 12 = .ok (.aload_n 0, 1) := by decide +kernel
theorem dX4_init_13 : decode cX4_init 13 = .ok (.bipush 8, 2) := by decide +kernel
theorem dX4_init_15 : decode cX4_init 15 = .ok (.anewarray 17, 3) := by decide +kernel
theorem dX4_init_18 : decode cX4_init 18 = .ok (.putfield 19, 3) := by decide +kernel
theorem dX4_init_21 : decode cX4_init 21 = .ok (.aload_n 0, 1) := by decide +kernel
theorem dX4_init_22 : decode cX4_init 22 = .ok (.iconst 5, 1) := by decide +kernel
theorem dX4_init_23 : decode cX4_init 23 = .ok (.anewarray 23, 3) := by decide +kernel
theorem dX4_init_26 : decode cX4_init 26 = .ok (.putfield 25, 3) := by decide +kernel
theorem dX4_init_29 : decode cX4_init 29 = .ok (.aload_n 0, 1) := by decide +kernel
theorem dX4_init_30 : decode cX4_init 30 = .ok (.bipush 60, 2) := by decide +kernel
theorem dX4_init_32 : decode cX4_init 32 = .ok (.anewarray 29, 3) := by decide +kernel
theorem dX4_init_35 : decode cX4_init 35 = .ok (.putfield 31, 3) := by decide +kernel
theorem dX4_init_38 : decode cX4_init 38 = .ok (.aload_n 0, 1) := by decide +kernel
theorem dX4_init_39 : decode cX4_init 39 = .ok (.bipush 30, 2) := by decide +kernel
theorem dX4_init_41 : decode cX4_init 41 = .ok (.newarray .int, 2) := by decide +kernel
theorem dX4_init_43 : decode cX4_init 43 = .ok (.putfield 35, 3) := by decide +kernel
theorem dX4_init_46 : decode cX4_init 46 = .ok (.aload_n 0, 1) := by decide +kernel
theorem dX4_init_47 : decode cX4_init 47 = .ok (.bipush 60, 2) := by decide +kernel
theorem dX4_init_49 : decode cX4_init 49 = .ok (.newarray .int, 2) := by decide +kernel
theorem dX4_init_51 : decode cX4_init 51 = .ok (.putfield 39, 3) := by decide +kernel
theorem dX4_init_54 : decode cX4_init 54 = .ok (.aload_n 0, 1) := by decide +kernel
theorem dX4_init_55 : decode cX4_init 55 = .ok (.iconst 4, 1) := by decide +kernel
theorem dX4_init_56 : decode cX4_init 56 = .ok (.newarray .int, 2) := by decide +kernel
theorem dX4_init_58 : decode cX4_init 58 = .ok (.putfield 42, 3) := by decide +kernel
theorem dX4_init_61 : decode cX4_init 61 = .ok (.iconst 0, 1) := by decide +kernel
theorem dX4_init_62 : decode cX4_init 62 = .ok (.istore_n 1, 1) := by decide +kernel
theorem dX4_init_63 : decode cX4_init 63 = .ok (.iload_n 1, 1) := by decide +kernel
theorem dX4_init_64 : decode cX4_init 64 = .ok (.iconst 3, 1) := by decide +kernel
theorem dX4_init_65 : decode cX4_init 65 = .ok (.if_icmp .ge 22, 3) := by decide +kernel
theorem dX4_init_68 : decode cX4_init 68 = .ok (.aload_n 0, 1) := by decide +kernel
theorem dX4_init_69 : decode cX4_init 69 = .ok (.getfield 11, 3) := by decide +kernel
theorem dX4_init_72 : decode cX4_init 72 = .ok (.iload_n 1, 1) := by decide +kernel
theorem dX4_init_73 : decode cX4_init 73 = .ok (.new 9, 3) := by decide +kernel
theorem dX4_init_76 : decode cX4_init 76 = .ok (.dup, 1) := by decide +kernel
theorem dX4_init_77 : decode cX4_init 77 = .ok (.invokespecial 45, 3) := by decide +kernel
theorem dX4_init_80 : decode cX4_init 80 = .ok (.aastore, 1) := by decide +kernel
theorem dX4_init_81 : decode cX4_init 81 = .ok (.iinc 1 1, 3) := by decide +kernel
theorem dX4_init_84 : decode cX4_init 84 = .ok (.goto (-21), 3) := by decide +kernel
theorem dX4_init_87 : decode cX4_init 87 = .ok (.iconst 0, 1) := by decide +kernel
theorem dX4_init_88 : decode cX4_init 88 = .ok (.istore_n 1, 1) := by decide +kernel
theorem dX4_init_89 : decode cX4_init 89 = .ok (.iload_n 1, 1) := by decide +kernel
theorem dX4_init_90 : decode cX4_init 90 = .ok (.bipush 8, 2) := by decide +kernel
theorem dX4_init_92 : decode cX4_init 92 = .ok (.if_icmp .ge 22, 3) := by decide +kernel
theorem dX4_init_95 : decode cX4_init 95 = .ok (.aload_n 0, 1) := by decide +kernel
theorem dX4_init_96 : decode cX4_init 96 = .ok (.getfield 19, 3) := by decide +kernel
theorem dX4_init_99 : decode cX4_init 99 = .ok (.iload_n 1, 1) := by decide +kernel
theorem dX4_init_100 : decode cX4_init 100 = .ok (.new 17, 3) := by decide +kernel
theorem dX4_init_103 : decode cX4_init 103 = .ok (.dup, 1) := by decide +kernel
theorem dX4_init_104 : decode cX4_init 104 = .ok (.invokespecial 46, 3) := by decide +kernel
theorem dX4_init_107 : decode cX4_init 107 = .ok (.aastore, 1) := by decide +kernel
theorem dX4_init_108 : decode cX4_init 108 = .ok (.iinc 1 1, 3) := by decide +kernel
theorem dX4_init_111 : decode cX4_init 111 = .ok (.goto (-22), 3) := by decide +kernel
theorem dX4_init_114 : decode cX4_init 114 = .ok (.iconst 0, 1) := by decide +kernel
theorem dX4_init_115 : decode cX4_init 115 = .ok (.istore_n 1, 1) := by decide +kernel
theorem dX4_init_116 : decode cX4_init 116 = .ok (.iload_n 1, 1) := by decide +kernel
theorem dX4_init_117 : decode cX4_init 117 = .ok (.bipush 60, 2) := by decide +kernel
theorem dX4_init_119 : decode cX4_init 119 = .ok (.if_icmp .ge 22, 3) := by decide +kernel
theorem dX4_init_122 : decode cX4_init 122 = .ok (.aload_n 0, 1) := by decide +kernel
theorem dX4_init_123 : decode cX4_init 123 = .ok (.getfield 31, 3) := by decide +kernel
theorem dX4_init_126 : decode cX4_init 126 = .ok (.iload_n 1, 1) := by decide +kernel
theorem dX4_init_127 : decode cX4_init 127 = .ok (.new 29, 3) := by decide +kernel
theorem dX4_init_130 : decode cX4_init 130 = .ok (.dup, 1) := by decide +kernel
theorem dX4_init_131 : decode cX4_init 131 = .ok (.invokespecial 47, 3) := by decide +kernel
theorem dX4_init_134 : decode cX4_init 134 = .ok (.aastore, 1) := by decide +kernel
theorem dX4_init_135 : decode cX4_init 135 = .ok (.iinc 1 1, 3) := by decide +kernel
theorem dX4_init_138 : decode cX4_init 138 = .ok (.goto (-22), 3) := by decide +kernel
theorem dX4_init_141 : decode cX4_init 141 = .ok (.aload_n 0, 1) := by decide +kernel
theorem dX4_init_142 : decode cX4_init 142 = .ok (.bipush 12, 2) := by decide +kernel
theorem dX4_init_144 : decode cX4_init 144 = .ok (.invokevirtual 48, 3) := by decide +kernel
theorem dX4_init_147 : decode cX4_init 147 = .ok (.return_, 1) := by decide +kernel
theorem dX4_reset_0 : decode cX4_reset 0 = .ok (.aload_n 0, 1) := by decide +kernel
theorem dX4_reset_1 : decode cX4_reset 1 = .ok (.iload_n 1, 1) := by decide +kernel
theorem dX4_reset_2 : decode cX4_reset 2 = .ok (.putfield 52, 3) := by decide +kernel
theorem dX4_reset_5 : decode cX4_reset 5 = .ok (.aload_n 0, 1) := by decide +kernel
theorem dX4_reset_6 : decode cX4_reset 6 = .ok (.iconst 0, 1) := by decide +kernel
theorem dX4_reset_7 : decode cX4_reset 7 = .ok (.putfield 56, 3) := by decide +kernel
theorem dX4_reset_10 : decode cX4_reset 10 = .ok (.aload_n 0, 1) := by decide +kernel
theorem dX4_reset_11 : decode cX4_reset 11 = .ok (.iconst 0, 1) := by decide +kernel
theorem dX4_reset_12 : decode cX4_reset 12 = .ok (.putfield 59, 3) := by decide +kernel
theorem dX4_reset_15 : decode cX4_reset 15 = .ok (.aload_n 0, 1) := by decide +kernel
theorem dX4_reset_16 : decode cX4_reset 16 = .ok (.iconst 0, 1) := by decide +kernel
theorem dX4_reset_17 : decode cX4_reset 17 = .ok (.putfield 62, 3) := by decide +kernel
theorem dX4_reset_20 : decode cX4_reset 20 = .ok (.aload_n 0, 1) := by decide +kernel
theorem dX4_reset_21 : decode cX4_reset 21 = .ok (.iconst 0, 1) := by decide +kernel
theorem dX4_reset_22 : decode cX4_reset 22 = .ok (.putfield 65, 3) := by decide +kernel
theorem dX4_reset_25 : decode cX4_reset 25 = .ok (.aload_n 0, 1) := by decide +kernel
theorem dX4_reset_26 : decode cX4_reset 26 = .ok (.iconst 0, 1) := by decide +kernel
theorem dX4_reset_27 : decode cX4_reset 27 = .ok (.putfield 68, 3) := by decide +kernel
theorem dX4_reset_30 : decode cX4_reset 30 = .ok (.aload_n 0, 1) := by decide +kernel
theorem dX4_reset_31 : decode cX4_reset 31 = .ok (.iconst 0, 1) := by decide +kernel
theorem dX4_reset_32 : decode cX4_reset 32 = .ok (.putfield 71, 3) := by decide +kernel
theorem dX4_reset_35 : decode cX4_reset 35 = .ok (.aload_n 0, 1) := by decide +kernel
theorem dX4_reset_36 : decode cX4_reset 36 = .ok (.iconst 0, 1) := by decide +kernel
theorem dX4_reset_37 : decode cX4_reset 37 = .ok (.putfield 74, 3) := by decide +kernel
theorem dX4_reset_40 : decode cX4_reset 40 = .ok (.aload_n 0, 1) := by decide +kernel
theorem dX4_reset_41 : decode cX4_reset 41 = .ok (.iconst 0, 1) := by decide +kernel
theorem dX4_reset_42 : decode cX4_reset 42 = .ok (.putfield 77, 3) := by decide +kernel
theorem dX4_reset_45 : decode cX4_reset 45 = .ok (.aload_n 0, 1) := by decide +kernel
theorem dX4_reset_46 : decode cX4_reset 46 = .ok (.getfield 35, 3) := by decide +kernel
theorem dX4_reset_49 : decode cX4_reset 49 = .ok (.iconst (-1), 1) := by decide +kernel
theorem dX4_reset_50 : decode cX4_reset 50 = .ok (.invokestatic 80, 3) := by decide +kernel
theorem dX4_reset_53 : decode cX4_reset 53 = .ok (.aload_n 0, 1) := by decide +kernel
theorem dX4_reset_54 : decode cX4_reset 54 = .ok (.getfield 42, 3) := by decide +kernel
theorem dX4_reset_57 : decode cX4_reset 57 = .ok (.iconst 0, 1) := by decide +kernel
theorem dX4_reset_58 : decode cX4_reset 58 = .ok (.invokestatic 80, 3) := by decide +kernel
theorem dX4_reset_61 : decode cX4_reset 61 = .ok (.return_, 1) := by decide +kernel
theorem dX4_copyFrom_0 : decode cX4_copyFrom 0 = .ok (.aload_n 0, 1) := by decide +kernel
theorem dX4_copyFrom_1 : decode cX4_copyFrom 1 = .ok (.aload_n 1, 1) := by decide +kernel
theorem dX4_copyFrom_2 : decode cX4_copyFrom 2 = .ok (.getfield 56, 3) := by decide +kernel
theorem dX4_copyFrom_5 : decode cX4_copyFrom 5 = .ok (.putfield 56, 3) := by decide +kernel
theorem dX4_copyFrom_8 : decode cX4_copyFrom 8 = .ok (.aload_n 0, 1) := by decide +kernel
theorem dX4_copyFrom_9 : decode cX4_copyFrom 9 = .ok (.aload_n 1, 1) := by decide +kernel
theorem dX4_copyFrom_10 : decode cX4_copyFrom 10 = .ok (.getfield 52, 3) := by decide +kernel
theorem dX4_copyFrom_13 : decode cX4_copyFrom 13 = .ok (.putfield 52, 3) := by decide +kernel
theorem dX4_copyFrom_16 : decode cX4_copyFrom 16 = .ok (.aload_n 0, 1) := by decide +kernel
theorem dX4_copyFrom_17 : decode cX4_copyFrom 17 = .ok (.aload_n 1, 1) := by decide +kernel
theorem dX4_copyFrom_18 : decode cX4_copyFrom 18 = .ok (.getfield 59, 3) := by decide +kernel
theorem dX4_copyFrom_21 : decode cX4_copyFrom 21 = .ok (.putfield 59, 3) := by decide +kernel
theorem dX4_copyFrom_24 : decode cX4_copyFrom 24 = .ok (.aload_n 0, 1) := by decide +kernel
theorem dX4_copyFrom_25 : decode cX4_copyFrom 25 = .ok (.aload_n 1, 1) := by decide +kernel
theorem dX4_copyFrom_26 : decode cX4_copyFrom 26 = .ok (.getfield 62, 3) := by decide +kernel
theorem dX4_copyFrom_29 : decode cX4_copyFrom 29 = .ok (.putfield 62, 3) := by decide +kernel
theorem dX4_copyFrom_32 : decode cX4_copyFrom 32 = .ok (.aload_n 0, 1) := by decide +kernel
theorem dX4_copyFrom_33 : decode cX4_copyFrom 33 = .ok (.aload_n 1, 1) := by decide +kernel
theorem dX4_copyFrom_34 : decode cX4_copyFrom 34 = .ok (.getfield 65, 3) := by decide +kernel
theorem dX4_copyFrom_37 : decode cX4_copyFrom 37 = .ok (.putfield 65, 3) := by decide +kernel
theorem dX4_copyFrom_40 : decode cX4_copyFrom 40 = .ok (.aload_n 0, 1) := by decide +kernel
theorem dX4_copyFrom_41 : decode cX4_copyFrom 41 = .ok (.aload_n 1, 1) := by decide +kernel
theorem dX4_copyFrom_42 : decode cX4_copyFrom 42 = .ok (.getfield 68, 3) := by decide +kernel
theorem dX4_copyFrom_45 : decode cX4_copyFrom 45 = .ok (.putfield 68, 3) := by decide +kernel
theorem dX4_copyFrom_48 : decode cX4_copyFrom 48 = .ok (.aload_n 0, 1) := by decide +kernel
theorem dX4_copyFrom_49 : decode cX4_copyFrom 49 = .ok (.aload_n 1, 1) := by decide +kernel
theorem dX4_copyFrom_50 : decode cX4_copyFrom 50 = .ok (.getfield 71, 3) := by decide +kernel
theorem dX4_copyFrom_53 : decode cX4_copyFrom 53 = .ok (.putfield 71, 3) := by decide +kernel
theorem dX4_copyFrom_56 : decode cX4_copyFrom 56 = .ok (.aload_n 0, 1) := by decide +kernel
theorem dX4_copyFrom_57 : decode cX4_copyFrom 57 = .ok (.aload_n 1, 1) := by decide +kernel
theorem dX4_copyFrom_58 : decode cX4_copyFrom 58 = .ok (.getfield 74, 3) := by decide +kernel
theorem dX4_copyFrom_61 : decode cX4_copyFrom 61 = .ok (.putfield 74, 3) := by decide +kernel
theorem dX4_copyFrom_64 : decode cX4_copyFrom 64 = .ok (.aload_n 0, 1) := by decide +kernel
theorem dX4_copyFrom_65 : decode cX4_copyFrom 65 = .ok (.aload_n 1, 1) := by decide +kernel
theorem dX4_copyFrom_66 : decode cX4_copyFrom 66 = .ok (.getfield 77, 3) := by decide +kernel
theorem dX4_copyFrom_69 : decode cX4_copyFrom 69 = .ok (.putfield 77, 3) := by decide +kernel
theorem dX4_copyFrom_72 : decode cX4_copyFrom 72 = .ok (.aload_n 0, 1) := by decide +kernel
theorem dX4_copyFrom_73 : decode cX4_copyFrom 73 = .ok (.aload_n 1, 1) := by decide +kernel
theorem dX4_copyFrom_74 : decode cX4_copyFrom 74 = .ok (.invokevirtual 86, 3) := by decide +kernel
theorem dX4_copyFrom_77 : decode cX4_copyFrom 77 = .ok (.aload_n 1, 1) := by decide +kernel
theorem dX4_copyFrom_78 : decode cX4_copyFrom 78 = .ok (.getfield 35, 3) := by decide +kernel
theorem dX4_copyFrom_81 : decode cX4_copyFrom 81 = .ok (.iconst 0, 1) := by decide +kernel
theorem dX4_copyFrom_82 : decode cX4_copyFrom 82 = .ok (.aload_n 0, 1) := by decide +kernel
theorem dX4_copyFrom_83 : decode cX4_copyFrom 83 = .ok (.getfield 35, 3) := by decide +kernel
theorem dX4_copyFrom_86 : decode cX4_copyFrom 86 = .ok (.iconst 0, 1) := by decide +kernel
theorem dX4_copyFrom_87 : decode cX4_copyFrom 87 = .ok (.bipush 30, 2) := by decide +kernel
theorem dX4_copyFrom_89 : decode cX4_copyFrom 89 = .ok (.invokestatic 90, 3) := by decide +kernel
theorem dX4_copyFrom_92 : decode cX4_copyFrom 92 = .ok (.aload_n 1, 1) := by decide +kernel
theorem dX4_copyFrom_93 : decode cX4_copyFrom 93 = .ok (.getfield 39, 3) := by decide +kernel
theorem dX4_copyFrom_96 : decode cX4_copyFrom 96 = .ok (.iconst 0, 1) := by decide +kernel
theorem dX4_copyFrom_97 : decode cX4_copyFrom 97 = .ok (.aload_n 0, 1) := by decide +kernel
theorem dX4_copyFrom_98 : decode cX4_copyFrom 98 = .ok (.getfield 39, 3) := by decide +kernel
theorem dX4_copyFrom_101 : decode cX4_copyFrom 101 = .ok (.iconst 0, 1) := by decide +kernel
theorem dX4_copyFrom_102 : decode cX4_copyFrom 102 = .ok (.bipush 60, 2) := by decide +kernel
theorem dX4_copyFrom_104 : decode cX4_copyFrom 104 = .ok (.invokestatic 90, 3) := by decide +kernel
theorem dX4_copyFrom_107 : decode cX4_copyFrom 107 = .ok (.aload_n 1, 1) := by decide +kernel
theorem dX4_copyFrom_108 : decode cX4_copyFrom 108 = .ok (.getfield 42, 3) := by decide +kernel
theorem dX4_copyFrom_111 : decode cX4_copyFrom 111 = .ok (.iconst 0, 1) := by decide +kernel
theorem dX4_copyFrom_112 : decode cX4_copyFrom 112 = .ok (.aload_n 0, 1) := by decide +kernel
theorem dX4_copyFrom_113 : decode cX4_copyFrom 113 = .ok (.getfield 42, 3) := by decide +kernel
theorem dX4_copyFrom_116 : decode cX4_copyFrom 116 = .ok (.iconst 0, 1) := by decide +kernel
theorem dX4_copyFrom_117 : decode cX4_copyFrom 117 = .ok (.iconst 4, 1) := by decide +kernel
theorem dX4_copyFrom_118 : decode cX4_copyFrom 118 = .ok (.invokestatic 90, 3) := by decide +kernel
theorem dX4_copyFrom_121 : decode cX4_copyFrom 121 = .ok (.return_, 1) := by decide +kernel
theorem dX4_copyParts_0 : decode cX4_copyParts 0 = .ok (.iconst 0, 1) := by decide +kernel
theorem dX4_copyParts_1 : decode cX4_copyParts 1 = .ok (.istore_n 2, 1) := by decide +kernel
theorem dX4_copyParts_2 : decode cX4_copyParts 2 = .ok (.iload_n 2, 1) := by decide +kernel
theorem dX4_copyParts_3 : decode cX4_copyParts 3 = .ok (.aload_n 0, 1) := by decide +kernel
theorem dX4_copyParts_4 : decode cX4_copyParts 4 = .ok (.getfield 62, 3) := by decide +kernel
theorem dX4_copyParts_7 : decode cX4_copyParts 7 = .ok (.if_icmp .ge 24, 3) := by decide +kernel
theorem dX4_copyParts_10 : decode cX4_copyParts 10 = .ok (.aload_n 0, 1) := by decide +kernel
theorem dX4_copyParts_11 : decode cX4_copyParts 11 = .ok (.getfield 11, 3) := by decide +kernel
theorem dX4_copyParts_14 : decode cX4_copyParts 14 = .ok (.iload_n 2, 1) := by decide +kernel
theorem dX4_copyParts_15 : decode cX4_copyParts 15 = .ok (.aaload, 1) := by decide +kernel
theorem dX4_copyParts_16 : decode cX4_copyParts 16 = .ok (.aload_n 1, 1) := by decide +kernel
theorem dX4_copyParts_17 : decode cX4_copyParts 17 = .ok (.getfield 11, 3) := by decide +kernel
theorem dX4_copyParts_20 : decode cX4_copyParts 20 = .ok (.iload_n 2, 1) := by decide +kernel
theorem dX4_copyParts_21 : decode cX4_copyParts 21 = .ok (.aaload, 1) := by decide +kernel
theorem dX4_copyParts_22 : decode cX4_copyParts 22 = .ok (.invokevirtual 96, 3) := by decide +kernel
theorem dX4_copyParts_25 : decode cX4_copyParts 25 = .ok (.iinc 2 1, 3) := by decide +kernel
theorem dX4_copyParts_28 : decode cX4_copyParts 28 = .ok (.goto (-26), 3) := by decide +kernel
theorem dX4_copyParts_31 : decode cX4_copyParts 31 = .ok (.iconst 0, 1) := by decide +kernel
theorem dX4_copyParts_32 : decode cX4_copyParts 32 = .ok (.istore_n 2, 1) := by decide +kernel
theorem dX4_copyParts_33 : decode cX4_copyParts 33 = .ok (.iload_n 2, 1) := by decide +kernel
theorem dX4_copyParts_34 : decode cX4_copyParts 34 = .ok (.aload_n 0, 1) := by decide +kernel
theorem dX4_copyParts_35 : decode cX4_copyParts 35 = .ok (.getfield 65, 3) := by decide +kernel
theorem dX4_copyParts_38 : decode cX4_copyParts 38 = .ok (.if_icmp .ge 24, 3) := by decide +kernel
theorem dX4_copyParts_41 : decode cX4_copyParts 41 = .ok (.aload_n 0, 1) := by decide +kernel
theorem dX4_copyParts_42 : decode cX4_copyParts 42 = .ok (.getfield 19, 3) := by decide +kernel
theorem dX4_copyParts_45 : decode cX4_copyParts 45 = .ok (.iload_n 2, 1) := by decide +kernel
theorem dX4_copyParts_46 : decode cX4_copyParts 46 = .ok (.aaload, 1) := by decide +kernel
theorem dX4_copyParts_47 : decode cX4_copyParts 47 = .ok (.aload_n 1, 1) := by decide +kernel
theorem dX4_copyParts_48 : decode cX4_copyParts 48 = .ok (.getfield 19, 3) := by decide +kernel
theorem dX4_copyParts_51 : decode cX4_copyParts 51 = .ok (.iload_n 2, 1) := by decide +kernel
theorem dX4_copyParts_52 : decode cX4_copyParts 52 = .ok (.aaload, 1) := by decide +kernel
theorem dX4_copyParts_53 : decode cX4_copyParts 53 = .ok (.invokevirtual 100, 3) := by decide +kernel
theorem dX4_copyParts_56 : decode cX4_copyParts 56 = .ok (.iinc 2 1, 3) := by decide +kernel
theorem dX4_copyParts_59 : decode cX4_copyParts 59 = .ok (.goto (-26), 3) := by decide +kernel
theorem dX4_copyParts_62 : decode cX4_copyParts 62 = .ok (.iconst 0, 1) := by decide +kernel
theorem dX4_copyParts_63 : decode cX4_copyParts 63 = .ok (.istore_n 2, 1) := by decide +kernel
theorem dX4_copyParts_64 : decode cX4_copyParts 64 = .ok (.iload_n 2, 1) := by decide +kernel
theorem dX4_copyParts_65 : decode cX4_copyParts 65 = .ok (.aload_n 0, 1) := by decide +kernel
theorem dX4_copyParts_66 : decode cX4_copyParts 66 = .ok (.getfield 68, 3) := by decide +kernel
theorem dX4_copyParts_69 : decode cX4_copyParts 69 = .ok (.if_icmp .ge 21, 3) := by decide +kernel
theorem dX4_copyParts_72 : decode cX4_copyParts 72 = .ok (.aload_n 0, 1) := by decide +kernel
theorem dX4_copyParts_73 : decode cX4_copyParts 73 = .ok (.getfield 25, 3) := by decide +kernel
theorem dX4_copyParts_76 : decode cX4_copyParts 76 = .ok (.iload_n 2, 1) := by decide +kernel
theorem dX4_copyParts_77 : decode cX4_copyParts 77 = .ok (.aload_n 1, 1) := by decide +kernel
theorem dX4_copyParts_78 : decode cX4_copyParts 78 = .ok (.getfield 25, 3) := by decide +kernel
theorem dX4_copyParts_81 : decode cX4_copyParts 81 = .ok (.iload_n 2, 1) := by decide +kernel
theorem dX4_copyParts_82 : decode cX4_copyParts 82 = .ok (.aaload, 1) := by decide +kernel
theorem dX4_copyParts_83 : decode cX4_copyParts 83 = .ok (.aastore, 1) := by decide +kernel
theorem dX4_copyParts_84 : decode cX4_copyParts 84 = .ok (.iinc 2 1, 3) := by decide +kernel
theorem dX4_copyParts_87 : decode cX4_copyParts 87 = .ok (.goto (-23), 3) := by decide +kernel
theorem dX4_copyParts_90 : decode cX4_copyParts 90 = .ok (.iconst 0, 1) := by decide +kernel
theorem dX4_copyParts_91 : decode cX4_copyParts 91 = .ok (.istore_n 2, 1) := by decide +kernel
theorem dX4_copyParts_92 : decode cX4_copyParts 92 = .ok (.iload_n 2, 1) := by decide +kernel
theorem dX4_copyParts_93 : decode cX4_copyParts 93 = .ok (.aload_n 0, 1) := by decide +kernel
theorem dX4_copyParts_94 : decode cX4_copyParts 94 = .ok (.getfield 71, 3) := by decide +kernel
theorem dX4_copyParts_97 : decode cX4_copyParts 97 = .ok (.if_icmp .ge 24, 3) := by decide +kernel
theorem dX4_copyParts_100 : decode cX4_copyParts 100 = .ok (.aload_n 0, 1) := by decide +kernel
theorem dX4_copyParts_101 : decode cX4_copyParts 101 = .ok (.getfield 31, 3) := by decide +kernel
theorem dX4_copyParts_104 : decode cX4_copyParts 104 = .ok (.iload_n 2, 1) := by decide +kernel
theorem dX4_copyParts_105 : decode cX4_copyParts 105 = .ok (.aaload, 1) := by decide +kernel
theorem dX4_copyParts_106 : decode cX4_copyParts 106 = .ok (.aload_n 1, 1) := by decide +kernel
theorem dX4_copyParts_107 : decode cX4_copyParts 107 = .ok (.getfield 31, 3) := by decide +kernel
theorem dX4_copyParts_110 : decode cX4_copyParts 110 = .ok (.iload_n 2, 1) := by decide +kernel
theorem dX4_copyParts_111 : decode cX4_copyParts 111 = .ok (.aaload, 1) := by decide +kernel
theorem dX4_copyParts_112 : decode cX4_copyParts 112 = .ok (.invokevirtual 103, 3) := by decide +kernel
theorem dX4_copyParts_115 : decode cX4_copyParts 115 = .ok (.iinc 2 1, 3) := by decide +kernel
theorem dX4_copyParts_118 : decode cX4_copyParts 118 = .ok (.goto (-26), 3) := by decide +kernel
theorem dX4_copyParts_121 : decode cX4_copyParts 121 = .ok (.return_, 1) := by decide +kernel
theorem dX4_isFree_0 : decode cX4_isFree 0 = .ok (.iload_n 1, 1) := by decide +kernel
theorem dX4_isFree_1 : decode cX4_isFree 1 = .ok (.iconst 1, 1) := by decide +kernel
theorem dX4_isFree_2 : decode cX4_isFree 2 = .ok (.aload_n 0, 1) := by decide +kernel
theorem dX4_isFree_3 : decode cX4_isFree 3 = .ok (.getfield 52, 3) := by decide +kernel
theorem dX4_isFree_6 : decode cX4_isFree 6 = .ok (.iconst 1, 1) := by decide +kernel
theorem dX4_isFree_7 : decode cX4_isFree 7 = .ok (.isub, 1) := by decide +kernel
theorem dX4_isFree_8 : decode cX4_isFree 8 = .ok (.invokestatic 106, 3) := by decide +kernel
theorem dX4_isFree_11 : decode cX4_isFree 11 = .ok (.ifCond .ne 5, 3) := by decide +kernel
theorem dX4_isFree_14 : decode cX4_isFree 14 = .ok (.iconst 0, 1) := by decide +kernel
theorem dX4_isFree_15 : decode cX4_isFree 15 = .ok (.ireturn, 1) := by decide +kernel
theorem dX4_isFree_16 : decode cX4_isFree 16 = .ok (.iconst 0, 1) := by decide +kernel
theorem dX4_isFree_17 : decode cX4_isFree 17 = .ok (.istore_n 2, 1) := by decide +kernel
theorem dX4_isFree_18 : decode cX4_isFree 18 = .ok (.iload_n 2, 1) := by decide +kernel
theorem dX4_isFree_19 : decode cX4_isFree 19 = .ok (.aload_n 0, 1) := by decide +kernel
theorem dX4_isFree_20 : decode cX4_isFree 20 = .ok (.getfield 62, 3) := by decide +kernel
theorem dX4_isFree_23 : decode cX4_isFree 23 = .ok (.if_icmp .ge 24, 3) := by decide +kernel
theorem dX4_isFree_26 : decode cX4_isFree 26 = .ok (.aload_n 0, 1) := by decide +kernel
theorem dX4_isFree_27 : decode cX4_isFree 27 = .ok (.getfield 11, 3) := by decide +kernel
theorem dX4_isFree_30 : decode cX4_isFree 30 = .ok (.iload_n 2, 1) := by decide +kernel
theorem dX4_isFree_31 : decode cX4_isFree 31 = .ok (.aaload, 1) := by decide +kernel
theorem dX4_isFree_32 : decode cX4_isFree 32 = .ok (.getfield 110, 3) := by decide +kernel
theorem dX4_isFree_35 : decode cX4_isFree 35 = .ok (.iload_n 1, 1) := by decide +kernel
theorem dX4_isFree_36 : decode cX4_isFree 36 = .ok (.if_icmp .ne 5, 3) := by decide +kernel
theorem dX4_isFree_39 : decode cX4_isFree 39 = .ok (.iconst 0, 1) := by decide +kernel
theorem dX4_isFree_40 : decode cX4_isFree 40 = .ok (.ireturn, 1) := by decide +kernel
theorem dX4_isFree_41 : decode cX4_isFree 41 = .ok (.iinc 2 1, 3) := by decide +kernel
theorem dX4_isFree_44 : decode cX4_isFree 44 = .ok (.goto (-26), 3) := by decide +kernel
theorem dX4_isFree_47 : decode cX4_isFree 47 = .ok (.iconst 0, 1) := by decide +kernel
theorem dX4_isFree_48 : decode cX4_isFree 48 = .ok (.istore_n 2, 1) := by decide +kernel
theorem dX4_isFree_49 : decode cX4_isFree 49 = .ok (.iload_n 2, 1) := by decide +kernel
theorem dX4_isFree_50 : decode cX4_isFree 50 = .ok (.aload_n 0, 1) := by decide +kernel
theorem dX4_isFree_51 : decode cX4_isFree 51 = .ok (.getfield 65, 3) := by decide +kernel
theorem dX4_isFree_54 : decode cX4_isFree 54 = .ok (.if_icmp .ge 24, 3) := by decide +kernel
theorem dX4_isFree_57 : decode cX4_isFree 57 = .ok (.aload_n 0, 1) := by decide +kernel
theorem dX4_isFree_58 : decode cX4_isFree 58 = .ok (.getfield 19, 3) := by decide +kernel
theorem dX4_isFree_61 : decode cX4_isFree 61 = .ok (.iload_n 2, 1) := by decide +kernel
theorem dX4_isFree_62 : decode cX4_isFree 62 = .ok (.aaload, 1) := by decide +kernel
theorem dX4_isFree_63 : decode cX4_isFree 63 = .ok (.getfield 113, 3) := by decide +kernel
theorem dX4_isFree_66 : decode cX4_isFree 66 = .ok (.iload_n 1, 1) := by decide +kernel
theorem dX4_isFree_67 : decode cX4_isFree 67 = .ok (.if_icmp .ne 5, 3) := by decide +kernel
theorem dX4_isFree_70 : decode cX4_isFree 70 = .ok (.iconst 0, 1) := by decide +kernel
theorem dX4_isFree_71 : decode cX4_isFree 71 = .ok (.ireturn, 1) := by decide +kernel
theorem dX4_isFree_72 : decode cX4_isFree 72 = .ok (.iinc 2 1, 3) := by decide +kernel
theorem dX4_isFree_75 : decode cX4_isFree 75 = .ok (.goto (-26), 3) := by decide +kernel
theorem dX4_isFree_78 : decode cX4_isFree 78 = .ok (.iconst 1, 1) := by decide +kernel
theorem dX4_isFree_79 : decode cX4_isFree 79 = .ok (.ireturn, 1) := by decide +kernel
theorem dX4_putStation_0 : decode cX4_putStation 0 = .ok (.aload_n 0, 1) := by decide +kernel
theorem dX4_putStation_1 : decode cX4_putStation 1 = .ok (.getfield 11, 3) := by decide +kernel
theorem dX4_putStation_4 : decode cX4_putStation 4 = .ok (.aload_n 0, 1) := by decide +kernel
theorem dX4_putStation_5 : decode cX4_putStation 5 = .ok (.getfield 62, 3) := by decide +kernel
theorem dX4_putStation_8 : decode cX4_putStation 8 = .ok (.aaload, 1) := by decide +kernel
theorem dX4_putStation_9 : decode cX4_putStation 9 = .ok (.iload_n 1, 1) := by decide +kernel
theorem dX4_putStation_10 : decode cX4_putStation 10 = .ok (.invokevirtual 114, 3) := by decide +kernel
theorem dX4_putStation_13 : decode cX4_putStation 13 = .ok (.aload_n 0, 1) := by decide +kernel
theorem dX4_putStation_14 : decode cX4_putStation 14 = .ok (.dup, 1) := by decide +kernel
theorem dX4_putStation_15 : decode cX4_putStation 15 = .ok (.getfield 62, 3) := by decide +kernel
theorem dX4_putStation_18 : decode cX4_putStation 18 = .ok (.iconst 1, 1) := by decide +kernel
theorem dX4_putStation_19 : decode cX4_putStation 19 = .ok (.iadd, 1) := by decide +kernel
theorem dX4_putStation_20 : decode cX4_putStation 20 = .ok (.putfield 62, 3) := by decide +kernel
theorem dX4_putStation_23 : decode cX4_putStation 23 = .ok (.aload_n 0, 1) := by decide +kernel
theorem dX4_putStation_24 : decode cX4_putStation 24 = .ok (.getfield 62, 3) := by decide +kernel
theorem dX4_putStation_27 : decode cX4_putStation 27 = .ok (.iconst 1, 1) := by decide +kernel
theorem dX4_putStation_28 : decode cX4_putStation 28 = .ok (.isub, 1) := by decide +kernel
theorem dX4_putStation_29 : decode cX4_putStation 29 = .ok (.ireturn, 1) := by decide +kernel
theorem dX4_putChute_0 : decode cX4_putChute 0 = .ok (.aload_n 0, 1) := by decide +kernel
theorem dX4_putChute_1 : decode cX4_putChute 1 = .ok (.getfield 19, 3) := by decide +kernel
theorem dX4_putChute_4 : decode cX4_putChute 4 = .ok (.aload_n 0, 1) := by decide +kernel
theorem dX4_putChute_5 : decode cX4_putChute 5 = .ok (.getfield 65, 3) := by decide +kernel
theorem dX4_putChute_8 : decode cX4_putChute 8 = .ok (.aaload, 1) := by decide +kernel
theorem dX4_putChute_9 : decode cX4_putChute 9 = .ok (.astore_n 1, 1) := by decide +kernel
theorem dX4_putChute_10 : decode cX4_putChute 10 = .ok (.aload_n 1, 1) := by decide +kernel
theorem dX4_putChute_11 : decode cX4_putChute 11 = .ok (.invokevirtual 115, 3) := by decide +kernel
theorem dX4_putChute_14 : decode cX4_putChute 14 = .ok (.aload_n 0, 1) := by decide +kernel
theorem dX4_putChute_15 : decode cX4_putChute 15 = .ok (.dup, 1) := by decide +kernel
theorem dX4_putChute_16 : decode cX4_putChute 16 = .ok (.getfield 65, 3) := by decide +kernel
theorem dX4_putChute_19 : decode cX4_putChute 19 = .ok (.iconst 1, 1) := by decide +kernel
theorem dX4_putChute_20 : decode cX4_putChute 20 = .ok (.iadd, 1) := by decide +kernel
theorem dX4_putChute_21 : decode cX4_putChute 21 = .ok (.putfield 65, 3) := by decide +kernel
theorem dX4_putChute_24 : decode cX4_putChute 24 = .ok (.aload_n 1, 1) := by decide +kernel
theorem dX4_putChute_25 : decode cX4_putChute 25 = .ok (.areturn, 1) := by decide +kernel
theorem dX4_putParcel_0 : decode cX4_putParcel 0 = .ok (.iconst 0, 1) := by decide +kernel
theorem dX4_putParcel_1 : decode cX4_putParcel 1 = .ok (.istore_n 3, 1) := by decide +kernel
theorem dX4_putParcel_2 : decode cX4_putParcel 2 = .ok (.iconst 0, 1) := by decide +kernel
theorem dX4_putParcel_3 : decode cX4_putParcel 3 = .ok (.istore 4, 2) := by decide +kernel
theorem dX4_putParcel_5 : decode cX4_putParcel 5 = .ok (.iload 4, 2) := by decide +kernel
theorem dX4_putParcel_7 : decode cX4_putParcel 7 = .ok (.aload_n 0, 1) := by decide +kernel
theorem dX4_putParcel_8 : decode cX4_putParcel 8 = .ok (.getfield 71, 3) := by decide +kernel
theorem dX4_putParcel_11 : decode cX4_putParcel 11 = .ok (.if_icmp .ge 26, 3) := by decide +kernel
theorem dX4_putParcel_14 : decode cX4_putParcel 14 = .ok (.aload_n 0, 1) := by decide +kernel
theorem dX4_putParcel_15 : decode cX4_putParcel 15 = .ok (.getfield 31, 3) := by decide +kernel
theorem dX4_putParcel_18 : decode cX4_putParcel 18 = .ok (.iload 4, 2) := by decide +kernel
theorem dX4_putParcel_20 : decode cX4_putParcel 20 = .ok (.aaload, 1) := by decide +kernel
theorem dX4_putParcel_21 : decode cX4_putParcel 21 = .ok (.getfield 117, 3) := by decide +kernel
theorem dX4_putParcel_24 : decode cX4_putParcel 24 = .ok (.iload_n 2, 1) := by decide +kernel
theorem dX4_putParcel_25 : decode cX4_putParcel 25 = .ok (.if_icmp .ne 6, 3) := by decide +kernel
theorem dX4_putParcel_28 : decode cX4_putParcel 28 = .ok (.iinc 3 1, 3) := by decide +kernel
theorem dX4_putParcel_31 : decode cX4_putParcel 31 = .ok (.iinc 4 1, 3) := by decide +kernel
theorem dX4_putParcel_34 : decode cX4_putParcel 34 = .ok (.goto (-29), 3) := by decide +kernel
theorem dX4_putParcel_37 : decode cX4_putParcel 37 = .ok (.aload_n 0, 1) := by decide +kernel
theorem dX4_putParcel_38 : decode cX4_putParcel 38 = .ok (.getfield 31, 3) := by decide +kernel
theorem dX4_putParcel_41 : decode cX4_putParcel 41 = .ok (.aload_n 0, 1) := by decide +kernel
theorem dX4_putParcel_42 : decode cX4_putParcel 42 = .ok (.getfield 71, 3) := by decide +kernel
theorem dX4_putParcel_45 : decode cX4_putParcel 45 = .ok (.aaload, 1) := by decide +kernel
theorem dX4_putParcel_46 : decode cX4_putParcel 46 = .ok (.iload_n 1, 1) := by decide +kernel
theorem dX4_putParcel_47 : decode cX4_putParcel 47 = .ok (.iload_n 2, 1) := by decide +kernel
theorem dX4_putParcel_48 : decode cX4_putParcel 48 = .ok (.iload_n 3, 1) := by decide +kernel
theorem dX4_putParcel_49 : decode cX4_putParcel 49 = .ok (.invokevirtual 120, 3) := by decide +kernel
theorem dX4_putParcel_52 : decode cX4_putParcel 52 = .ok (.aload_n 0, 1) := by decide +kernel
theorem dX4_putParcel_53 : decode cX4_putParcel 53 = .ok (.getfield 11, 3) := by decide +kernel
theorem dX4_putParcel_56 : decode cX4_putParcel 56 = .ok (.iload_n 1, 1) := by decide +kernel
theorem dX4_putParcel_57 : decode cX4_putParcel 57 = .ok (.aaload, 1) := by decide +kernel
theorem dX4_putParcel_58 : decode cX4_putParcel 58 = .ok (.aload_n 0, 1) := by decide +kernel
theorem dX4_putParcel_59 : decode cX4_putParcel 59 = .ok (.getfield 71, 3) := by decide +kernel
theorem dX4_putParcel_62 : decode cX4_putParcel 62 = .ok (.invokevirtual 123, 3) := by decide +kernel
theorem dX4_putParcel_65 : decode cX4_putParcel 65 = .ok (.aload_n 0, 1) := by decide +kernel
theorem dX4_putParcel_66 : decode cX4_putParcel 66 = .ok (.dup, 1) := by decide +kernel
theorem dX4_putParcel_67 : decode cX4_putParcel 67 = .ok (.getfield 71, 3) := by decide +kernel
theorem dX4_putParcel_70 : decode cX4_putParcel 70 = .ok (.iconst 1, 1) := by decide +kernel
theorem dX4_putParcel_71 : decode cX4_putParcel 71 = .ok (.iadd, 1) := by decide +kernel
theorem dX4_putParcel_72 : decode cX4_putParcel 72 = .ok (.putfield 71, 3) := by decide +kernel
theorem dX4_putParcel_75 : decode cX4_putParcel 75 = .ok (.aload_n 0, 1) := by decide +kernel
theorem dX4_putParcel_76 : decode cX4_putParcel 76 = .ok (.getfield 71, 3) := by decide +kernel
theorem dX4_putParcel_79 : decode cX4_putParcel 79 = .ok (.iconst 1, 1) := by decide +kernel
theorem dX4_putParcel_80 : decode cX4_putParcel 80 = .ok (.isub, 1) := by decide +kernel
theorem dX4_putParcel_81 : decode cX4_putParcel 81 = .ok (.ireturn, 1) := by decide +kernel
theorem dX4_plansUntil_0 : decode cX4_plansUntil 0 = .ok (.iconst 0, 1) := by decide +kernel
theorem dX4_plansUntil_1 : decode cX4_plansUntil 1 = .ok (.istore_n 2, 1) := by decide +kernel
theorem dX4_plansUntil_2 : decode cX4_plansUntil 2 = .ok (.iconst 0, 1) := by decide +kernel
theorem dX4_plansUntil_3 : decode cX4_plansUntil 3 = .ok (.istore_n 3, 1) := by decide +kernel
theorem dX4_plansUntil_4 : decode cX4_plansUntil 4 = .ok (.iload_n 3, 1) := by decide +kernel
theorem dX4_plansUntil_5 : decode cX4_plansUntil 5 = .ok (.aload_n 0, 1) := by decide +kernel
theorem dX4_plansUntil_6 : decode cX4_plansUntil 6 = .ok (.getfield 68, 3) := by decide +kernel
theorem dX4_plansUntil_9 : decode cX4_plansUntil 9 = .ok (.if_icmp .ge 25, 3) := by decide +kernel
theorem dX4_plansUntil_12 : decode cX4_plansUntil 12 = .ok (.aload_n 0, 1) := by decide +kernel
theorem dX4_plansUntil_13 : decode cX4_plansUntil 13 = .ok (.getfield 25, 3) := by decide +kernel
theorem dX4_plansUntil_16 : decode cX4_plansUntil 16 = .ok (.iload_n 3, 1) := by decide +kernel
theorem dX4_plansUntil_17 : decode cX4_plansUntil 17 = .ok (.aaload, 1) := by decide +kernel
theorem dX4_plansUntil_18 : decode cX4_plansUntil 18 = .ok (.getfield 126, 3) := by decide +kernel
theorem dX4_plansUntil_21 : decode cX4_plansUntil 21 = .ok (.iload_n 1, 1) := by decide +kernel
theorem dX4_plansUntil_22 : decode cX4_plansUntil 22 = .ok (.if_icmp .gt 6, 3) := by decide +kernel
theorem dX4_plansUntil_25 : decode cX4_plansUntil 25 = .ok (.iinc 2 1, 3) := by decide +kernel
theorem dX4_plansUntil_28 : decode cX4_plansUntil 28 = .ok (.iinc 3 1, 3) := by decide +kernel
theorem dX4_plansUntil_31 : decode cX4_plansUntil 31 = .ok (.goto (-27), 3) := by decide +kernel
theorem dX4_plansUntil_34 : decode cX4_plansUntil 34 = .ok (.iload_n 2, 1) := by decide +kernel
theorem dX4_plansUntil_35 : decode cX4_plansUntil 35 = .ok (.ireturn, 1) := by decide +kernel
theorem dX4_planOf_0 : decode cX4_planOf 0 = .ok (.aload_n 0, 1) := by decide +kernel
theorem dX4_planOf_1 : decode cX4_planOf 1 = .ok (.iload_n 1, 1) := by decide +kernel
theorem dX4_planOf_2 : decode cX4_planOf 2 = .ok (.invokevirtual 129, 3) := by decide +kernel
theorem dX4_planOf_5 : decode cX4_planOf 5 = .ok (.istore_n 2, 1) := by decide +kernel
theorem dX4_planOf_6 : decode cX4_planOf 6 = .ok (.iload_n 2, 1) := by decide +kernel
theorem dX4_planOf_7 : decode cX4_planOf 7 = .ok (.ifCond .le 14, 3) := by decide +kernel
theorem dX4_planOf_10 : decode cX4_planOf 10 = .ok (.aload_n 0, 1) := by decide +kernel
theorem dX4_planOf_11 : decode cX4_planOf 11 = .ok (.getfield 25, 3) := by decide +kernel
theorem dX4_planOf_14 : decode cX4_planOf 14 = .ok (.iload_n 2, 1) := by decide +kernel
theorem dX4_planOf_15 : decode cX4_planOf 15 = .ok (.iconst 1, 1) := by decide +kernel
theorem dX4_planOf_16 : decode cX4_planOf 16 = .ok (.isub, 1) := by decide +kernel
theorem dX4_planOf_17 : decode cX4_planOf 17 = .ok (.aaload, 1) := by decide +kernel
theorem dX4_planOf_18 : decode cX4_planOf 18 = .ok (.goto 4, 3) := by decide +kernel
theorem dX4_planOf_21 : decode cX4_planOf 21 = .ok (.aconst_null, 1) := by decide +kernel
theorem dX4_planOf_22 : decode cX4_planOf 22 = .ok (.areturn, 1) := by decide +kernel
theorem dX4_hasPlanFrom_0 : decode cX4_hasPlanFrom 0 = .ok (.aload_n 0, 1) := by decide +kernel
theorem dX4_hasPlanFrom_1 : decode cX4_hasPlanFrom 1 = .ok (.iload_n 1, 1) := by decide +kernel
theorem dX4_hasPlanFrom_2 : decode cX4_hasPlanFrom 2 = .ok (.invokevirtual 133, 3) := by decide +kernel
theorem dX4_hasPlanFrom_5 : decode cX4_hasPlanFrom 5 = .ok (.astore_n 2, 1) := by decide +kernel
theorem dX4_hasPlanFrom_6 : decode cX4_hasPlanFrom 6 = .ok (.aload_n 2, 1) := by decide +kernel
theorem dX4_hasPlanFrom_7 : decode cX4_hasPlanFrom 7 = .ok (.ifnull 15, 3) := by decide +kernel
theorem dX4_hasPlanFrom_10 : decode cX4_hasPlanFrom 10 = .ok (.aload_n 2, 1) := by decide +kernel
theorem dX4_hasPlanFrom_11 : decode cX4_hasPlanFrom 11 = .ok (.getfield 126, 3) := by decide +kernel
theorem dX4_hasPlanFrom_14 : decode cX4_hasPlanFrom 14 = .ok (.iload_n 1, 1) := by decide +kernel
theorem dX4_hasPlanFrom_15 : decode cX4_hasPlanFrom 15 = .ok (.if_icmp .ne 7, 3) := by decide +kernel
theorem dX4_hasPlanFrom_18 : decode cX4_hasPlanFrom 18 = .ok (.iconst 1, 1) := by decide +kernel
theorem dX4_hasPlanFrom_19 : decode cX4_hasPlanFrom 19 = .ok (.goto 4, 3) := by decide +kernel
theorem dX4_hasPlanFrom_22 : decode cX4_hasPlanFrom 22 = .ok (.iconst 0, 1) := by decide +kernel
theorem dX4_hasPlanFrom_23 : decode cX4_hasPlanFrom 23 = .ok (.ireturn, 1) := by decide +kernel
theorem dX4_putPlan_0 : decode cX4_putPlan 0 = .ok (.aload_n 0, 1) := by decide +kernel
theorem dX4_putPlan_1 : decode cX4_putPlan 1 = .ok (.aload_n 1, 1) := by decide +kernel
theorem dX4_putPlan_2 : decode cX4_putPlan 2 = .ok (.getfield 126, 3) := by decide +kernel
theorem dX4_putPlan_5 : decode cX4_putPlan 5 = .ok (.invokevirtual 129, 3) := by decide +kernel
theorem dX4_putPlan_8 : decode cX4_putPlan 8 = .ok (.istore_n 2, 1) := by decide +kernel
theorem dX4_putPlan_9 : decode cX4_putPlan 9 = .ok (.aload_n 0, 1) := by decide +kernel
theorem dX4_putPlan_10 : decode cX4_putPlan 10 = .ok (.aload_n 1, 1) := by decide +kernel
theorem dX4_putPlan_11 : decode cX4_putPlan 11 = .ok (.getfield 126, 3) := by decide +kernel
theorem dX4_putPlan_14 : decode cX4_putPlan 14 = .ok (.invokevirtual 137, 3) := by decide +kernel
theorem dX4_putPlan_17 : decode cX4_putPlan 17 = .ok (.ifCond .eq 15, 3) := by decide +kernel
theorem dX4_putPlan_20 : decode cX4_putPlan 20 = .ok (.aload_n 0, 1) := by decide +kernel
theorem dX4_putPlan_21 : decode cX4_putPlan 21 = .ok (.getfield 25, 3) := by decide +kernel
theorem dX4_putPlan_24 : decode cX4_putPlan 24 = .ok (.iload_n 2, 1) := by decide +kernel
theorem dX4_putPlan_25 : decode cX4_putPlan 25 = .ok (.iconst 1, 1) := by decide +kernel
theorem dX4_putPlan_26 : decode cX4_putPlan 26 = .ok (.isub, 1) := by decide +kernel
theorem dX4_putPlan_27 : decode cX4_putPlan 27 = .ok (.aload_n 1, 1) := by decide +kernel
theorem dX4_putPlan_28 : decode cX4_putPlan 28 = .ok (.aastore, 1) := by decide +kernel
theorem dX4_putPlan_29 : decode cX4_putPlan 29 = .ok (.goto 58, 3) := by decide +kernel
theorem dX4_putPlan_32 : decode cX4_putPlan 32 = .ok (.aload_n 0, 1) := by decide +kernel
theorem dX4_putPlan_33 : decode cX4_putPlan 33 = .ok (.getfield 68, 3) := by decide +kernel
theorem dX4_putPlan_36 : decode cX4_putPlan 36 = .ok (.iconst 5, 1) := by decide +kernel
theorem dX4_putPlan_37 : decode cX4_putPlan 37 = .ok (.if_icmp .ge 50, 3) := by decide +kernel
theorem dX4_putPlan_40 : decode cX4_putPlan 40 = .ok (.aload_n 0, 1) := by decide +kernel
theorem dX4_putPlan_41 : decode cX4_putPlan 41 = .ok (.getfield 68, 3) := by decide +kernel
theorem dX4_putPlan_44 : decode cX4_putPlan 44 = .ok (.istore_n 3, 1) := by decide +kernel
theorem dX4_putPlan_45 : decode cX4_putPlan 45 = .ok (.iload_n 3, 1) := by decide +kernel
theorem dX4_putPlan_46 : decode cX4_putPlan 46 = .ok (.iload_n 2, 1) := by decide +kernel
theorem dX4_putPlan_47 : decode cX4_putPlan 47 = .ok (.if_icmp .le 23, 3) := by decide +kernel
theorem dX4_putPlan_50 : decode cX4_putPlan 50 = .ok (.aload_n 0, 1) := by decide +kernel
theorem dX4_putPlan_51 : decode cX4_putPlan 51 = .ok (.getfield 25, 3) := by decide +kernel
theorem dX4_putPlan_54 : decode cX4_putPlan 54 = .ok (.iload_n 3, 1) := by decide +kernel
theorem dX4_putPlan_55 : decode cX4_putPlan 55 = .ok (.aload_n 0, 1) := by decide +kernel
theorem dX4_putPlan_56 : decode cX4_putPlan 56 = .ok (.getfield 25, 3) := by decide +kernel
theorem dX4_putPlan_59 : decode cX4_putPlan 59 = .ok (.iload_n 3, 1) := by decide +kernel
theorem dX4_putPlan_60 : decode cX4_putPlan 60 = .ok (.iconst 1, 1) := by decide +kernel
theorem dX4_putPlan_61 : decode cX4_putPlan 61 = .ok (.isub, 1) := by decide +kernel
theorem dX4_putPlan_62 : decode cX4_putPlan 62 = .ok (.aaload, 1) := by decide +kernel
theorem dX4_putPlan_63 : decode cX4_putPlan 63 = .ok (.aastore, 1) := by decide +kernel
theorem dX4_putPlan_64 : decode cX4_putPlan 64 = .ok (.iinc 3 (-1), 3) := by decide +kernel
theorem dX4_putPlan_67 : decode cX4_putPlan 67 = .ok (.goto (-22), 3) := by decide +kernel
theorem dX4_putPlan_70 : decode cX4_putPlan 70 = .ok (.aload_n 0, 1) := by decide +kernel
theorem dX4_putPlan_71 : decode cX4_putPlan 71 = .ok (.getfield 25, 3) := by decide +kernel
theorem dX4_putPlan_74 : decode cX4_putPlan 74 = .ok (.iload_n 2, 1) := by decide +kernel
theorem dX4_putPlan_75 : decode cX4_putPlan 75 = .ok (.aload_n 1, 1) := by decide +kernel
theorem dX4_putPlan_76 : decode cX4_putPlan 76 = .ok (.aastore, 1) := by decide +kernel
theorem dX4_putPlan_77 : decode cX4_putPlan 77 = .ok (.aload_n 0, 1) := by decide +kernel
theorem dX4_putPlan_78 : decode cX4_putPlan 78 = .ok (.dup, 1) := by decide +kernel
theorem dX4_putPlan_79 : decode cX4_putPlan 79 = .ok (.getfield 68, 3) := by decide +kernel
theorem dX4_putPlan_82 : decode cX4_putPlan 82 = .ok (.iconst 1, 1) := by decide +kernel
theorem dX4_putPlan_83 : decode cX4_putPlan 83 = .ok (.iadd, 1) := by decide +kernel
theorem dX4_putPlan_84 : decode cX4_putPlan 84 = .ok (.putfield 68, 3) := by decide +kernel
theorem dX4_putPlan_87 : decode cX4_putPlan 87 = .ok (.return_, 1) := by decide +kernel
theorem dX4_carrierAt_0 : decode cX4_carrierAt 0 = .ok (.aload_n 0, 1) := by decide +kernel
theorem dX4_carrierAt_1 : decode cX4_carrierAt 1 = .ok (.getfield 59, 3) := by decide +kernel
theorem dX4_carrierAt_4 : decode cX4_carrierAt 4 = .ok (.iload_n 1, 1) := by decide +kernel
theorem dX4_carrierAt_5 : decode cX4_carrierAt 5 = .ok (.iadd, 1) := by decide +kernel
theorem dX4_carrierAt_6 : decode cX4_carrierAt 6 = .ok (.istore_n 2, 1) := by decide +kernel
theorem dX4_carrierAt_7 : decode cX4_carrierAt 7 = .ok (.iload_n 2, 1) := by decide +kernel
theorem dX4_carrierAt_8 : decode cX4_carrierAt 8 = .ok (.aload_n 0, 1) := by decide +kernel
theorem dX4_carrierAt_9 : decode cX4_carrierAt 9 = .ok (.getfield 52, 3) := by decide +kernel
theorem dX4_carrierAt_12 : decode cX4_carrierAt 12 = .ok (.if_icmp .ge 7, 3) := by decide +kernel
theorem dX4_carrierAt_15 : decode cX4_carrierAt 15 = .ok (.iload_n 2, 1) := by decide +kernel
theorem dX4_carrierAt_16 : decode cX4_carrierAt 16 = .ok (.goto 9, 3) := by decide +kernel
theorem dX4_carrierAt_19 : decode cX4_carrierAt 19 = .ok (.iload_n 2, 1) := by decide +kernel
theorem dX4_carrierAt_20 : decode cX4_carrierAt 20 = .ok (.aload_n 0, 1) := by decide +kernel
theorem dX4_carrierAt_21 : decode cX4_carrierAt 21 = .ok (.getfield 52, 3) := by decide +kernel
theorem dX4_carrierAt_24 : decode cX4_carrierAt 24 = .ok (.isub, 1) := by decide +kernel
theorem dX4_carrierAt_25 : decode cX4_carrierAt 25 = .ok (.ireturn, 1) := by decide +kernel
theorem dX4_placeOf_0 : decode cX4_placeOf 0 = .ok (.iload_n 1, 1) := by decide +kernel
theorem dX4_placeOf_1 : decode cX4_placeOf 1 = .ok (.aload_n 0, 1) := by decide +kernel
theorem dX4_placeOf_2 : decode cX4_placeOf 2 = .ok (.getfield 59, 3) := by decide +kernel
theorem dX4_placeOf_5 : decode cX4_placeOf 5 = .ok (.isub, 1) := by decide +kernel
theorem dX4_placeOf_6 : decode cX4_placeOf 6 = .ok (.istore_n 2, 1) := by decide +kernel
theorem dX4_placeOf_7 : decode cX4_placeOf 7 = .ok (.iload_n 2, 1) := by decide +kernel
theorem dX4_placeOf_8 : decode cX4_placeOf 8 = .ok (.ifCond .lt 7, 3) := by decide +kernel
theorem dX4_placeOf_11 : decode cX4_placeOf 11 = .ok (.iload_n 2, 1) := by decide +kernel
theorem dX4_placeOf_12 : decode cX4_placeOf 12 = .ok (.goto 9, 3) := by decide +kernel
theorem dX4_placeOf_15 : decode cX4_placeOf 15 = .ok (.iload_n 2, 1) := by decide +kernel
theorem dX4_placeOf_16 : decode cX4_placeOf 16 = .ok (.aload_n 0, 1) := by decide +kernel
theorem dX4_placeOf_17 : decode cX4_placeOf 17 = .ok (.getfield 52, 3) := by decide +kernel
theorem dX4_placeOf_20 : decode cX4_placeOf 20 = .ok (.iadd, 1) := by decide +kernel
theorem dX4_placeOf_21 : decode cX4_placeOf 21 = .ok (.ireturn, 1) := by decide +kernel
theorem dX4_parcelAt_0 : decode cX4_parcelAt 0 = .ok (.aload_n 0, 1) := by decide +kernel
theorem dX4_parcelAt_1 : decode cX4_parcelAt 1 = .ok (.getfield 35, 3) := by decide +kernel
theorem dX4_parcelAt_4 : decode cX4_parcelAt 4 = .ok (.aload_n 0, 1) := by decide +kernel
theorem dX4_parcelAt_5 : decode cX4_parcelAt 5 = .ok (.iload_n 1, 1) := by decide +kernel
theorem dX4_parcelAt_6 : decode cX4_parcelAt 6 = .ok (.invokevirtual 141, 3) := by decide +kernel
theorem dX4_parcelAt_9 : decode cX4_parcelAt 9 = .ok (.iaload, 1) := by decide +kernel
theorem dX4_parcelAt_10 : decode cX4_parcelAt 10 = .ok (.ireturn, 1) := by decide +kernel
theorem dX4_isParcel_0 : decode cX4_isParcel 0 = .ok (.iload_n 1, 1) := by decide +kernel
theorem dX4_isParcel_1 : decode cX4_isParcel 1 = .ok (.iconst 0, 1) := by decide +kernel
theorem dX4_isParcel_2 : decode cX4_isParcel 2 = .ok (.aload_n 0, 1) := by decide +kernel
theorem dX4_isParcel_3 : decode cX4_isParcel 3 = .ok (.getfield 71, 3) := by decide +kernel
theorem dX4_isParcel_6 : decode cX4_isParcel 6 = .ok (.iconst 1, 1) := by decide +kernel
theorem dX4_isParcel_7 : decode cX4_isParcel 7 = .ok (.isub, 1) := by decide +kernel
theorem dX4_isParcel_8 : decode cX4_isParcel 8 = .ok (.invokestatic 106, 3) := by decide +kernel
theorem dX4_isParcel_11 : decode cX4_isParcel 11 = .ok (.ireturn, 1) := by decide +kernel
theorem dX4_passTick_0 : decode cX4_passTick 0 = .ok (.aload_n 0, 1) := by decide +kernel
theorem dX4_passTick_1 : decode cX4_passTick 1 = .ok (.dup, 1) := by decide +kernel
theorem dX4_passTick_2 : decode cX4_passTick 2 = .ok (.getfield 56, 3) := by decide +kernel
theorem dX4_passTick_5 : decode cX4_passTick 5 = .ok (.iconst 1, 1) := by decide +kernel
theorem dX4_passTick_6 : decode cX4_passTick 6 = .ok (.iadd, 1) := by decide +kernel
theorem dX4_passTick_7 : decode cX4_passTick 7 = .ok (.putfield 56, 3) := by decide +kernel
theorem dX4_passTick_10 : decode cX4_passTick 10 = .ok (.iconst 0, 1) := by decide +kernel
theorem dX4_passTick_11 : decode cX4_passTick 11 = .ok (.istore_n 1, 1) := by decide +kernel
theorem dX4_passTick_12 : decode cX4_passTick 12 = .ok (.iload_n 1, 1) := by decide +kernel
theorem dX4_passTick_13 : decode cX4_passTick 13 = .ok (.aload_n 0, 1) := by decide +kernel
theorem dX4_passTick_14 : decode cX4_passTick 14 = .ok (.getfield 65, 3) := by decide +kernel
theorem dX4_passTick_17 : decode cX4_passTick 17 = .ok (.if_icmp .ge 18, 3) := by decide +kernel
theorem dX4_passTick_20 : decode cX4_passTick 20 = .ok (.aload_n 0, 1) := by decide +kernel
theorem dX4_passTick_21 : decode cX4_passTick 21 = .ok (.getfield 19, 3) := by decide +kernel
theorem dX4_passTick_24 : decode cX4_passTick 24 = .ok (.iload_n 1, 1) := by decide +kernel
theorem dX4_passTick_25 : decode cX4_passTick 25 = .ok (.aaload, 1) := by decide +kernel
theorem dX4_passTick_26 : decode cX4_passTick 26 = .ok (.invokevirtual 144, 3) := by decide +kernel
theorem dX4_passTick_29 : decode cX4_passTick 29 = .ok (.iinc 1 1, 3) := by decide +kernel
theorem dX4_passTick_32 : decode cX4_passTick 32 = .ok (.goto (-20), 3) := by decide +kernel
theorem dX4_passTick_35 : decode cX4_passTick 35 = .ok (.aload_n 0, 1) := by decide +kernel
theorem dX4_passTick_36 : decode cX4_passTick 36 = .ok (.aload_n 0, 1) := by decide +kernel
theorem dX4_passTick_37 : decode cX4_passTick 37 = .ok (.getfield 59, 3) := by decide +kernel
theorem dX4_passTick_40 : decode cX4_passTick 40 = .ok (.ifCond .le 12, 3) := by decide +kernel
theorem dX4_passTick_43 : decode cX4_passTick 43 = .ok (.aload_n 0, 1) := by decide +kernel
theorem dX4_passTick_44 : decode cX4_passTick 44 = .ok (.getfield 59, 3) := by decide +kernel
theorem dX4_passTick_47 : decode cX4_passTick 47 = .ok (.iconst 1, 1) := by decide +kernel
theorem dX4_passTick_48 : decode cX4_passTick 48 = .ok (.isub, 1) := by decide +kernel
theorem dX4_passTick_49 : decode cX4_passTick 49 = .ok (.goto 9, 3) := by decide +kernel
theorem dX4_passTick_52 : decode cX4_passTick 52 = .ok (.aload_n 0, 1) := by decide +kernel
theorem dX4_passTick_53 : decode cX4_passTick 53 = .ok (.getfield 52, 3) := by decide +kernel
theorem dX4_passTick_56 : decode cX4_passTick 56 = .ok (.iconst 1, 1) := by decide +kernel
theorem dX4_passTick_57 : decode cX4_passTick 57 = .ok (.isub, 1) := by decide +kernel
theorem dX4_passTick_58 : decode cX4_passTick 58 = .ok (.putfield 59, 3) := by decide +kernel
theorem dX4_passTick_61 : decode cX4_passTick 61 = .ok (.aload_n 0, 1) := by decide +kernel
theorem dX4_passTick_62 : decode cX4_passTick 62 = .ok (.iconst 0, 1) := by decide +kernel
theorem dX4_passTick_63 : decode cX4_passTick 63 = .ok (.invokevirtual 147, 3) := by decide +kernel
theorem dX4_passTick_66 : decode cX4_passTick 66 = .ok (.istore_n 1, 1) := by decide +kernel
theorem dX4_passTick_67 : decode cX4_passTick 67 = .ok (.aload_n 0, 1) := by decide +kernel
theorem dX4_passTick_68 : decode cX4_passTick 68 = .ok (.iload_n 1, 1) := by decide +kernel
theorem dX4_passTick_69 : decode cX4_passTick 69 = .ok (.invokevirtual 150, 3) := by decide +kernel
theorem dX4_passTick_72 : decode cX4_passTick 72 = .ok (.ifCond .eq 13, 3) := by decide +kernel
theorem dX4_passTick_75 : decode cX4_passTick 75 = .ok (.aload_n 0, 1) := by decide +kernel
theorem dX4_passTick_76 : decode cX4_passTick 76 = .ok (.aload_n 0, 1) := by decide +kernel
theorem dX4_passTick_77 : decode cX4_passTick 77 = .ok (.getfield 31, 3) := by decide +kernel
theorem dX4_passTick_80 : decode cX4_passTick 80 = .ok (.iload_n 1, 1) := by decide +kernel
theorem dX4_passTick_81 : decode cX4_passTick 81 = .ok (.aaload, 1) := by decide +kernel
theorem dX4_passTick_82 : decode cX4_passTick 82 = .ok (.invokevirtual 153, 3) := by decide +kernel
theorem dX4_passTick_85 : decode cX4_passTick 85 = .ok (.iconst 0, 1) := by decide +kernel
theorem dX4_passTick_86 : decode cX4_passTick 86 = .ok (.istore_n 2, 1) := by decide +kernel
theorem dX4_passTick_87 : decode cX4_passTick 87 = .ok (.iload_n 2, 1) := by decide +kernel
theorem dX4_passTick_88 : decode cX4_passTick 88 = .ok (.aload_n 0, 1) := by decide +kernel
theorem dX4_passTick_89 : decode cX4_passTick 89 = .ok (.getfield 65, 3) := by decide +kernel
theorem dX4_passTick_92 : decode cX4_passTick 92 = .ok (.if_icmp .ge 50, 3) := by decide +kernel
theorem dX4_passTick_95 : decode cX4_passTick 95 = .ok (.aload_n 0, 1) := by decide +kernel
theorem dX4_passTick_96 : decode cX4_passTick 96 = .ok (.aload_n 0, 1) := by decide +kernel
theorem dX4_passTick_97 : decode cX4_passTick 97 = .ok (.getfield 19, 3) := by decide +kernel
theorem dX4_passTick_100 : decode cX4_passTick 100 = .ok (.iload_n 2, 1) := by decide +kernel
theorem dX4_passTick_101 : decode cX4_passTick 101 = .ok (.aaload, 1) := by decide +kernel
theorem dX4_passTick_102 : decode cX4_passTick 102 = .ok (.getfield 113, 3) := by decide +kernel
theorem dX4_passTick_105 : decode cX4_passTick 105 = .ok (.invokevirtual 147, 3) := by decide +kernel
theorem dX4_passTick_108 : decode cX4_passTick 108 = .ok (.istore_n 3, 1) := by decide +kernel
theorem dX4_passTick_109 : decode cX4_passTick 109 = .ok (.aload_n 0, 1) := by decide +kernel
theorem dX4_passTick_110 : decode cX4_passTick 110 = .ok (.iload_n 3, 1) := by decide +kernel
theorem dX4_passTick_111 : decode cX4_passTick 111 = .ok (.invokevirtual 150, 3) := by decide +kernel
theorem dX4_passTick_114 : decode cX4_passTick 114 = .ok (.ifCond .eq 22, 3) := by decide +kernel
theorem dX4_passTick_117 : decode cX4_passTick 117 = .ok (.aload_n 0, 1) := by decide +kernel
theorem dX4_passTick_118 : decode cX4_passTick 118 = .ok (.getfield 31, 3) := by decide +kernel
theorem dX4_passTick_121 : decode cX4_passTick 121 = .ok (.iload_n 3, 1) := by decide +kernel
theorem dX4_passTick_122 : decode cX4_passTick 122 = .ok (.aaload, 1) := by decide +kernel
theorem dX4_passTick_123 : decode cX4_passTick 123 = .ok (.getfield 156, 3) := by decide +kernel
theorem dX4_passTick_126 : decode cX4_passTick 126 = .ok (.iload_n 2, 1) := by decide +kernel
theorem dX4_passTick_127 : decode cX4_passTick 127 = .ok (.if_icmp .ne 9, 3) := by decide +kernel
theorem dX4_passTick_130 : decode cX4_passTick 130 = .ok (.aload_n 0, 1) := by decide +kernel
theorem dX4_passTick_131 : decode cX4_passTick 131 = .ok (.iload_n 2, 1) := by decide +kernel
theorem dX4_passTick_132 : decode cX4_passTick 132 = .ok (.iload_n 3, 1) := by decide +kernel
theorem dX4_passTick_133 : decode cX4_passTick 133 = .ok (.invokevirtual 159, 3) := by decide +kernel
theorem dX4_passTick_136 : decode cX4_passTick 136 = .ok (.iinc 2 1, 3) := by decide +kernel
theorem dX4_passTick_139 : decode cX4_passTick 139 = .ok (.goto (-52), 3) := by decide +kernel
theorem dX4_passTick_142 : decode cX4_passTick 142 = .ok (.iconst 0, 1) := by decide +kernel
theorem dX4_passTick_143 : decode cX4_passTick 143 = .ok (.istore_n 2, 1) := by decide +kernel
theorem dX4_passTick_144 : decode cX4_passTick 144 = .ok (.iload_n 2, 1) := by decide +kernel
theorem dX4_passTick_145 : decode cX4_passTick 145 = .ok (.aload_n 0, 1) := by decide +kernel
theorem dX4_passTick_146 : decode cX4_passTick 146 = .ok (.getfield 62, 3) := by decide +kernel
theorem dX4_passTick_149 : decode cX4_passTick 149 = .ok (.if_icmp .ge 19, 3) := by decide +kernel
theorem dX4_passTick_152 : decode cX4_passTick 152 = .ok (.aload_n 0, 1) := by decide +kernel
theorem dX4_passTick_153 : decode cX4_passTick 153 = .ok (.aload_n 0, 1) := by decide +kernel
theorem dX4_passTick_154 : decode cX4_passTick 154 = .ok (.getfield 11, 3) := by decide +kernel
theorem dX4_passTick_157 : decode cX4_passTick 157 = .ok (.iload_n 2, 1) := by decide +kernel
theorem dX4_passTick_158 : decode cX4_passTick 158 = .ok (.aaload, 1) := by decide +kernel
theorem dX4_passTick_159 : decode cX4_passTick 159 = .ok (.invokevirtual 163, 3) := by decide +kernel
theorem dX4_passTick_162 : decode cX4_passTick 162 = .ok (.iinc 2 1, 3) := by decide +kernel
theorem dX4_passTick_165 : decode cX4_passTick 165 = .ok (.goto (-21), 3) := by decide +kernel
theorem dX4_passTick_168 : decode cX4_passTick 168 = .ok (.return_, 1) := by decide +kernel
theorem dX4_scan_0 : decode cX4_scan 0 = .ok (.aload_n 1, 1) := by decide +kernel
theorem dX4_scan_1 : decode cX4_scan 1 = .ok (.dup, 1) := by decide +kernel
theorem dX4_scan_2 : decode cX4_scan 2 = .ok (.getfield 166, 3) := by decide +kernel
theorem dX4_scan_5 : decode cX4_scan 5 = .ok (.iconst 1, 1) := by decide +kernel
theorem dX4_scan_6 : decode cX4_scan 6 = .ok (.iadd, 1) := by decide +kernel
theorem dX4_scan_7 : decode cX4_scan 7 = .ok (.putfield 166, 3) := by decide +kernel
theorem dX4_scan_10 : decode cX4_scan 10 = .ok (.aload_n 1, 1) := by decide +kernel
theorem dX4_scan_11 : decode cX4_scan 11 = .ok (.getfield 166, 3) := by decide +kernel
theorem dX4_scan_14 : decode cX4_scan 14 = .ok (.iconst 1, 1) := by decide +kernel
theorem dX4_scan_15 : decode cX4_scan 15 = .ok (.if_icmp .le 13, 3) := by decide +kernel
theorem dX4_scan_18 : decode cX4_scan 18 = .ok (.aload_n 0, 1) := by decide +kernel
theorem dX4_scan_19 : decode cX4_scan 19 = .ok (.dup, 1) := by decide +kernel
theorem dX4_scan_20 : decode cX4_scan 20 = .ok (.getfield 77, 3) := by decide +kernel
theorem dX4_scan_23 : decode cX4_scan 23 = .ok (.iconst 1, 1) := by decide +kernel
theorem dX4_scan_24 : decode cX4_scan 24 = .ok (.iadd, 1) := by decide +kernel
theorem dX4_scan_25 : decode cX4_scan 25 = .ok (.putfield 77, 3) := by decide +kernel
theorem dX4_scan_28 : decode cX4_scan 28 = .ok (.aload_n 1, 1) := by decide +kernel
theorem dX4_scan_29 : decode cX4_scan 29 = .ok (.iconst (-1), 1) := by decide +kernel
theorem dX4_scan_30 : decode cX4_scan 30 = .ok (.putfield 156, 3) := by decide +kernel
theorem dX4_scan_33 : decode cX4_scan 33 = .ok (.aload_n 0, 1) := by decide +kernel
theorem dX4_scan_34 : decode cX4_scan 34 = .ok (.aload_n 0, 1) := by decide +kernel
theorem dX4_scan_35 : decode cX4_scan 35 = .ok (.getfield 56, 3) := by decide +kernel
theorem dX4_scan_38 : decode cX4_scan 38 = .ok (.invokevirtual 133, 3) := by decide +kernel
theorem dX4_scan_41 : decode cX4_scan 41 = .ok (.astore_n 2, 1) := by decide +kernel
theorem dX4_scan_42 : decode cX4_scan 42 = .ok (.aload_n 2, 1) := by decide +kernel
theorem dX4_scan_43 : decode cX4_scan 43 = .ok (.ifnonnull 11, 3) := by decide +kernel
theorem dX4_scan_46 : decode cX4_scan 46 = .ok (.aload_n 1, 1) := by decide +kernel
theorem dX4_scan_47 : decode cX4_scan 47 = .ok (.iconst 5, 1) := by decide +kernel
theorem dX4_scan_48 : decode cX4_scan 48 = .ok (.putfield 169, 3) := by decide +kernel
theorem dX4_scan_51 : decode cX4_scan 51 = .ok (.goto 54, 3) := by decide +kernel
theorem dX4_scan_54 : decode cX4_scan 54 = .ok (.aload_n 1, 1) := by decide +kernel
theorem dX4_scan_55 : decode cX4_scan 55 = .ok (.getfield 172, 3) := by decide +kernel
theorem dX4_scan_58 : decode cX4_scan 58 = .ok (.iconst 2, 1) := by decide +kernel
theorem dX4_scan_59 : decode cX4_scan 59 = .ok (.if_icmp .ne 16, 3) := by decide +kernel
theorem dX4_scan_62 : decode cX4_scan 62 = .ok (.aload_n 0, 1) := by decide +kernel
theorem dX4_scan_63 : decode cX4_scan 63 = .ok (.aload_n 1, 1) := by decide +kernel
theorem dX4_scan_64 : decode cX4_scan 64 = .ok (.aload_n 2, 1) := by decide +kernel
theorem dX4_scan_65 : decode cX4_scan 65 = .ok (.getfield 175, 3) := by decide +kernel
theorem dX4_scan_68 : decode cX4_scan 68 = .ok (.iconst 2, 1) := by decide +kernel
theorem dX4_scan_69 : decode cX4_scan 69 = .ok (.invokevirtual 178, 3) := by decide +kernel
theorem dX4_scan_72 : decode cX4_scan 72 = .ok (.goto 33, 3) := by decide +kernel
theorem dX4_scan_75 : decode cX4_scan 75 = .ok (.aload_n 1, 1) := by decide +kernel
theorem dX4_scan_76 : decode cX4_scan 76 = .ok (.invokevirtual 182, 3) := by decide +kernel
theorem dX4_scan_79 : decode cX4_scan 79 = .ok (.aload_n 2, 1) := by decide +kernel
theorem dX4_scan_80 : decode cX4_scan 80 = .ok (.getfield 186, 3) := by decide +kernel
theorem dX4_scan_83 : decode cX4_scan 83 = .ok (.if_icmp .le 16, 3) := by decide +kernel
theorem dX4_scan_86 : decode cX4_scan 86 = .ok (.aload_n 0, 1) := by decide +kernel
theorem dX4_scan_87 : decode cX4_scan 87 = .ok (.aload_n 1, 1) := by decide +kernel
theorem dX4_scan_88 : decode cX4_scan 88 = .ok (.aload_n 2, 1) := by decide +kernel
theorem dX4_scan_89 : decode cX4_scan 89 = .ok (.getfield 175, 3) := by decide +kernel
theorem dX4_scan_92 : decode cX4_scan 92 = .ok (.iconst 3, 1) := by decide +kernel
theorem dX4_scan_93 : decode cX4_scan 93 = .ok (.invokevirtual 178, 3) := by decide +kernel
theorem dX4_scan_96 : decode cX4_scan 96 = .ok (.goto 9, 3) := by decide +kernel
theorem dX4_scan_99 : decode cX4_scan 99 = .ok (.aload_n 0, 1) := by decide +kernel
theorem dX4_scan_100 : decode cX4_scan 100 = .ok (.aload_n 1, 1) := by decide +kernel
theorem dX4_scan_101 : decode cX4_scan 101 = .ok (.aload_n 2, 1) := by decide +kernel
theorem dX4_scan_102 : decode cX4_scan 102 = .ok (.invokevirtual 189, 3) := by decide +kernel
theorem dX4_scan_105 : decode cX4_scan 105 = .ok (.return_, 1) := by decide +kernel
theorem dX4_aimByRule_0 : decode cX4_aimByRule 0 = .ok (.aload_n 2, 1) := by decide +kernel
theorem dX4_aimByRule_1 : decode cX4_aimByRule 1 = .ok (.aload_n 1, 1) := by decide +kernel
theorem dX4_aimByRule_2 : decode cX4_aimByRule 2 = .ok (.invokevirtual 193, 3) := by decide +kernel
theorem dX4_aimByRule_5 : decode cX4_aimByRule 5 = .ok (.invokevirtual 196, 3) := by decide +kernel
theorem dX4_aimByRule_8 : decode cX4_aimByRule 8 = .ok (.istore_n 3, 1) := by decide +kernel
theorem dX4_aimByRule_9 : decode cX4_aimByRule 9 = .ok (.iload_n 3, 1) := by decide +kernel
theorem dX4_aimByRule_10 : decode cX4_aimByRule 10 = .ok (.iconst (-1), 1) := by decide +kernel
theorem dX4_aimByRule_11 : decode cX4_aimByRule 11 = .ok (.if_icmp .ne 14, 3) := by decide +kernel
theorem dX4_aimByRule_14 : decode cX4_aimByRule 14 = .ok (.aload_n 0, 1) := by decide +kernel
theorem dX4_aimByRule_15 : decode cX4_aimByRule 15 = .ok (.aload_n 1, 1) := by decide +kernel
theorem dX4_aimByRule_16 : decode cX4_aimByRule 16 = .ok (.aload_n 2, 1) := by decide +kernel
theorem dX4_aimByRule_17 : decode cX4_aimByRule 17 = .ok (.getfield 175, 3) := by decide +kernel
theorem dX4_aimByRule_20 : decode cX4_aimByRule 20 = .ok (.iconst 4, 1) := by decide +kernel
theorem dX4_aimByRule_21 : decode cX4_aimByRule 21 = .ok (.invokevirtual 178, 3) := by decide +kernel
theorem dX4_aimByRule_24 : decode cX4_aimByRule 24 = .ok (.return_, 1) := by decide +kernel
theorem dX4_aimByRule_25 : decode cX4_aimByRule 25 = .ok (.iconst 0, 1) := by decide +kernel
theorem dX4_aimByRule_26 : decode cX4_aimByRule 26 = .ok (.istore 4, 2) := by decide +kernel
theorem dX4_aimByRule_28 : decode cX4_aimByRule 28 = .ok (.iload 4, 2) := by decide +kernel
theorem dX4_aimByRule_30 : decode cX4_aimByRule 30 = .ok (.aload_n 2, 1) := by decide +kernel
theorem dX4_aimByRule_31 : decode cX4_aimByRule 31 = .ok (.getfield 199, 3) := by decide +kernel
theorem dX4_aimByRule_34 : decode cX4_aimByRule 34 = .ok (.iload_n 3, 1) := by decide +kernel
theorem dX4_aimByRule_35 : decode cX4_aimByRule 35 = .ok (.iaload, 1) := by decide +kernel
theorem dX4_aimByRule_36 : decode cX4_aimByRule 36 = .ok (.if_icmp .ge 49, 3) := by decide +kernel
theorem dX4_aimByRule_39 : decode cX4_aimByRule 39 = .ok (.aload_n 2, 1) := by decide +kernel
theorem dX4_aimByRule_40 : decode cX4_aimByRule 40 = .ok (.iload_n 3, 1) := by decide +kernel
theorem dX4_aimByRule_41 : decode cX4_aimByRule 41 = .ok (.iload 4, 2) := by decide +kernel
theorem dX4_aimByRule_43 : decode cX4_aimByRule 43 = .ok (.invokevirtual 202, 3) := by decide +kernel
theorem dX4_aimByRule_46 : decode cX4_aimByRule 46 = .ok (.istore 5, 2) := by decide +kernel
theorem dX4_aimByRule_48 : decode cX4_aimByRule 48 = .ok (.aload_n 0, 1) := by decide +kernel
theorem dX4_aimByRule_49 : decode cX4_aimByRule 49 = .ok (.iload 5, 2) := by decide +kernel
theorem dX4_aimByRule_51 : decode cX4_aimByRule 51 = .ok (.aload_n 1, 1) := by decide +kernel
theorem dX4_aimByRule_52 : decode cX4_aimByRule 52 = .ok (.invokevirtual 206, 3) := by decide +kernel
theorem dX4_aimByRule_55 : decode cX4_aimByRule 55 = .ok (.ifCond .eq 24, 3) := by decide +kernel
theorem dX4_aimByRule_58 : decode cX4_aimByRule 58 = .ok (.aload_n 1, 1) := by decide +kernel
theorem dX4_aimByRule_59 : decode cX4_aimByRule 59 = .ok (.iload 5, 2) := by decide +kernel
theorem dX4_aimByRule_61 : decode cX4_aimByRule 61 = .ok (.putfield 156, 3) := by decide +kernel
theorem dX4_aimByRule_64 : decode cX4_aimByRule 64 = .ok (.aload_n 1, 1) := by decide +kernel
theorem dX4_aimByRule_65 : decode cX4_aimByRule 65 = .ok (.iload 4, 2) := by decide +kernel
theorem dX4_aimByRule_67 : decode cX4_aimByRule 67 = .ok (.ifCond .ne 7, 3) := by decide +kernel
theorem dX4_aimByRule_70 : decode cX4_aimByRule 70 = .ok (.iconst 0, 1) := by decide +kernel
theorem dX4_aimByRule_71 : decode cX4_aimByRule 71 = .ok (.goto 4, 3) := by decide +kernel
theorem dX4_aimByRule_74 : decode cX4_aimByRule 74 = .ok (.iconst 1, 1) := by decide +kernel
theorem dX4_aimByRule_75 : decode cX4_aimByRule 75 = .ok (.putfield 169, 3) := by decide +kernel
theorem dX4_aimByRule_78 : decode cX4_aimByRule 78 = .ok (.return_, 1) := by decide +kernel
theorem dX4_aimByRule_79 : decode cX4_aimByRule 79 = .ok (.iinc 4 1, 3) := by decide +kernel
theorem dX4_aimByRule_82 : decode cX4_aimByRule 82 = .ok (.goto (-54), 3) := by decide +kernel
theorem dX4_aimByRule_85 : decode cX4_aimByRule 85 = .ok (.aload_n 1, 1) := by decide +kernel
theorem dX4_aimByRule_86 : decode cX4_aimByRule 86 = .ok (.bipush 6, 2) := by decide +kernel
theorem dX4_aimByRule_88 : decode cX4_aimByRule 88 = .ok (.putfield 169, 3) := by decide +kernel
theorem dX4_aimByRule_91 : decode cX4_aimByRule 91 = .ok (.return_, 1) := by decide +kernel
theorem dX4_aimAtException_0 : decode cX4_aimAtException 0 = .ok (.aload_n 0, 1) := by decide +kernel
theorem dX4_aimAtException_1 : decode cX4_aimAtException 1 = .ok (.iload_n 2, 1) := by decide +kernel
theorem dX4_aimAtException_2 : decode cX4_aimAtException 2 = .ok (.aload_n 1, 1) := by decide +kernel
theorem dX4_aimAtException_3 : decode cX4_aimAtException 3 = .ok (.invokevirtual 206, 3) := by decide +kernel
theorem dX4_aimAtException_6 : decode cX4_aimAtException 6 = .ok (.ifCond .eq 16, 3) := by decide +kernel
theorem dX4_aimAtException_9 : decode cX4_aimAtException 9 = .ok (.aload_n 1, 1) := by decide +kernel
theorem dX4_aimAtException_10 : decode cX4_aimAtException 10 = .ok (.iload_n 2, 1) := by decide +kernel
theorem dX4_aimAtException_11 : decode cX4_aimAtException 11 = .ok (.putfield 156, 3) := by decide +kernel
theorem dX4_aimAtException_14 : decode cX4_aimAtException 14 = .ok (.aload_n 1, 1) := by decide +kernel
theorem dX4_aimAtException_15 : decode cX4_aimAtException 15 = .ok (.iload_n 3, 1) := by decide +kernel
theorem dX4_aimAtException_16 : decode cX4_aimAtException 16 = .ok (.putfield 169, 3) := by decide +kernel
theorem dX4_aimAtException_19 : decode cX4_aimAtException 19 = .ok (.goto 11, 3) := by decide +kernel
theorem dX4_aimAtException_22 : decode cX4_aimAtException 22 = .ok (.aload_n 1, 1) := by decide +kernel
theorem dX4_aimAtException_23 : decode cX4_aimAtException 23 = .ok (.iload_n 3, 1) := by decide +kernel
theorem dX4_aimAtException_24 : decode cX4_aimAtException 24 = .ok (.bipush 10, 2) := by decide +kernel
theorem dX4_aimAtException_26 : decode cX4_aimAtException 26 = .ok (.iadd, 1) := by decide +kernel
theorem dX4_aimAtException_27 : decode cX4_aimAtException 27 = .ok (.putfield 169, 3) := by decide +kernel
theorem dX4_aimAtException_30 : decode cX4_aimAtException 30 = .ok (.return_, 1) := by decide +kernel
theorem dX4_isOpenFor_0 : decode cX4_isOpenFor 0 = .ok (.iload_n 1, 1) := by decide +kernel
theorem dX4_isOpenFor_1 : decode cX4_isOpenFor 1 = .ok (.iconst 0, 1) := by decide +kernel
theorem dX4_isOpenFor_2 : decode cX4_isOpenFor 2 = .ok (.aload_n 0, 1) := by decide +kernel
theorem dX4_isOpenFor_3 : decode cX4_isOpenFor 3 = .ok (.getfield 65, 3) := by decide +kernel
theorem dX4_isOpenFor_6 : decode cX4_isOpenFor 6 = .ok (.iconst 1, 1) := by decide +kernel
theorem dX4_isOpenFor_7 : decode cX4_isOpenFor 7 = .ok (.isub, 1) := by decide +kernel
theorem dX4_isOpenFor_8 : decode cX4_isOpenFor 8 = .ok (.invokestatic 106, 3) := by decide +kernel
theorem dX4_isOpenFor_11 : decode cX4_isOpenFor 11 = .ok (.ifCond .eq 27, 3) := by decide +kernel
theorem dX4_isOpenFor_14 : decode cX4_isOpenFor 14 = .ok (.aload_n 0, 1) := by decide +kernel
theorem dX4_isOpenFor_15 : decode cX4_isOpenFor 15 = .ok (.getfield 19, 3) := by decide +kernel
theorem dX4_isOpenFor_18 : decode cX4_isOpenFor 18 = .ok (.iload_n 1, 1) := by decide +kernel
theorem dX4_isOpenFor_19 : decode cX4_isOpenFor 19 = .ok (.aaload, 1) := by decide +kernel
theorem dX4_isOpenFor_20 : decode cX4_isOpenFor 20 = .ok (.invokevirtual 210, 3) := by decide +kernel
theorem dX4_isOpenFor_23 : decode cX4_isOpenFor 23 = .ok (.ifCond .eq 15, 3) := by decide +kernel
theorem dX4_isOpenFor_26 : decode cX4_isOpenFor 26 = .ok (.aload_n 2, 1) := by decide +kernel
theorem dX4_isOpenFor_27 : decode cX4_isOpenFor 27 = .ok (.iload_n 1, 1) := by decide +kernel
theorem dX4_isOpenFor_28 : decode cX4_isOpenFor 28 = .ok (.invokevirtual 214, 3) := by decide +kernel
theorem dX4_isOpenFor_31 : decode cX4_isOpenFor 31 = .ok (.ifCond .ne 7, 3) := by decide +kernel
theorem dX4_isOpenFor_34 : decode cX4_isOpenFor 34 = .ok (.iconst 1, 1) := by decide +kernel
theorem dX4_isOpenFor_35 : decode cX4_isOpenFor 35 = .ok (.goto 4, 3) := by decide +kernel
theorem dX4_isOpenFor_38 : decode cX4_isOpenFor 38 = .ok (.iconst 0, 1) := by decide +kernel
theorem dX4_isOpenFor_39 : decode cX4_isOpenFor 39 = .ok (.ireturn, 1) := by decide +kernel
theorem dX4_tryParcel_0 : decode cX4_tryParcel 0 = .ok (.aload_n 0, 1) := by decide +kernel
theorem dX4_tryParcel_1 : decode cX4_tryParcel 1 = .ok (.getfield 19, 3) := by decide +kernel
theorem dX4_tryParcel_4 : decode cX4_tryParcel 4 = .ok (.iload_n 1, 1) := by decide +kernel
theorem dX4_tryParcel_5 : decode cX4_tryParcel 5 = .ok (.aaload, 1) := by decide +kernel
theorem dX4_tryParcel_6 : decode cX4_tryParcel 6 = .ok (.astore_n 3, 1) := by decide +kernel
theorem dX4_tryParcel_7 : decode cX4_tryParcel 7 = .ok (.aload_n 0, 1) := by decide +kernel
theorem dX4_tryParcel_8 : decode cX4_tryParcel 8 = .ok (.getfield 31, 3) := by decide +kernel
theorem dX4_tryParcel_11 : decode cX4_tryParcel 11 = .ok (.iload_n 2, 1) := by decide +kernel
theorem dX4_tryParcel_12 : decode cX4_tryParcel 12 = .ok (.aaload, 1) := by decide +kernel
theorem dX4_tryParcel_13 : decode cX4_tryParcel 13 = .ok (.astore 4, 2) := by decide +kernel
theorem dX4_tryParcel_15 : decode cX4_tryParcel 15 = .ok (.aload 4, 2) := by decide +kernel
theorem dX4_tryParcel_17 : decode cX4_tryParcel 17 = .ok (.iconst (-1), 1) := by decide +kernel
theorem dX4_tryParcel_18 : decode cX4_tryParcel 18 = .ok (.putfield 156, 3) := by decide +kernel
theorem dX4_tryParcel_21 : decode cX4_tryParcel 21 = .ok (.aload_n 3, 1) := by decide +kernel
theorem dX4_tryParcel_22 : decode cX4_tryParcel 22 = .ok (.invokevirtual 210, 3) := by decide +kernel
theorem dX4_tryParcel_25 : decode cX4_tryParcel 25 = .ok (.ifCond .ne 16, 3) := by decide +kernel
theorem dX4_tryParcel_28 : decode cX4_tryParcel 28 = .ok (.aload_n 3, 1) := by decide +kernel
theorem dX4_tryParcel_29 : decode cX4_tryParcel 29 = .ok (.dup, 1) := by decide +kernel
theorem dX4_tryParcel_30 : decode cX4_tryParcel 30 = .ok (.getfield 217, 3) := by decide +kernel
theorem dX4_tryParcel_33 : decode cX4_tryParcel 33 = .ok (.iconst 1, 1) := by decide +kernel
theorem dX4_tryParcel_34 : decode cX4_tryParcel 34 = .ok (.iadd, 1) := by decide +kernel
theorem dX4_tryParcel_35 : decode cX4_tryParcel 35 = .ok (.putfield 217, 3) := by decide +kernel
theorem dX4_tryParcel_38 : decode cX4_tryParcel 38 = .ok (.goto 52, 3) := by decide +kernel
theorem dX4_tryParcel_41 : decode cX4_tryParcel 41 = .ok (.aload 4, 2) := by decide +kernel
theorem dX4_tryParcel_43 : decode cX4_tryParcel 43 = .ok (.getfield 220, 3) := by decide +kernel
theorem dX4_tryParcel_46 : decode cX4_tryParcel 46 = .ok (.aload_n 3, 1) := by decide +kernel
theorem dX4_tryParcel_47 : decode cX4_tryParcel 47 = .ok (.getfield 223, 3) := by decide +kernel
theorem dX4_tryParcel_50 : decode cX4_tryParcel 50 = .ok (.if_icmp .le 16, 3) := by decide +kernel
theorem dX4_tryParcel_53 : decode cX4_tryParcel 53 = .ok (.aload 4, 2) := by decide +kernel
theorem dX4_tryParcel_55 : decode cX4_tryParcel 55 = .ok (.iload_n 1, 1) := by decide +kernel
theorem dX4_tryParcel_56 : decode cX4_tryParcel 56 = .ok (.invokevirtual 226, 3) := by decide +kernel
theorem dX4_tryParcel_59 : decode cX4_tryParcel 59 = .ok (.aload_n 3, 1) := by decide +kernel
theorem dX4_tryParcel_60 : decode cX4_tryParcel 60 = .ok (.invokevirtual 229, 3) := by decide +kernel
theorem dX4_tryParcel_63 : decode cX4_tryParcel 63 = .ok (.goto 27, 3) := by decide +kernel
theorem dX4_tryParcel_66 : decode cX4_tryParcel 66 = .ok (.aload_n 3, 1) := by decide +kernel
theorem dX4_tryParcel_67 : decode cX4_tryParcel 67 = .ok (.aload_n 0, 1) := by decide +kernel
theorem dX4_tryParcel_68 : decode cX4_tryParcel 68 = .ok (.getfield 56, 3) := by decide +kernel
theorem dX4_tryParcel_71 : decode cX4_tryParcel 71 = .ok (.invokevirtual 232, 3) := by decide +kernel
theorem dX4_tryParcel_74 : decode cX4_tryParcel 74 = .ok (.ifCond .eq 10, 3) := by decide +kernel
theorem dX4_tryParcel_77 : decode cX4_tryParcel 77 = .ok (.aload_n 3, 1) := by decide +kernel
theorem dX4_tryParcel_78 : decode cX4_tryParcel 78 = .ok (.invokevirtual 229, 3) := by decide +kernel
theorem dX4_tryParcel_81 : decode cX4_tryParcel 81 = .ok (.goto 9, 3) := by decide +kernel
theorem dX4_tryParcel_84 : decode cX4_tryParcel 84 = .ok (.aload_n 0, 1) := by decide +kernel
theorem dX4_tryParcel_85 : decode cX4_tryParcel 85 = .ok (.iload_n 1, 1) := by decide +kernel
theorem dX4_tryParcel_86 : decode cX4_tryParcel 86 = .ok (.iload_n 2, 1) := by decide +kernel
theorem dX4_tryParcel_87 : decode cX4_tryParcel 87 = .ok (.invokevirtual 235, 3) := by decide +kernel
theorem dX4_tryParcel_90 : decode cX4_tryParcel 90 = .ok (.return_, 1) := by decide +kernel
theorem dX4_drop_0 : decode cX4_drop 0 = .ok (.aload_n 0, 1) := by decide +kernel
theorem dX4_drop_1 : decode cX4_drop 1 = .ok (.getfield 31, 3) := by decide +kernel
theorem dX4_drop_4 : decode cX4_drop 4 = .ok (.iload_n 2, 1) := by decide +kernel
theorem dX4_drop_5 : decode cX4_drop 5 = .ok (.aaload, 1) := by decide +kernel
theorem dX4_drop_6 : decode cX4_drop 6 = .ok (.astore_n 3, 1) := by decide +kernel
theorem dX4_drop_7 : decode cX4_drop 7 = .ok (.aload_n 0, 1) := by decide +kernel
theorem dX4_drop_8 : decode cX4_drop 8 = .ok (.getfield 35, 3) := by decide +kernel
theorem dX4_drop_11 : decode cX4_drop 11 = .ok (.aload_n 0, 1) := by decide +kernel
theorem dX4_drop_12 : decode cX4_drop 12 = .ok (.aload_n 0, 1) := by decide +kernel
theorem dX4_drop_13 : decode cX4_drop 13 = .ok (.getfield 19, 3) := by decide +kernel
theorem dX4_drop_16 : decode cX4_drop 16 = .ok (.iload_n 1, 1) := by decide +kernel
theorem dX4_drop_17 : decode cX4_drop 17 = .ok (.aaload, 1) := by decide +kernel
theorem dX4_drop_18 : decode cX4_drop 18 = .ok (.getfield 113, 3) := by decide +kernel
theorem dX4_drop_21 : decode cX4_drop 21 = .ok (.invokevirtual 141, 3) := by decide +kernel
theorem dX4_drop_24 : decode cX4_drop 24 = .ok (.iconst (-1), 1) := by decide +kernel
theorem dX4_drop_25 : decode cX4_drop 25 = .ok (.iastore, 1) := by decide +kernel
theorem dX4_drop_26 : decode cX4_drop 26 = .ok (.aload_n 3, 1) := by decide +kernel
theorem dX4_drop_27 : decode cX4_drop 27 = .ok (.iconst 2, 1) := by decide +kernel
theorem dX4_drop_28 : decode cX4_drop 28 = .ok (.putfield 238, 3) := by decide +kernel
theorem dX4_drop_31 : decode cX4_drop 31 = .ok (.aload_n 3, 1) := by decide +kernel
theorem dX4_drop_32 : decode cX4_drop 32 = .ok (.iload_n 1, 1) := by decide +kernel
theorem dX4_drop_33 : decode cX4_drop 33 = .ok (.putfield 241, 3) := by decide +kernel
theorem dX4_drop_36 : decode cX4_drop 36 = .ok (.aload_n 3, 1) := by decide +kernel
theorem dX4_drop_37 : decode cX4_drop 37 = .ok (.aload_n 0, 1) := by decide +kernel
theorem dX4_drop_38 : decode cX4_drop 38 = .ok (.getfield 56, 3) := by decide +kernel
theorem dX4_drop_41 : decode cX4_drop 41 = .ok (.putfield 244, 3) := by decide +kernel
theorem dX4_drop_44 : decode cX4_drop 44 = .ok (.aload_n 3, 1) := by decide +kernel
theorem dX4_drop_45 : decode cX4_drop 45 = .ok (.aload_n 0, 1) := by decide +kernel
theorem dX4_drop_46 : decode cX4_drop 46 = .ok (.aload_n 3, 1) := by decide +kernel
theorem dX4_drop_47 : decode cX4_drop 47 = .ok (.iload_n 1, 1) := by decide +kernel
theorem dX4_drop_48 : decode cX4_drop 48 = .ok (.invokevirtual 247, 3) := by decide +kernel
theorem dX4_drop_51 : decode cX4_drop 51 = .ok (.putfield 251, 3) := by decide +kernel
theorem dX4_drop_54 : decode cX4_drop 54 = .ok (.aload_n 0, 1) := by decide +kernel
theorem dX4_drop_55 : decode cX4_drop 55 = .ok (.getfield 19, 3) := by decide +kernel
theorem dX4_drop_58 : decode cX4_drop 58 = .ok (.iload_n 1, 1) := by decide +kernel
theorem dX4_drop_59 : decode cX4_drop 59 = .ok (.aaload, 1) := by decide +kernel
theorem dX4_drop_60 : decode cX4_drop 60 = .ok (.aload_n 0, 1) := by decide +kernel
theorem dX4_drop_61 : decode cX4_drop 61 = .ok (.getfield 56, 3) := by decide +kernel
theorem dX4_drop_64 : decode cX4_drop 64 = .ok (.invokevirtual 254, 3) := by decide +kernel
theorem dX4_drop_67 : decode cX4_drop 67 = .ok (.aload_n 0, 1) := by decide +kernel
theorem dX4_drop_68 : decode cX4_drop 68 = .ok (.getfield 42, 3) := by decide +kernel
theorem dX4_drop_71 : decode cX4_drop 71 = .ok (.aload_n 3, 1) := by decide +kernel
theorem dX4_drop_72 : decode cX4_drop 72 = .ok (.getfield 251, 3) := by decide +kernel
theorem dX4_drop_75 : decode cX4_drop 75 = .ok (.dup2, 1) := by decide +kernel
theorem dX4_drop_76 : decode cX4_drop 76 = .ok (.iaload, 1) := by decide +kernel
theorem dX4_drop_77 : decode cX4_drop 77 = .ok (.iconst 1, 1) := by decide +kernel
theorem dX4_drop_78 : decode cX4_drop 78 = .ok (.iadd, 1) := by decide +kernel
theorem dX4_drop_79 : decode cX4_drop 79 = .ok (.iastore, 1) := by decide +kernel
theorem dX4_drop_80 : decode cX4_drop 80 = .ok (.aload_n 0, 1) := by decide +kernel
theorem dX4_drop_81 : decode cX4_drop 81 = .ok (.iload_n 2, 1) := by decide +kernel
theorem dX4_drop_82 : decode cX4_drop 82 = .ok (.invokevirtual 257, 3) := by decide +kernel
theorem dX4_drop_85 : decode cX4_drop 85 = .ok (.return_, 1) := by decide +kernel
theorem dX4_enter_0 : decode cX4_enter 0 = .ok (.aload_n 0, 1) := by decide +kernel
theorem dX4_enter_1 : decode cX4_enter 1 = .ok (.getfield 74, 3) := by decide +kernel
theorem dX4_enter_4 : decode cX4_enter 4 = .ok (.bipush 60, 2) := by decide +kernel
theorem dX4_enter_6 : decode cX4_enter 6 = .ok (.if_icmp .ge 23, 3) := by decide +kernel
theorem dX4_enter_9 : decode cX4_enter 9 = .ok (.aload_n 0, 1) := by decide +kernel
theorem dX4_enter_10 : decode cX4_enter 10 = .ok (.getfield 39, 3) := by decide +kernel
theorem dX4_enter_13 : decode cX4_enter 13 = .ok (.aload_n 0, 1) := by decide +kernel
theorem dX4_enter_14 : decode cX4_enter 14 = .ok (.getfield 74, 3) := by decide +kernel
theorem dX4_enter_17 : decode cX4_enter 17 = .ok (.iload_n 1, 1) := by decide +kernel
theorem dX4_enter_18 : decode cX4_enter 18 = .ok (.iastore, 1) := by decide +kernel
theorem dX4_enter_19 : decode cX4_enter 19 = .ok (.aload_n 0, 1) := by decide +kernel
theorem dX4_enter_20 : decode cX4_enter 20 = .ok (.dup, 1) := by decide +kernel
theorem dX4_enter_21 : decode cX4_enter 21 = .ok (.getfield 74, 3) := by decide +kernel
theorem dX4_enter_24 : decode cX4_enter 24 = .ok (.iconst 1, 1) := by decide +kernel
theorem dX4_enter_25 : decode cX4_enter 25 = .ok (.iadd, 1) := by decide +kernel
theorem dX4_enter_26 : decode cX4_enter 26 = .ok (.putfield 74, 3) := by decide +kernel
theorem dX4_enter_29 : decode cX4_enter 29 = .ok (.return_, 1) := by decide +kernel
theorem dX4_verdictOf_0 : decode cX4_verdictOf 0 = .ok (.aload_n 0, 1) := by decide +kernel
theorem dX4_verdictOf_1 : decode cX4_verdictOf 1 = .ok (.aload_n 0, 1) := by decide +kernel
theorem dX4_verdictOf_2 : decode cX4_verdictOf 2 = .ok (.getfield 56, 3) := by decide +kernel
theorem dX4_verdictOf_5 : decode cX4_verdictOf 5 = .ok (.invokevirtual 133, 3) := by decide +kernel
theorem dX4_verdictOf_8 : decode cX4_verdictOf 8 = .ok (.astore_n 3, 1) := by decide +kernel
theorem dX4_verdictOf_9 : decode cX4_verdictOf 9 = .ok (.aload_n 3, 1) := by decide +kernel
theorem dX4_verdictOf_10 : decode cX4_verdictOf 10 = .ok (.ifnull 13, 3) := by decide +kernel
theorem dX4_verdictOf_13 : decode cX4_verdictOf 13 = .ok (.aload_n 3, 1) := by decide +kernel
theorem dX4_verdictOf_14 : decode cX4_verdictOf 14 = .ok (.getfield 175, 3) := by decide +kernel
theorem dX4_verdictOf_17 : decode cX4_verdictOf 17 = .ok (.iload_n 2, 1) := by decide +kernel
theorem dX4_verdictOf_18 : decode cX4_verdictOf 18 = .ok (.if_icmp .ne 5, 3) := by decide +kernel
theorem dX4_verdictOf_21 : decode cX4_verdictOf 21 = .ok (.iconst 1, 1) := by decide +kernel
theorem dX4_verdictOf_22 : decode cX4_verdictOf 22 = .ok (.ireturn, 1) := by decide +kernel
theorem dX4_verdictOf_23 : decode cX4_verdictOf 23 = .ok (.aload_n 3, 1) := by decide +kernel
theorem dX4_verdictOf_24 : decode cX4_verdictOf 24 = .ok (.ifnull 14, 3) := by decide +kernel
theorem dX4_verdictOf_27 : decode cX4_verdictOf 27 = .ok (.aload_n 3, 1) := by decide +kernel
theorem dX4_verdictOf_28 : decode cX4_verdictOf 28 = .ok (.aload_n 1, 1) := by decide +kernel
theorem dX4_verdictOf_29 : decode cX4_verdictOf 29 = .ok (.getfield 117, 3) := by decide +kernel
theorem dX4_verdictOf_32 : decode cX4_verdictOf 32 = .ok (.invokevirtual 196, 3) := by decide +kernel
theorem dX4_verdictOf_35 : decode cX4_verdictOf 35 = .ok (.goto 4, 3) := by decide +kernel
theorem dX4_verdictOf_38 : decode cX4_verdictOf 38 = .ok (.iconst (-1), 1) := by decide +kernel
theorem dX4_verdictOf_39 : decode cX4_verdictOf 39 = .ok (.istore 4, 2) := by decide +kernel
theorem dX4_verdictOf_41 : decode cX4_verdictOf 41 = .ok (.iload 4, 2) := by decide +kernel
theorem dX4_verdictOf_43 : decode cX4_verdictOf 43 = .ok (.iconst (-1), 1) := by decide +kernel
theorem dX4_verdictOf_44 : decode cX4_verdictOf 44 = .ok (.if_icmp .eq 15, 3) := by decide +kernel
theorem dX4_verdictOf_47 : decode cX4_verdictOf 47 = .ok (.aload_n 3, 1) := by decide +kernel
theorem dX4_verdictOf_48 : decode cX4_verdictOf 48 = .ok (.iload 4, 2) := by decide +kernel
theorem dX4_verdictOf_50 : decode cX4_verdictOf 50 = .ok (.iload_n 2, 1) := by decide +kernel
theorem dX4_verdictOf_51 : decode cX4_verdictOf 51 = .ok (.invokevirtual 260, 3) := by decide +kernel
theorem dX4_verdictOf_54 : decode cX4_verdictOf 54 = .ok (.ifCond .eq 5, 3) := by decide +kernel
theorem dX4_verdictOf_57 : decode cX4_verdictOf 57 = .ok (.iconst 0, 1) := by decide +kernel
theorem dX4_verdictOf_58 : decode cX4_verdictOf 58 = .ok (.ireturn, 1) := by decide +kernel
theorem dX4_verdictOf_59 : decode cX4_verdictOf 59 = .ok (.aload_n 1, 1) := by decide +kernel
theorem dX4_verdictOf_60 : decode cX4_verdictOf 60 = .ok (.getfield 172, 3) := by decide +kernel
theorem dX4_verdictOf_63 : decode cX4_verdictOf 63 = .ok (.iconst 1, 1) := by decide +kernel
theorem dX4_verdictOf_64 : decode cX4_verdictOf 64 = .ok (.if_icmp .ne 7, 3) := by decide +kernel
theorem dX4_verdictOf_67 : decode cX4_verdictOf 67 = .ok (.iconst 2, 1) := by decide +kernel
theorem dX4_verdictOf_68 : decode cX4_verdictOf 68 = .ok (.goto 4, 3) := by decide +kernel
theorem dX4_verdictOf_71 : decode cX4_verdictOf 71 = .ok (.iconst 3, 1) := by decide +kernel
theorem dX4_verdictOf_72 : decode cX4_verdictOf 72 = .ok (.ireturn, 1) := by decide +kernel
theorem dX4_load_0 : decode cX4_load 0 = .ok (.aload_n 0, 1) := by decide +kernel
theorem dX4_load_1 : decode cX4_load 1 = .ok (.aload_n 1, 1) := by decide +kernel
theorem dX4_load_2 : decode cX4_load 2 = .ok (.getfield 110, 3) := by decide +kernel
theorem dX4_load_5 : decode cX4_load 5 = .ok (.invokevirtual 141, 3) := by decide +kernel
theorem dX4_load_8 : decode cX4_load 8 = .ok (.istore_n 2, 1) := by decide +kernel
theorem dX4_load_9 : decode cX4_load 9 = .ok (.aload_n 1, 1) := by decide +kernel
theorem dX4_load_10 : decode cX4_load 10 = .ok (.invokevirtual 264, 3) := by decide +kernel
theorem dX4_load_13 : decode cX4_load 13 = .ok (.istore_n 3, 1) := by decide +kernel
theorem dX4_load_14 : decode cX4_load 14 = .ok (.aload_n 0, 1) := by decide +kernel
theorem dX4_load_15 : decode cX4_load 15 = .ok (.getfield 35, 3) := by decide +kernel
theorem dX4_load_18 : decode cX4_load 18 = .ok (.iload_n 2, 1) := by decide +kernel
theorem dX4_load_19 : decode cX4_load 19 = .ok (.iaload, 1) := by decide +kernel
theorem dX4_load_20 : decode cX4_load 20 = .ok (.iconst (-1), 1) := by decide +kernel
theorem dX4_load_21 : decode cX4_load 21 = .ok (.if_icmp .ne 42, 3) := by decide +kernel
theorem dX4_load_24 : decode cX4_load 24 = .ok (.aload_n 0, 1) := by decide +kernel
theorem dX4_load_25 : decode cX4_load 25 = .ok (.iload_n 3, 1) := by decide +kernel
theorem dX4_load_26 : decode cX4_load 26 = .ok (.invokevirtual 150, 3) := by decide +kernel
theorem dX4_load_29 : decode cX4_load 29 = .ok (.ifCond .eq 34, 3) := by decide +kernel
theorem dX4_load_32 : decode cX4_load 32 = .ok (.aload_n 1, 1) := by decide +kernel
theorem dX4_load_33 : decode cX4_load 33 = .ok (.invokevirtual 267, 3) := by decide +kernel
theorem dX4_load_36 : decode cX4_load 36 = .ok (.aload_n 0, 1) := by decide +kernel
theorem dX4_load_37 : decode cX4_load 37 = .ok (.getfield 35, 3) := by decide +kernel
theorem dX4_load_40 : decode cX4_load 40 = .ok (.iload_n 2, 1) := by decide +kernel
theorem dX4_load_41 : decode cX4_load 41 = .ok (.iload_n 3, 1) := by decide +kernel
theorem dX4_load_42 : decode cX4_load 42 = .ok (.iastore, 1) := by decide +kernel
theorem dX4_load_43 : decode cX4_load 43 = .ok (.aload_n 0, 1) := by decide +kernel
theorem dX4_load_44 : decode cX4_load 44 = .ok (.getfield 31, 3) := by decide +kernel
theorem dX4_load_47 : decode cX4_load 47 = .ok (.iload_n 3, 1) := by decide +kernel
theorem dX4_load_48 : decode cX4_load 48 = .ok (.aaload, 1) := by decide +kernel
theorem dX4_load_49 : decode cX4_load 49 = .ok (.iconst 1, 1) := by decide +kernel
theorem dX4_load_50 : decode cX4_load 50 = .ok (.putfield 238, 3) := by decide +kernel
theorem dX4_load_53 : decode cX4_load 53 = .ok (.aload_n 0, 1) := by decide +kernel
theorem dX4_load_54 : decode cX4_load 54 = .ok (.getfield 31, 3) := by decide +kernel
theorem dX4_load_57 : decode cX4_load 57 = .ok (.iload_n 3, 1) := by decide +kernel
theorem dX4_load_58 : decode cX4_load 58 = .ok (.aaload, 1) := by decide +kernel
theorem dX4_load_59 : decode cX4_load 59 = .ok (.iload_n 2, 1) := by decide +kernel
theorem dX4_load_60 : decode cX4_load 60 = .ok (.putfield 241, 3) := by decide +kernel
theorem dX4_load_63 : decode cX4_load 63 = .ok (.return_, 1) := by decide +kernel
theorem dX4_isEmpty_0 : decode cX4_isEmpty 0 = .ok (.aload_n 0, 1) := by decide +kernel
theorem dX4_isEmpty_1 : decode cX4_isEmpty 1 = .ok (.getfield 74, 3) := by decide +kernel
theorem dX4_isEmpty_4 : decode cX4_isEmpty 4 = .ok (.aload_n 0, 1) := by decide +kernel
theorem dX4_isEmpty_5 : decode cX4_isEmpty 5 = .ok (.getfield 71, 3) := by decide +kernel
theorem dX4_isEmpty_8 : decode cX4_isEmpty 8 = .ok (.if_icmp .ne 7, 3) := by decide +kernel
theorem dX4_isEmpty_11 : decode cX4_isEmpty 11 = .ok (.iconst 1, 1) := by decide +kernel
theorem dX4_isEmpty_12 : decode cX4_isEmpty 12 = .ok (.goto 4, 3) := by decide +kernel
theorem dX4_isEmpty_15 : decode cX4_isEmpty 15 = .ok (.iconst 0, 1) := by decide +kernel
theorem dX4_isEmpty_16 : decode cX4_isEmpty 16 = .ok (.ireturn, 1) := by decide +kernel
theorem dX4_waitingInStations_0 : decode cX4_waitingInStations 0 = .ok (.iconst 0, 1) := by decide +kernel
theorem dX4_waitingInStations_1 : decode cX4_waitingInStations 1 = .ok (.istore_n 1, 1) := by decide +kernel
theorem dX4_waitingInStations_2 : decode cX4_waitingInStations 2 = .ok (.iconst 0, 1) := by decide +kernel
theorem dX4_waitingInStations_3 : decode cX4_waitingInStations 3 = .ok (.istore_n 2, 1) := by decide +kernel
theorem dX4_waitingInStations_4 : decode cX4_waitingInStations 4 = .ok (.iload_n 2, 1) := by decide +kernel
theorem dX4_waitingInStations_5 : decode cX4_waitingInStations 5 = .ok (.aload_n 0, 1) := by decide +kernel
theorem dX4_waitingInStations_6 : decode cX4_waitingInStations 6 = .ok (.getfield 62, 3) := by decide +kernel
theorem dX4_waitingInStations_9 : decode cX4_waitingInStations 9 = .ok (.if_icmp .ge 21, 3) := by decide +kernel
theorem dX4_waitingInStations_12 : decode cX4_waitingInStations 12 = .ok (.iload_n 1, 1) := by decide +kernel
theorem dX4_waitingInStations_13 : decode cX4_waitingInStations 13 = .ok (.aload_n 0, 1) := by decide +kernel
theorem dX4_waitingInStations_14 : decode cX4_waitingInStations 14 = .ok (.getfield 11, 3) := by decide +kernel
theorem dX4_waitingInStations_17 : decode cX4_waitingInStations 17 = .ok (.iload_n 2, 1) := by decide +kernel
theorem dX4_waitingInStations_18 : decode cX4_waitingInStations 18 = .ok (.aaload, 1) := by decide +kernel
theorem dX4_waitingInStations_19 : decode cX4_waitingInStations 19 = .ok (.getfield 270, 3) := by decide +kernel
theorem dX4_waitingInStations_22 : decode cX4_waitingInStations 22 = .ok (.iadd, 1) := by decide +kernel
theorem dX4_waitingInStations_23 : decode cX4_waitingInStations 23 = .ok (.istore_n 1, 1) := by decide +kernel
theorem dX4_waitingInStations_24 : decode cX4_waitingInStations 24 = .ok (.iinc 2 1, 3) := by decide +kernel
theorem dX4_waitingInStations_27 : decode cX4_waitingInStations 27 = .ok (.goto (-23), 3) := by decide +kernel
theorem dX4_waitingInStations_30 : decode cX4_waitingInStations 30 = .ok (.iload_n 1, 1) := by decide +kernel
theorem dX4_waitingInStations_31 : decode cX4_waitingInStations 31 = .ok (.ireturn, 1) := by decide +kernel
theorem dX4_carriedOnLoop_0 : decode cX4_carriedOnLoop 0 = .ok (.iconst 0, 1) := by decide +kernel
theorem dX4_carriedOnLoop_1 : decode cX4_carriedOnLoop 1 = .ok (.istore_n 1, 1) := by decide +kernel
theorem dX4_carriedOnLoop_2 : decode cX4_carriedOnLoop 2 = .ok (.iconst 0, 1) := by decide +kernel
theorem dX4_carriedOnLoop_3 : decode cX4_carriedOnLoop 3 = .ok (.istore_n 2, 1) := by decide +kernel
theorem dX4_carriedOnLoop_4 : decode cX4_carriedOnLoop 4 = .ok (.iload_n 2, 1) := by decide +kernel
theorem dX4_carriedOnLoop_5 : decode cX4_carriedOnLoop 5 = .ok (.aload_n 0, 1) := by decide +kernel
theorem dX4_carriedOnLoop_6 : decode cX4_carriedOnLoop 6 = .ok (.getfield 52, 3) := by decide +kernel
theorem dX4_carriedOnLoop_9 : decode cX4_carriedOnLoop 9 = .ok (.if_icmp .ge 22, 3) := by decide +kernel
theorem dX4_carriedOnLoop_12 : decode cX4_carriedOnLoop 12 = .ok (.aload_n 0, 1) := by decide +kernel
theorem dX4_carriedOnLoop_13 : decode cX4_carriedOnLoop 13 = .ok (.getfield 35, 3) := by decide +kernel
theorem dX4_carriedOnLoop_16 : decode cX4_carriedOnLoop 16 = .ok (.iload_n 2, 1) := by decide +kernel
theorem dX4_carriedOnLoop_17 : decode cX4_carriedOnLoop 17 = .ok (.iaload, 1) := by decide +kernel
theorem dX4_carriedOnLoop_18 : decode cX4_carriedOnLoop 18 = .ok (.iconst (-1), 1) := by decide +kernel
theorem dX4_carriedOnLoop_19 : decode cX4_carriedOnLoop 19 = .ok (.if_icmp .eq 6, 3) := by decide +kernel
theorem dX4_carriedOnLoop_22 : decode cX4_carriedOnLoop 22 = .ok (.iinc 1 1, 3) := by decide +kernel
theorem dX4_carriedOnLoop_25 : decode cX4_carriedOnLoop 25 = .ok (.iinc 2 1, 3) := by decide +kernel
theorem dX4_carriedOnLoop_28 : decode cX4_carriedOnLoop 28 = .ok (.goto (-24), 3) := by decide +kernel
theorem dX4_carriedOnLoop_31 : decode cX4_carriedOnLoop 31 = .ok (.iload_n 1, 1) := by decide +kernel
theorem dX4_carriedOnLoop_32 : decode cX4_carriedOnLoop 32 = .ok (.ireturn, 1) := by decide +kernel
theorem dX4_parcelsAimedAt_0 : decode cX4_parcelsAimedAt 0 = .ok (.iconst 0, 1) := by decide +kernel
theorem dX4_parcelsAimedAt_1 : decode cX4_parcelsAimedAt 1 = .ok (.istore_n 2, 1) := by decide +kernel
theorem dX4_parcelsAimedAt_2 : decode cX4_parcelsAimedAt 2 = .ok (.iconst 0, 1) := by decide +kernel
theorem dX4_parcelsAimedAt_3 : decode cX4_parcelsAimedAt 3 = .ok (.istore_n 3, 1) := by decide +kernel
theorem dX4_parcelsAimedAt_4 : decode cX4_parcelsAimedAt 4 = .ok (.iload_n 3, 1) := by decide +kernel
theorem dX4_parcelsAimedAt_5 : decode cX4_parcelsAimedAt 5 = .ok (.aload_n 0, 1) := by decide +kernel
theorem dX4_parcelsAimedAt_6 : decode cX4_parcelsAimedAt 6 = .ok (.getfield 71, 3) := by decide +kernel
theorem dX4_parcelsAimedAt_9 : decode cX4_parcelsAimedAt 9 = .ok (.if_icmp .ge 25, 3) := by decide +kernel
theorem dX4_parcelsAimedAt_12 : decode cX4_parcelsAimedAt 12 = .ok (.aload_n 0, 1) := by decide +kernel
theorem dX4_parcelsAimedAt_13 : decode cX4_parcelsAimedAt 13 = .ok (.getfield 31, 3) := by decide +kernel
theorem dX4_parcelsAimedAt_16 : decode cX4_parcelsAimedAt 16 = .ok (.iload_n 3, 1) := by decide +kernel
theorem dX4_parcelsAimedAt_17 : decode cX4_parcelsAimedAt 17 = .ok (.aaload, 1) := by decide +kernel
theorem dX4_parcelsAimedAt_18 : decode cX4_parcelsAimedAt 18 = .ok (.getfield 156, 3) := by decide +kernel
theorem dX4_parcelsAimedAt_21 : decode cX4_parcelsAimedAt 21 = .ok (.iload_n 1, 1) := by decide +kernel
theorem dX4_parcelsAimedAt_22 : decode cX4_parcelsAimedAt 22 = .ok (.if_icmp .ne 6, 3) := by decide +kernel
theorem dX4_parcelsAimedAt_25 : decode cX4_parcelsAimedAt 25 = .ok (.iinc 2 1, 3) := by decide +kernel
theorem dX4_parcelsAimedAt_28 : decode cX4_parcelsAimedAt 28 = .ok (.iinc 3 1, 3) := by decide +kernel
theorem dX4_parcelsAimedAt_31 : decode cX4_parcelsAimedAt 31 = .ok (.goto (-27), 3) := by decide +kernel
theorem dX4_parcelsAimedAt_34 : decode cX4_parcelsAimedAt 34 = .ok (.iload_n 2, 1) := by decide +kernel
theorem dX4_parcelsAimedAt_35 : decode cX4_parcelsAimedAt 35 = .ok (.ireturn, 1) := by decide +kernel
theorem dX4_jamsOfChutes_0 : decode cX4_jamsOfChutes 0 = .ok (.iconst 0, 1) := by decide +kernel
theorem dX4_jamsOfChutes_1 : decode cX4_jamsOfChutes 1 = .ok (.istore_n 1, 1) := by decide +kernel
theorem dX4_jamsOfChutes_2 : decode cX4_jamsOfChutes 2 = .ok (.iconst 0, 1) := by decide +kernel
theorem dX4_jamsOfChutes_3 : decode cX4_jamsOfChutes 3 = .ok (.istore_n 2, 1) := by decide +kernel
theorem dX4_jamsOfChutes_4 : decode cX4_jamsOfChutes 4 = .ok (.iload_n 2, 1) := by decide +kernel
theorem dX4_jamsOfChutes_5 : decode cX4_jamsOfChutes 5 = .ok (.aload_n 0, 1) := by decide +kernel
theorem dX4_jamsOfChutes_6 : decode cX4_jamsOfChutes 6 = .ok (.getfield 65, 3) := by decide +kernel
theorem dX4_jamsOfChutes_9 : decode cX4_jamsOfChutes 9 = .ok (.if_icmp .ge 21, 3) := by decide +kernel
theorem dX4_jamsOfChutes_12 : decode cX4_jamsOfChutes 12 = .ok (.iload_n 1, 1) := by decide +kernel
theorem dX4_jamsOfChutes_13 : decode cX4_jamsOfChutes 13 = .ok (.aload_n 0, 1) := by decide +kernel
theorem dX4_jamsOfChutes_14 : decode cX4_jamsOfChutes 14 = .ok (.getfield 19, 3) := by decide +kernel
theorem dX4_jamsOfChutes_17 : decode cX4_jamsOfChutes 17 = .ok (.iload_n 2, 1) := by decide +kernel
theorem dX4_jamsOfChutes_18 : decode cX4_jamsOfChutes 18 = .ok (.aaload, 1) := by decide +kernel
theorem dX4_jamsOfChutes_19 : decode cX4_jamsOfChutes 19 = .ok (.getfield 273, 3) := by decide +kernel
theorem dX4_jamsOfChutes_22 : decode cX4_jamsOfChutes 22 = .ok (.iadd, 1) := by decide +kernel
theorem dX4_jamsOfChutes_23 : decode cX4_jamsOfChutes 23 = .ok (.istore_n 1, 1) := by decide +kernel
theorem dX4_jamsOfChutes_24 : decode cX4_jamsOfChutes 24 = .ok (.iinc 2 1, 3) := by decide +kernel
theorem dX4_jamsOfChutes_27 : decode cX4_jamsOfChutes 27 = .ok (.goto (-23), 3) := by decide +kernel
theorem dX4_jamsOfChutes_30 : decode cX4_jamsOfChutes 30 = .ok (.iload_n 1, 1) := by decide +kernel
theorem dX4_jamsOfChutes_31 : decode cX4_jamsOfChutes 31 = .ok (.ireturn, 1) := by decide +kernel
theorem dX4_bagsOfChutes_0 : decode cX4_bagsOfChutes 0 = .ok (.iconst 0, 1) := by decide +kernel
theorem dX4_bagsOfChutes_1 : decode cX4_bagsOfChutes 1 = .ok (.istore_n 1, 1) := by decide +kernel
theorem dX4_bagsOfChutes_2 : decode cX4_bagsOfChutes 2 = .ok (.iconst 0, 1) := by decide +kernel
theorem dX4_bagsOfChutes_3 : decode cX4_bagsOfChutes 3 = .ok (.istore_n 2, 1) := by decide +kernel
theorem dX4_bagsOfChutes_4 : decode cX4_bagsOfChutes 4 = .ok (.iload_n 2, 1) := by decide +kernel
theorem dX4_bagsOfChutes_5 : decode cX4_bagsOfChutes 5 = .ok (.aload_n 0, 1) := by decide +kernel
theorem dX4_bagsOfChutes_6 : decode cX4_bagsOfChutes 6 = .ok (.getfield 65, 3) := by decide +kernel
theorem dX4_bagsOfChutes_9 : decode cX4_bagsOfChutes 9 = .ok (.if_icmp .ge 21, 3) := by decide +kernel
theorem dX4_bagsOfChutes_12 : decode cX4_bagsOfChutes 12 = .ok (.iload_n 1, 1) := by decide +kernel
theorem dX4_bagsOfChutes_13 : decode cX4_bagsOfChutes 13 = .ok (.aload_n 0, 1) := by decide +kernel
theorem dX4_bagsOfChutes_14 : decode cX4_bagsOfChutes 14 = .ok (.getfield 19, 3) := by decide +kernel
theorem dX4_bagsOfChutes_17 : decode cX4_bagsOfChutes 17 = .ok (.iload_n 2, 1) := by decide +kernel
theorem dX4_bagsOfChutes_18 : decode cX4_bagsOfChutes 18 = .ok (.aaload, 1) := by decide +kernel
theorem dX4_bagsOfChutes_19 : decode cX4_bagsOfChutes 19 = .ok (.getfield 276, 3) := by decide +kernel
theorem dX4_bagsOfChutes_22 : decode cX4_bagsOfChutes 22 = .ok (.iadd, 1) := by decide +kernel
theorem dX4_bagsOfChutes_23 : decode cX4_bagsOfChutes 23 = .ok (.istore_n 1, 1) := by decide +kernel
theorem dX4_bagsOfChutes_24 : decode cX4_bagsOfChutes 24 = .ok (.iinc 2 1, 3) := by decide +kernel
theorem dX4_bagsOfChutes_27 : decode cX4_bagsOfChutes 27 = .ok (.goto (-23), 3) := by decide +kernel
theorem dX4_bagsOfChutes_30 : decode cX4_bagsOfChutes 30 = .ok (.iload_n 1, 1) := by decide +kernel
theorem dX4_bagsOfChutes_31 : decode cX4_bagsOfChutes 31 = .ok (.ireturn, 1) := by decide +kernel
theorem dX4_greatestRounds_0 : decode cX4_greatestRounds 0 = .ok (.iconst 0, 1) := by decide +kernel
theorem dX4_greatestRounds_1 : decode cX4_greatestRounds 1 = .ok (.istore_n 1, 1) := by decide +kernel
theorem dX4_greatestRounds_2 : decode cX4_greatestRounds 2 = .ok (.iconst 0, 1) := by decide +kernel
theorem dX4_greatestRounds_3 : decode cX4_greatestRounds 3 = .ok (.istore_n 2, 1) := by decide +kernel
theorem dX4_greatestRounds_4 : decode cX4_greatestRounds 4 = .ok (.iload_n 2, 1) := by decide +kernel
theorem dX4_greatestRounds_5 : decode cX4_greatestRounds 5 = .ok (.aload_n 0, 1) := by decide +kernel
theorem dX4_greatestRounds_6 : decode cX4_greatestRounds 6 = .ok (.getfield 71, 3) := by decide +kernel
theorem dX4_greatestRounds_9 : decode cX4_greatestRounds 9 = .ok (.if_icmp .ge 23, 3) := by decide +kernel
theorem dX4_greatestRounds_12 : decode cX4_greatestRounds 12 = .ok (.iload_n 1, 1) := by decide +kernel
theorem dX4_greatestRounds_13 : decode cX4_greatestRounds 13 = .ok (.aload_n 0, 1) := by decide +kernel
theorem dX4_greatestRounds_14 : decode cX4_greatestRounds 14 = .ok (.getfield 31, 3) := by decide +kernel
theorem dX4_greatestRounds_17 : decode cX4_greatestRounds 17 = .ok (.iload_n 2, 1) := by decide +kernel
theorem dX4_greatestRounds_18 : decode cX4_greatestRounds 18 = .ok (.aaload, 1) := by decide +kernel
theorem dX4_greatestRounds_19 : decode cX4_greatestRounds 19 = .ok (.invokevirtual 182, 3) := by decide +kernel
theorem dX4_greatestRounds_22 : decode cX4_greatestRounds 22 = .ok (.invokestatic 279, 3) := by decide +kernel
theorem dX4_greatestRounds_25 : decode cX4_greatestRounds 25 = .ok (.istore_n 1, 1) := by decide +kernel
theorem dX4_greatestRounds_26 : decode cX4_greatestRounds 26 = .ok (.iinc 2 1, 3) := by decide +kernel
theorem dX4_greatestRounds_29 : decode cX4_greatestRounds 29 = .ok (.goto (-25), 3) := by decide +kernel
theorem dX4_greatestRounds_32 : decode cX4_greatestRounds 32 = .ok (.iload_n 1, 1) := by decide +kernel
theorem dX4_greatestRounds_33 : decode cX4_greatestRounds 33 = .ok (.ireturn, 1) := by decide +kernel
theorem dX4_roundsOfDropped_0 : decode cX4_roundsOfDropped 0 = .ok (.iconst 0, 1) := by decide +kernel
theorem dX4_roundsOfDropped_1 : decode cX4_roundsOfDropped 1 = .ok (.istore_n 1, 1) := by decide +kernel
theorem dX4_roundsOfDropped_2 : decode cX4_roundsOfDropped 2 = .ok (.iconst 0, 1) := by decide +kernel
theorem dX4_roundsOfDropped_3 : decode cX4_roundsOfDropped 3 = .ok (.istore_n 2, 1) := by decide +kernel
theorem dX4_roundsOfDropped_4 : decode cX4_roundsOfDropped 4 = .ok (.iload_n 2, 1) := by decide +kernel
theorem dX4_roundsOfDropped_5 : decode cX4_roundsOfDropped 5 = .ok (.aload_n 0, 1) := by decide +kernel
theorem dX4_roundsOfDropped_6 : decode cX4_roundsOfDropped 6 = .ok (.getfield 71, 3) := by decide +kernel
theorem dX4_roundsOfDropped_9 : decode cX4_roundsOfDropped 9 = .ok (.if_icmp .ge 34, 3) := by decide +kernel
theorem dX4_roundsOfDropped_12 : decode cX4_roundsOfDropped 12 = .ok (.aload_n 0, 1) := by decide +kernel
theorem dX4_roundsOfDropped_13 : decode cX4_roundsOfDropped 13 = .ok (.getfield 31, 3) := by decide +kernel
theorem dX4_roundsOfDropped_16 : decode cX4_roundsOfDropped 16 = .ok (.iload_n 2, 1) := by decide +kernel
theorem dX4_roundsOfDropped_17 : decode cX4_roundsOfDropped 17 = .ok (.aaload, 1) := by decide +kernel
theorem dX4_roundsOfDropped_18 : decode cX4_roundsOfDropped 18 = .ok (.getfield 238, 3) := by decide +kernel
theorem dX4_roundsOfDropped_21 : decode cX4_roundsOfDropped 21 = .ok (.iconst 2, 1) := by decide +kernel
theorem dX4_roundsOfDropped_22 : decode cX4_roundsOfDropped 22 = .ok (.if_icmp .ne 15, 3) := by decide +kernel
theorem dX4_roundsOfDropped_25 : decode cX4_roundsOfDropped 25 = .ok (.iload_n 1, 1) := by decide +kernel
theorem dX4_roundsOfDropped_26 : decode cX4_roundsOfDropped 26 = .ok (.aload_n 0, 1) := by decide +kernel
theorem dX4_roundsOfDropped_27 : decode cX4_roundsOfDropped 27 = .ok (.getfield 31, 3) := by decide +kernel
theorem dX4_roundsOfDropped_30 : decode cX4_roundsOfDropped 30 = .ok (.iload_n 2, 1) := by decide +kernel
theorem dX4_roundsOfDropped_31 : decode cX4_roundsOfDropped 31 = .ok (.aaload, 1) := by decide +kernel
theorem dX4_roundsOfDropped_32 : decode cX4_roundsOfDropped 32 = .ok (.invokevirtual 182, 3) := by decide +kernel
theorem dX4_roundsOfDropped_35 : decode cX4_roundsOfDropped 35 = .ok (.iadd, 1) := by decide +kernel
theorem dX4_roundsOfDropped_36 : decode cX4_roundsOfDropped 36 = .ok (.istore_n 1, 1) := by decide +kernel
theorem dX4_roundsOfDropped_37 : decode cX4_roundsOfDropped 37 = .ok (.iinc 2 1, 3) := by decide +kernel
theorem dX4_roundsOfDropped_40 : decode cX4_roundsOfDropped 40 = .ok (.goto (-36), 3) := by decide +kernel
theorem dX4_roundsOfDropped_43 : decode cX4_roundsOfDropped 43 = .ok (.iload_n 1, 1) := by decide +kernel
theorem dX4_roundsOfDropped_44 : decode cX4_roundsOfDropped 44 = .ok (.ireturn, 1) := by decide +kernel
theorem dX4_parcelsThatAre_0 : decode cX4_parcelsThatAre 0 = .ok (.iconst 0, 1) := by decide +kernel
theorem dX4_parcelsThatAre_1 : decode cX4_parcelsThatAre 1 = .ok (.istore_n 2, 1) := by decide +kernel
theorem dX4_parcelsThatAre_2 : decode cX4_parcelsThatAre 2 = .ok (.iconst 0, 1) := by decide +kernel
theorem dX4_parcelsThatAre_3 : decode cX4_parcelsThatAre 3 = .ok (.istore_n 3, 1) := by decide +kernel
theorem dX4_parcelsThatAre_4 : decode cX4_parcelsThatAre 4 = .ok (.iload_n 3, 1) := by decide +kernel
theorem dX4_parcelsThatAre_5 : decode cX4_parcelsThatAre 5 = .ok (.aload_n 0, 1) := by decide +kernel
theorem dX4_parcelsThatAre_6 : decode cX4_parcelsThatAre 6 = .ok (.getfield 71, 3) := by decide +kernel
theorem dX4_parcelsThatAre_9 : decode cX4_parcelsThatAre 9 = .ok (.if_icmp .ge 25, 3) := by decide +kernel
theorem dX4_parcelsThatAre_12 : decode cX4_parcelsThatAre 12 = .ok (.aload_n 0, 1) := by decide +kernel
theorem dX4_parcelsThatAre_13 : decode cX4_parcelsThatAre 13 = .ok (.getfield 31, 3) := by decide +kernel
theorem dX4_parcelsThatAre_16 : decode cX4_parcelsThatAre 16 = .ok (.iload_n 3, 1) := by decide +kernel
theorem dX4_parcelsThatAre_17 : decode cX4_parcelsThatAre 17 = .ok (.aaload, 1) := by decide +kernel
theorem dX4_parcelsThatAre_18 : decode cX4_parcelsThatAre 18 = .ok (.getfield 238, 3) := by decide +kernel
theorem dX4_parcelsThatAre_21 : decode cX4_parcelsThatAre 21 = .ok (.iload_n 1, 1) := by decide +kernel
theorem dX4_parcelsThatAre_22 : decode cX4_parcelsThatAre 22 = .ok (.if_icmp .ne 6, 3) := by decide +kernel
theorem dX4_parcelsThatAre_25 : decode cX4_parcelsThatAre 25 = .ok (.iinc 2 1, 3) := by decide +kernel
theorem dX4_parcelsThatAre_28 : decode cX4_parcelsThatAre 28 = .ok (.iinc 3 1, 3) := by decide +kernel
theorem dX4_parcelsThatAre_31 : decode cX4_parcelsThatAre 31 = .ok (.goto (-27), 3) := by decide +kernel
theorem dX4_parcelsThatAre_34 : decode cX4_parcelsThatAre 34 = .ok (.iload_n 2, 1) := by decide +kernel
theorem dX4_parcelsThatAre_35 : decode cX4_parcelsThatAre 35 = .ok (.ireturn, 1) := by decide +kernel
theorem dX4_chutesAgree_0 : decode cX4_chutesAgree 0 = .ok (.iconst 0, 1) := by decide +kernel
theorem dX4_chutesAgree_1 : decode cX4_chutesAgree 1 = .ok (.istore_n 1, 1) := by decide +kernel
theorem dX4_chutesAgree_2 : decode cX4_chutesAgree 2 = .ok (.iload_n 1, 1) := by decide +kernel
theorem dX4_chutesAgree_3 : decode cX4_chutesAgree 3 = .ok (.aload_n 0, 1) := by decide +kernel
theorem dX4_chutesAgree_4 : decode cX4_chutesAgree 4 = .ok (.getfield 65, 3) := by decide +kernel
theorem dX4_chutesAgree_7 : decode cX4_chutesAgree 7 = .ok (.if_icmp .ge 71, 3) := by decide +kernel
theorem dX4_chutesAgree_10 : decode cX4_chutesAgree 10 = .ok (.iconst 0, 1) := by decide +kernel
theorem dX4_chutesAgree_11 : decode cX4_chutesAgree 11 = .ok (.istore_n 2, 1) := by decide +kernel
theorem dX4_chutesAgree_12 : decode cX4_chutesAgree 12 = .ok (.iconst 0, 1) := by decide +kernel
theorem dX4_chutesAgree_13 : decode cX4_chutesAgree 13 = .ok (.istore_n 3, 1) := by decide +kernel
theorem dX4_chutesAgree_14 : decode cX4_chutesAgree 14 = .ok (.iload_n 3, 1) := by decide +kernel
theorem dX4_chutesAgree_15 : decode cX4_chutesAgree 15 = .ok (.aload_n 0, 1) := by decide +kernel
theorem dX4_chutesAgree_16 : decode cX4_chutesAgree 16 = .ok (.getfield 71, 3) := by decide +kernel
theorem dX4_chutesAgree_19 : decode cX4_chutesAgree 19 = .ok (.if_icmp .ge 38, 3) := by decide +kernel
theorem dX4_chutesAgree_22 : decode cX4_chutesAgree 22 = .ok (.aload_n 0, 1) := by decide +kernel
theorem dX4_chutesAgree_23 : decode cX4_chutesAgree 23 = .ok (.getfield 31, 3) := by decide +kernel
theorem dX4_chutesAgree_26 : decode cX4_chutesAgree 26 = .ok (.iload_n 3, 1) := by decide +kernel
theorem dX4_chutesAgree_27 : decode cX4_chutesAgree 27 = .ok (.aaload, 1) := by decide +kernel
theorem dX4_chutesAgree_28 : decode cX4_chutesAgree 28 = .ok (.getfield 238, 3) := by decide +kernel
theorem dX4_chutesAgree_31 : decode cX4_chutesAgree 31 = .ok (.iconst 2, 1) := by decide +kernel
theorem dX4_chutesAgree_32 : decode cX4_chutesAgree 32 = .ok (.if_icmp .ne 19, 3) := by decide +kernel
theorem dX4_chutesAgree_35 : decode cX4_chutesAgree 35 = .ok (.aload_n 0, 1) := by decide +kernel
theorem dX4_chutesAgree_36 : decode cX4_chutesAgree 36 = .ok (.getfield 31, 3) := by decide +kernel
theorem dX4_chutesAgree_39 : decode cX4_chutesAgree 39 = .ok (.iload_n 3, 1) := by decide +kernel
theorem dX4_chutesAgree_40 : decode cX4_chutesAgree 40 = .ok (.aaload, 1) := by decide +kernel
theorem dX4_chutesAgree_41 : decode cX4_chutesAgree 41 = .ok (.getfield 241, 3) := by decide +kernel
theorem dX4_chutesAgree_44 : decode cX4_chutesAgree 44 = .ok (.iload_n 1, 1) := by decide +kernel
theorem dX4_chutesAgree_45 : decode cX4_chutesAgree 45 = .ok (.if_icmp .ne 6, 3) := by decide +kernel
theorem dX4_chutesAgree_48 : decode cX4_chutesAgree 48 = .ok (.iinc 2 1, 3) := by decide +kernel
theorem dX4_chutesAgree_51 : decode cX4_chutesAgree 51 = .ok (.iinc 3 1, 3) := by decide +kernel
theorem dX4_chutesAgree_54 : decode cX4_chutesAgree 54 = .ok (.goto (-40), 3) := by decide +kernel
theorem dX4_chutesAgree_57 : decode cX4_chutesAgree 57 = .ok (.iload_n 2, 1) := by decide +kernel
theorem dX4_chutesAgree_58 : decode cX4_chutesAgree 58 = .ok (.aload_n 0, 1) := by decide +kernel
theorem dX4_chutesAgree_59 : decode cX4_chutesAgree 59 = .ok (.getfield 19, 3) := by decide +kernel
theorem dX4_chutesAgree_62 : decode cX4_chutesAgree 62 = .ok (.iload_n 1, 1) := by decide +kernel
theorem dX4_chutesAgree_63 : decode cX4_chutesAgree 63 = .ok (.aaload, 1) := by decide +kernel
theorem dX4_chutesAgree_64 : decode cX4_chutesAgree 64 = .ok (.getfield 284, 3) := by decide +kernel
theorem dX4_chutesAgree_67 : decode cX4_chutesAgree 67 = .ok (.if_icmp .eq 5, 3) := by decide +kernel
theorem dX4_chutesAgree_70 : decode cX4_chutesAgree 70 = .ok (.iconst 0, 1) := by decide +kernel
theorem dX4_chutesAgree_71 : decode cX4_chutesAgree 71 = .ok (.ireturn, 1) := by decide +kernel
theorem dX4_chutesAgree_72 : decode cX4_chutesAgree 72 = .ok (.iinc 1 1, 3) := by decide +kernel
theorem dX4_chutesAgree_75 : decode cX4_chutesAgree 75 = .ok (.goto (-73), 3) := by decide +kernel
theorem dX4_chutesAgree_78 : decode cX4_chutesAgree 78 = .ok (.iconst 1, 1) := by decide +kernel
theorem dX4_chutesAgree_79 : decode cX4_chutesAgree 79 = .ok (.ireturn, 1) := by decide +kernel
theorem dX4_verdictsAgree_0 : decode cX4_verdictsAgree 0 = .ok (.iconst 0, 1) := by decide +kernel
theorem dX4_verdictsAgree_1 : decode cX4_verdictsAgree 1 = .ok (.istore_n 1, 1) := by decide +kernel
theorem dX4_verdictsAgree_2 : decode cX4_verdictsAgree 2 = .ok (.iload_n 1, 1) := by decide +kernel
theorem dX4_verdictsAgree_3 : decode cX4_verdictsAgree 3 = .ok (.iconst 4, 1) := by decide +kernel
theorem dX4_verdictsAgree_4 : decode cX4_verdictsAgree 4 = .ok (.if_icmp .ge 55, 3) := by decide +kernel
theorem dX4_verdictsAgree_7 : decode cX4_verdictsAgree 7 = .ok (.iconst 0, 1) := by decide +kernel
theorem dX4_verdictsAgree_8 : decode cX4_verdictsAgree 8 = .ok (.istore_n 2, 1) := by decide +kernel
theorem dX4_verdictsAgree_9 : decode cX4_verdictsAgree 9 = .ok (.iconst 0, 1) := by decide +kernel
theorem dX4_verdictsAgree_10 : decode cX4_verdictsAgree 10 = .ok (.istore_n 3, 1) := by decide +kernel
theorem dX4_verdictsAgree_11 : decode cX4_verdictsAgree 11 = .ok (.iload_n 3, 1) := by decide +kernel
theorem dX4_verdictsAgree_12 : decode cX4_verdictsAgree 12 = .ok (.aload_n 0, 1) := by decide +kernel
theorem dX4_verdictsAgree_13 : decode cX4_verdictsAgree 13 = .ok (.getfield 71, 3) := by decide +kernel
theorem dX4_verdictsAgree_16 : decode cX4_verdictsAgree 16 = .ok (.if_icmp .ge 25, 3) := by decide +kernel
theorem dX4_verdictsAgree_19 : decode cX4_verdictsAgree 19 = .ok (.aload_n 0, 1) := by decide +kernel
theorem dX4_verdictsAgree_20 : decode cX4_verdictsAgree 20 = .ok (.getfield 31, 3) := by decide +kernel
theorem dX4_verdictsAgree_23 : decode cX4_verdictsAgree 23 = .ok (.iload_n 3, 1) := by decide +kernel
theorem dX4_verdictsAgree_24 : decode cX4_verdictsAgree 24 = .ok (.aaload, 1) := by decide +kernel
theorem dX4_verdictsAgree_25 : decode cX4_verdictsAgree 25 = .ok (.getfield 251, 3) := by decide +kernel
theorem dX4_verdictsAgree_28 : decode cX4_verdictsAgree 28 = .ok (.iload_n 1, 1) := by decide +kernel
theorem dX4_verdictsAgree_29 : decode cX4_verdictsAgree 29 = .ok (.if_icmp .ne 6, 3) := by decide +kernel
theorem dX4_verdictsAgree_32 : decode cX4_verdictsAgree 32 = .ok (.iinc 2 1, 3) := by decide +kernel
theorem dX4_verdictsAgree_35 : decode cX4_verdictsAgree 35 = .ok (.iinc 3 1, 3) := by decide +kernel
theorem dX4_verdictsAgree_38 : decode cX4_verdictsAgree 38 = .ok (.goto (-27), 3) := by decide +kernel
theorem dX4_verdictsAgree_41 : decode cX4_verdictsAgree 41 = .ok (.iload_n 2, 1) := by decide +kernel
theorem dX4_verdictsAgree_42 : decode cX4_verdictsAgree 42 = .ok (.aload_n 0, 1) := by decide +kernel
theorem dX4_verdictsAgree_43 : decode cX4_verdictsAgree 43 = .ok (.getfield 42, 3) := by decide +kernel
theorem dX4_verdictsAgree_46 : decode cX4_verdictsAgree 46 = .ok (.iload_n 1, 1) := by decide +kernel
theorem dX4_verdictsAgree_47 : decode cX4_verdictsAgree 47 = .ok (.iaload, 1) := by decide +kernel
theorem dX4_verdictsAgree_48 : decode cX4_verdictsAgree 48 = .ok (.if_icmp .eq 5, 3) := by decide +kernel
theorem dX4_verdictsAgree_51 : decode cX4_verdictsAgree 51 = .ok (.iconst 0, 1) := by decide +kernel
theorem dX4_verdictsAgree_52 : decode cX4_verdictsAgree 52 = .ok (.ireturn, 1) := by decide +kernel
theorem dX4_verdictsAgree_53 : decode cX4_verdictsAgree 53 = .ok (.iinc 1 1, 3) := by decide +kernel
theorem dX4_verdictsAgree_56 : decode cX4_verdictsAgree 56 = .ok (.goto (-54), 3) := by decide +kernel
theorem dX4_verdictsAgree_59 : decode cX4_verdictsAgree 59 = .ok (.iconst 1, 1) := by decide +kernel
theorem dX4_verdictsAgree_60 : decode cX4_verdictsAgree 60 = .ok (.ireturn, 1) := by decide +kernel
theorem dX4_roundsAgree_0 : decode cX4_roundsAgree 0 = .ok (.iconst 0, 1) := by decide +kernel
theorem dX4_roundsAgree_1 : decode cX4_roundsAgree 1 = .ok (.istore_n 1, 1) := by decide +kernel
theorem dX4_roundsAgree_2 : decode cX4_roundsAgree 2 = .ok (.iconst 0, 1) := by decide +kernel
theorem dX4_roundsAgree_3 : decode cX4_roundsAgree 3 = .ok (.istore_n 2, 1) := by decide +kernel
theorem dX4_roundsAgree_4 : decode cX4_roundsAgree 4 = .ok (.iload_n 2, 1) := by decide +kernel
theorem dX4_roundsAgree_5 : decode cX4_roundsAgree 5 = .ok (.aload_n 0, 1) := by decide +kernel
theorem dX4_roundsAgree_6 : decode cX4_roundsAgree 6 = .ok (.getfield 71, 3) := by decide +kernel
theorem dX4_roundsAgree_9 : decode cX4_roundsAgree 9 = .ok (.if_icmp .ge 21, 3) := by decide +kernel
theorem dX4_roundsAgree_12 : decode cX4_roundsAgree 12 = .ok (.iload_n 1, 1) := by decide +kernel
theorem dX4_roundsAgree_13 : decode cX4_roundsAgree 13 = .ok (.aload_n 0, 1) := by decide +kernel
theorem dX4_roundsAgree_14 : decode cX4_roundsAgree 14 = .ok (.getfield 31, 3) := by decide +kernel
theorem dX4_roundsAgree_17 : decode cX4_roundsAgree 17 = .ok (.iload_n 2, 1) := by decide +kernel
theorem dX4_roundsAgree_18 : decode cX4_roundsAgree 18 = .ok (.aaload, 1) := by decide +kernel
theorem dX4_roundsAgree_19 : decode cX4_roundsAgree 19 = .ok (.invokevirtual 182, 3) := by decide +kernel
theorem dX4_roundsAgree_22 : decode cX4_roundsAgree 22 = .ok (.iadd, 1) := by decide +kernel
theorem dX4_roundsAgree_23 : decode cX4_roundsAgree 23 = .ok (.istore_n 1, 1) := by decide +kernel
theorem dX4_roundsAgree_24 : decode cX4_roundsAgree 24 = .ok (.iinc 2 1, 3) := by decide +kernel
theorem dX4_roundsAgree_27 : decode cX4_roundsAgree 27 = .ok (.goto (-23), 3) := by decide +kernel
theorem dX4_roundsAgree_30 : decode cX4_roundsAgree 30 = .ok (.iload_n 1, 1) := by decide +kernel
theorem dX4_roundsAgree_31 : decode cX4_roundsAgree 31 = .ok (.aload_n 0, 1) := by decide +kernel
theorem dX4_roundsAgree_32 : decode cX4_roundsAgree 32 = .ok (.getfield 77, 3) := by decide +kernel
theorem dX4_roundsAgree_35 : decode cX4_roundsAgree 35 = .ok (.if_icmp .ne 7, 3) := by decide +kernel
theorem dX4_roundsAgree_38 : decode cX4_roundsAgree 38 = .ok (.iconst 1, 1) := by decide +kernel
theorem dX4_roundsAgree_39 : decode cX4_roundsAgree 39 = .ok (.goto 4, 3) := by decide +kernel
theorem dX4_roundsAgree_42 : decode cX4_roundsAgree 42 = .ok (.iconst 0, 1) := by decide +kernel
theorem dX4_roundsAgree_43 : decode cX4_roundsAgree 43 = .ok (.ireturn, 1) := by decide +kernel
theorem dX5_init_0 : decode cX5_init 0 = .ok (.aload_n 0, 1) := by decide +kernel
theorem dX5_init_1 : decode cX5_init 1 = .ok (.invokespecial 3, 3) := by decide +kernel
theorem dX5_init_4 : decode cX5_init 4 = .ok (.aload_n 0, 1) := by decide +kernel
theorem dX5_init_5 : decode cX5_init 5 = .ok (.bipush 10, 2) := by decide +kernel
theorem dX5_init_7 : decode cX5_init 7 = .ok (.newarray .int, 2) := by decide +kernel
theorem dX5_init_9 : decode cX5_init 9 = .ok (.putfield 9, 3) := by decide +kernel
theorem dX5_init_12 : decode cX5_init 12 = .ok (.return_, 1) := by decide +kernel
theorem dX5_reset_0 : decode cX5_reset 0 = .ok (.aload_n 0, 1) := by decide +kernel
theorem dX5_reset_1 : decode cX5_reset 1 = .ok (.iload_n 1, 1) := by decide +kernel
theorem dX5_reset_2 : decode cX5_reset 2 = .ok (.putfield 15, 3) := by decide +kernel
theorem dX5_reset_5 : decode cX5_reset 5 = .ok (.aload_n 0, 1) := by decide +kernel
theorem dX5_reset_6 : decode cX5_reset 6 = .ok (.iconst 0, 1) := by decide +kernel
theorem dX5_reset_7 : decode cX5_reset 7 = .ok (.putfield 19, 3) := by decide +kernel
theorem dX5_reset_10 : decode cX5_reset 10 = .ok (.aload_n 0, 1) := by decide +kernel
theorem dX5_reset_11 : decode cX5_reset 11 = .ok (.iconst 0, 1) := by decide +kernel
theorem dX5_reset_12 : decode cX5_reset 12 = .ok (.putfield 22, 3) := by decide +kernel
theorem dX5_reset_15 : decode cX5_reset 15 = .ok (.return_, 1) := by decide +kernel
theorem dX5_copyFrom_0 : decode cX5_copyFrom 0 = .ok (.aload_n 0, 1) := by decide +kernel
theorem dX5_copyFrom_1 : decode cX5_copyFrom 1 = .ok (.aload_n 1, 1) := by decide +kernel
theorem dX5_copyFrom_2 : decode cX5_copyFrom 2 = .ok (.getfield 15, 3) := by decide +kernel
theorem dX5_copyFrom_5 : decode cX5_copyFrom 5 = .ok (.putfield 15, 3) := by decide +kernel
theorem dX5_copyFrom_8 : decode cX5_copyFrom 8 = .ok (.aload_n 0, 1) := by decide +kernel
theorem dX5_copyFrom_9 : decode cX5_copyFrom 9 = .ok (.aload_n 1, 1) := by decide +kernel
theorem dX5_copyFrom_10 : decode cX5_copyFrom 10 = .ok (.getfield 19, 3) := by decide +kernel
theorem dX5_copyFrom_13 : decode cX5_copyFrom 13 = .ok (.putfield 19, 3) := by decide +kernel
theorem dX5_copyFrom_16 : decode cX5_copyFrom 16 = .ok (.aload_n 0, 1) := by decide +kernel
theorem dX5_copyFrom_17 : decode cX5_copyFrom 17 = .ok (.aload_n 1, 1) := by decide +kernel
theorem dX5_copyFrom_18 : decode cX5_copyFrom 18 = .ok (.getfield 22, 3) := by decide +kernel
theorem dX5_copyFrom_21 : decode cX5_copyFrom 21 = .ok (.putfield 22, 3) := by decide +kernel
theorem dX5_copyFrom_24 : decode cX5_copyFrom 24 = .ok (.aload_n 1, 1) := by decide +kernel
theorem dX5_copyFrom_25 : decode cX5_copyFrom 25 = .ok (.getfield 9, 3) := by decide +kernel
theorem dX5_copyFrom_28 : decode cX5_copyFrom 28 = .ok (.iconst 0, 1) := by decide +kernel
theorem dX5_copyFrom_29 : decode cX5_copyFrom 29 = .ok (.aload_n 0, 1) := by decide +kernel
theorem dX5_copyFrom_30 : decode cX5_copyFrom 30 = .ok (.getfield 9, 3) := by decide +kernel
theorem dX5_copyFrom_33 : decode cX5_copyFrom 33 = .ok (.iconst 0, 1) := by decide +kernel
theorem dX5_copyFrom_34 : decode cX5_copyFrom 34 = .ok (.bipush 10, 2) := by decide +kernel
theorem dX5_copyFrom_36 : decode cX5_copyFrom 36 = .ok (.invokestatic 25, 3) := by decide +kernel
theorem dX5_copyFrom_39 : decode cX5_copyFrom 39 = .ok (.return_, 1) := by decide +kernel
theorem dX5_isFull_0 : decode cX5_isFull 0 = .ok (.aload_n 0, 1) := by decide +kernel
theorem dX5_isFull_1 : decode cX5_isFull 1 = .ok (.getfield 19, 3) := by decide +kernel
theorem dX5_isFull_4 : decode cX5_isFull 4 = .ok (.bipush 10, 2) := by decide +kernel
theorem dX5_isFull_6 : decode cX5_isFull 6 = .ok (.if_icmp .lt 7, 3) := by decide +kernel
theorem dX5_isFull_9 : decode cX5_isFull 9 = .ok (.iconst 1, 1) := by decide +kernel
theorem dX5_isFull_10 : decode cX5_isFull 10 = .ok (.goto 4, 3) := by decide +kernel
theorem dX5_isFull_13 : decode cX5_isFull 13 = .ok (.iconst 0, 1) := by decide +kernel
theorem dX5_isFull_14 : decode cX5_isFull 14 = .ok (.ireturn, 1) := by decide +kernel
theorem dX5_firstWaiting_0 : decode cX5_firstWaiting 0 = .ok (.aload_n 0, 1) := by decide +kernel
theorem dX5_firstWaiting_1 : decode cX5_firstWaiting 1 = .ok (.getfield 19, 3) := by decide +kernel
theorem dX5_firstWaiting_4 : decode cX5_firstWaiting 4 = .ok (.ifCond .le 12, 3) := by decide +kernel
theorem dX5_firstWaiting_7 : decode cX5_firstWaiting 7 = .ok (.aload_n 0, 1) := by decide +kernel
theorem dX5_firstWaiting_8 : decode cX5_firstWaiting 8 = .ok (.getfield 9, 3) := by decide +kernel
theorem dX5_firstWaiting_11 : decode cX5_firstWaiting 11 = .ok (.iconst 0, 1) := by decide +kernel
theorem dX5_firstWaiting_12 : decode cX5_firstWaiting 12 = .ok (.iaload, 1) := by decide +kernel
theorem dX5_firstWaiting_13 : decode cX5_firstWaiting 13 = .ok (.goto 4, 3) := by decide +kernel
theorem dX5_firstWaiting_16 : decode cX5_firstWaiting 16 = .ok (.iconst (-1), 1) := by decide +kernel
theorem dX5_firstWaiting_17 : decode cX5_firstWaiting 17 = .ok (.ireturn, 1) := by decide +kernel
theorem dX5_append_0 : decode cX5_append 0 = .ok (.aload_n 0, 1) := by decide +kernel
theorem dX5_append_1 : decode cX5_append 1 = .ok (.invokevirtual 31, 3) := by decide +kernel
theorem dX5_append_4 : decode cX5_append 4 = .ok (.ifCond .ne 23, 3) := by decide +kernel
theorem dX5_append_7 : decode cX5_append 7 = .ok (.aload_n 0, 1) := by decide +kernel
theorem dX5_append_8 : decode cX5_append 8 = .ok (.getfield 9, 3) := by decide +kernel
theorem dX5_append_11 : decode cX5_append 11 = .ok (.aload_n 0, 1) := by decide +kernel
theorem dX5_append_12 : decode cX5_append 12 = .ok (.getfield 19, 3) := by decide +kernel
theorem dX5_append_15 : decode cX5_append 15 = .ok (.iload_n 1, 1) := by decide +kernel
theorem dX5_append_16 : decode cX5_append 16 = .ok (.iastore, 1) := by decide +kernel
theorem dX5_append_17 : decode cX5_append 17 = .ok (.aload_n 0, 1) := by decide +kernel
theorem dX5_append_18 : decode cX5_append 18 = .ok (.dup, 1) := by decide +kernel
theorem dX5_append_19 : decode cX5_append 19 = .ok (.getfield 19, 3) := by decide +kernel
theorem dX5_append_22 : decode cX5_append 22 = .ok (.iconst 1, 1) := by decide +kernel
theorem dX5_append_23 : decode cX5_append 23 = .ok (.iadd, 1) := by decide +kernel
theorem dX5_append_24 : decode cX5_append 24 = .ok (.putfield 19, 3) := by decide +kernel
theorem dX5_append_27 : decode cX5_append 27 = .ok (.return_, 1) := by decide +kernel
theorem dX5_releaseFirst_0 : decode cX5_releaseFirst 0 = .ok (.aload_n 0, 1) := by decide +kernel
theorem dX5_releaseFirst_1 : decode cX5_releaseFirst 1 = .ok (.getfield 19, 3) := by decide +kernel
theorem dX5_releaseFirst_4 : decode cX5_releaseFirst 4 = .ok (.ifCond .le 38, 3) := by decide +kernel
theorem dX5_releaseFirst_7 : decode cX5_releaseFirst 7 = .ok (.aload_n 0, 1) := by decide +kernel
theorem dX5_releaseFirst_8 : decode cX5_releaseFirst 8 = .ok (.getfield 9, 3) := by decide +kernel
theorem dX5_releaseFirst_11 : decode cX5_releaseFirst 11 = .ok (.iconst 1, 1) := by decide +kernel
theorem dX5_releaseFirst_12 : decode cX5_releaseFirst 12 = .ok (.aload_n 0, 1) := by decide +kernel
theorem dX5_releaseFirst_13 : decode cX5_releaseFirst 13 = .ok (.getfield 9, 3) := by decide +kernel
theorem dX5_releaseFirst_16 : decode cX5_releaseFirst 16 = .ok (.iconst 0, 1) := by decide +kernel
theorem dX5_releaseFirst_17 : decode cX5_releaseFirst 17 = .ok (.bipush 9, 2) := by decide +kernel
theorem dX5_releaseFirst_19 : decode cX5_releaseFirst 19 = .ok (.invokestatic 25, 3) := by decide +kernel
theorem dX5_releaseFirst_22 : decode cX5_releaseFirst 22 = .ok (.aload_n 0, 1) := by decide +kernel
theorem dX5_releaseFirst_23 : decode cX5_releaseFirst 23 = .ok (.dup, 1) := by decide +kernel
theorem dX5_releaseFirst_24 : decode cX5_releaseFirst 24 = .ok (.getfield 19, 3) := by decide +kernel
theorem dX5_releaseFirst_27 : decode cX5_releaseFirst 27 = .ok (.iconst 1, 1) := by decide +kernel
theorem dX5_releaseFirst_28 : decode cX5_releaseFirst 28 = .ok (.isub, 1) := by decide +kernel
theorem dX5_releaseFirst_29 : decode cX5_releaseFirst 29 = .ok (.putfield 19, 3) := by decide +kernel
theorem dX5_releaseFirst_32 : decode cX5_releaseFirst 32 = .ok (.aload_n 0, 1) := by decide +kernel
theorem dX5_releaseFirst_33 : decode cX5_releaseFirst 33 = .ok (.dup, 1) := by decide +kernel
theorem dX5_releaseFirst_34 : decode cX5_releaseFirst 34 = .ok (.getfield 22, 3) := by decide +kernel
theorem dX5_releaseFirst_37 : decode cX5_releaseFirst 37 = .ok (.iconst 1, 1) := by decide +kernel
theorem dX5_releaseFirst_38 : decode cX5_releaseFirst 38 = .ok (.iadd, 1) := by decide +kernel
theorem dX5_releaseFirst_39 : decode cX5_releaseFirst 39 = .ok (.putfield 22, 3) := by decide +kernel
theorem dX5_releaseFirst_42 : decode cX5_releaseFirst 42 = .ok (.return_, 1) := by decide +kernel
theorem dX6_init_0 : decode cX6_init 0 = .ok (.aload_n 0, 1) := by decide +kernel
theorem dX6_init_1 : decode cX6_init 1 = .ok (.invokespecial 1, 3) := by decide +kernel
theorem dX6_init_4 : decode cX6_init 4 = .ok (.aload_n 0, 1) := by decide +kernel
theorem dX6_init_5 : decode cX6_init 5 = .ok (.new 7, 3) := by decide +kernel
theorem dX6_init_8 : decode cX6_init 8 = .ok (.dup, 1) := by decide +kernel
theorem dX6_init_9 : decode cX6_init 9 = .ok (.invokespecial 9, 3) := by decide +kernel
theorem dX6_init_12 : decode cX6_init 12 = .ok (.putfield 10, 3) := by decide +kernel
theorem dX6_init_15 : decode cX6_init 15 = .ok (.aload_n 0, 1) := by decide +kernel
theorem dX6_init_16 : decode cX6_init 16 = .ok (.new 7, 3) := by decide +kernel
theorem dX6_init_19 : decode cX6_init 19 = .ok (.dup, 1) := by decide +kernel
theorem dX6_init_20 : decode cX6_init 20 = .ok (.invokespecial 9, 3) := by decide +kernel
theorem dX6_init_23 : decode cX6_init 23 = .ok (.putfield 16, 3) := by decide +kernel
theorem dX6_init_26 : decode cX6_init 26 = .ok (.aload_n 0, 1) := by decide +kernel
theorem dX6_init_27 : decode cX6_init 27 = .ok (.new 7, 3) := by decide +kernel
theorem dX6_init_30 : decode cX6_init 30 = .ok (.dup, 1) := by decide +kernel
theorem dX6_init_31 : decode cX6_init 31 = .ok (.invokespecial 9, 3) := by decide +kernel
theorem dX6_init_34 : decode cX6_init 34 = .ok (.putfield 19, 3) := by decide +kernel
theorem dX6_init_37 : decode cX6_init 37 = .ok (.aload_n 0, 1) := by decide +kernel
theorem dX6_init_38 : decode cX6_init 38 = .ok (.bipush 8, 2) := by decide +kernel
theorem dX6_init_40 : decode cX6_init 40 = .ok (.anewarray 7, 3) := by decide +kernel
theorem dX6_init_43 : decode cX6_init 43 = .ok (.putfield 22, 3) := by decide +kernel
theorem dX6_init_46 : decode cX6_init 46 = .ok (.aload_n 0, 1) := by decide +kernel
theorem dX6_init_47 : decode cX6_init 47 = .ok (.bipush 80, 2) := by decide +kernel
theorem dX6_init_49 : decode cX6_init 49 = .ok (.newarray .char, 2) := by decide +kernel
theorem dX6_init_51 : decode cX6_init 51 = .ok (.putfield 26, 3) := by decide +kernel
theorem dX6_init_54 : decode cX6_init 54 = .ok (.aload_n 0, 1) := by decide +kernel
theorem dX6_init_55 : decode cX6_init 55 = .ok (.new 30, 3) := by decide +kernel
theorem dX6_init_58 : decode cX6_init 58 = .ok (.dup, 1) := by decide +kernel
theorem dX6_init_59 : decode cX6_init 59 = .ok (.invokespecial 32, 3) := by decide +kernel
theorem dX6_init_62 : decode cX6_init 62 = .ok (.putfield 33, 3) := by decide +kernel
theorem dX6_init_65 : decode cX6_init 65 = .ok (.iconst 0, 1) := by decide +kernel
theorem dX6_init_66 : decode cX6_init 66 = .ok (.istore_n 1, 1) := by decide +kernel
theorem dX6_init_67 : decode cX6_init 67 = .ok (.iload_n 1, 1) := by decide +kernel
theorem dX6_init_68 : decode cX6_init 68 = .ok (.bipush 8, 2) := by decide +kernel
theorem dX6_init_70 : decode cX6_init 70 = .ok (.if_icmp .ge 22, 3) := by decide +kernel
theorem dX6_init_73 : decode cX6_init 73 = .ok (.aload_n 0, 1) := by decide +kernel
theorem dX6_init_74 : decode cX6_init 74 = .ok (.getfield 22, 3) := by decide +kernel
theorem dX6_init_77 : decode cX6_init 77 = .ok (.iload_n 1, 1) := by decide +kernel
theorem dX6_init_78 : decode cX6_init 78 = .ok (.new 7, 3) := by decide +kernel
theorem dX6_init_81 : decode cX6_init 81 = .ok (.dup, 1) := by decide +kernel
theorem dX6_init_82 : decode cX6_init 82 = .ok (.invokespecial 9, 3) := by decide +kernel
theorem dX6_init_85 : decode cX6_init 85 = .ok (.aastore, 1) := by decide +kernel
theorem dX6_init_86 : decode cX6_init 86 = .ok (.iinc 1 1, 3) := by decide +kernel
theorem dX6_init_89 : decode cX6_init 89 = .ok (.goto (-22), 3) := by decide +kernel
theorem dX6_init_92 : decode cX6_init 92 = .ok (.return_, 1) := by decide +kernel
theorem dX6_build_0 : decode cX6_build 0 = .ok (.iload_n 1, 1) := by decide +kernel
theorem dX6_build_1 : decode cX6_build 1 = .ok (.bipush 12, 2) := by decide +kernel
theorem dX6_build_3 : decode cX6_build 3 = .ok (.if_icmp .lt 9, 3) := by decide +kernel
theorem dX6_build_6 : decode cX6_build 6 = .ok (.iload_n 1, 1) := by decide +kernel
theorem dX6_build_7 : decode cX6_build 7 = .ok (.bipush 30, 2) := by decide +kernel
theorem dX6_build_9 : decode cX6_build 9 = .ok (.if_icmp .le 13, 3) := by decide +kernel
theorem dX6_build_12 : decode cX6_build 12 = .ok (.new 37, 3) := by decide +kernel
theorem dX6_build_15 : decode cX6_build 15 = .ok (.dup, 1) := by decide +kernel
theorem dX6_build_16 : decode cX6_build 16 = .ok (.ldc 39, 2) := by decide +kernel
theorem dX6_build_18 : decode cX6_build 18 = .ok (.invokespecial 41, 3) := by decide +kernel
theorem dX6_build_21 : decode cX6_build 21 = .ok (.athrow, 1) := by decide +kernel
theorem dX6_build_22 : decode cX6_build 22 = .ok (.aload_n 0, 1) := by decide +kernel
theorem dX6_build_23 : decode cX6_build 23 = .ok (.getfield 10, 3) := by decide +kernel
theorem dX6_build_26 : decode cX6_build 26 = .ok (.getfield 44, 3) := by decide +kernel
theorem dX6_build_29 : decode cX6_build 29 = .ok (.istore_n 2, 1) := by decide +kernel
theorem dX6_build_30 : decode cX6_build 30 = .ok (.aload_n 0, 1) := by decide +kernel
theorem dX6_build_31 : decode cX6_build 31 = .ok (.getfield 10, 3) := by decide +kernel
theorem dX6_build_34 : decode cX6_build 34 = .ok (.iload_n 1, 1) := by decide +kernel
theorem dX6_build_35 : decode cX6_build 35 = .ok (.invokevirtual 48, 3) := by decide +kernel
theorem dX6_build_38 : decode cX6_build 38 = .ok (.aload_n 0, 1) := by decide +kernel
theorem dX6_build_39 : decode cX6_build 39 = .ok (.invokevirtual 52, 3) := by decide +kernel
theorem dX6_build_42 : decode cX6_build 42 = .ok (.iload_n 2, 1) := by decide +kernel
theorem dX6_build_43 : decode cX6_build 43 = .ok (.ireturn, 1) := by decide +kernel
theorem dX6_addStation_0 : decode cX6_addStation 0 = .ok (.aload_n 0, 1) := by decide +kernel
theorem dX6_addStation_1 : decode cX6_addStation 1 = .ok (.getfield 10, 3) := by decide +kernel
theorem dX6_addStation_4 : decode cX6_addStation 4 = .ok (.iload_n 1, 1) := by decide +kernel
theorem dX6_addStation_5 : decode cX6_addStation 5 = .ok (.invokevirtual 55, 3) := by decide +kernel
theorem dX6_addStation_8 : decode cX6_addStation 8 = .ok (.ifCond .ne 13, 3) := by decide +kernel
theorem dX6_addStation_11 : decode cX6_addStation 11 = .ok (.new 37, 3) := by decide +kernel
theorem dX6_addStation_14 : decode cX6_addStation 14 = .ok (.dup, 1) := by decide +kernel
theorem dX6_addStation_15 : decode cX6_addStation 15 = .ok (.ldc 59, 2) := by decide +kernel
theorem dX6_addStation_17 : decode cX6_addStation 17 = .ok (.invokespecial 41, 3) := by decide +kernel
theorem dX6_addStation_20 : decode cX6_addStation 20 = .ok (.athrow, 1) := by decide +kernel
theorem dX6_addStation_21 : decode cX6_addStation 21 = .ok (.aload_n 0, 1) := by decide +kernel
theorem dX6_addStation_22 : decode cX6_addStation 22 = .ok (.getfield 10, 3) := by decide +kernel
theorem dX6_addStation_25 : decode cX6_addStation 25 = .ok (.getfield 61, 3) := by decide +kernel
theorem dX6_addStation_28 : decode cX6_addStation 28 = .ok (.iconst 3, 1) := by decide +kernel
theorem dX6_addStation_29 : decode cX6_addStation 29 = .ok (.if_icmp .lt 13, 3) := by decide +kernel
theorem dX6_addStation_32 : decode cX6_addStation 32 = .ok (.new 64, 3) := by decide +kernel
theorem dX6_addStation_35 : decode cX6_addStation 35 = .ok (.dup, 1) := by decide +kernel
theorem dX6_addStation_36 : decode cX6_addStation 36 = .ok (.ldc 66, 2) := by decide +kernel
theorem dX6_addStation_38 : decode cX6_addStation 38 = .ok (.invokespecial 68, 3) := by decide +kernel
theorem dX6_addStation_41 : decode cX6_addStation 41 = .ok (.athrow, 1) := by decide +kernel
theorem dX6_addStation_42 : decode cX6_addStation 42 = .ok (.aload_n 0, 1) := by decide +kernel
theorem dX6_addStation_43 : decode cX6_addStation 43 = .ok (.invokevirtual 69, 3) := by decide +kernel
theorem dX6_addStation_46 : decode cX6_addStation 46 = .ok (.aload_n 0, 1) := by decide +kernel
theorem dX6_addStation_47 : decode cX6_addStation 47 = .ok (.getfield 10, 3) := by decide +kernel
theorem dX6_addStation_50 : decode cX6_addStation 50 = .ok (.iload_n 1, 1) := by decide +kernel
theorem dX6_addStation_51 : decode cX6_addStation 51 = .ok (.invokevirtual 72, 3) := by decide +kernel
theorem dX6_addStation_54 : decode cX6_addStation 54 = .ok (.ireturn, 1) := by decide +kernel
theorem dX6_addChute_0 : decode cX6_addChute 0 = .ok (.aload_n 0, 1) := by decide +kernel
theorem dX6_addChute_1 : decode cX6_addChute 1 = .ok (.getfield 10, 3) := by decide +kernel
theorem dX6_addChute_4 : decode cX6_addChute 4 = .ok (.iload_n 1, 1) := by decide +kernel
theorem dX6_addChute_5 : decode cX6_addChute 5 = .ok (.invokevirtual 55, 3) := by decide +kernel
theorem dX6_addChute_8 : decode cX6_addChute 8 = .ok (.ifCond .ne 13, 3) := by decide +kernel
theorem dX6_addChute_11 : decode cX6_addChute 11 = .ok (.new 37, 3) := by decide +kernel
theorem dX6_addChute_14 : decode cX6_addChute 14 = .ok (.dup, 1) := by decide +kernel
theorem dX6_addChute_15 : decode cX6_addChute 15 = .ok (.ldc 59, 2) := by decide +kernel
theorem dX6_addChute_17 : decode cX6_addChute 17 = .ok (.invokespecial 41, 3) := by decide +kernel
theorem dX6_addChute_20 : decode cX6_addChute 20 = .ok (.athrow, 1) := by decide +kernel
theorem dX6_addChute_21 : decode cX6_addChute 21 = .ok (.iload_n 2, 1) := by decide +kernel
theorem dX6_addChute_22 : decode cX6_addChute 22 = .ok (.iconst 1, 1) := by decide +kernel
theorem dX6_addChute_23 : decode cX6_addChute 23 = .ok (.bipush 20, 2) := by decide +kernel
theorem dX6_addChute_25 : decode cX6_addChute 25 = .ok (.invokestatic 76, 3) := by decide +kernel
theorem dX6_addChute_28 : decode cX6_addChute 28 = .ok (.ifCond .eq 45, 3) := by decide +kernel
theorem dX6_addChute_31 : decode cX6_addChute 31 = .ok (.iload_n 3, 1) := by decide +kernel
theorem dX6_addChute_32 : decode cX6_addChute 32 = .ok (.iconst 0, 1) := by decide +kernel
theorem dX6_addChute_33 : decode cX6_addChute 33 = .ok (.iconst 5, 1) := by decide +kernel
theorem dX6_addChute_34 : decode cX6_addChute 34 = .ok (.invokestatic 76, 3) := by decide +kernel
theorem dX6_addChute_37 : decode cX6_addChute 37 = .ok (.ifCond .eq 36, 3) := by decide +kernel
theorem dX6_addChute_40 : decode cX6_addChute 40 = .ok (.iload 4, 2) := by decide +kernel
theorem dX6_addChute_42 : decode cX6_addChute 42 = .ok (.iconst 1, 1) := by decide +kernel
theorem dX6_addChute_43 : decode cX6_addChute 43 = .ok (.bipush 50, 2) := by decide +kernel
theorem dX6_addChute_45 : decode cX6_addChute 45 = .ok (.invokestatic 76, 3) := by decide +kernel
theorem dX6_addChute_48 : decode cX6_addChute 48 = .ok (.ifCond .eq 25, 3) := by decide +kernel
theorem dX6_addChute_51 : decode cX6_addChute 51 = .ok (.iload 5, 2) := by decide +kernel
theorem dX6_addChute_53 : decode cX6_addChute 53 = .ok (.iconst 1, 1) := by decide +kernel
theorem dX6_addChute_54 : decode cX6_addChute 54 = .ok (.bipush 9, 2) := by decide +kernel
theorem dX6_addChute_56 : decode cX6_addChute 56 = .ok (.invokestatic 76, 3) := by decide +kernel
theorem dX6_addChute_59 : decode cX6_addChute 59 = .ok (.ifCond .eq 14, 3) := by decide +kernel
theorem dX6_addChute_62 : decode cX6_addChute 62 = .ok (.iload 6, 2) := by decide +kernel
theorem dX6_addChute_64 : decode cX6_addChute 64 = .ok (.iconst 0, 1) := by decide +kernel
theorem dX6_addChute_65 : decode cX6_addChute 65 = .ok (.bipush 9, 2) := by decide +kernel
theorem dX6_addChute_67 : decode cX6_addChute 67 = .ok (.invokestatic 76, 3) := by decide +kernel
theorem dX6_addChute_70 : decode cX6_addChute 70 = .ok (.ifCond .ne 13, 3) := by decide +kernel
theorem dX6_addChute_73 : decode cX6_addChute 73 = .ok (.new 37, 3) := by decide +kernel
theorem dX6_addChute_76 : decode cX6_addChute 76 = .ok (.dup, 1) := by decide +kernel
theorem dX6_addChute_77 : decode cX6_addChute 77 = .ok (.ldc 80, 2) := by decide +kernel
theorem dX6_addChute_79 : decode cX6_addChute 79 = .ok (.invokespecial 41, 3) := by decide +kernel
theorem dX6_addChute_82 : decode cX6_addChute 82 = .ok (.athrow, 1) := by decide +kernel
theorem dX6_addChute_83 : decode cX6_addChute 83 = .ok (.aload_n 0, 1) := by decide +kernel
theorem dX6_addChute_84 : decode cX6_addChute 84 = .ok (.getfield 10, 3) := by decide +kernel
theorem dX6_addChute_87 : decode cX6_addChute 87 = .ok (.getfield 82, 3) := by decide +kernel
theorem dX6_addChute_90 : decode cX6_addChute 90 = .ok (.bipush 8, 2) := by decide +kernel
theorem dX6_addChute_92 : decode cX6_addChute 92 = .ok (.if_icmp .lt 13, 3) := by decide +kernel
theorem dX6_addChute_95 : decode cX6_addChute 95 = .ok (.new 64, 3) := by decide +kernel
theorem dX6_addChute_98 : decode cX6_addChute 98 = .ok (.dup, 1) := by decide +kernel
theorem dX6_addChute_99 : decode cX6_addChute 99 = .ok (.ldc 85, 2) := by decide +kernel
theorem dX6_addChute_101 : decode cX6_addChute 101 = .ok (.invokespecial 68, 3) := by decide +kernel
theorem dX6_addChute_104 : decode cX6_addChute 104 = .ok (.athrow, 1) := by decide +kernel
theorem dX6_addChute_105 : decode cX6_addChute 105 = .ok (.aload_n 0, 1) := by decide +kernel
theorem dX6_addChute_106 : decode cX6_addChute 106 = .ok (.invokevirtual 69, 3) := by decide +kernel
theorem dX6_addChute_109 : decode cX6_addChute 109 = .ok (.aload_n 0, 1) := by decide +kernel
theorem dX6_addChute_110 : decode cX6_addChute 110 = .ok (.getfield 10, 3) := by decide +kernel
theorem dX6_addChute_113 : decode cX6_addChute 113 = .ok (.invokevirtual 87, 3) := by decide +kernel
theorem dX6_addChute_116 : decode cX6_addChute 116 = .ok (.astore 7, 2) := by decide +kernel
theorem dX6_addChute_118 : decode cX6_addChute 118 = .ok (.aload 7, 2) := by decide +kernel
theorem dX6_addChute_120 : decode cX6_addChute 120 = .ok (.iload_n 1, 1) := by decide +kernel
theorem dX6_addChute_121 : decode cX6_addChute 121 = .ok (.putfield 91, 3) := by decide +kernel
theorem dX6_addChute_124 : decode cX6_addChute 124 = .ok (.aload 7, 2) := by decide +kernel
theorem dX6_addChute_126 : decode cX6_addChute 126 = .ok (.iload_n 2, 1) := by decide +kernel
theorem dX6_addChute_127 : decode cX6_addChute 127 = .ok (.putfield 96, 3) := by decide +kernel
theorem dX6_addChute_130 : decode cX6_addChute 130 = .ok (.aload 7, 2) := by decide +kernel
theorem dX6_addChute_132 : decode cX6_addChute 132 = .ok (.iload_n 3, 1) := by decide +kernel
theorem dX6_addChute_133 : decode cX6_addChute 133 = .ok (.putfield 99, 3) := by decide +kernel
theorem dX6_addChute_136 : decode cX6_addChute 136 = .ok (.aload 7, 2) := by decide +kernel
theorem dX6_addChute_138 : decode cX6_addChute 138 = .ok (.iload 4, 2) := by decide +kernel
theorem dX6_addChute_140 : decode cX6_addChute 140 = .ok (.putfield 102, 3) := by decide +kernel
theorem dX6_addChute_143 : decode cX6_addChute 143 = .ok (.aload 7, 2) := by decide +kernel
theorem dX6_addChute_145 : decode cX6_addChute 145 = .ok (.iload 5, 2) := by decide +kernel
theorem dX6_addChute_147 : decode cX6_addChute 147 = .ok (.putfield 105, 3) := by decide +kernel
theorem dX6_addChute_150 : decode cX6_addChute 150 = .ok (.aload 7, 2) := by decide +kernel
theorem dX6_addChute_152 : decode cX6_addChute 152 = .ok (.iload 6, 2) := by decide +kernel
theorem dX6_addChute_154 : decode cX6_addChute 154 = .ok (.putfield 108, 3) := by decide +kernel
theorem dX6_addChute_157 : decode cX6_addChute 157 = .ok (.aload_n 0, 1) := by decide +kernel
theorem dX6_addChute_158 : decode cX6_addChute 158 = .ok (.getfield 10, 3) := by decide +kernel
theorem dX6_addChute_161 : decode cX6_addChute 161 = .ok (.getfield 82, 3) := by decide +kernel
theorem dX6_addChute_164 : decode cX6_addChute 164 = .ok (.iconst 1, 1) := by decide +kernel
theorem dX6_addChute_165 : decode cX6_addChute 165 = .ok (.isub, 1) := by decide +kernel
theorem dX6_addChute_166 : decode cX6_addChute 166 = .ok (.ireturn, 1) := by decide +kernel
theorem dX6_feed_0 : decode cX6_feed 0 = .ok (.aload_n 0, 1) := by decide +kernel
theorem dX6_feed_1 : decode cX6_feed 1 = .ok (.getfield 111, 3) := by decide +kernel
theorem dX6_feed_4 : decode cX6_feed 4 = .ok (.bipush 80, 2) := by decide +kernel
theorem dX6_feed_6 : decode cX6_feed 6 = .ok (.if_icmp .lt 13, 3) := by decide +kernel
theorem dX6_feed_9 : decode cX6_feed 9 = .ok (.new 64, 3) := by decide +kernel
theorem dX6_feed_12 : decode cX6_feed 12 = .ok (.dup, 1) := by decide +kernel
theorem dX6_feed_13 : decode cX6_feed 13 = .ok (.ldc 114, 2) := by decide +kernel
theorem dX6_feed_15 : decode cX6_feed 15 = .ok (.invokespecial 68, 3) := by decide +kernel
theorem dX6_feed_18 : decode cX6_feed 18 = .ok (.athrow, 1) := by decide +kernel
theorem dX6_feed_19 : decode cX6_feed 19 = .ok (.aload_n 0, 1) := by decide +kernel
theorem dX6_feed_20 : decode cX6_feed 20 = .ok (.getfield 26, 3) := by decide +kernel
theorem dX6_feed_23 : decode cX6_feed 23 = .ok (.aload_n 0, 1) := by decide +kernel
theorem dX6_feed_24 : decode cX6_feed 24 = .ok (.getfield 111, 3) := by decide +kernel
theorem dX6_feed_27 : decode cX6_feed 27 = .ok (.iload_n 1, 1) := by decide +kernel
theorem dX6_feed_28 : decode cX6_feed 28 = .ok (.castore, 1) := by decide +kernel
theorem dX6_feed_29 : decode cX6_feed 29 = .ok (.aload_n 0, 1) := by decide +kernel
theorem dX6_feed_30 : decode cX6_feed 30 = .ok (.dup, 1) := by decide +kernel
theorem dX6_feed_31 : decode cX6_feed 31 = .ok (.getfield 111, 3) := by decide +kernel
theorem dX6_feed_34 : decode cX6_feed 34 = .ok (.iconst 1, 1) := by decide +kernel
theorem dX6_feed_35 : decode cX6_feed 35 = .ok (.iadd, 1) := by decide +kernel
theorem dX6_feed_36 : decode cX6_feed 36 = .ok (.putfield 111, 3) := by decide +kernel
theorem dX6_feed_39 : decode cX6_feed 39 = .ok (.aload_n 0, 1) := by decide +kernel
theorem dX6_feed_40 : decode cX6_feed 40 = .ok (.getfield 111, 3) := by decide +kernel
theorem dX6_feed_43 : decode cX6_feed 43 = .ok (.ireturn, 1) := by decide +kernel
theorem dX6_addPlan_0 : decode cX6_addPlan 0 = .ok (.new 116, 3) := by decide +kernel
theorem dX6_addPlan_3 : decode cX6_addPlan 3 = .ok (.dup, 1) := by decide +kernel
theorem dX6_addPlan_4 : decode cX6_addPlan 4 = .ok (.aload_n 0, 1) := by decide +kernel
theorem dX6_addPlan_5 : decode cX6_addPlan 5 = .ok (.getfield 26, 3) := by decide +kernel
theorem dX6_addPlan_8 : decode cX6_addPlan 8 = .ok (.aload_n 0, 1) := by decide +kernel
theorem dX6_addPlan_9 : decode cX6_addPlan 9 = .ok (.getfield 111, 3) := by decide +kernel
theorem dX6_addPlan_12 : decode cX6_addPlan 12 = .ok (.invokespecial 118, 3) := by decide +kernel
theorem dX6_addPlan_15 : decode cX6_addPlan 15 = .ok (.astore_n 1, 1) := by decide +kernel
theorem dX6_addPlan_16 : decode cX6_addPlan 16 = .ok (.aload_n 0, 1) := by decide +kernel
theorem dX6_addPlan_17 : decode cX6_addPlan 17 = .ok (.iconst 0, 1) := by decide +kernel
theorem dX6_addPlan_18 : decode cX6_addPlan 18 = .ok (.putfield 111, 3) := by decide +kernel
theorem dX6_addPlan_21 : decode cX6_addPlan 21 = .ok (.aload_n 1, 1) := by decide +kernel
theorem dX6_addPlan_22 : decode cX6_addPlan 22 = .ok (.invokevirtual 121, 3) := by decide +kernel
theorem dX6_addPlan_25 : decode cX6_addPlan 25 = .ok (.ifCond .ne 11, 3) := by decide +kernel
theorem dX6_addPlan_28 : decode cX6_addPlan 28 = .ok (.bipush (-100), 2) := by decide +kernel
theorem dX6_addPlan_30 : decode cX6_addPlan 30 = .ok (.aload_n 1, 1) := by decide +kernel
theorem dX6_addPlan_31 : decode cX6_addPlan 31 = .ok (.getfield 125, 3) := by decide +kernel
theorem dX6_addPlan_34 : decode cX6_addPlan 34 = .ok (.isub, 1) := by decide +kernel
theorem dX6_addPlan_35 : decode cX6_addPlan 35 = .ok (.ireturn, 1) := by decide +kernel
theorem dX6_addPlan_36 : decode cX6_addPlan 36 = .ok (.aload_n 1, 1) := by decide +kernel
theorem dX6_addPlan_37 : decode cX6_addPlan 37 = .ok (.getfield 128, 3) := by decide +kernel
theorem dX6_addPlan_40 : decode cX6_addPlan 40 = .ok (.astore_n 2, 1) := by decide +kernel
theorem dX6_addPlan_41 : decode cX6_addPlan 41 = .ok (.aload_n 2, 1) := by decide +kernel
theorem dX6_addPlan_42 : decode cX6_addPlan 42 = .ok (.aload_n 0, 1) := by decide +kernel
theorem dX6_addPlan_43 : decode cX6_addPlan 43 = .ok (.getfield 10, 3) := by decide +kernel
theorem dX6_addPlan_46 : decode cX6_addPlan 46 = .ok (.getfield 82, 3) := by decide +kernel
theorem dX6_addPlan_49 : decode cX6_addPlan 49 = .ok (.invokevirtual 132, 3) := by decide +kernel
theorem dX6_addPlan_52 : decode cX6_addPlan 52 = .ok (.ifCond .ne 13, 3) := by decide +kernel
theorem dX6_addPlan_55 : decode cX6_addPlan 55 = .ok (.new 137, 3) := by decide +kernel
theorem dX6_addPlan_58 : decode cX6_addPlan 58 = .ok (.dup, 1) := by decide +kernel
theorem dX6_addPlan_59 : decode cX6_addPlan 59 = .ok (.ldc 139, 2) := by decide +kernel
theorem dX6_addPlan_61 : decode cX6_addPlan 61 = .ok (.invokespecial 141, 3) := by decide +kernel
theorem dX6_addPlan_64 : decode cX6_addPlan 64 = .ok (.athrow, 1) := by decide +kernel
theorem dX6_addPlan_65 : decode cX6_addPlan 65 = .ok (.aload_n 0, 1) := by decide +kernel
theorem dX6_addPlan_66 : decode cX6_addPlan 66 = .ok (.getfield 10, 3) := by decide +kernel
theorem dX6_addPlan_69 : decode cX6_addPlan 69 = .ok (.getfield 142, 3) := by decide +kernel
theorem dX6_addPlan_72 : decode cX6_addPlan 72 = .ok (.iconst 5, 1) := by decide +kernel
theorem dX6_addPlan_73 : decode cX6_addPlan 73 = .ok (.if_icmp .lt 27, 3) := by decide +kernel
theorem dX6_addPlan_76 : decode cX6_addPlan 76 = .ok (.aload_n 0, 1) := by decide +kernel
theorem dX6_addPlan_77 : decode cX6_addPlan 77 = .ok (.getfield 10, 3) := by decide +kernel
theorem dX6_addPlan_80 : decode cX6_addPlan 80 = .ok (.aload_n 2, 1) := by decide +kernel
theorem dX6_addPlan_81 : decode cX6_addPlan 81 = .ok (.getfield 145, 3) := by decide +kernel
theorem dX6_addPlan_84 : decode cX6_addPlan 84 = .ok (.invokevirtual 148, 3) := by decide +kernel
theorem dX6_addPlan_87 : decode cX6_addPlan 87 = .ok (.ifCond .ne 13, 3) := by decide +kernel
theorem dX6_addPlan_90 : decode cX6_addPlan 90 = .ok (.new 64, 3) := by decide +kernel
theorem dX6_addPlan_93 : decode cX6_addPlan 93 = .ok (.dup, 1) := by decide +kernel
theorem dX6_addPlan_94 : decode cX6_addPlan 94 = .ok (.ldc 151, 2) := by decide +kernel
theorem dX6_addPlan_96 : decode cX6_addPlan 96 = .ok (.invokespecial 68, 3) := by decide +kernel
theorem dX6_addPlan_99 : decode cX6_addPlan 99 = .ok (.athrow, 1) := by decide +kernel
theorem dX6_addPlan_100 : decode cX6_addPlan 100 = .ok (.aload_n 0, 1) := by decide +kernel
theorem dX6_addPlan_101 : decode cX6_addPlan 101 = .ok (.invokevirtual 69, 3) := by decide +kernel
theorem dX6_addPlan_104 : decode cX6_addPlan 104 = .ok (.aload_n 0, 1) := by decide +kernel
theorem dX6_addPlan_105 : decode cX6_addPlan 105 = .ok (.getfield 10, 3) := by decide +kernel
theorem dX6_addPlan_108 : decode cX6_addPlan 108 = .ok (.aload_n 2, 1) := by decide +kernel
theorem dX6_addPlan_109 : decode cX6_addPlan 109 = .ok (.invokevirtual 153, 3) := by decide +kernel
theorem dX6_addPlan_112 : decode cX6_addPlan 112 = .ok (.aload_n 0, 1) := by decide +kernel
theorem dX6_addPlan_113 : decode cX6_addPlan 113 = .ok (.getfield 10, 3) := by decide +kernel
theorem dX6_addPlan_116 : decode cX6_addPlan 116 = .ok (.getfield 142, 3) := by decide +kernel
theorem dX6_addPlan_119 : decode cX6_addPlan 119 = .ok (.ireturn, 1) := by decide +kernel
theorem dX6_plan_0 : decode cX6_plan 0 = .ok (.iload_n 1, 1) := by decide +kernel
theorem dX6_plan_1 : decode cX6_plan 1 = .ok (.aload_n 0, 1) := by decide +kernel
theorem dX6_plan_2 : decode cX6_plan 2 = .ok (.getfield 10, 3) := by decide +kernel
theorem dX6_plan_5 : decode cX6_plan 5 = .ok (.getfield 142, 3) := by decide +kernel
theorem dX6_plan_8 : decode cX6_plan 8 = .ok (.invokestatic 157, 3) := by decide +kernel
theorem dX6_plan_11 : decode cX6_plan 11 = .ok (.iload_n 2, 1) := by decide +kernel
theorem dX6_plan_12 : decode cX6_plan 12 = .ok (.iconst 4, 1) := by decide +kernel
theorem dX6_plan_13 : decode cX6_plan 13 = .ok (.invokestatic 161, 3) := by decide +kernel
theorem dX6_plan_16 : decode cX6_plan 16 = .ok (.aload_n 0, 1) := by decide +kernel
theorem dX6_plan_17 : decode cX6_plan 17 = .ok (.getfield 10, 3) := by decide +kernel
theorem dX6_plan_20 : decode cX6_plan 20 = .ok (.getfield 164, 3) := by decide +kernel
theorem dX6_plan_23 : decode cX6_plan 23 = .ok (.iload_n 1, 1) := by decide +kernel
theorem dX6_plan_24 : decode cX6_plan 24 = .ok (.aaload, 1) := by decide +kernel
theorem dX6_plan_25 : decode cX6_plan 25 = .ok (.astore_n 3, 1) := by decide +kernel
theorem dX6_plan_26 : decode cX6_plan 26 = .ok (.iload_n 2, 1) := by decide +kernel
theorem dX6_plan_27 : decode cX6_plan 27 = .ok (.tableswitch 49 0 3 #[29, 34, 39, 44], 29) := by decide +kernel
theorem dX6_plan_56 : decode cX6_plan 56 = .ok (.aload_n 3, 1) := by decide +kernel
theorem dX6_plan_57 : decode cX6_plan 57 = .ok (.getfield 145, 3) := by decide +kernel
theorem dX6_plan_60 : decode cX6_plan 60 = .ok (.ireturn, 1) := by decide +kernel
theorem dX6_plan_61 : decode cX6_plan 61 = .ok (.aload_n 3, 1) := by decide +kernel
theorem dX6_plan_62 : decode cX6_plan 62 = .ok (.getfield 168, 3) := by decide +kernel
theorem dX6_plan_65 : decode cX6_plan 65 = .ok (.ireturn, 1) := by decide +kernel
theorem dX6_plan_66 : decode cX6_plan 66 = .ok (.aload_n 3, 1) := by decide +kernel
theorem dX6_plan_67 : decode cX6_plan 67 = .ok (.getfield 171, 3) := by decide +kernel
theorem dX6_plan_70 : decode cX6_plan 70 = .ok (.ireturn, 1) := by decide +kernel
theorem dX6_plan_71 : decode cX6_plan 71 = .ok (.aload_n 3, 1) := by decide +kernel
theorem dX6_plan_72 : decode cX6_plan 72 = .ok (.getfield 174, 3) := by decide +kernel
theorem dX6_plan_75 : decode cX6_plan 75 = .ok (.ireturn, 1) := by decide +kernel
theorem dX6_plan_76 : decode cX6_plan 76 = .ok (.aload_n 3, 1) := by decide +kernel
theorem dX6_plan_77 : decode cX6_plan 77 = .ok (.invokevirtual 177, 3) := by decide +kernel
theorem dX6_plan_80 : decode cX6_plan 80 = .ok (.ireturn, 1) := by decide +kernel
theorem dX6_route_0 : decode cX6_route 0 = .ok (.iload_n 1, 1) := by decide +kernel
theorem dX6_route_1 : decode cX6_route 1 = .ok (.ifCond .lt 13, 3) := by decide +kernel
theorem dX6_route_4 : decode cX6_route 4 = .ok (.iload_n 2, 1) := by decide +kernel
theorem dX6_route_5 : decode cX6_route 5 = .ok (.iconst 0, 1) := by decide +kernel
theorem dX6_route_6 : decode cX6_route 6 = .ok (.bipush 99, 2) := by decide +kernel
theorem dX6_route_8 : decode cX6_route 8 = .ok (.invokestatic 76, 3) := by decide +kernel
theorem dX6_route_11 : decode cX6_route 11 = .ok (.ifCond .ne 13, 3) := by decide +kernel
theorem dX6_route_14 : decode cX6_route 14 = .ok (.new 37, 3) := by decide +kernel
theorem dX6_route_17 : decode cX6_route 17 = .ok (.dup, 1) := by decide +kernel
theorem dX6_route_18 : decode cX6_route 18 = .ok (.ldc 80, 2) := by decide +kernel
theorem dX6_route_20 : decode cX6_route 20 = .ok (.invokespecial 41, 3) := by decide +kernel
theorem dX6_route_23 : decode cX6_route 23 = .ok (.athrow, 1) := by decide +kernel
theorem dX6_route_24 : decode cX6_route 24 = .ok (.aload_n 0, 1) := by decide +kernel
theorem dX6_route_25 : decode cX6_route 25 = .ok (.getfield 10, 3) := by decide +kernel
theorem dX6_route_28 : decode cX6_route 28 = .ok (.iload_n 1, 1) := by decide +kernel
theorem dX6_route_29 : decode cX6_route 29 = .ok (.invokevirtual 181, 3) := by decide +kernel
theorem dX6_route_32 : decode cX6_route 32 = .ok (.astore 4, 2) := by decide +kernel
theorem dX6_route_34 : decode cX6_route 34 = .ok (.aload 4, 2) := by decide +kernel
theorem dX6_route_36 : decode cX6_route 36 = .ok (.ifnonnull 13, 3) := by decide +kernel
theorem dX6_route_39 : decode cX6_route 39 = .ok (.new 64, 3) := by decide +kernel
theorem dX6_route_42 : decode cX6_route 42 = .ok (.dup, 1) := by decide +kernel
theorem dX6_route_43 : decode cX6_route 43 = .ok (.ldc 185, 2) := by decide +kernel
theorem dX6_route_45 : decode cX6_route 45 = .ok (.invokespecial 68, 3) := by decide +kernel
theorem dX6_route_48 : decode cX6_route 48 = .ok (.athrow, 1) := by decide +kernel
theorem dX6_route_49 : decode cX6_route 49 = .ok (.aload 4, 2) := by decide +kernel
theorem dX6_route_51 : decode cX6_route 51 = .ok (.iload_n 2, 1) := by decide +kernel
theorem dX6_route_52 : decode cX6_route 52 = .ok (.invokevirtual 187, 3) := by decide +kernel
theorem dX6_route_55 : decode cX6_route 55 = .ok (.istore 5, 2) := by decide +kernel
theorem dX6_route_57 : decode cX6_route 57 = .ok (.iload 5, 2) := by decide +kernel
theorem dX6_route_59 : decode cX6_route 59 = .ok (.iconst (-1), 1) := by decide +kernel
theorem dX6_route_60 : decode cX6_route 60 = .ok (.if_icmp .ne 13, 3) := by decide +kernel
theorem dX6_route_63 : decode cX6_route 63 = .ok (.new 190, 3) := by decide +kernel
theorem dX6_route_66 : decode cX6_route 66 = .ok (.dup, 1) := by decide +kernel
theorem dX6_route_67 : decode cX6_route 67 = .ok (.ldc 192, 2) := by decide +kernel
theorem dX6_route_69 : decode cX6_route 69 = .ok (.invokespecial 194, 3) := by decide +kernel
theorem dX6_route_72 : decode cX6_route 72 = .ok (.athrow, 1) := by decide +kernel
theorem dX6_route_73 : decode cX6_route 73 = .ok (.iload_n 3, 1) := by decide +kernel
theorem dX6_route_74 : decode cX6_route 74 = .ok (.iconst (-1), 1) := by decide +kernel
theorem dX6_route_75 : decode cX6_route 75 = .ok (.if_icmp .lt 15, 3) := by decide +kernel
theorem dX6_route_78 : decode cX6_route 78 = .ok (.iload_n 3, 1) := by decide +kernel
theorem dX6_route_79 : decode cX6_route 79 = .ok (.aload 4, 2) := by decide +kernel
theorem dX6_route_81 : decode cX6_route 81 = .ok (.getfield 195, 3) := by decide +kernel
theorem dX6_route_84 : decode cX6_route 84 = .ok (.iload 5, 2) := by decide +kernel
theorem dX6_route_86 : decode cX6_route 86 = .ok (.iaload, 1) := by decide +kernel
theorem dX6_route_87 : decode cX6_route 87 = .ok (.if_icmp .lt 13, 3) := by decide +kernel
theorem dX6_route_90 : decode cX6_route 90 = .ok (.new 190, 3) := by decide +kernel
theorem dX6_route_93 : decode cX6_route 93 = .ok (.dup, 1) := by decide +kernel
theorem dX6_route_94 : decode cX6_route 94 = .ok (.ldc 199, 2) := by decide +kernel
theorem dX6_route_96 : decode cX6_route 96 = .ok (.invokespecial 194, 3) := by decide +kernel
theorem dX6_route_99 : decode cX6_route 99 = .ok (.athrow, 1) := by decide +kernel
theorem dX6_route_100 : decode cX6_route 100 = .ok (.iload_n 3, 1) := by decide +kernel
theorem dX6_route_101 : decode cX6_route 101 = .ok (.iconst (-1), 1) := by decide +kernel
theorem dX6_route_102 : decode cX6_route 102 = .ok (.if_icmp .ne 14, 3) := by decide +kernel
theorem dX6_route_105 : decode cX6_route 105 = .ok (.aload 4, 2) := by decide +kernel
theorem dX6_route_107 : decode cX6_route 107 = .ok (.getfield 195, 3) := by decide +kernel
theorem dX6_route_110 : decode cX6_route 110 = .ok (.iload 5, 2) := by decide +kernel
theorem dX6_route_112 : decode cX6_route 112 = .ok (.iaload, 1) := by decide +kernel
theorem dX6_route_113 : decode cX6_route 113 = .ok (.goto 11, 3) := by decide +kernel
theorem dX6_route_116 : decode cX6_route 116 = .ok (.aload 4, 2) := by decide +kernel
theorem dX6_route_118 : decode cX6_route 118 = .ok (.iload 5, 2) := by decide +kernel
theorem dX6_route_120 : decode cX6_route 120 = .ok (.iload_n 3, 1) := by decide +kernel
theorem dX6_route_121 : decode cX6_route 121 = .ok (.invokevirtual 201, 3) := by decide +kernel
theorem dX6_route_124 : decode cX6_route 124 = .ok (.ireturn, 1) := by decide +kernel
theorem dX6_arrive_0 : decode cX6_arrive 0 = .ok (.iload_n 1, 1) := by decide +kernel
theorem dX6_arrive_1 : decode cX6_arrive 1 = .ok (.aload_n 0, 1) := by decide +kernel
theorem dX6_arrive_2 : decode cX6_arrive 2 = .ok (.getfield 10, 3) := by decide +kernel
theorem dX6_arrive_5 : decode cX6_arrive 5 = .ok (.getfield 61, 3) := by decide +kernel
theorem dX6_arrive_8 : decode cX6_arrive 8 = .ok (.invokestatic 157, 3) := by decide +kernel
theorem dX6_arrive_11 : decode cX6_arrive 11 = .ok (.iload_n 2, 1) := by decide +kernel
theorem dX6_arrive_12 : decode cX6_arrive 12 = .ok (.iconst 0, 1) := by decide +kernel
theorem dX6_arrive_13 : decode cX6_arrive 13 = .ok (.bipush 99, 2) := by decide +kernel
theorem dX6_arrive_15 : decode cX6_arrive 15 = .ok (.invokestatic 76, 3) := by decide +kernel
theorem dX6_arrive_18 : decode cX6_arrive 18 = .ok (.ifCond .eq 23, 3) := by decide +kernel
theorem dX6_arrive_21 : decode cX6_arrive 21 = .ok (.iload_n 3, 1) := by decide +kernel
theorem dX6_arrive_22 : decode cX6_arrive 22 = .ok (.iconst 1, 1) := by decide +kernel
theorem dX6_arrive_23 : decode cX6_arrive 23 = .ok (.bipush 50, 2) := by decide +kernel
theorem dX6_arrive_25 : decode cX6_arrive 25 = .ok (.invokestatic 76, 3) := by decide +kernel
theorem dX6_arrive_28 : decode cX6_arrive 28 = .ok (.ifCond .eq 13, 3) := by decide +kernel
theorem dX6_arrive_31 : decode cX6_arrive 31 = .ok (.iload 4, 2) := by decide +kernel
theorem dX6_arrive_33 : decode cX6_arrive 33 = .ok (.iconst 0, 1) := by decide +kernel
theorem dX6_arrive_34 : decode cX6_arrive 34 = .ok (.iconst 2, 1) := by decide +kernel
theorem dX6_arrive_35 : decode cX6_arrive 35 = .ok (.invokestatic 76, 3) := by decide +kernel
theorem dX6_arrive_38 : decode cX6_arrive 38 = .ok (.ifCond .ne 13, 3) := by decide +kernel
theorem dX6_arrive_41 : decode cX6_arrive 41 = .ok (.new 37, 3) := by decide +kernel
theorem dX6_arrive_44 : decode cX6_arrive 44 = .ok (.dup, 1) := by decide +kernel
theorem dX6_arrive_45 : decode cX6_arrive 45 = .ok (.ldc 80, 2) := by decide +kernel
theorem dX6_arrive_47 : decode cX6_arrive 47 = .ok (.invokespecial 41, 3) := by decide +kernel
theorem dX6_arrive_50 : decode cX6_arrive 50 = .ok (.athrow, 1) := by decide +kernel
theorem dX6_arrive_51 : decode cX6_arrive 51 = .ok (.aload_n 0, 1) := by decide +kernel
theorem dX6_arrive_52 : decode cX6_arrive 52 = .ok (.getfield 10, 3) := by decide +kernel
theorem dX6_arrive_55 : decode cX6_arrive 55 = .ok (.getfield 44, 3) := by decide +kernel
theorem dX6_arrive_58 : decode cX6_arrive 58 = .ok (.bipush 60, 2) := by decide +kernel
theorem dX6_arrive_60 : decode cX6_arrive 60 = .ok (.if_icmp .ge 18, 3) := by decide +kernel
theorem dX6_arrive_63 : decode cX6_arrive 63 = .ok (.aload_n 0, 1) := by decide +kernel
theorem dX6_arrive_64 : decode cX6_arrive 64 = .ok (.getfield 10, 3) := by decide +kernel
theorem dX6_arrive_67 : decode cX6_arrive 67 = .ok (.getfield 205, 3) := by decide +kernel
theorem dX6_arrive_70 : decode cX6_arrive 70 = .ok (.iload_n 1, 1) := by decide +kernel
theorem dX6_arrive_71 : decode cX6_arrive 71 = .ok (.aaload, 1) := by decide +kernel
theorem dX6_arrive_72 : decode cX6_arrive 72 = .ok (.invokevirtual 209, 3) := by decide +kernel
theorem dX6_arrive_75 : decode cX6_arrive 75 = .ok (.ifCond .eq 13, 3) := by decide +kernel
theorem dX6_arrive_78 : decode cX6_arrive 78 = .ok (.new 64, 3) := by decide +kernel
theorem dX6_arrive_81 : decode cX6_arrive 81 = .ok (.dup, 1) := by decide +kernel
theorem dX6_arrive_82 : decode cX6_arrive 82 = .ok (.ldc 214, 2) := by decide +kernel
theorem dX6_arrive_84 : decode cX6_arrive 84 = .ok (.invokespecial 68, 3) := by decide +kernel
theorem dX6_arrive_87 : decode cX6_arrive 87 = .ok (.athrow, 1) := by decide +kernel
theorem dX6_arrive_88 : decode cX6_arrive 88 = .ok (.aload_n 0, 1) := by decide +kernel
theorem dX6_arrive_89 : decode cX6_arrive 89 = .ok (.invokevirtual 69, 3) := by decide +kernel
theorem dX6_arrive_92 : decode cX6_arrive 92 = .ok (.aload_n 0, 1) := by decide +kernel
theorem dX6_arrive_93 : decode cX6_arrive 93 = .ok (.getfield 10, 3) := by decide +kernel
theorem dX6_arrive_96 : decode cX6_arrive 96 = .ok (.iload_n 1, 1) := by decide +kernel
theorem dX6_arrive_97 : decode cX6_arrive 97 = .ok (.iload_n 2, 1) := by decide +kernel
theorem dX6_arrive_98 : decode cX6_arrive 98 = .ok (.invokevirtual 216, 3) := by decide +kernel
theorem dX6_arrive_101 : decode cX6_arrive 101 = .ok (.istore 5, 2) := by decide +kernel
theorem dX6_arrive_103 : decode cX6_arrive 103 = .ok (.aload_n 0, 1) := by decide +kernel
theorem dX6_arrive_104 : decode cX6_arrive 104 = .ok (.getfield 10, 3) := by decide +kernel
theorem dX6_arrive_107 : decode cX6_arrive 107 = .ok (.getfield 219, 3) := by decide +kernel
theorem dX6_arrive_110 : decode cX6_arrive 110 = .ok (.iload 5, 2) := by decide +kernel
theorem dX6_arrive_112 : decode cX6_arrive 112 = .ok (.aaload, 1) := by decide +kernel
theorem dX6_arrive_113 : decode cX6_arrive 113 = .ok (.iload_n 3, 1) := by decide +kernel
theorem dX6_arrive_114 : decode cX6_arrive 114 = .ok (.putfield 223, 3) := by decide +kernel
theorem dX6_arrive_117 : decode cX6_arrive 117 = .ok (.aload_n 0, 1) := by decide +kernel
theorem dX6_arrive_118 : decode cX6_arrive 118 = .ok (.getfield 10, 3) := by decide +kernel
theorem dX6_arrive_121 : decode cX6_arrive 121 = .ok (.getfield 219, 3) := by decide +kernel
theorem dX6_arrive_124 : decode cX6_arrive 124 = .ok (.iload 5, 2) := by decide +kernel
theorem dX6_arrive_126 : decode cX6_arrive 126 = .ok (.aaload, 1) := by decide +kernel
theorem dX6_arrive_127 : decode cX6_arrive 127 = .ok (.iload 4, 2) := by decide +kernel
theorem dX6_arrive_129 : decode cX6_arrive 129 = .ok (.putfield 228, 3) := by decide +kernel
theorem dX6_arrive_132 : decode cX6_arrive 132 = .ok (.iload 5, 2) := by decide +kernel
theorem dX6_arrive_134 : decode cX6_arrive 134 = .ok (.ireturn, 1) := by decide +kernel
theorem dX6_find_0 : decode cX6_find 0 = .ok (.iconst 0, 1) := by decide +kernel
theorem dX6_find_1 : decode cX6_find 1 = .ok (.istore_n 3, 1) := by decide +kernel
theorem dX6_find_2 : decode cX6_find 2 = .ok (.iload_n 3, 1) := by decide +kernel
theorem dX6_find_3 : decode cX6_find 3 = .ok (.aload_n 0, 1) := by decide +kernel
theorem dX6_find_4 : decode cX6_find 4 = .ok (.getfield 10, 3) := by decide +kernel
theorem dX6_find_7 : decode cX6_find 7 = .ok (.getfield 44, 3) := by decide +kernel
theorem dX6_find_10 : decode cX6_find 10 = .ok (.if_icmp .ge 40, 3) := by decide +kernel
theorem dX6_find_13 : decode cX6_find 13 = .ok (.aload_n 0, 1) := by decide +kernel
theorem dX6_find_14 : decode cX6_find 14 = .ok (.getfield 10, 3) := by decide +kernel
theorem dX6_find_17 : decode cX6_find 17 = .ok (.getfield 219, 3) := by decide +kernel
theorem dX6_find_20 : decode cX6_find 20 = .ok (.iload_n 3, 1) := by decide +kernel
theorem dX6_find_21 : decode cX6_find 21 = .ok (.aaload, 1) := by decide +kernel
theorem dX6_find_22 : decode cX6_find 22 = .ok (.astore 4, 2) := by decide +kernel
theorem dX6_find_24 : decode cX6_find 24 = .ok (.aload 4, 2) := by decide +kernel
theorem dX6_find_26 : decode cX6_find 26 = .ok (.getfield 231, 3) := by decide +kernel
theorem dX6_find_29 : decode cX6_find 29 = .ok (.iload_n 1, 1) := by decide +kernel
theorem dX6_find_30 : decode cX6_find 30 = .ok (.if_icmp .ne 14, 3) := by decide +kernel
theorem dX6_find_33 : decode cX6_find 33 = .ok (.aload 4, 2) := by decide +kernel
theorem dX6_find_35 : decode cX6_find 35 = .ok (.getfield 234, 3) := by decide +kernel
theorem dX6_find_38 : decode cX6_find 38 = .ok (.iload_n 2, 1) := by decide +kernel
theorem dX6_find_39 : decode cX6_find 39 = .ok (.if_icmp .ne 5, 3) := by decide +kernel
theorem dX6_find_42 : decode cX6_find 42 = .ok (.iload_n 3, 1) := by decide +kernel
theorem dX6_find_43 : decode cX6_find 43 = .ok (.ireturn, 1) := by decide +kernel
theorem dX6_find_44 : decode cX6_find 44 = .ok (.iinc 3 1, 3) := by decide +kernel
theorem dX6_find_47 : decode cX6_find 47 = .ok (.goto (-45), 3) := by decide +kernel
theorem dX6_find_50 : decode cX6_find 50 = .ok (.new 190, 3) := by decide +kernel
theorem dX6_find_53 : decode cX6_find 53 = .ok (.dup, 1) := by decide +kernel
theorem dX6_find_54 : decode cX6_find 54 = .ok (.ldc 237, 2) := by decide +kernel
theorem dX6_find_56 : decode cX6_find 56 = .ok (.invokespecial 194, 3) := by decide +kernel
theorem dX6_find_59 : decode cX6_find 59 = .ok (.athrow, 1) := by decide +kernel
theorem dX6_parcel_0 : decode cX6_parcel 0 = .ok (.iload_n 1, 1) := by decide +kernel
theorem dX6_parcel_1 : decode cX6_parcel 1 = .ok (.aload_n 0, 1) := by decide +kernel
theorem dX6_parcel_2 : decode cX6_parcel 2 = .ok (.getfield 10, 3) := by decide +kernel
theorem dX6_parcel_5 : decode cX6_parcel 5 = .ok (.getfield 44, 3) := by decide +kernel
theorem dX6_parcel_8 : decode cX6_parcel 8 = .ok (.invokestatic 157, 3) := by decide +kernel
theorem dX6_parcel_11 : decode cX6_parcel 11 = .ok (.iload_n 2, 1) := by decide +kernel
theorem dX6_parcel_12 : decode cX6_parcel 12 = .ok (.bipush 11, 2) := by decide +kernel
theorem dX6_parcel_14 : decode cX6_parcel 14 = .ok (.invokestatic 161, 3) := by decide +kernel
theorem dX6_parcel_17 : decode cX6_parcel 17 = .ok (.aload_n 0, 1) := by decide +kernel
theorem dX6_parcel_18 : decode cX6_parcel 18 = .ok (.getfield 10, 3) := by decide +kernel
theorem dX6_parcel_21 : decode cX6_parcel 21 = .ok (.getfield 219, 3) := by decide +kernel
theorem dX6_parcel_24 : decode cX6_parcel 24 = .ok (.iload_n 1, 1) := by decide +kernel
theorem dX6_parcel_25 : decode cX6_parcel 25 = .ok (.aaload, 1) := by decide +kernel
theorem dX6_parcel_26 : decode cX6_parcel 26 = .ok (.astore_n 3, 1) := by decide +kernel
theorem dX6_parcel_27 : decode cX6_parcel 27 = .ok (.iload_n 2, 1) := by decide +kernel
theorem dX6_parcel_28 : decode cX6_parcel 28 = .ok (.tableswitch 137 0 10 #[60, 65, 70, 75, 80, 85, 112, 117, 122, 127, 132], 60) := by decide +kernel
theorem dX6_parcel_88 : decode cX6_parcel 88 = .ok (.aload_n 3, 1) := by decide +kernel
theorem dX6_parcel_89 : decode cX6_parcel 89 = .ok (.getfield 231, 3) := by decide +kernel
theorem dX6_parcel_92 : decode cX6_parcel 92 = .ok (.ireturn, 1) := by decide +kernel
theorem dX6_parcel_93 : decode cX6_parcel 93 = .ok (.aload_n 3, 1) := by decide +kernel
theorem dX6_parcel_94 : decode cX6_parcel 94 = .ok (.getfield 234, 3) := by decide +kernel
theorem dX6_parcel_97 : decode cX6_parcel 97 = .ok (.ireturn, 1) := by decide +kernel
theorem dX6_parcel_98 : decode cX6_parcel 98 = .ok (.aload_n 3, 1) := by decide +kernel
theorem dX6_parcel_99 : decode cX6_parcel 99 = .ok (.getfield 223, 3) := by decide +kernel
theorem dX6_parcel_102 : decode cX6_parcel 102 = .ok (.ireturn, 1) := by decide +kernel
theorem dX6_parcel_103 : decode cX6_parcel 103 = .ok (.aload_n 3, 1) := by decide +kernel
theorem dX6_parcel_104 : decode cX6_parcel 104 = .ok (.getfield 228, 3) := by decide +kernel
theorem dX6_parcel_107 : decode cX6_parcel 107 = .ok (.ireturn, 1) := by decide +kernel
theorem dX6_parcel_108 : decode cX6_parcel 108 = .ok (.aload_n 3, 1) := by decide +kernel
theorem dX6_parcel_109 : decode cX6_parcel 109 = .ok (.getfield 239, 3) := by decide +kernel
theorem dX6_parcel_112 : decode cX6_parcel 112 = .ok (.ireturn, 1) := by decide +kernel
theorem dX6_parcel_113 : decode cX6_parcel 113 = .ok (.aload_n 3, 1) := by decide +kernel
theorem dX6_parcel_114 : decode cX6_parcel 114 = .ok (.getfield 239, 3) := by decide +kernel
theorem dX6_parcel_117 : decode cX6_parcel 117 = .ok (.iconst 1, 1) := by decide +kernel
theorem dX6_parcel_118 : decode cX6_parcel 118 = .ok (.if_icmp .ne 17, 3) := by decide +kernel
theorem dX6_parcel_121 : decode cX6_parcel 121 = .ok (.aload_n 0, 1) := by decide +kernel
theorem dX6_parcel_122 : decode cX6_parcel 122 = .ok (.getfield 10, 3) := by decide +kernel
theorem dX6_parcel_125 : decode cX6_parcel 125 = .ok (.aload_n 3, 1) := by decide +kernel
theorem dX6_parcel_126 : decode cX6_parcel 126 = .ok (.getfield 242, 3) := by decide +kernel
theorem dX6_parcel_129 : decode cX6_parcel 129 = .ok (.invokevirtual 245, 3) := by decide +kernel
theorem dX6_parcel_132 : decode cX6_parcel 132 = .ok (.goto 7, 3) := by decide +kernel
theorem dX6_parcel_135 : decode cX6_parcel 135 = .ok (.aload_n 3, 1) := by decide +kernel
theorem dX6_parcel_136 : decode cX6_parcel 136 = .ok (.getfield 242, 3) := by decide +kernel
theorem dX6_parcel_139 : decode cX6_parcel 139 = .ok (.ireturn, 1) := by decide +kernel
theorem dX6_parcel_140 : decode cX6_parcel 140 = .ok (.aload_n 3, 1) := by decide +kernel
theorem dX6_parcel_141 : decode cX6_parcel 141 = .ok (.getfield 248, 3) := by decide +kernel
theorem dX6_parcel_144 : decode cX6_parcel 144 = .ok (.ireturn, 1) := by decide +kernel
theorem dX6_parcel_145 : decode cX6_parcel 145 = .ok (.aload_n 3, 1) := by decide +kernel
theorem dX6_parcel_146 : decode cX6_parcel 146 = .ok (.getfield 251, 3) := by decide +kernel
theorem dX6_parcel_149 : decode cX6_parcel 149 = .ok (.ireturn, 1) := by decide +kernel
theorem dX6_parcel_150 : decode cX6_parcel 150 = .ok (.aload_n 3, 1) := by decide +kernel
theorem dX6_parcel_151 : decode cX6_parcel 151 = .ok (.getfield 254, 3) := by decide +kernel
theorem dX6_parcel_154 : decode cX6_parcel 154 = .ok (.ireturn, 1) := by decide +kernel
theorem dX6_parcel_155 : decode cX6_parcel 155 = .ok (.aload_n 3, 1) := by decide +kernel
theorem dX6_parcel_156 : decode cX6_parcel 156 = .ok (.getfield 257, 3) := by decide +kernel
theorem dX6_parcel_159 : decode cX6_parcel 159 = .ok (.ireturn, 1) := by decide +kernel
theorem dX6_parcel_160 : decode cX6_parcel 160 = .ok (.aload_n 3, 1) := by decide +kernel
theorem dX6_parcel_161 : decode cX6_parcel 161 = .ok (.getfield 260, 3) := by decide +kernel
theorem dX6_parcel_164 : decode cX6_parcel 164 = .ok (.ireturn, 1) := by decide +kernel
theorem dX6_parcel_165 : decode cX6_parcel 165 = .ok (.aload_n 3, 1) := by decide +kernel
theorem dX6_parcel_166 : decode cX6_parcel 166 = .ok (.getfield 263, 3) := by decide +kernel
theorem dX6_parcel_169 : decode cX6_parcel 169 = .ok (.ireturn, 1) := by decide +kernel
theorem dX6_carried_0 : decode cX6_carried 0 = .ok (.iload_n 1, 1) := by decide +kernel
theorem dX6_carried_1 : decode cX6_carried 1 = .ok (.aload_n 0, 1) := by decide +kernel
theorem dX6_carried_2 : decode cX6_carried 2 = .ok (.getfield 10, 3) := by decide +kernel
theorem dX6_carried_5 : decode cX6_carried 5 = .ok (.getfield 266, 3) := by decide +kernel
theorem dX6_carried_8 : decode cX6_carried 8 = .ok (.invokestatic 157, 3) := by decide +kernel
theorem dX6_carried_11 : decode cX6_carried 11 = .ok (.aload_n 0, 1) := by decide +kernel
theorem dX6_carried_12 : decode cX6_carried 12 = .ok (.getfield 10, 3) := by decide +kernel
theorem dX6_carried_15 : decode cX6_carried 15 = .ok (.iload_n 1, 1) := by decide +kernel
theorem dX6_carried_16 : decode cX6_carried 16 = .ok (.invokevirtual 269, 3) := by decide +kernel
theorem dX6_carried_19 : decode cX6_carried 19 = .ok (.istore_n 2, 1) := by decide +kernel
theorem dX6_carried_20 : decode cX6_carried 20 = .ok (.iload_n 2, 1) := by decide +kernel
theorem dX6_carried_21 : decode cX6_carried 21 = .ok (.iconst (-1), 1) := by decide +kernel
theorem dX6_carried_22 : decode cX6_carried 22 = .ok (.if_icmp .ne 14, 3) := by decide +kernel
theorem dX6_carried_25 : decode cX6_carried 25 = .ok (.new 190, 3) := by decide +kernel
theorem dX6_carried_28 : decode cX6_carried 28 = .ok (.dup, 1) := by decide +kernel
theorem dX6_carried_29 : decode cX6_carried 29 = .ok (.ldc_w 272, 3) := by decide +kernel
theorem dX6_carried_32 : decode cX6_carried 32 = .ok (.invokespecial 194, 3) := by decide +kernel
theorem dX6_carried_35 : decode cX6_carried 35 = .ok (.athrow, 1) := by decide +kernel
theorem dX6_carried_36 : decode cX6_carried 36 = .ok (.iload_n 2, 1) := by decide +kernel
theorem dX6_carried_37 : decode cX6_carried 37 = .ok (.ireturn, 1) := by decide +kernel
theorem dX6_run_0 : decode cX6_run 0 = .ok (.iload_n 1, 1) := by decide +kernel
theorem dX6_run_1 : decode cX6_run 1 = .ok (.bipush 100, 2) := by decide +kernel
theorem dX6_run_3 : decode cX6_run 3 = .ok (.invokestatic 274, 3) := by decide +kernel
theorem dX6_run_6 : decode cX6_run 6 = .ok (.aload_n 0, 1) := by decide +kernel
theorem dX6_run_7 : decode cX6_run 7 = .ok (.invokevirtual 69, 3) := by decide +kernel
theorem dX6_run_10 : decode cX6_run 10 = .ok (.aload_n 0, 1) := by decide +kernel
theorem dX6_run_11 : decode cX6_run 11 = .ok (.getfield 10, 3) := by decide +kernel
theorem dX6_run_14 : decode cX6_run 14 = .ok (.getfield 277, 3) := by decide +kernel
theorem dX6_run_17 : decode cX6_run 17 = .ok (.istore_n 2, 1) := by decide +kernel
theorem dX6_run_18 : decode cX6_run 18 = .ok (.iconst 0, 1) := by decide +kernel
theorem dX6_run_19 : decode cX6_run 19 = .ok (.istore_n 3, 1) := by decide +kernel
theorem dX6_run_20 : decode cX6_run 20 = .ok (.iload_n 3, 1) := by decide +kernel
theorem dX6_run_21 : decode cX6_run 21 = .ok (.iload_n 1, 1) := by decide +kernel
theorem dX6_run_22 : decode cX6_run 22 = .ok (.if_icmp .ge 16, 3) := by decide +kernel
theorem dX6_run_25 : decode cX6_run 25 = .ok (.aload_n 0, 1) := by decide +kernel
theorem dX6_run_26 : decode cX6_run 26 = .ok (.getfield 10, 3) := by decide +kernel
theorem dX6_run_29 : decode cX6_run 29 = .ok (.invokevirtual 280, 3) := by decide +kernel
theorem dX6_run_32 : decode cX6_run 32 = .ok (.iinc 3 1, 3) := by decide +kernel
theorem dX6_run_35 : decode cX6_run 35 = .ok (.goto (-15), 3) := by decide +kernel
theorem dX6_run_38 : decode cX6_run 38 = .ok (.aload_n 0, 1) := by decide +kernel
theorem dX6_run_39 : decode cX6_run 39 = .ok (.getfield 10, 3) := by decide +kernel
theorem dX6_run_42 : decode cX6_run 42 = .ok (.getfield 277, 3) := by decide +kernel
theorem dX6_run_45 : decode cX6_run 45 = .ok (.iload_n 2, 1) := by decide +kernel
theorem dX6_run_46 : decode cX6_run 46 = .ok (.isub, 1) := by decide +kernel
theorem dX6_run_47 : decode cX6_run 47 = .ok (.ireturn, 1) := by decide +kernel
theorem dX6_setClosed_0 : decode cX6_setClosed 0 = .ok (.iload_n 1, 1) := by decide +kernel
theorem dX6_setClosed_1 : decode cX6_setClosed 1 = .ok (.aload_n 0, 1) := by decide +kernel
theorem dX6_setClosed_2 : decode cX6_setClosed 2 = .ok (.getfield 10, 3) := by decide +kernel
theorem dX6_setClosed_5 : decode cX6_setClosed 5 = .ok (.getfield 82, 3) := by decide +kernel
theorem dX6_setClosed_8 : decode cX6_setClosed 8 = .ok (.invokestatic 157, 3) := by decide +kernel
theorem dX6_setClosed_11 : decode cX6_setClosed 11 = .ok (.aload_n 0, 1) := by decide +kernel
theorem dX6_setClosed_12 : decode cX6_setClosed 12 = .ok (.invokevirtual 69, 3) := by decide +kernel
theorem dX6_setClosed_15 : decode cX6_setClosed 15 = .ok (.aload_n 0, 1) := by decide +kernel
theorem dX6_setClosed_16 : decode cX6_setClosed 16 = .ok (.getfield 10, 3) := by decide +kernel
theorem dX6_setClosed_19 : decode cX6_setClosed 19 = .ok (.getfield 283, 3) := by decide +kernel
theorem dX6_setClosed_22 : decode cX6_setClosed 22 = .ok (.iload_n 1, 1) := by decide +kernel
theorem dX6_setClosed_23 : decode cX6_setClosed 23 = .ok (.aaload, 1) := by decide +kernel
theorem dX6_setClosed_24 : decode cX6_setClosed 24 = .ok (.getfield 287, 3) := by decide +kernel
theorem dX6_setClosed_27 : decode cX6_setClosed 27 = .ok (.istore_n 3, 1) := by decide +kernel
theorem dX6_setClosed_28 : decode cX6_setClosed 28 = .ok (.aload_n 0, 1) := by decide +kernel
theorem dX6_setClosed_29 : decode cX6_setClosed 29 = .ok (.getfield 10, 3) := by decide +kernel
theorem dX6_setClosed_32 : decode cX6_setClosed 32 = .ok (.getfield 283, 3) := by decide +kernel
theorem dX6_setClosed_35 : decode cX6_setClosed 35 = .ok (.iload_n 1, 1) := by decide +kernel
theorem dX6_setClosed_36 : decode cX6_setClosed 36 = .ok (.aaload, 1) := by decide +kernel
theorem dX6_setClosed_37 : decode cX6_setClosed 37 = .ok (.iload_n 2, 1) := by decide +kernel
theorem dX6_setClosed_38 : decode cX6_setClosed 38 = .ok (.putfield 287, 3) := by decide +kernel
theorem dX6_setClosed_41 : decode cX6_setClosed 41 = .ok (.iload_n 3, 1) := by decide +kernel
theorem dX6_setClosed_42 : decode cX6_setClosed 42 = .ok (.ireturn, 1) := by decide +kernel
theorem dX6_clear_0 : decode cX6_clear 0 = .ok (.iload_n 1, 1) := by decide +kernel
theorem dX6_clear_1 : decode cX6_clear 1 = .ok (.aload_n 0, 1) := by decide +kernel
theorem dX6_clear_2 : decode cX6_clear 2 = .ok (.getfield 10, 3) := by decide +kernel
theorem dX6_clear_5 : decode cX6_clear 5 = .ok (.getfield 82, 3) := by decide +kernel
theorem dX6_clear_8 : decode cX6_clear 8 = .ok (.invokestatic 157, 3) := by decide +kernel
theorem dX6_clear_11 : decode cX6_clear 11 = .ok (.aload_n 0, 1) := by decide +kernel
theorem dX6_clear_12 : decode cX6_clear 12 = .ok (.getfield 10, 3) := by decide +kernel
theorem dX6_clear_15 : decode cX6_clear 15 = .ok (.getfield 283, 3) := by decide +kernel
theorem dX6_clear_18 : decode cX6_clear 18 = .ok (.iload_n 1, 1) := by decide +kernel
theorem dX6_clear_19 : decode cX6_clear 19 = .ok (.aaload, 1) := by decide +kernel
theorem dX6_clear_20 : decode cX6_clear 20 = .ok (.getfield 291, 3) := by decide +kernel
theorem dX6_clear_23 : decode cX6_clear 23 = .ok (.istore_n 2, 1) := by decide +kernel
theorem dX6_clear_24 : decode cX6_clear 24 = .ok (.iload_n 2, 1) := by decide +kernel
theorem dX6_clear_25 : decode cX6_clear 25 = .ok (.ifCond .ne 14, 3) := by decide +kernel
theorem dX6_clear_28 : decode cX6_clear 28 = .ok (.new 64, 3) := by decide +kernel
theorem dX6_clear_31 : decode cX6_clear 31 = .ok (.dup, 1) := by decide +kernel
theorem dX6_clear_32 : decode cX6_clear 32 = .ok (.ldc_w 294, 3) := by decide +kernel
theorem dX6_clear_35 : decode cX6_clear 35 = .ok (.invokespecial 68, 3) := by decide +kernel
theorem dX6_clear_38 : decode cX6_clear 38 = .ok (.athrow, 1) := by decide +kernel
theorem dX6_clear_39 : decode cX6_clear 39 = .ok (.aload_n 0, 1) := by decide +kernel
theorem dX6_clear_40 : decode cX6_clear 40 = .ok (.invokevirtual 69, 3) := by decide +kernel
theorem dX6_clear_43 : decode cX6_clear 43 = .ok (.aload_n 0, 1) := by decide +kernel
theorem dX6_clear_44 : decode cX6_clear 44 = .ok (.getfield 10, 3) := by decide +kernel
theorem dX6_clear_47 : decode cX6_clear 47 = .ok (.getfield 283, 3) := by decide +kernel
theorem dX6_clear_50 : decode cX6_clear 50 = .ok (.iload_n 1, 1) := by decide +kernel
theorem dX6_clear_51 : decode cX6_clear 51 = .ok (.aaload, 1) := by decide +kernel
theorem dX6_clear_52 : decode cX6_clear 52 = .ok (.iconst 0, 1) := by decide +kernel
theorem dX6_clear_53 : decode cX6_clear 53 = .ok (.putfield 291, 3) := by decide +kernel
theorem dX6_clear_56 : decode cX6_clear 56 = .ok (.iload_n 2, 1) := by decide +kernel
theorem dX6_clear_57 : decode cX6_clear 57 = .ok (.ireturn, 1) := by decide +kernel
theorem dX6_chute_0 : decode cX6_chute 0 = .ok (.iload_n 1, 1) := by decide +kernel
theorem dX6_chute_1 : decode cX6_chute 1 = .ok (.aload_n 0, 1) := by decide +kernel
theorem dX6_chute_2 : decode cX6_chute 2 = .ok (.getfield 10, 3) := by decide +kernel
theorem dX6_chute_5 : decode cX6_chute 5 = .ok (.getfield 82, 3) := by decide +kernel
theorem dX6_chute_8 : decode cX6_chute 8 = .ok (.invokestatic 157, 3) := by decide +kernel
theorem dX6_chute_11 : decode cX6_chute 11 = .ok (.iload_n 2, 1) := by decide +kernel
theorem dX6_chute_12 : decode cX6_chute 12 = .ok (.bipush 11, 2) := by decide +kernel
theorem dX6_chute_14 : decode cX6_chute 14 = .ok (.invokestatic 161, 3) := by decide +kernel
theorem dX6_chute_17 : decode cX6_chute 17 = .ok (.aload_n 0, 1) := by decide +kernel
theorem dX6_chute_18 : decode cX6_chute 18 = .ok (.getfield 10, 3) := by decide +kernel
theorem dX6_chute_21 : decode cX6_chute 21 = .ok (.getfield 283, 3) := by decide +kernel
theorem dX6_chute_24 : decode cX6_chute 24 = .ok (.iload_n 1, 1) := by decide +kernel
theorem dX6_chute_25 : decode cX6_chute 25 = .ok (.aaload, 1) := by decide +kernel
theorem dX6_chute_26 : decode cX6_chute 26 = .ok (.astore_n 3, 1) := by decide +kernel
theorem dX6_chute_27 : decode cX6_chute 27 = .ok (.iload_n 2, 1) := by decide +kernel
theorem dX6_chute_28 : decode cX6_chute 28 = .ok (.tableswitch 131 0 10 #[60, 65, 70, 75, 80, 93, 106, 111, 116, 121, 126], 60) := by decide +kernel
theorem dX6_chute_88 : decode cX6_chute 88 = .ok (.aload_n 3, 1) := by decide +kernel
theorem dX6_chute_89 : decode cX6_chute 89 = .ok (.getfield 91, 3) := by decide +kernel
theorem dX6_chute_92 : decode cX6_chute 92 = .ok (.ireturn, 1) := by decide +kernel
theorem dX6_chute_93 : decode cX6_chute 93 = .ok (.aload_n 3, 1) := by decide +kernel
theorem dX6_chute_94 : decode cX6_chute 94 = .ok (.getfield 296, 3) := by decide +kernel
theorem dX6_chute_97 : decode cX6_chute 97 = .ok (.ireturn, 1) := by decide +kernel
theorem dX6_chute_98 : decode cX6_chute 98 = .ok (.aload_n 3, 1) := by decide +kernel
theorem dX6_chute_99 : decode cX6_chute 99 = .ok (.getfield 291, 3) := by decide +kernel
theorem dX6_chute_102 : decode cX6_chute 102 = .ok (.ireturn, 1) := by decide +kernel
theorem dX6_chute_103 : decode cX6_chute 103 = .ok (.aload_n 3, 1) := by decide +kernel
theorem dX6_chute_104 : decode cX6_chute 104 = .ok (.getfield 299, 3) := by decide +kernel
theorem dX6_chute_107 : decode cX6_chute 107 = .ok (.ireturn, 1) := by decide +kernel
theorem dX6_chute_108 : decode cX6_chute 108 = .ok (.aload_n 3, 1) := by decide +kernel
theorem dX6_chute_109 : decode cX6_chute 109 = .ok (.getfield 287, 3) := by decide +kernel
theorem dX6_chute_112 : decode cX6_chute 112 = .ok (.ifCond .eq 7, 3) := by decide +kernel
theorem dX6_chute_115 : decode cX6_chute 115 = .ok (.iconst 1, 1) := by decide +kernel
theorem dX6_chute_116 : decode cX6_chute 116 = .ok (.goto 4, 3) := by decide +kernel
theorem dX6_chute_119 : decode cX6_chute 119 = .ok (.iconst 0, 1) := by decide +kernel
theorem dX6_chute_120 : decode cX6_chute 120 = .ok (.ireturn, 1) := by decide +kernel
theorem dX6_chute_121 : decode cX6_chute 121 = .ok (.aload_n 3, 1) := by decide +kernel
theorem dX6_chute_122 : decode cX6_chute 122 = .ok (.invokevirtual 302, 3) := by decide +kernel
theorem dX6_chute_125 : decode cX6_chute 125 = .ok (.ifCond .eq 7, 3) := by decide +kernel
theorem dX6_chute_128 : decode cX6_chute 128 = .ok (.iconst 1, 1) := by decide +kernel
theorem dX6_chute_129 : decode cX6_chute 129 = .ok (.goto 4, 3) := by decide +kernel
theorem dX6_chute_132 : decode cX6_chute 132 = .ok (.iconst 0, 1) := by decide +kernel
theorem dX6_chute_133 : decode cX6_chute 133 = .ok (.ireturn, 1) := by decide +kernel
theorem dX6_chute_134 : decode cX6_chute 134 = .ok (.aload_n 3, 1) := by decide +kernel
theorem dX6_chute_135 : decode cX6_chute 135 = .ok (.getfield 305, 3) := by decide +kernel
theorem dX6_chute_138 : decode cX6_chute 138 = .ok (.ireturn, 1) := by decide +kernel
theorem dX6_chute_139 : decode cX6_chute 139 = .ok (.aload_n 3, 1) := by decide +kernel
theorem dX6_chute_140 : decode cX6_chute 140 = .ok (.getfield 308, 3) := by decide +kernel
theorem dX6_chute_143 : decode cX6_chute 143 = .ok (.ireturn, 1) := by decide +kernel
theorem dX6_chute_144 : decode cX6_chute 144 = .ok (.aload_n 3, 1) := by decide +kernel
theorem dX6_chute_145 : decode cX6_chute 145 = .ok (.getfield 311, 3) := by decide +kernel
theorem dX6_chute_148 : decode cX6_chute 148 = .ok (.ireturn, 1) := by decide +kernel
theorem dX6_chute_149 : decode cX6_chute 149 = .ok (.aload_n 3, 1) := by decide +kernel
theorem dX6_chute_150 : decode cX6_chute 150 = .ok (.getfield 314, 3) := by decide +kernel
theorem dX6_chute_153 : decode cX6_chute 153 = .ok (.ireturn, 1) := by decide +kernel
theorem dX6_chute_154 : decode cX6_chute 154 = .ok (.aload_n 3, 1) := by decide +kernel
theorem dX6_chute_155 : decode cX6_chute 155 = .ok (.getfield 317, 3) := by decide +kernel
theorem dX6_chute_158 : decode cX6_chute 158 = .ok (.ireturn, 1) := by decide +kernel
theorem dX6_chute_159 : decode cX6_chute 159 = .ok (.aload_n 0, 1) := by decide +kernel
theorem dX6_chute_160 : decode cX6_chute 160 = .ok (.getfield 10, 3) := by decide +kernel
theorem dX6_chute_163 : decode cX6_chute 163 = .ok (.iload_n 1, 1) := by decide +kernel
theorem dX6_chute_164 : decode cX6_chute 164 = .ok (.invokevirtual 320, 3) := by decide +kernel
theorem dX6_chute_167 : decode cX6_chute 167 = .ok (.ireturn, 1) := by decide +kernel
theorem dX6_station_0 : decode cX6_station 0 = .ok (.iload_n 1, 1) := by decide +kernel
theorem dX6_station_1 : decode cX6_station 1 = .ok (.aload_n 0, 1) := by decide +kernel
theorem dX6_station_2 : decode cX6_station 2 = .ok (.getfield 10, 3) := by decide +kernel
theorem dX6_station_5 : decode cX6_station 5 = .ok (.getfield 61, 3) := by decide +kernel
theorem dX6_station_8 : decode cX6_station 8 = .ok (.invokestatic 157, 3) := by decide +kernel
theorem dX6_station_11 : decode cX6_station 11 = .ok (.iload_n 2, 1) := by decide +kernel
theorem dX6_station_12 : decode cX6_station 12 = .ok (.iconst 3, 1) := by decide +kernel
theorem dX6_station_13 : decode cX6_station 13 = .ok (.invokestatic 161, 3) := by decide +kernel
theorem dX6_station_16 : decode cX6_station 16 = .ok (.aload_n 0, 1) := by decide +kernel
theorem dX6_station_17 : decode cX6_station 17 = .ok (.getfield 10, 3) := by decide +kernel
theorem dX6_station_20 : decode cX6_station 20 = .ok (.getfield 205, 3) := by decide +kernel
theorem dX6_station_23 : decode cX6_station 23 = .ok (.iload_n 1, 1) := by decide +kernel
theorem dX6_station_24 : decode cX6_station 24 = .ok (.aaload, 1) := by decide +kernel
theorem dX6_station_25 : decode cX6_station 25 = .ok (.astore_n 3, 1) := by decide +kernel
theorem dX6_station_26 : decode cX6_station 26 = .ok (.iload_n 2, 1) := by decide +kernel
theorem dX6_station_27 : decode cX6_station 27 = .ok (.tableswitch 40 0 2 #[25, 30, 35], 25) := by decide +kernel
theorem dX6_station_52 : decode cX6_station 52 = .ok (.aload_n 3, 1) := by decide +kernel
theorem dX6_station_53 : decode cX6_station 53 = .ok (.getfield 323, 3) := by decide +kernel
theorem dX6_station_56 : decode cX6_station 56 = .ok (.ireturn, 1) := by decide +kernel
theorem dX6_station_57 : decode cX6_station 57 = .ok (.aload_n 3, 1) := by decide +kernel
theorem dX6_station_58 : decode cX6_station 58 = .ok (.getfield 324, 3) := by decide +kernel
theorem dX6_station_61 : decode cX6_station 61 = .ok (.ireturn, 1) := by decide +kernel
theorem dX6_station_62 : decode cX6_station 62 = .ok (.aload_n 3, 1) := by decide +kernel
theorem dX6_station_63 : decode cX6_station 63 = .ok (.invokevirtual 327, 3) := by decide +kernel
theorem dX6_station_66 : decode cX6_station 66 = .ok (.ireturn, 1) := by decide +kernel
theorem dX6_station_67 : decode cX6_station 67 = .ok (.aload_n 3, 1) := by decide +kernel
theorem dX6_station_68 : decode cX6_station 68 = .ok (.getfield 330, 3) := by decide +kernel
theorem dX6_station_71 : decode cX6_station 71 = .ok (.ireturn, 1) := by decide +kernel
theorem dX6_count_0 : decode cX6_count 0 = .ok (.iload_n 1, 1) := by decide +kernel
theorem dX6_count_1 : decode cX6_count 1 = .ok (.bipush 16, 2) := by decide +kernel
theorem dX6_count_3 : decode cX6_count 3 = .ok (.invokestatic 161, 3) := by decide +kernel
theorem dX6_count_6 : decode cX6_count 6 = .ok (.iload_n 1, 1) := by decide +kernel
theorem dX6_count_7 : decode cX6_count 7 = .ok (.tableswitch 213 0 15 #[77, 85, 93, 101, 109, 117, 125, 133, 141, 149, 159, 169, 179, 189, 197, 205], 77) := by decide +kernel
theorem dX6_count_84 : decode cX6_count 84 = .ok (.aload_n 0, 1) := by decide +kernel
theorem dX6_count_85 : decode cX6_count 85 = .ok (.getfield 10, 3) := by decide +kernel
theorem dX6_count_88 : decode cX6_count 88 = .ok (.getfield 333, 3) := by decide +kernel
theorem dX6_count_91 : decode cX6_count 91 = .ok (.ireturn, 1) := by decide +kernel
theorem dX6_count_92 : decode cX6_count 92 = .ok (.aload_n 0, 1) := by decide +kernel
theorem dX6_count_93 : decode cX6_count 93 = .ok (.getfield 10, 3) := by decide +kernel
theorem dX6_count_96 : decode cX6_count 96 = .ok (.getfield 266, 3) := by decide +kernel
theorem dX6_count_99 : decode cX6_count 99 = .ok (.ireturn, 1) := by decide +kernel
theorem dX6_count_100 : decode cX6_count 100 = .ok (.aload_n 0, 1) := by decide +kernel
theorem dX6_count_101 : decode cX6_count 101 = .ok (.getfield 10, 3) := by decide +kernel
theorem dX6_count_104 : decode cX6_count 104 = .ok (.getfield 61, 3) := by decide +kernel
theorem dX6_count_107 : decode cX6_count 107 = .ok (.ireturn, 1) := by decide +kernel
theorem dX6_count_108 : decode cX6_count 108 = .ok (.aload_n 0, 1) := by decide +kernel
theorem dX6_count_109 : decode cX6_count 109 = .ok (.getfield 10, 3) := by decide +kernel
theorem dX6_count_112 : decode cX6_count 112 = .ok (.getfield 82, 3) := by decide +kernel
theorem dX6_count_115 : decode cX6_count 115 = .ok (.ireturn, 1) := by decide +kernel
theorem dX6_count_116 : decode cX6_count 116 = .ok (.aload_n 0, 1) := by decide +kernel
theorem dX6_count_117 : decode cX6_count 117 = .ok (.getfield 10, 3) := by decide +kernel
theorem dX6_count_120 : decode cX6_count 120 = .ok (.getfield 142, 3) := by decide +kernel
theorem dX6_count_123 : decode cX6_count 123 = .ok (.ireturn, 1) := by decide +kernel
theorem dX6_count_124 : decode cX6_count 124 = .ok (.aload_n 0, 1) := by decide +kernel
theorem dX6_count_125 : decode cX6_count 125 = .ok (.getfield 10, 3) := by decide +kernel
theorem dX6_count_128 : decode cX6_count 128 = .ok (.getfield 44, 3) := by decide +kernel
theorem dX6_count_131 : decode cX6_count 131 = .ok (.ireturn, 1) := by decide +kernel
theorem dX6_count_132 : decode cX6_count 132 = .ok (.aload_n 0, 1) := by decide +kernel
theorem dX6_count_133 : decode cX6_count 133 = .ok (.getfield 10, 3) := by decide +kernel
theorem dX6_count_136 : decode cX6_count 136 = .ok (.invokevirtual 336, 3) := by decide +kernel
theorem dX6_count_139 : decode cX6_count 139 = .ok (.ireturn, 1) := by decide +kernel
theorem dX6_count_140 : decode cX6_count 140 = .ok (.aload_n 0, 1) := by decide +kernel
theorem dX6_count_141 : decode cX6_count 141 = .ok (.getfield 10, 3) := by decide +kernel
theorem dX6_count_144 : decode cX6_count 144 = .ok (.invokevirtual 339, 3) := by decide +kernel
theorem dX6_count_147 : decode cX6_count 147 = .ok (.ireturn, 1) := by decide +kernel
theorem dX6_count_148 : decode cX6_count 148 = .ok (.aload_n 0, 1) := by decide +kernel
theorem dX6_count_149 : decode cX6_count 149 = .ok (.getfield 10, 3) := by decide +kernel
theorem dX6_count_152 : decode cX6_count 152 = .ok (.getfield 277, 3) := by decide +kernel
theorem dX6_count_155 : decode cX6_count 155 = .ok (.ireturn, 1) := by decide +kernel
theorem dX6_count_156 : decode cX6_count 156 = .ok (.aload_n 0, 1) := by decide +kernel
theorem dX6_count_157 : decode cX6_count 157 = .ok (.getfield 10, 3) := by decide +kernel
theorem dX6_count_160 : decode cX6_count 160 = .ok (.getfield 342, 3) := by decide +kernel
theorem dX6_count_163 : decode cX6_count 163 = .ok (.iconst 0, 1) := by decide +kernel
theorem dX6_count_164 : decode cX6_count 164 = .ok (.iaload, 1) := by decide +kernel
theorem dX6_count_165 : decode cX6_count 165 = .ok (.ireturn, 1) := by decide +kernel
theorem dX6_count_166 : decode cX6_count 166 = .ok (.aload_n 0, 1) := by decide +kernel
theorem dX6_count_167 : decode cX6_count 167 = .ok (.getfield 10, 3) := by decide +kernel
theorem dX6_count_170 : decode cX6_count 170 = .ok (.getfield 342, 3) := by decide +kernel
theorem dX6_count_173 : decode cX6_count 173 = .ok (.iconst 1, 1) := by decide +kernel
theorem dX6_count_174 : decode cX6_count 174 = .ok (.iaload, 1) := by decide +kernel
theorem dX6_count_175 : decode cX6_count 175 = .ok (.ireturn, 1) := by decide +kernel
theorem dX6_count_176 : decode cX6_count 176 = .ok (.aload_n 0, 1) := by decide +kernel
theorem dX6_count_177 : decode cX6_count 177 = .ok (.getfield 10, 3) := by decide +kernel
theorem dX6_count_180 : decode cX6_count 180 = .ok (.getfield 342, 3) := by decide +kernel
theorem dX6_count_183 : decode cX6_count 183 = .ok (.iconst 2, 1) := by decide +kernel
theorem dX6_count_184 : decode cX6_count 184 = .ok (.iaload, 1) := by decide +kernel
theorem dX6_count_185 : decode cX6_count 185 = .ok (.ireturn, 1) := by decide +kernel
theorem dX6_count_186 : decode cX6_count 186 = .ok (.aload_n 0, 1) := by decide +kernel
theorem dX6_count_187 : decode cX6_count 187 = .ok (.getfield 10, 3) := by decide +kernel
theorem dX6_count_190 : decode cX6_count 190 = .ok (.getfield 342, 3) := by decide +kernel
theorem dX6_count_193 : decode cX6_count 193 = .ok (.iconst 3, 1) := by decide +kernel
theorem dX6_count_194 : decode cX6_count 194 = .ok (.iaload, 1) := by decide +kernel
theorem dX6_count_195 : decode cX6_count 195 = .ok (.ireturn, 1) := by decide +kernel
theorem dX6_count_196 : decode cX6_count 196 = .ok (.aload_n 0, 1) := by decide +kernel
theorem dX6_count_197 : decode cX6_count 197 = .ok (.getfield 10, 3) := by decide +kernel
theorem dX6_count_200 : decode cX6_count 200 = .ok (.getfield 345, 3) := by decide +kernel
theorem dX6_count_203 : decode cX6_count 203 = .ok (.ireturn, 1) := by decide +kernel
theorem dX6_count_204 : decode cX6_count 204 = .ok (.aload_n 0, 1) := by decide +kernel
theorem dX6_count_205 : decode cX6_count 205 = .ok (.getfield 10, 3) := by decide +kernel
theorem dX6_count_208 : decode cX6_count 208 = .ok (.invokevirtual 348, 3) := by decide +kernel
theorem dX6_count_211 : decode cX6_count 211 = .ok (.ireturn, 1) := by decide +kernel
theorem dX6_count_212 : decode cX6_count 212 = .ok (.aload_n 0, 1) := by decide +kernel
theorem dX6_count_213 : decode cX6_count 213 = .ok (.getfield 10, 3) := by decide +kernel
theorem dX6_count_216 : decode cX6_count 216 = .ok (.invokevirtual 351, 3) := by decide +kernel
theorem dX6_count_219 : decode cX6_count 219 = .ok (.ireturn, 1) := by decide +kernel
theorem dX6_count_220 : decode cX6_count 220 = .ok (.aload_n 0, 1) := by decide +kernel
theorem dX6_count_221 : decode cX6_count 221 = .ok (.getfield 10, 3) := by decide +kernel
theorem dX6_count_224 : decode cX6_count 224 = .ok (.invokevirtual 354, 3) := by decide +kernel
theorem dX6_count_227 : decode cX6_count 227 = .ok (.ireturn, 1) := by decide +kernel
theorem dX6_meanRounds_0 : decode cX6_meanRounds 0 = .ok (.aload_n 0, 1) := by decide +kernel
theorem dX6_meanRounds_1 : decode cX6_meanRounds 1 = .ok (.getfield 10, 3) := by decide +kernel
theorem dX6_meanRounds_4 : decode cX6_meanRounds 4 = .ok (.getfield 277, 3) := by decide +kernel
theorem dX6_meanRounds_7 : decode cX6_meanRounds 7 = .ok (.ifCond .ne 14, 3) := by decide +kernel
theorem dX6_meanRounds_10 : decode cX6_meanRounds 10 = .ok (.new 357, 3) := by decide +kernel
theorem dX6_meanRounds_13 : decode cX6_meanRounds 13 = .ok (.dup, 1) := by decide +kernel
theorem dX6_meanRounds_14 : decode cX6_meanRounds 14 = .ok (.ldc_w 359, 3) := by decide +kernel
theorem dX6_meanRounds_17 : decode cX6_meanRounds 17 = .ok (.invokespecial 361, 3) := by decide +kernel
theorem dX6_meanRounds_20 : decode cX6_meanRounds 20 = .ok (.athrow, 1) := by decide +kernel
theorem dX6_meanRounds_21 : decode cX6_meanRounds 21 = .ok (.aload_n 0, 1) := by decide +kernel
theorem dX6_meanRounds_22 : decode cX6_meanRounds 22 = .ok (.getfield 10, 3) := by decide +kernel
theorem dX6_meanRounds_25 : decode cX6_meanRounds 25 = .ok (.invokevirtual 362, 3) := by decide +kernel
theorem dX6_meanRounds_28 : decode cX6_meanRounds 28 = .ok (.i2d, 1) := by decide +kernel
theorem dX6_meanRounds_29 : decode cX6_meanRounds 29 = .ok (.aload_n 0, 1) := by decide +kernel
theorem dX6_meanRounds_30 : decode cX6_meanRounds 30 = .ok (.getfield 10, 3) := by decide +kernel
theorem dX6_meanRounds_33 : decode cX6_meanRounds 33 = .ok (.getfield 277, 3) := by decide +kernel
theorem dX6_meanRounds_36 : decode cX6_meanRounds 36 = .ok (.i2d, 1) := by decide +kernel
theorem dX6_meanRounds_37 : decode cX6_meanRounds 37 = .ok (.ddiv, 1) := by decide +kernel
theorem dX6_meanRounds_38 : decode cX6_meanRounds 38 = .ok (.dreturn, 1) := by decide +kernel
theorem dX6_foresee_0 : decode cX6_foresee 0 = .ok (.iload_n 1, 1) := by decide +kernel
theorem dX6_foresee_1 : decode cX6_foresee 1 = .ok (.aload_n 0, 1) := by decide +kernel
theorem dX6_foresee_2 : decode cX6_foresee 2 = .ok (.getfield 10, 3) := by decide +kernel
theorem dX6_foresee_5 : decode cX6_foresee 5 = .ok (.getfield 44, 3) := by decide +kernel
theorem dX6_foresee_8 : decode cX6_foresee 8 = .ok (.invokestatic 157, 3) := by decide +kernel
theorem dX6_foresee_11 : decode cX6_foresee 11 = .ok (.iload_n 2, 1) := by decide +kernel
theorem dX6_foresee_12 : decode cX6_foresee 12 = .ok (.sipush 200, 3) := by decide +kernel
theorem dX6_foresee_15 : decode cX6_foresee 15 = .ok (.invokestatic 274, 3) := by decide +kernel
theorem dX6_foresee_18 : decode cX6_foresee 18 = .ok (.aload_n 0, 1) := by decide +kernel
theorem dX6_foresee_19 : decode cX6_foresee 19 = .ok (.getfield 16, 3) := by decide +kernel
theorem dX6_foresee_22 : decode cX6_foresee 22 = .ok (.aload_n 0, 1) := by decide +kernel
theorem dX6_foresee_23 : decode cX6_foresee 23 = .ok (.getfield 10, 3) := by decide +kernel
theorem dX6_foresee_26 : decode cX6_foresee 26 = .ok (.invokevirtual 365, 3) := by decide +kernel
theorem dX6_foresee_29 : decode cX6_foresee 29 = .ok (.aload_n 0, 1) := by decide +kernel
theorem dX6_foresee_30 : decode cX6_foresee 30 = .ok (.getfield 16, 3) := by decide +kernel
theorem dX6_foresee_33 : decode cX6_foresee 33 = .ok (.getfield 219, 3) := by decide +kernel
theorem dX6_foresee_36 : decode cX6_foresee 36 = .ok (.iload_n 1, 1) := by decide +kernel
theorem dX6_foresee_37 : decode cX6_foresee 37 = .ok (.aaload, 1) := by decide +kernel
theorem dX6_foresee_38 : decode cX6_foresee 38 = .ok (.astore 4, 2) := by decide +kernel
theorem dX6_foresee_40 : decode cX6_foresee 40 = .ok (.iconst 0, 1) := by decide +kernel
theorem dX6_foresee_41 : decode cX6_foresee 41 = .ok (.istore 5, 2) := by decide +kernel
theorem dX6_foresee_43 : decode cX6_foresee 43 = .ok (.iload 5, 2) := by decide +kernel
theorem dX6_foresee_45 : decode cX6_foresee 45 = .ok (.iload_n 2, 1) := by decide +kernel
theorem dX6_foresee_46 : decode cX6_foresee 46 = .ok (.if_icmp .ge 25, 3) := by decide +kernel
theorem dX6_foresee_49 : decode cX6_foresee 49 = .ok (.aload 4, 2) := by decide +kernel
theorem dX6_foresee_51 : decode cX6_foresee 51 = .ok (.getfield 239, 3) := by decide +kernel
theorem dX6_foresee_54 : decode cX6_foresee 54 = .ok (.iconst 2, 1) := by decide +kernel
theorem dX6_foresee_55 : decode cX6_foresee 55 = .ok (.if_icmp .eq 16, 3) := by decide +kernel
theorem dX6_foresee_58 : decode cX6_foresee 58 = .ok (.aload_n 0, 1) := by decide +kernel
theorem dX6_foresee_59 : decode cX6_foresee 59 = .ok (.getfield 16, 3) := by decide +kernel
theorem dX6_foresee_62 : decode cX6_foresee 62 = .ok (.invokevirtual 280, 3) := by decide +kernel
theorem dX6_foresee_65 : decode cX6_foresee 65 = .ok (.iinc 5 1, 3) := by decide +kernel
theorem dX6_foresee_68 : decode cX6_foresee 68 = .ok (.goto (-25), 3) := by decide +kernel
theorem dX6_foresee_71 : decode cX6_foresee 71 = .ok (.aload 4, 2) := by decide +kernel
theorem dX6_foresee_73 : decode cX6_foresee 73 = .ok (.getfield 239, 3) := by decide +kernel
theorem dX6_foresee_76 : decode cX6_foresee 76 = .ok (.iconst 2, 1) := by decide +kernel
theorem dX6_foresee_77 : decode cX6_foresee 77 = .ok (.if_icmp .eq 14, 3) := by decide +kernel
theorem dX6_foresee_80 : decode cX6_foresee 80 = .ok (.new 190, 3) := by decide +kernel
theorem dX6_foresee_83 : decode cX6_foresee 83 = .ok (.dup, 1) := by decide +kernel
theorem dX6_foresee_84 : decode cX6_foresee 84 = .ok (.ldc_w 369, 3) := by decide +kernel
theorem dX6_foresee_87 : decode cX6_foresee 87 = .ok (.invokespecial 194, 3) := by decide +kernel
theorem dX6_foresee_90 : decode cX6_foresee 90 = .ok (.athrow, 1) := by decide +kernel
theorem dX6_foresee_91 : decode cX6_foresee 91 = .ok (.iload_n 3, 1) := by decide +kernel
theorem dX6_foresee_92 : decode cX6_foresee 92 = .ok (.ifCond .eq 11, 3) := by decide +kernel
theorem dX6_foresee_95 : decode cX6_foresee 95 = .ok (.aload 4, 2) := by decide +kernel
theorem dX6_foresee_97 : decode cX6_foresee 97 = .ok (.getfield 257, 3) := by decide +kernel
theorem dX6_foresee_100 : decode cX6_foresee 100 = .ok (.goto 8, 3) := by decide +kernel
theorem dX6_foresee_103 : decode cX6_foresee 103 = .ok (.aload 4, 2) := by decide +kernel
theorem dX6_foresee_105 : decode cX6_foresee 105 = .ok (.getfield 242, 3) := by decide +kernel
theorem dX6_foresee_108 : decode cX6_foresee 108 = .ok (.ireturn, 1) := by decide +kernel
theorem dX6_untilEmpty_0 : decode cX6_untilEmpty 0 = .ok (.iload_n 1, 1) := by decide +kernel
theorem dX6_untilEmpty_1 : decode cX6_untilEmpty 1 = .ok (.sipush 200, 3) := by decide +kernel
theorem dX6_untilEmpty_4 : decode cX6_untilEmpty 4 = .ok (.invokestatic 274, 3) := by decide +kernel
theorem dX6_untilEmpty_7 : decode cX6_untilEmpty 7 = .ok (.aload_n 0, 1) := by decide +kernel
theorem dX6_untilEmpty_8 : decode cX6_untilEmpty 8 = .ok (.getfield 16, 3) := by decide +kernel
theorem dX6_untilEmpty_11 : decode cX6_untilEmpty 11 = .ok (.aload_n 0, 1) := by decide +kernel
theorem dX6_untilEmpty_12 : decode cX6_untilEmpty 12 = .ok (.getfield 10, 3) := by decide +kernel
theorem dX6_untilEmpty_15 : decode cX6_untilEmpty 15 = .ok (.invokevirtual 365, 3) := by decide +kernel
theorem dX6_untilEmpty_18 : decode cX6_untilEmpty 18 = .ok (.iconst 0, 1) := by decide +kernel
theorem dX6_untilEmpty_19 : decode cX6_untilEmpty 19 = .ok (.istore_n 2, 1) := by decide +kernel
theorem dX6_untilEmpty_20 : decode cX6_untilEmpty 20 = .ok (.iload_n 2, 1) := by decide +kernel
theorem dX6_untilEmpty_21 : decode cX6_untilEmpty 21 = .ok (.iload_n 1, 1) := by decide +kernel
theorem dX6_untilEmpty_22 : decode cX6_untilEmpty 22 = .ok (.if_icmp .ge 26, 3) := by decide +kernel
theorem dX6_untilEmpty_25 : decode cX6_untilEmpty 25 = .ok (.aload_n 0, 1) := by decide +kernel
theorem dX6_untilEmpty_26 : decode cX6_untilEmpty 26 = .ok (.getfield 16, 3) := by decide +kernel
theorem dX6_untilEmpty_29 : decode cX6_untilEmpty 29 = .ok (.invokevirtual 371, 3) := by decide +kernel
theorem dX6_untilEmpty_32 : decode cX6_untilEmpty 32 = .ok (.ifCond .ne 16, 3) := by decide +kernel
theorem dX6_untilEmpty_35 : decode cX6_untilEmpty 35 = .ok (.aload_n 0, 1) := by decide +kernel
theorem dX6_untilEmpty_36 : decode cX6_untilEmpty 36 = .ok (.getfield 16, 3) := by decide +kernel
theorem dX6_untilEmpty_39 : decode cX6_untilEmpty 39 = .ok (.invokevirtual 280, 3) := by decide +kernel
theorem dX6_untilEmpty_42 : decode cX6_untilEmpty 42 = .ok (.iinc 2 1, 3) := by decide +kernel
theorem dX6_untilEmpty_45 : decode cX6_untilEmpty 45 = .ok (.goto (-25), 3) := by decide +kernel
theorem dX6_untilEmpty_48 : decode cX6_untilEmpty 48 = .ok (.aload_n 0, 1) := by decide +kernel
theorem dX6_untilEmpty_49 : decode cX6_untilEmpty 49 = .ok (.getfield 16, 3) := by decide +kernel
theorem dX6_untilEmpty_52 : decode cX6_untilEmpty 52 = .ok (.invokevirtual 371, 3) := by decide +kernel
theorem dX6_untilEmpty_55 : decode cX6_untilEmpty 55 = .ok (.ifCond .ne 14, 3) := by decide +kernel
theorem dX6_untilEmpty_58 : decode cX6_untilEmpty 58 = .ok (.new 190, 3) := by decide +kernel
theorem dX6_untilEmpty_61 : decode cX6_untilEmpty 61 = .ok (.dup, 1) := by decide +kernel
theorem dX6_untilEmpty_62 : decode cX6_untilEmpty 62 = .ok (.ldc_w 374, 3) := by decide +kernel
theorem dX6_untilEmpty_65 : decode cX6_untilEmpty 65 = .ok (.invokespecial 194, 3) := by decide +kernel
theorem dX6_untilEmpty_68 : decode cX6_untilEmpty 68 = .ok (.athrow, 1) := by decide +kernel
theorem dX6_untilEmpty_69 : decode cX6_untilEmpty 69 = .ok (.aload_n 0, 1) := by decide +kernel
theorem dX6_untilEmpty_70 : decode cX6_untilEmpty 70 = .ok (.getfield 16, 3) := by decide +kernel
theorem dX6_untilEmpty_73 : decode cX6_untilEmpty 73 = .ok (.getfield 333, 3) := by decide +kernel
theorem dX6_untilEmpty_76 : decode cX6_untilEmpty 76 = .ok (.aload_n 0, 1) := by decide +kernel
theorem dX6_untilEmpty_77 : decode cX6_untilEmpty 77 = .ok (.getfield 10, 3) := by decide +kernel
theorem dX6_untilEmpty_80 : decode cX6_untilEmpty 80 = .ok (.getfield 333, 3) := by decide +kernel
theorem dX6_untilEmpty_83 : decode cX6_untilEmpty 83 = .ok (.isub, 1) := by decide +kernel
theorem dX6_untilEmpty_84 : decode cX6_untilEmpty 84 = .ok (.ireturn, 1) := by decide +kernel
theorem dX6_audit_0 : decode cX6_audit 0 = .ok (.aload_n 0, 1) := by decide +kernel
theorem dX6_audit_1 : decode cX6_audit 1 = .ok (.getfield 10, 3) := by decide +kernel
theorem dX6_audit_4 : decode cX6_audit 4 = .ok (.iconst 0, 1) := by decide +kernel
theorem dX6_audit_5 : decode cX6_audit 5 = .ok (.invokevirtual 376, 3) := by decide +kernel
theorem dX6_audit_8 : decode cX6_audit 8 = .ok (.aload_n 0, 1) := by decide +kernel
theorem dX6_audit_9 : decode cX6_audit 9 = .ok (.getfield 10, 3) := by decide +kernel
theorem dX6_audit_12 : decode cX6_audit 12 = .ok (.invokevirtual 336, 3) := by decide +kernel
theorem dX6_audit_15 : decode cX6_audit 15 = .ok (.if_icmp .ne 39, 3) := by decide +kernel
theorem dX6_audit_18 : decode cX6_audit 18 = .ok (.aload_n 0, 1) := by decide +kernel
theorem dX6_audit_19 : decode cX6_audit 19 = .ok (.getfield 10, 3) := by decide +kernel
theorem dX6_audit_22 : decode cX6_audit 22 = .ok (.iconst 1, 1) := by decide +kernel
theorem dX6_audit_23 : decode cX6_audit 23 = .ok (.invokevirtual 376, 3) := by decide +kernel
theorem dX6_audit_26 : decode cX6_audit 26 = .ok (.aload_n 0, 1) := by decide +kernel
theorem dX6_audit_27 : decode cX6_audit 27 = .ok (.getfield 10, 3) := by decide +kernel
theorem dX6_audit_30 : decode cX6_audit 30 = .ok (.invokevirtual 339, 3) := by decide +kernel
theorem dX6_audit_33 : decode cX6_audit 33 = .ok (.if_icmp .ne 21, 3) := by decide +kernel
theorem dX6_audit_36 : decode cX6_audit 36 = .ok (.aload_n 0, 1) := by decide +kernel
theorem dX6_audit_37 : decode cX6_audit 37 = .ok (.getfield 10, 3) := by decide +kernel
theorem dX6_audit_40 : decode cX6_audit 40 = .ok (.iconst 2, 1) := by decide +kernel
theorem dX6_audit_41 : decode cX6_audit 41 = .ok (.invokevirtual 376, 3) := by decide +kernel
theorem dX6_audit_44 : decode cX6_audit 44 = .ok (.aload_n 0, 1) := by decide +kernel
theorem dX6_audit_45 : decode cX6_audit 45 = .ok (.getfield 10, 3) := by decide +kernel
theorem dX6_audit_48 : decode cX6_audit 48 = .ok (.getfield 277, 3) := by decide +kernel
theorem dX6_audit_51 : decode cX6_audit 51 = .ok (.if_icmp .eq 5, 3) := by decide +kernel
theorem dX6_audit_54 : decode cX6_audit 54 = .ok (.iconst 0, 1) := by decide +kernel
theorem dX6_audit_55 : decode cX6_audit 55 = .ok (.ireturn, 1) := by decide +kernel
theorem dX6_audit_56 : decode cX6_audit 56 = .ok (.aload_n 0, 1) := by decide +kernel
theorem dX6_audit_57 : decode cX6_audit 57 = .ok (.getfield 10, 3) := by decide +kernel
theorem dX6_audit_60 : decode cX6_audit 60 = .ok (.invokevirtual 336, 3) := by decide +kernel
theorem dX6_audit_63 : decode cX6_audit 63 = .ok (.aload_n 0, 1) := by decide +kernel
theorem dX6_audit_64 : decode cX6_audit 64 = .ok (.getfield 10, 3) := by decide +kernel
theorem dX6_audit_67 : decode cX6_audit 67 = .ok (.invokevirtual 339, 3) := by decide +kernel
theorem dX6_audit_70 : decode cX6_audit 70 = .ok (.iadd, 1) := by decide +kernel
theorem dX6_audit_71 : decode cX6_audit 71 = .ok (.aload_n 0, 1) := by decide +kernel
theorem dX6_audit_72 : decode cX6_audit 72 = .ok (.getfield 10, 3) := by decide +kernel
theorem dX6_audit_75 : decode cX6_audit 75 = .ok (.getfield 277, 3) := by decide +kernel
theorem dX6_audit_78 : decode cX6_audit 78 = .ok (.iadd, 1) := by decide +kernel
theorem dX6_audit_79 : decode cX6_audit 79 = .ok (.aload_n 0, 1) := by decide +kernel
theorem dX6_audit_80 : decode cX6_audit 80 = .ok (.getfield 10, 3) := by decide +kernel
theorem dX6_audit_83 : decode cX6_audit 83 = .ok (.getfield 44, 3) := by decide +kernel
theorem dX6_audit_86 : decode cX6_audit 86 = .ok (.if_icmp .eq 5, 3) := by decide +kernel
theorem dX6_audit_89 : decode cX6_audit 89 = .ok (.iconst 0, 1) := by decide +kernel
theorem dX6_audit_90 : decode cX6_audit 90 = .ok (.ireturn, 1) := by decide +kernel
theorem dX6_audit_91 : decode cX6_audit 91 = .ok (.aload_n 0, 1) := by decide +kernel
theorem dX6_audit_92 : decode cX6_audit 92 = .ok (.getfield 10, 3) := by decide +kernel
theorem dX6_audit_95 : decode cX6_audit 95 = .ok (.invokevirtual 379, 3) := by decide +kernel
theorem dX6_audit_98 : decode cX6_audit 98 = .ok (.ifCond .eq 27, 3) := by decide +kernel
theorem dX6_audit_101 : decode cX6_audit 101 = .ok (.aload_n 0, 1) := by decide +kernel
theorem dX6_audit_102 : decode cX6_audit 102 = .ok (.getfield 10, 3) := by decide +kernel
theorem dX6_audit_105 : decode cX6_audit 105 = .ok (.invokevirtual 382, 3) := by decide +kernel
theorem dX6_audit_108 : decode cX6_audit 108 = .ok (.ifCond .eq 17, 3) := by decide +kernel
theorem dX6_audit_111 : decode cX6_audit 111 = .ok (.aload_n 0, 1) := by decide +kernel
theorem dX6_audit_112 : decode cX6_audit 112 = .ok (.getfield 10, 3) := by decide +kernel
theorem dX6_audit_115 : decode cX6_audit 115 = .ok (.invokevirtual 385, 3) := by decide +kernel
theorem dX6_audit_118 : decode cX6_audit 118 = .ok (.ifCond .eq 7, 3) := by decide +kernel
theorem dX6_audit_121 : decode cX6_audit 121 = .ok (.iconst 1, 1) := by decide +kernel
theorem dX6_audit_122 : decode cX6_audit 122 = .ok (.goto 4, 3) := by decide +kernel
theorem dX6_audit_125 : decode cX6_audit 125 = .ok (.iconst 0, 1) := by decide +kernel
theorem dX6_audit_126 : decode cX6_audit 126 = .ok (.ireturn, 1) := by decide +kernel
theorem dX6_ledger_0 : decode cX6_ledger 0 = .ok (.iload_n 1, 1) := by decide +kernel
theorem dX6_ledger_1 : decode cX6_ledger 1 = .ok (.aload_n 0, 1) := by decide +kernel
theorem dX6_ledger_2 : decode cX6_ledger 2 = .ok (.getfield 10, 3) := by decide +kernel
theorem dX6_ledger_5 : decode cX6_ledger 5 = .ok (.getfield 277, 3) := by decide +kernel
theorem dX6_ledger_8 : decode cX6_ledger 8 = .ok (.invokestatic 157, 3) := by decide +kernel
theorem dX6_ledger_11 : decode cX6_ledger 11 = .ok (.iload_n 2, 1) := by decide +kernel
theorem dX6_ledger_12 : decode cX6_ledger 12 = .ok (.iconst 3, 1) := by decide +kernel
theorem dX6_ledger_13 : decode cX6_ledger 13 = .ok (.invokestatic 161, 3) := by decide +kernel
theorem dX6_ledger_16 : decode cX6_ledger 16 = .ok (.aload_n 0, 1) := by decide +kernel
theorem dX6_ledger_17 : decode cX6_ledger 17 = .ok (.getfield 10, 3) := by decide +kernel
theorem dX6_ledger_20 : decode cX6_ledger 20 = .ok (.getfield 388, 3) := by decide +kernel
theorem dX6_ledger_23 : decode cX6_ledger 23 = .ok (.iload_n 1, 1) := by decide +kernel
theorem dX6_ledger_24 : decode cX6_ledger 24 = .ok (.iaload, 1) := by decide +kernel
theorem dX6_ledger_25 : decode cX6_ledger 25 = .ok (.istore_n 3, 1) := by decide +kernel
theorem dX6_ledger_26 : decode cX6_ledger 26 = .ok (.iload_n 3, 1) := by decide +kernel
theorem dX6_ledger_27 : decode cX6_ledger 27 = .ok (.aload_n 0, 1) := by decide +kernel
theorem dX6_ledger_28 : decode cX6_ledger 28 = .ok (.getfield 10, 3) := by decide +kernel
theorem dX6_ledger_31 : decode cX6_ledger 31 = .ok (.getfield 44, 3) := by decide +kernel
theorem dX6_ledger_34 : decode cX6_ledger 34 = .ok (.invokestatic 157, 3) := by decide +kernel
theorem dX6_ledger_37 : decode cX6_ledger 37 = .ok (.aload_n 0, 1) := by decide +kernel
theorem dX6_ledger_38 : decode cX6_ledger 38 = .ok (.getfield 10, 3) := by decide +kernel
theorem dX6_ledger_41 : decode cX6_ledger 41 = .ok (.getfield 219, 3) := by decide +kernel
theorem dX6_ledger_44 : decode cX6_ledger 44 = .ok (.iload_n 3, 1) := by decide +kernel
theorem dX6_ledger_45 : decode cX6_ledger 45 = .ok (.aaload, 1) := by decide +kernel
theorem dX6_ledger_46 : decode cX6_ledger 46 = .ok (.astore 4, 2) := by decide +kernel
theorem dX6_ledger_48 : decode cX6_ledger 48 = .ok (.iload_n 2, 1) := by decide +kernel
theorem dX6_ledger_49 : decode cX6_ledger 49 = .ok (.tableswitch 41 0 2 #[27, 29, 35], 27) := by decide +kernel
theorem dX6_ledger_76 : decode cX6_ledger 76 = .ok (.iload_n 3, 1) := by decide +kernel
theorem dX6_ledger_77 : decode cX6_ledger 77 = .ok (.ireturn, 1) := by decide +kernel
theorem dX6_ledger_78 : decode cX6_ledger 78 = .ok (.aload 4, 2) := by decide +kernel
theorem dX6_ledger_80 : decode cX6_ledger 80 = .ok (.getfield 242, 3) := by decide +kernel
theorem dX6_ledger_83 : decode cX6_ledger 83 = .ok (.ireturn, 1) := by decide +kernel
theorem dX6_ledger_84 : decode cX6_ledger 84 = .ok (.aload 4, 2) := by decide +kernel
theorem dX6_ledger_86 : decode cX6_ledger 86 = .ok (.getfield 257, 3) := by decide +kernel
theorem dX6_ledger_89 : decode cX6_ledger 89 = .ok (.ireturn, 1) := by decide +kernel
theorem dX6_ledger_90 : decode cX6_ledger 90 = .ok (.aload 4, 2) := by decide +kernel
theorem dX6_ledger_92 : decode cX6_ledger 92 = .ok (.getfield 260, 3) := by decide +kernel
theorem dX6_ledger_95 : decode cX6_ledger 95 = .ok (.ireturn, 1) := by decide +kernel
theorem dX6_undo_0 : decode cX6_undo 0 = .ok (.aload_n 0, 1) := by decide +kernel
theorem dX6_undo_1 : decode cX6_undo 1 = .ok (.getfield 391, 3) := by decide +kernel
theorem dX6_undo_4 : decode cX6_undo 4 = .ok (.ifCond .ne 14, 3) := by decide +kernel
theorem dX6_undo_7 : decode cX6_undo 7 = .ok (.new 64, 3) := by decide +kernel
theorem dX6_undo_10 : decode cX6_undo 10 = .ok (.dup, 1) := by decide +kernel
theorem dX6_undo_11 : decode cX6_undo 11 = .ok (.ldc_w 394, 3) := by decide +kernel
theorem dX6_undo_14 : decode cX6_undo 14 = .ok (.invokespecial 68, 3) := by decide +kernel
theorem dX6_undo_17 : decode cX6_undo 17 = .ok (.athrow, 1) := by decide +kernel
theorem dX6_undo_18 : decode cX6_undo 18 = .ok (.aload_n 0, 1) := by decide +kernel
theorem dX6_undo_19 : decode cX6_undo 19 = .ok (.dup, 1) := by decide +kernel
theorem dX6_undo_20 : decode cX6_undo 20 = .ok (.getfield 391, 3) := by decide +kernel
theorem dX6_undo_23 : decode cX6_undo 23 = .ok (.iconst 1, 1) := by decide +kernel
theorem dX6_undo_24 : decode cX6_undo 24 = .ok (.isub, 1) := by decide +kernel
theorem dX6_undo_25 : decode cX6_undo 25 = .ok (.putfield 391, 3) := by decide +kernel
theorem dX6_undo_28 : decode cX6_undo 28 = .ok (.aload_n 0, 1) := by decide +kernel
theorem dX6_undo_29 : decode cX6_undo 29 = .ok (.aload_n 0, 1) := by decide +kernel
theorem dX6_undo_30 : decode cX6_undo 30 = .ok (.getfield 396, 3) := by decide +kernel
theorem dX6_undo_33 : decode cX6_undo 33 = .ok (.ifCond .le 12, 3) := by decide +kernel
theorem dX6_undo_36 : decode cX6_undo 36 = .ok (.aload_n 0, 1) := by decide +kernel
theorem dX6_undo_37 : decode cX6_undo 37 = .ok (.getfield 396, 3) := by decide +kernel
theorem dX6_undo_40 : decode cX6_undo 40 = .ok (.iconst 1, 1) := by decide +kernel
theorem dX6_undo_41 : decode cX6_undo 41 = .ok (.isub, 1) := by decide +kernel
theorem dX6_undo_42 : decode cX6_undo 42 = .ok (.goto 5, 3) := by decide +kernel
theorem dX6_undo_45 : decode cX6_undo 45 = .ok (.bipush 7, 2) := by decide +kernel
theorem dX6_undo_47 : decode cX6_undo 47 = .ok (.putfield 396, 3) := by decide +kernel
theorem dX6_undo_50 : decode cX6_undo 50 = .ok (.aload_n 0, 1) := by decide +kernel
theorem dX6_undo_51 : decode cX6_undo 51 = .ok (.getfield 10, 3) := by decide +kernel
theorem dX6_undo_54 : decode cX6_undo 54 = .ok (.aload_n 0, 1) := by decide +kernel
theorem dX6_undo_55 : decode cX6_undo 55 = .ok (.getfield 22, 3) := by decide +kernel
theorem dX6_undo_58 : decode cX6_undo 58 = .ok (.aload_n 0, 1) := by decide +kernel
theorem dX6_undo_59 : decode cX6_undo 59 = .ok (.getfield 396, 3) := by decide +kernel
theorem dX6_undo_62 : decode cX6_undo 62 = .ok (.aaload, 1) := by decide +kernel
theorem dX6_undo_63 : decode cX6_undo 63 = .ok (.invokevirtual 365, 3) := by decide +kernel
theorem dX6_undo_66 : decode cX6_undo 66 = .ok (.aload_n 0, 1) := by decide +kernel
theorem dX6_undo_67 : decode cX6_undo 67 = .ok (.getfield 391, 3) := by decide +kernel
theorem dX6_undo_70 : decode cX6_undo 70 = .ok (.ireturn, 1) := by decide +kernel
theorem dX6_saveSnapshot_0 : decode cX6_saveSnapshot 0 = .ok (.aload_n 0, 1) := by decide +kernel
theorem dX6_saveSnapshot_1 : decode cX6_saveSnapshot 1 = .ok (.getfield 19, 3) := by decide +kernel
theorem dX6_saveSnapshot_4 : decode cX6_saveSnapshot 4 = .ok (.aload_n 0, 1) := by decide +kernel
theorem dX6_saveSnapshot_5 : decode cX6_saveSnapshot 5 = .ok (.getfield 10, 3) := by decide +kernel
theorem dX6_saveSnapshot_8 : decode cX6_saveSnapshot 8 = .ok (.invokevirtual 365, 3) := by decide +kernel
theorem dX6_saveSnapshot_11 : decode cX6_saveSnapshot 11 = .ok (.aload_n 0, 1) := by decide +kernel
theorem dX6_saveSnapshot_12 : decode cX6_saveSnapshot 12 = .ok (.iconst 1, 1) := by decide +kernel
theorem dX6_saveSnapshot_13 : decode cX6_saveSnapshot 13 = .ok (.putfield 399, 3) := by decide +kernel
theorem dX6_saveSnapshot_16 : decode cX6_saveSnapshot 16 = .ok (.aload_n 0, 1) := by decide +kernel
theorem dX6_saveSnapshot_17 : decode cX6_saveSnapshot 17 = .ok (.getfield 10, 3) := by decide +kernel
theorem dX6_saveSnapshot_20 : decode cX6_saveSnapshot 20 = .ok (.getfield 333, 3) := by decide +kernel
theorem dX6_saveSnapshot_23 : decode cX6_saveSnapshot 23 = .ok (.ireturn, 1) := by decide +kernel
theorem dX6_restoreSnapshot_0 : decode cX6_restoreSnapshot 0 = .ok (.aload_n 0, 1) := by decide +kernel
theorem dX6_restoreSnapshot_1 : decode cX6_restoreSnapshot 1 = .ok (.getfield 399, 3) := by decide +kernel
theorem dX6_restoreSnapshot_4 : decode cX6_restoreSnapshot 4 = .ok (.ifCond .ne 14, 3) := by decide +kernel
theorem dX6_restoreSnapshot_7 : decode cX6_restoreSnapshot 7 = .ok (.new 64, 3) := by decide +kernel
theorem dX6_restoreSnapshot_10 : decode cX6_restoreSnapshot 10 = .ok (.dup, 1) := by decide +kernel
theorem dX6_restoreSnapshot_11 : decode cX6_restoreSnapshot 11 = .ok (.ldc_w 402, 3) := by decide +kernel
theorem dX6_restoreSnapshot_14 : decode cX6_restoreSnapshot 14 = .ok (.invokespecial 68, 3) := by decide +kernel
theorem dX6_restoreSnapshot_17 : decode cX6_restoreSnapshot 17 = .ok (.athrow, 1) := by decide +kernel
theorem dX6_restoreSnapshot_18 : decode cX6_restoreSnapshot 18 = .ok (.aload_n 0, 1) := by decide +kernel
theorem dX6_restoreSnapshot_19 : decode cX6_restoreSnapshot 19 = .ok (.getfield 10, 3) := by decide +kernel
theorem dX6_restoreSnapshot_22 : decode cX6_restoreSnapshot 22 = .ok (.aload_n 0, 1) := by decide +kernel
theorem dX6_restoreSnapshot_23 : decode cX6_restoreSnapshot 23 = .ok (.getfield 19, 3) := by decide +kernel
theorem dX6_restoreSnapshot_26 : decode cX6_restoreSnapshot 26 = .ok (.invokevirtual 365, 3) := by decide +kernel
theorem dX6_restoreSnapshot_29 : decode cX6_restoreSnapshot 29 = .ok (.aload_n 0, 1) := by decide +kernel
theorem dX6_restoreSnapshot_30 : decode cX6_restoreSnapshot 30 = .ok (.invokevirtual 52, 3) := by decide +kernel
theorem dX6_restoreSnapshot_33 : decode cX6_restoreSnapshot 33 = .ok (.aload_n 0, 1) := by decide +kernel
theorem dX6_restoreSnapshot_34 : decode cX6_restoreSnapshot 34 = .ok (.getfield 10, 3) := by decide +kernel
theorem dX6_restoreSnapshot_37 : decode cX6_restoreSnapshot 37 = .ok (.getfield 333, 3) := by decide +kernel
theorem dX6_restoreSnapshot_40 : decode cX6_restoreSnapshot 40 = .ok (.ireturn, 1) := by decide +kernel
theorem dX6_write_0 : decode cX6_write 0 = .ok (.iload_n 1, 1) := by decide +kernel
theorem dX6_write_1 : decode cX6_write 1 = .ok (.aload_n 0, 1) := by decide +kernel
theorem dX6_write_2 : decode cX6_write 2 = .ok (.getfield 10, 3) := by decide +kernel
theorem dX6_write_5 : decode cX6_write 5 = .ok (.getfield 142, 3) := by decide +kernel
theorem dX6_write_8 : decode cX6_write 8 = .ok (.invokestatic 157, 3) := by decide +kernel
theorem dX6_write_11 : decode cX6_write 11 = .ok (.aload_n 0, 1) := by decide +kernel
theorem dX6_write_12 : decode cX6_write 12 = .ok (.getfield 33, 3) := by decide +kernel
theorem dX6_write_15 : decode cX6_write 15 = .ok (.iconst 0, 1) := by decide +kernel
theorem dX6_write_16 : decode cX6_write 16 = .ok (.invokevirtual 404, 3) := by decide +kernel
theorem dX6_write_19 : decode cX6_write 19 = .ok (.aload_n 0, 1) := by decide +kernel
theorem dX6_write_20 : decode cX6_write 20 = .ok (.getfield 10, 3) := by decide +kernel
theorem dX6_write_23 : decode cX6_write 23 = .ok (.getfield 164, 3) := by decide +kernel
theorem dX6_write_26 : decode cX6_write 26 = .ok (.iload_n 1, 1) := by decide +kernel
theorem dX6_write_27 : decode cX6_write 27 = .ok (.aaload, 1) := by decide +kernel
theorem dX6_write_28 : decode cX6_write 28 = .ok (.aload_n 0, 1) := by decide +kernel
theorem dX6_write_29 : decode cX6_write 29 = .ok (.getfield 33, 3) := by decide +kernel
theorem dX6_write_32 : decode cX6_write 32 = .ok (.invokevirtual 407, 3) := by decide +kernel
theorem dX6_write_35 : decode cX6_write 35 = .ok (.aload_n 0, 1) := by decide +kernel
theorem dX6_write_36 : decode cX6_write 36 = .ok (.getfield 33, 3) := by decide +kernel
theorem dX6_write_39 : decode cX6_write 39 = .ok (.invokevirtual 411, 3) := by decide +kernel
theorem dX6_write_42 : decode cX6_write 42 = .ok (.ireturn, 1) := by decide +kernel
theorem dX6_paper_0 : decode cX6_paper 0 = .ok (.iload_n 1, 1) := by decide +kernel
theorem dX6_paper_1 : decode cX6_paper 1 = .ok (.aload_n 0, 1) := by decide +kernel
theorem dX6_paper_2 : decode cX6_paper 2 = .ok (.getfield 33, 3) := by decide +kernel
theorem dX6_paper_5 : decode cX6_paper 5 = .ok (.invokevirtual 411, 3) := by decide +kernel
theorem dX6_paper_8 : decode cX6_paper 8 = .ok (.invokestatic 157, 3) := by decide +kernel
theorem dX6_paper_11 : decode cX6_paper 11 = .ok (.aload_n 0, 1) := by decide +kernel
theorem dX6_paper_12 : decode cX6_paper 12 = .ok (.getfield 33, 3) := by decide +kernel
theorem dX6_paper_15 : decode cX6_paper 15 = .ok (.iload_n 1, 1) := by decide +kernel
theorem dX6_paper_16 : decode cX6_paper 16 = .ok (.invokevirtual 414, 3) := by decide +kernel
theorem dX6_paper_19 : decode cX6_paper 19 = .ok (.ireturn, 1) := by decide +kernel
theorem dX6_isIn_0 : decode cX6_isIn 0 = .ok (.iload_n 0, 1) := by decide +kernel
theorem dX6_isIn_1 : decode cX6_isIn 1 = .ok (.iload_n 1, 1) := by decide +kernel
theorem dX6_isIn_2 : decode cX6_isIn 2 = .ok (.if_icmp .lt 12, 3) := by decide +kernel
theorem dX6_isIn_5 : decode cX6_isIn 5 = .ok (.iload_n 0, 1) := by decide +kernel
theorem dX6_isIn_6 : decode cX6_isIn 6 = .ok (.iload_n 2, 1) := by decide +kernel
theorem dX6_isIn_7 : decode cX6_isIn 7 = .ok (.if_icmp .gt 7, 3) := by decide +kernel
theorem dX6_isIn_10 : decode cX6_isIn 10 = .ok (.iconst 1, 1) := by decide +kernel
theorem dX6_isIn_11 : decode cX6_isIn 11 = .ok (.goto 4, 3) := by decide +kernel
theorem dX6_isIn_14 : decode cX6_isIn 14 = .ok (.iconst 0, 1) := by decide +kernel
theorem dX6_isIn_15 : decode cX6_isIn 15 = .ok (.ireturn, 1) := by decide +kernel
theorem dX6_requireIndex_0 : decode cX6_requireIndex 0 = .ok (.iload_n 0, 1) := by decide +kernel
theorem dX6_requireIndex_1 : decode cX6_requireIndex 1 = .ok (.ifCond .lt 8, 3) := by decide +kernel
theorem dX6_requireIndex_4 : decode cX6_requireIndex 4 = .ok (.iload_n 0, 1) := by decide +kernel
theorem dX6_requireIndex_5 : decode cX6_requireIndex 5 = .ok (.iload_n 1, 1) := by decide +kernel
theorem dX6_requireIndex_6 : decode cX6_requireIndex 6 = .ok (.if_icmp .lt 14, 3) := by decide +kernel
theorem dX6_requireIndex_9 : decode cX6_requireIndex 9 = .ok (.new 418, 3) := by decide +kernel
theorem dX6_requireIndex_12 : decode cX6_requireIndex 12 = .ok (.dup, 1) := by decide +kernel
theorem dX6_requireIndex_13 : decode cX6_requireIndex 13 = .ok (.ldc_w 420, 3) := by decide +kernel
theorem dX6_requireIndex_16 : decode cX6_requireIndex 16 = .ok (.invokespecial 422, 3) := by decide +kernel
theorem dX6_requireIndex_19 : decode cX6_requireIndex 19 = .ok (.athrow, 1) := by decide +kernel
theorem dX6_requireIndex_20 : decode cX6_requireIndex 20 = .ok (.return_, 1) := by decide +kernel
theorem dX6_requireWhat_0 : decode cX6_requireWhat 0 = .ok (.iload_n 0, 1) := by decide +kernel
theorem dX6_requireWhat_1 : decode cX6_requireWhat 1 = .ok (.ifCond .lt 8, 3) := by decide +kernel
theorem dX6_requireWhat_4 : decode cX6_requireWhat 4 = .ok (.iload_n 0, 1) := by decide +kernel
theorem dX6_requireWhat_5 : decode cX6_requireWhat 5 = .ok (.iload_n 1, 1) := by decide +kernel
theorem dX6_requireWhat_6 : decode cX6_requireWhat 6 = .ok (.if_icmp .le 14, 3) := by decide +kernel
theorem dX6_requireWhat_9 : decode cX6_requireWhat 9 = .ok (.new 37, 3) := by decide +kernel
theorem dX6_requireWhat_12 : decode cX6_requireWhat 12 = .ok (.dup, 1) := by decide +kernel
theorem dX6_requireWhat_13 : decode cX6_requireWhat 13 = .ok (.ldc_w 423, 3) := by decide +kernel
theorem dX6_requireWhat_16 : decode cX6_requireWhat 16 = .ok (.invokespecial 41, 3) := by decide +kernel
theorem dX6_requireWhat_19 : decode cX6_requireWhat 19 = .ok (.athrow, 1) := by decide +kernel
theorem dX6_requireWhat_20 : decode cX6_requireWhat 20 = .ok (.return_, 1) := by decide +kernel
theorem dX6_requireTicks_0 : decode cX6_requireTicks 0 = .ok (.iload_n 0, 1) := by decide +kernel
theorem dX6_requireTicks_1 : decode cX6_requireTicks 1 = .ok (.iconst 1, 1) := by decide +kernel
theorem dX6_requireTicks_2 : decode cX6_requireTicks 2 = .ok (.if_icmp .lt 8, 3) := by decide +kernel
theorem dX6_requireTicks_5 : decode cX6_requireTicks 5 = .ok (.iload_n 0, 1) := by decide +kernel
theorem dX6_requireTicks_6 : decode cX6_requireTicks 6 = .ok (.iload_n 1, 1) := by decide +kernel
theorem dX6_requireTicks_7 : decode cX6_requireTicks 7 = .ok (.if_icmp .le 14, 3) := by decide +kernel
theorem dX6_requireTicks_10 : decode cX6_requireTicks 10 = .ok (.new 37, 3) := by decide +kernel
theorem dX6_requireTicks_13 : decode cX6_requireTicks 13 = .ok (.dup, 1) := by decide +kernel
theorem dX6_requireTicks_14 : decode cX6_requireTicks 14 = .ok (.ldc_w 425, 3) := by decide +kernel
theorem dX6_requireTicks_17 : decode cX6_requireTicks 17 = .ok (.invokespecial 41, 3) := by decide +kernel
theorem dX6_requireTicks_20 : decode cX6_requireTicks 20 = .ok (.athrow, 1) := by decide +kernel
theorem dX6_requireTicks_21 : decode cX6_requireTicks 21 = .ok (.return_, 1) := by decide +kernel
theorem dX6_remember_0 : decode cX6_remember 0 = .ok (.aload_n 0, 1) := by decide +kernel
theorem dX6_remember_1 : decode cX6_remember 1 = .ok (.getfield 22, 3) := by decide +kernel
theorem dX6_remember_4 : decode cX6_remember 4 = .ok (.aload_n 0, 1) := by decide +kernel
theorem dX6_remember_5 : decode cX6_remember 5 = .ok (.getfield 396, 3) := by decide +kernel
theorem dX6_remember_8 : decode cX6_remember 8 = .ok (.aaload, 1) := by decide +kernel
theorem dX6_remember_9 : decode cX6_remember 9 = .ok (.aload_n 0, 1) := by decide +kernel
theorem dX6_remember_10 : decode cX6_remember 10 = .ok (.getfield 10, 3) := by decide +kernel
theorem dX6_remember_13 : decode cX6_remember 13 = .ok (.invokevirtual 365, 3) := by decide +kernel
theorem dX6_remember_16 : decode cX6_remember 16 = .ok (.aload_n 0, 1) := by decide +kernel
theorem dX6_remember_17 : decode cX6_remember 17 = .ok (.aload_n 0, 1) := by decide +kernel
theorem dX6_remember_18 : decode cX6_remember 18 = .ok (.getfield 396, 3) := by decide +kernel
theorem dX6_remember_21 : decode cX6_remember 21 = .ok (.bipush 7, 2) := by decide +kernel
theorem dX6_remember_23 : decode cX6_remember 23 = .ok (.if_icmp .ge 12, 3) := by decide +kernel
theorem dX6_remember_26 : decode cX6_remember 26 = .ok (.aload_n 0, 1) := by decide +kernel
theorem dX6_remember_27 : decode cX6_remember 27 = .ok (.getfield 396, 3) := by decide +kernel
theorem dX6_remember_30 : decode cX6_remember 30 = .ok (.iconst 1, 1) := by decide +kernel
theorem dX6_remember_31 : decode cX6_remember 31 = .ok (.iadd, 1) := by decide +kernel
theorem dX6_remember_32 : decode cX6_remember 32 = .ok (.goto 4, 3) := by decide +kernel
theorem dX6_remember_35 : decode cX6_remember 35 = .ok (.iconst 0, 1) := by decide +kernel
theorem dX6_remember_36 : decode cX6_remember 36 = .ok (.putfield 396, 3) := by decide +kernel
theorem dX6_remember_39 : decode cX6_remember 39 = .ok (.aload_n 0, 1) := by decide +kernel
theorem dX6_remember_40 : decode cX6_remember 40 = .ok (.aload_n 0, 1) := by decide +kernel
theorem dX6_remember_41 : decode cX6_remember 41 = .ok (.getfield 391, 3) := by decide +kernel
theorem dX6_remember_44 : decode cX6_remember 44 = .ok (.iconst 1, 1) := by decide +kernel
theorem dX6_remember_45 : decode cX6_remember 45 = .ok (.iadd, 1) := by decide +kernel
theorem dX6_remember_46 : decode cX6_remember 46 = .ok (.bipush 8, 2) := by decide +kernel
theorem dX6_remember_48 : decode cX6_remember 48 = .ok (.invokestatic 427, 3) := by decide +kernel
theorem dX6_remember_51 : decode cX6_remember 51 = .ok (.putfield 391, 3) := by decide +kernel
theorem dX6_remember_54 : decode cX6_remember 54 = .ok (.return_, 1) := by decide +kernel
theorem dX6_forgetChanges_0 : decode cX6_forgetChanges 0 = .ok (.aload_n 0, 1) := by decide +kernel
theorem dX6_forgetChanges_1 : decode cX6_forgetChanges 1 = .ok (.iconst 0, 1) := by decide +kernel
theorem dX6_forgetChanges_2 : decode cX6_forgetChanges 2 = .ok (.putfield 391, 3) := by decide +kernel
theorem dX6_forgetChanges_5 : decode cX6_forgetChanges 5 = .ok (.return_, 1) := by decide +kernel
theorem dX7_init_0 : decode cX7_init 0 = .ok (.aload_n 0, 1) := by decide +kernel
theorem dX7_init_1 : decode cX7_init 1 = .ok (.invokespecial 1, 3) := by decide +kernel
theorem dX7_init_4 : decode cX7_init 4 = .ok (.aload_n 0, 1) := by decide +kernel
theorem dX7_init_5 : decode cX7_init 5 = .ok (.bipush 30, 2) := by decide +kernel
theorem dX7_init_7 : decode cX7_init 7 = .ok (.newarray .int, 2) := by decide +kernel
theorem dX7_init_9 : decode cX7_init 9 = .ok (.putfield 7, 3) := by decide +kernel
theorem dX7_init_12 : decode cX7_init 12 = .ok (.aload_n 0, 1) := by decide +kernel
theorem dX7_init_13 : decode cX7_init 13 = .ok (.bipush 39, 2) := by decide +kernel
theorem dX7_init_15 : decode cX7_init 15 = .ok (.newarray .int, 2) := by decide +kernel
theorem dX7_init_17 : decode cX7_init 17 = .ok (.putfield 13, 3) := by decide +kernel
theorem dX7_init_20 : decode cX7_init 20 = .ok (.aload_n 0, 1) := by decide +kernel
theorem dX7_init_21 : decode cX7_init 21 = .ok (.bipush 120, 2) := by decide +kernel
theorem dX7_init_23 : decode cX7_init 23 = .ok (.newarray .int, 2) := by decide +kernel
theorem dX7_init_25 : decode cX7_init 25 = .ok (.putfield 16, 3) := by decide +kernel
theorem dX7_init_28 : decode cX7_init 28 = .ok (.aload_n 0, 1) := by decide +kernel
theorem dX7_init_29 : decode cX7_init 29 = .ok (.sipush 260, 3) := by decide +kernel
theorem dX7_init_32 : decode cX7_init 32 = .ok (.newarray .int, 2) := by decide +kernel
theorem dX7_init_34 : decode cX7_init 34 = .ok (.putfield 19, 3) := by decide +kernel
theorem dX7_init_37 : decode cX7_init 37 = .ok (.aload_n 0, 1) := by decide +kernel
theorem dX7_init_38 : decode cX7_init 38 = .ok (.sipush 720, 3) := by decide +kernel
theorem dX7_init_41 : decode cX7_init 41 = .ok (.newarray .int, 2) := by decide +kernel
theorem dX7_init_43 : decode cX7_init 43 = .ok (.putfield 22, 3) := by decide +kernel
theorem dX7_init_46 : decode cX7_init 46 = .ok (.aload_n 0, 1) := by decide +kernel
theorem dX7_init_47 : decode cX7_init 47 = .ok (.bipush 60, 2) := by decide +kernel
theorem dX7_init_49 : decode cX7_init 49 = .ok (.newarray .int, 2) := by decide +kernel
theorem dX7_init_51 : decode cX7_init 51 = .ok (.putfield 25, 3) := by decide +kernel
theorem dX7_init_54 : decode cX7_init 54 = .ok (.aload_n 0, 1) := by decide +kernel
theorem dX7_init_55 : decode cX7_init 55 = .ok (.bipush 12, 2) := by decide +kernel
theorem dX7_init_57 : decode cX7_init 57 = .ok (.putfield 28, 3) := by decide +kernel
theorem dX7_init_60 : decode cX7_init 60 = .ok (.aload_n 0, 1) := by decide +kernel
theorem dX7_init_61 : decode cX7_init 61 = .ok (.bipush 80, 2) := by decide +kernel
theorem dX7_init_63 : decode cX7_init 63 = .ok (.newarray .char, 2) := by decide +kernel
theorem dX7_init_65 : decode cX7_init 65 = .ok (.putfield 32, 3) := by decide +kernel
theorem dX7_init_68 : decode cX7_init 68 = .ok (.aload_n 0, 1) := by decide +kernel
theorem dX7_init_69 : decode cX7_init 69 = .ok (.bipush 52, 2) := by decide +kernel
theorem dX7_init_71 : decode cX7_init 71 = .ok (.newarray .int, 2) := by decide +kernel
theorem dX7_init_73 : decode cX7_init 73 = .ok (.putfield 36, 3) := by decide +kernel
theorem dX7_init_76 : decode cX7_init 76 = .ok (.aload_n 0, 1) := by decide +kernel
theorem dX7_init_77 : decode cX7_init 77 = .ok (.sipush 1360, 3) := by decide +kernel
theorem dX7_init_80 : decode cX7_init 80 = .ok (.newarray .int, 2) := by decide +kernel
theorem dX7_init_82 : decode cX7_init 82 = .ok (.putfield 39, 3) := by decide +kernel
theorem dX7_init_85 : decode cX7_init 85 = .ok (.aload_n 0, 1) := by decide +kernel
theorem dX7_init_86 : decode cX7_init 86 = .ok (.sipush 10880, 3) := by decide +kernel
theorem dX7_init_89 : decode cX7_init 89 = .ok (.newarray .int, 2) := by decide +kernel
theorem dX7_init_91 : decode cX7_init 91 = .ok (.putfield 42, 3) := by decide +kernel
theorem dX7_init_94 : decode cX7_init 94 = .ok (.aload_n 0, 1) := by decide +kernel
theorem dX7_init_95 : decode cX7_init 95 = .ok (.sipush 1360, 3) := by decide +kernel
theorem dX7_init_98 : decode cX7_init 98 = .ok (.newarray .int, 2) := by decide +kernel
theorem dX7_init_100 : decode cX7_init 100 = .ok (.putfield 45, 3) := by decide +kernel
theorem dX7_init_103 : decode cX7_init 103 = .ok (.aload_n 0, 1) := by decide +kernel
theorem dX7_init_104 : decode cX7_init 104 = .ok (.sipush 140, 3) := by decide +kernel
theorem dX7_init_107 : decode cX7_init 107 = .ok (.newarray .int, 2) := by decide +kernel
theorem dX7_init_109 : decode cX7_init 109 = .ok (.putfield 48, 3) := by decide +kernel
theorem dX7_init_112 : decode cX7_init 112 = .ok (.aload_n 0, 1) := by decide +kernel
theorem dX7_init_113 : decode cX7_init 113 = .ok (.invokevirtual 51, 3) := by decide +kernel
theorem dX7_init_116 : decode cX7_init 116 = .ok (.return_, 1) := by decide +kernel
theorem dX7_thrown_0 : decode cX7_thrown 0 = .ok (.aload_n 0, 1) := by decide +kernel
theorem dX7_thrown_1 : decode cX7_thrown 1 = .ok (.getfield 54, 3) := by decide +kernel
theorem dX7_thrown_4 : decode cX7_thrown 4 = .ok (.ireturn, 1) := by decide +kernel
theorem dX7_fails_0 : decode cX7_fails 0 = .ok (.aload_n 0, 1) := by decide +kernel
theorem dX7_fails_1 : decode cX7_fails 1 = .ok (.iload_n 1, 1) := by decide +kernel
theorem dX7_fails_2 : decode cX7_fails 2 = .ok (.putfield 54, 3) := by decide +kernel
theorem dX7_fails_5 : decode cX7_fails 5 = .ok (.iconst 0, 1) := by decide +kernel
theorem dX7_fails_6 : decode cX7_fails 6 = .ok (.ireturn, 1) := by decide +kernel
theorem dX7_isBetween_0 : decode cX7_isBetween 0 = .ok (.iload_n 0, 1) := by decide +kernel
theorem dX7_isBetween_1 : decode cX7_isBetween 1 = .ok (.iload_n 1, 1) := by decide +kernel
theorem dX7_isBetween_2 : decode cX7_isBetween 2 = .ok (.if_icmp .lt 12, 3) := by decide +kernel
theorem dX7_isBetween_5 : decode cX7_isBetween 5 = .ok (.iload_n 0, 1) := by decide +kernel
theorem dX7_isBetween_6 : decode cX7_isBetween 6 = .ok (.iload_n 2, 1) := by decide +kernel
theorem dX7_isBetween_7 : decode cX7_isBetween 7 = .ok (.if_icmp .gt 7, 3) := by decide +kernel
theorem dX7_isBetween_10 : decode cX7_isBetween 10 = .ok (.iconst 1, 1) := by decide +kernel
theorem dX7_isBetween_11 : decode cX7_isBetween 11 = .ok (.goto 4, 3) := by decide +kernel
theorem dX7_isBetween_14 : decode cX7_isBetween 14 = .ok (.iconst 0, 1) := by decide +kernel
theorem dX7_isBetween_15 : decode cX7_isBetween 15 = .ok (.ireturn, 1) := by decide +kernel
theorem dX7_has_0 : decode cX7_has 0 = .ok (.iload_n 0, 1) := by decide +kernel
theorem dX7_has_1 : decode cX7_has 1 = .ok (.iload_n 1, 1) := by decide +kernel
theorem dX7_has_2 : decode cX7_has 2 = .ok (.ishr, 1) := by decide +kernel
theorem dX7_has_3 : decode cX7_has 3 = .ok (.iconst 1, 1) := by decide +kernel
theorem dX7_has_4 : decode cX7_has 4 = .ok (.iand, 1) := by decide +kernel
theorem dX7_has_5 : decode cX7_has 5 = .ok (.iconst 1, 1) := by decide +kernel
theorem dX7_has_6 : decode cX7_has 6 = .ok (.if_icmp .ne 7, 3) := by decide +kernel
theorem dX7_has_9 : decode cX7_has 9 = .ok (.iconst 1, 1) := by decide +kernel
theorem dX7_has_10 : decode cX7_has 10 = .ok (.goto 4, 3) := by decide +kernel
theorem dX7_has_13 : decode cX7_has 13 = .ok (.iconst 0, 1) := by decide +kernel
theorem dX7_has_14 : decode cX7_has 14 = .ok (.ireturn, 1) := by decide +kernel
theorem dX7_ofStation_0 : decode cX7_ofStation 0 = .ok (.aload_n 0, 1) := by decide +kernel
theorem dX7_ofStation_1 : decode cX7_ofStation 1 = .ok (.getfield 13, 3) := by decide +kernel
theorem dX7_ofStation_4 : decode cX7_ofStation 4 = .ok (.bipush 13, 2) := by decide +kernel
theorem dX7_ofStation_6 : decode cX7_ofStation 6 = .ok (.iload_n 1, 1) := by decide +kernel
theorem dX7_ofStation_7 : decode cX7_ofStation 7 = .ok (.imul, 1) := by decide +kernel
theorem dX7_ofStation_8 : decode cX7_ofStation 8 = .ok (.iload_n 2, 1) := by decide +kernel
theorem dX7_ofStation_9 : decode cX7_ofStation 9 = .ok (.iadd, 1) := by decide +kernel
theorem dX7_ofStation_10 : decode cX7_ofStation 10 = .ok (.iaload, 1) := by decide +kernel
theorem dX7_ofStation_11 : decode cX7_ofStation 11 = .ok (.ireturn, 1) := by decide +kernel
theorem dX7_ofChute_0 : decode cX7_ofChute 0 = .ok (.aload_n 0, 1) := by decide +kernel
theorem dX7_ofChute_1 : decode cX7_ofChute 1 = .ok (.getfield 16, 3) := by decide +kernel
theorem dX7_ofChute_4 : decode cX7_ofChute 4 = .ok (.bipush 15, 2) := by decide +kernel
theorem dX7_ofChute_6 : decode cX7_ofChute 6 = .ok (.iload_n 1, 1) := by decide +kernel
theorem dX7_ofChute_7 : decode cX7_ofChute 7 = .ok (.imul, 1) := by decide +kernel
theorem dX7_ofChute_8 : decode cX7_ofChute 8 = .ok (.iload_n 2, 1) := by decide +kernel
theorem dX7_ofChute_9 : decode cX7_ofChute 9 = .ok (.iadd, 1) := by decide +kernel
theorem dX7_ofChute_10 : decode cX7_ofChute 10 = .ok (.iaload, 1) := by decide +kernel
theorem dX7_ofChute_11 : decode cX7_ofChute 11 = .ok (.ireturn, 1) := by decide +kernel
theorem dX7_setsChute_0 : decode cX7_setsChute 0 = .ok (.aload_n 0, 1) := by decide +kernel
theorem dX7_setsChute_1 : decode cX7_setsChute 1 = .ok (.getfield 16, 3) := by decide +kernel
theorem dX7_setsChute_4 : decode cX7_setsChute 4 = .ok (.bipush 15, 2) := by decide +kernel
theorem dX7_setsChute_6 : decode cX7_setsChute 6 = .ok (.iload_n 1, 1) := by decide +kernel
theorem dX7_setsChute_7 : decode cX7_setsChute 7 = .ok (.imul, 1) := by decide +kernel
theorem dX7_setsChute_8 : decode cX7_setsChute 8 = .ok (.iload_n 2, 1) := by decide +kernel
theorem dX7_setsChute_9 : decode cX7_setsChute 9 = .ok (.iadd, 1) := by decide +kernel
theorem dX7_setsChute_10 : decode cX7_setsChute 10 = .ok (.iload_n 3, 1) := by decide +kernel
theorem dX7_setsChute_11 : decode cX7_setsChute 11 = .ok (.iastore, 1) := by decide +kernel
theorem dX7_setsChute_12 : decode cX7_setsChute 12 = .ok (.return_, 1) := by decide +kernel
theorem dX7_addsChute_0 : decode cX7_addsChute 0 = .ok (.aload_n 0, 1) := by decide +kernel
theorem dX7_addsChute_1 : decode cX7_addsChute 1 = .ok (.getfield 16, 3) := by decide +kernel
theorem dX7_addsChute_4 : decode cX7_addsChute 4 = .ok (.bipush 15, 2) := by decide +kernel
theorem dX7_addsChute_6 : decode cX7_addsChute 6 = .ok (.iload_n 1, 1) := by decide +kernel
theorem dX7_addsChute_7 : decode cX7_addsChute 7 = .ok (.imul, 1) := by decide +kernel
theorem dX7_addsChute_8 : decode cX7_addsChute 8 = .ok (.iload_n 2, 1) := by decide +kernel
theorem dX7_addsChute_9 : decode cX7_addsChute 9 = .ok (.iadd, 1) := by decide +kernel
theorem dX7_addsChute_10 : decode cX7_addsChute 10 = .ok (.dup2, 1) := by decide +kernel
theorem dX7_addsChute_11 : decode cX7_addsChute 11 = .ok (.iaload, 1) := by decide +kernel
theorem dX7_addsChute_12 : decode cX7_addsChute 12 = .ok (.iload_n 3, 1) := by decide +kernel
theorem dX7_addsChute_13 : decode cX7_addsChute 13 = .ok (.iadd, 1) := by decide +kernel
theorem dX7_addsChute_14 : decode cX7_addsChute 14 = .ok (.iastore, 1) := by decide +kernel
theorem dX7_addsChute_15 : decode cX7_addsChute 15 = .ok (.return_, 1) := by decide +kernel
theorem dX7_ofPlan_0 : decode cX7_ofPlan 0 = .ok (.aload_n 0, 1) := by decide +kernel
theorem dX7_ofPlan_1 : decode cX7_ofPlan 1 = .ok (.getfield 19, 3) := by decide +kernel
theorem dX7_ofPlan_4 : decode cX7_ofPlan 4 = .ok (.bipush 52, 2) := by decide +kernel
theorem dX7_ofPlan_6 : decode cX7_ofPlan 6 = .ok (.iload_n 1, 1) := by decide +kernel
theorem dX7_ofPlan_7 : decode cX7_ofPlan 7 = .ok (.imul, 1) := by decide +kernel
theorem dX7_ofPlan_8 : decode cX7_ofPlan 8 = .ok (.iload_n 2, 1) := by decide +kernel
theorem dX7_ofPlan_9 : decode cX7_ofPlan 9 = .ok (.iadd, 1) := by decide +kernel
theorem dX7_ofPlan_10 : decode cX7_ofPlan 10 = .ok (.iaload, 1) := by decide +kernel
theorem dX7_ofPlan_11 : decode cX7_ofPlan 11 = .ok (.ireturn, 1) := by decide +kernel
theorem dX7_ofRule_0 : decode cX7_ofRule 0 = .ok (.aload_n 0, 1) := by decide +kernel
theorem dX7_ofRule_1 : decode cX7_ofRule 1 = .ok (.getfield 19, 3) := by decide +kernel
theorem dX7_ofRule_4 : decode cX7_ofRule 4 = .ok (.bipush 52, 2) := by decide +kernel
theorem dX7_ofRule_6 : decode cX7_ofRule 6 = .ok (.iload_n 1, 1) := by decide +kernel
theorem dX7_ofRule_7 : decode cX7_ofRule 7 = .ok (.imul, 1) := by decide +kernel
theorem dX7_ofRule_8 : decode cX7_ofRule 8 = .ok (.iconst 4, 1) := by decide +kernel
theorem dX7_ofRule_9 : decode cX7_ofRule 9 = .ok (.iadd, 1) := by decide +kernel
theorem dX7_ofRule_10 : decode cX7_ofRule 10 = .ok (.bipush 6, 2) := by decide +kernel
theorem dX7_ofRule_12 : decode cX7_ofRule 12 = .ok (.iload_n 2, 1) := by decide +kernel
theorem dX7_ofRule_13 : decode cX7_ofRule 13 = .ok (.imul, 1) := by decide +kernel
theorem dX7_ofRule_14 : decode cX7_ofRule 14 = .ok (.iadd, 1) := by decide +kernel
theorem dX7_ofRule_15 : decode cX7_ofRule 15 = .ok (.iload_n 3, 1) := by decide +kernel
theorem dX7_ofRule_16 : decode cX7_ofRule 16 = .ok (.iadd, 1) := by decide +kernel
theorem dX7_ofRule_17 : decode cX7_ofRule 17 = .ok (.iaload, 1) := by decide +kernel
theorem dX7_ofRule_18 : decode cX7_ofRule 18 = .ok (.ireturn, 1) := by decide +kernel
theorem dX7_ofParcel_0 : decode cX7_ofParcel 0 = .ok (.aload_n 0, 1) := by decide +kernel
theorem dX7_ofParcel_1 : decode cX7_ofParcel 1 = .ok (.getfield 22, 3) := by decide +kernel
theorem dX7_ofParcel_4 : decode cX7_ofParcel 4 = .ok (.bipush 12, 2) := by decide +kernel
theorem dX7_ofParcel_6 : decode cX7_ofParcel 6 = .ok (.iload_n 1, 1) := by decide +kernel
theorem dX7_ofParcel_7 : decode cX7_ofParcel 7 = .ok (.imul, 1) := by decide +kernel
theorem dX7_ofParcel_8 : decode cX7_ofParcel 8 = .ok (.iload_n 2, 1) := by decide +kernel
theorem dX7_ofParcel_9 : decode cX7_ofParcel 9 = .ok (.iadd, 1) := by decide +kernel
theorem dX7_ofParcel_10 : decode cX7_ofParcel 10 = .ok (.iaload, 1) := by decide +kernel
theorem dX7_ofParcel_11 : decode cX7_ofParcel 11 = .ok (.ireturn, 1) := by decide +kernel
theorem dX7_setsParcel_0 : decode cX7_setsParcel 0 = .ok (.aload_n 0, 1) := by decide +kernel
theorem dX7_setsParcel_1 : decode cX7_setsParcel 1 = .ok (.getfield 22, 3) := by decide +kernel
theorem dX7_setsParcel_4 : decode cX7_setsParcel 4 = .ok (.bipush 12, 2) := by decide +kernel
theorem dX7_setsParcel_6 : decode cX7_setsParcel 6 = .ok (.iload_n 1, 1) := by decide +kernel
theorem dX7_setsParcel_7 : decode cX7_setsParcel 7 = .ok (.imul, 1) := by decide +kernel
theorem dX7_setsParcel_8 : decode cX7_setsParcel 8 = .ok (.iload_n 2, 1) := by decide +kernel
theorem dX7_setsParcel_9 : decode cX7_setsParcel 9 = .ok (.iadd, 1) := by decide +kernel
theorem dX7_setsParcel_10 : decode cX7_setsParcel 10 = .ok (.iload_n 3, 1) := by decide +kernel
theorem dX7_setsParcel_11 : decode cX7_setsParcel 11 = .ok (.iastore, 1) := by decide +kernel
theorem dX7_setsParcel_12 : decode cX7_setsParcel 12 = .ok (.return_, 1) := by decide +kernel
theorem dX7_isStation_0 : decode cX7_isStation 0 = .ok (.iload_n 1, 1) := by decide +kernel
theorem dX7_isStation_1 : decode cX7_isStation 1 = .ok (.ifCond .lt 15, 3) := by decide +kernel
theorem dX7_isStation_4 : decode cX7_isStation 4 = .ok (.iload_n 1, 1) := by decide +kernel
theorem dX7_isStation_5 : decode cX7_isStation 5 = .ok (.aload_n 0, 1) := by decide +kernel
theorem dX7_isStation_6 : decode cX7_isStation 6 = .ok (.getfield 57, 3) := by decide +kernel
theorem dX7_isStation_9 : decode cX7_isStation 9 = .ok (.if_icmp .ge 7, 3) := by decide +kernel
theorem dX7_isStation_12 : decode cX7_isStation 12 = .ok (.iconst 1, 1) := by decide +kernel
theorem dX7_isStation_13 : decode cX7_isStation 13 = .ok (.goto 4, 3) := by decide +kernel
theorem dX7_isStation_16 : decode cX7_isStation 16 = .ok (.iconst 0, 1) := by decide +kernel
theorem dX7_isStation_17 : decode cX7_isStation 17 = .ok (.ireturn, 1) := by decide +kernel
theorem dX7_isChute_0 : decode cX7_isChute 0 = .ok (.iload_n 1, 1) := by decide +kernel
theorem dX7_isChute_1 : decode cX7_isChute 1 = .ok (.ifCond .lt 15, 3) := by decide +kernel
theorem dX7_isChute_4 : decode cX7_isChute 4 = .ok (.iload_n 1, 1) := by decide +kernel
theorem dX7_isChute_5 : decode cX7_isChute 5 = .ok (.aload_n 0, 1) := by decide +kernel
theorem dX7_isChute_6 : decode cX7_isChute 6 = .ok (.getfield 60, 3) := by decide +kernel
theorem dX7_isChute_9 : decode cX7_isChute 9 = .ok (.if_icmp .ge 7, 3) := by decide +kernel
theorem dX7_isChute_12 : decode cX7_isChute 12 = .ok (.iconst 1, 1) := by decide +kernel
theorem dX7_isChute_13 : decode cX7_isChute 13 = .ok (.goto 4, 3) := by decide +kernel
theorem dX7_isChute_16 : decode cX7_isChute 16 = .ok (.iconst 0, 1) := by decide +kernel
theorem dX7_isChute_17 : decode cX7_isChute 17 = .ok (.ireturn, 1) := by decide +kernel
theorem dX7_isParcel_0 : decode cX7_isParcel 0 = .ok (.iload_n 1, 1) := by decide +kernel
theorem dX7_isParcel_1 : decode cX7_isParcel 1 = .ok (.ifCond .lt 15, 3) := by decide +kernel
theorem dX7_isParcel_4 : decode cX7_isParcel 4 = .ok (.iload_n 1, 1) := by decide +kernel
theorem dX7_isParcel_5 : decode cX7_isParcel 5 = .ok (.aload_n 0, 1) := by decide +kernel
theorem dX7_isParcel_6 : decode cX7_isParcel 6 = .ok (.getfield 63, 3) := by decide +kernel
theorem dX7_isParcel_9 : decode cX7_isParcel 9 = .ok (.if_icmp .ge 7, 3) := by decide +kernel
theorem dX7_isParcel_12 : decode cX7_isParcel 12 = .ok (.iconst 1, 1) := by decide +kernel
theorem dX7_isParcel_13 : decode cX7_isParcel 13 = .ok (.goto 4, 3) := by decide +kernel
theorem dX7_isParcel_16 : decode cX7_isParcel 16 = .ok (.iconst 0, 1) := by decide +kernel
theorem dX7_isParcel_17 : decode cX7_isParcel 17 = .ok (.ireturn, 1) := by decide +kernel
theorem dX7_isPlan_0 : decode cX7_isPlan 0 = .ok (.iload_n 1, 1) := by decide +kernel
theorem dX7_isPlan_1 : decode cX7_isPlan 1 = .ok (.ifCond .lt 15, 3) := by decide +kernel
theorem dX7_isPlan_4 : decode cX7_isPlan 4 = .ok (.iload_n 1, 1) := by decide +kernel
theorem dX7_isPlan_5 : decode cX7_isPlan 5 = .ok (.aload_n 0, 1) := by decide +kernel
theorem dX7_isPlan_6 : decode cX7_isPlan 6 = .ok (.getfield 66, 3) := by decide +kernel
theorem dX7_isPlan_9 : decode cX7_isPlan 9 = .ok (.if_icmp .ge 7, 3) := by decide +kernel
theorem dX7_isPlan_12 : decode cX7_isPlan 12 = .ok (.iconst 1, 1) := by decide +kernel
theorem dX7_isPlan_13 : decode cX7_isPlan 13 = .ok (.goto 4, 3) := by decide +kernel
theorem dX7_isPlan_16 : decode cX7_isPlan 16 = .ok (.iconst 0, 1) := by decide +kernel
theorem dX7_isPlan_17 : decode cX7_isPlan 17 = .ok (.ireturn, 1) := by decide +kernel
theorem dX7_empties_0 : decode cX7_empties 0 = .ok (.iconst 0, 1) := by decide +kernel
theorem dX7_empties_1 : decode cX7_empties 1 = .ok (.istore_n 1, 1) := by decide +kernel
theorem dX7_empties_2 : decode cX7_empties 2 = .ok (.iload_n 1, 1) := by decide +kernel
theorem dX7_empties_3 : decode cX7_empties 3 = .ok (.bipush 30, 2) := by decide +kernel
theorem dX7_empties_5 : decode cX7_empties 5 = .ok (.if_icmp .ge 16, 3) := by decide +kernel
theorem dX7_empties_8 : decode cX7_empties 8 = .ok (.aload_n 0, 1) := by decide +kernel
theorem dX7_empties_9 : decode cX7_empties 9 = .ok (.getfield 7, 3) := by decide +kernel
theorem dX7_empties_12 : decode cX7_empties 12 = .ok (.iload_n 1, 1) := by decide +kernel
theorem dX7_empties_13 : decode cX7_empties 13 = .ok (.iconst (-1), 1) := by decide +kernel
theorem dX7_empties_14 : decode cX7_empties 14 = .ok (.iastore, 1) := by decide +kernel
theorem dX7_empties_15 : decode cX7_empties 15 = .ok (.iinc 1 1, 3) := by decide +kernel
theorem dX7_empties_18 : decode cX7_empties 18 = .ok (.goto (-16), 3) := by decide +kernel
theorem dX7_empties_21 : decode cX7_empties 21 = .ok (.aload_n 0, 1) := by decide +kernel
theorem dX7_empties_22 : decode cX7_empties 22 = .ok (.iconst 0, 1) := by decide +kernel
theorem dX7_empties_23 : decode cX7_empties 23 = .ok (.putfield 57, 3) := by decide +kernel
theorem dX7_empties_26 : decode cX7_empties 26 = .ok (.aload_n 0, 1) := by decide +kernel
theorem dX7_empties_27 : decode cX7_empties 27 = .ok (.iconst 0, 1) := by decide +kernel
theorem dX7_empties_28 : decode cX7_empties 28 = .ok (.putfield 60, 3) := by decide +kernel
theorem dX7_empties_31 : decode cX7_empties 31 = .ok (.aload_n 0, 1) := by decide +kernel
theorem dX7_empties_32 : decode cX7_empties 32 = .ok (.iconst 0, 1) := by decide +kernel
theorem dX7_empties_33 : decode cX7_empties 33 = .ok (.putfield 66, 3) := by decide +kernel
theorem dX7_empties_36 : decode cX7_empties 36 = .ok (.aload_n 0, 1) := by decide +kernel
theorem dX7_empties_37 : decode cX7_empties 37 = .ok (.iconst 0, 1) := by decide +kernel
theorem dX7_empties_38 : decode cX7_empties 38 = .ok (.putfield 63, 3) := by decide +kernel
theorem dX7_empties_41 : decode cX7_empties 41 = .ok (.aload_n 0, 1) := by decide +kernel
theorem dX7_empties_42 : decode cX7_empties 42 = .ok (.iconst 0, 1) := by decide +kernel
theorem dX7_empties_43 : decode cX7_empties 43 = .ok (.putfield 69, 3) := by decide +kernel
theorem dX7_empties_46 : decode cX7_empties 46 = .ok (.aload_n 0, 1) := by decide +kernel
theorem dX7_empties_47 : decode cX7_empties 47 = .ok (.iconst 0, 1) := by decide +kernel
theorem dX7_empties_48 : decode cX7_empties 48 = .ok (.putfield 72, 3) := by decide +kernel
theorem dX7_empties_51 : decode cX7_empties 51 = .ok (.return_, 1) := by decide +kernel
theorem dX7_build_0 : decode cX7_build 0 = .ok (.iload_n 1, 1) := by decide +kernel
theorem dX7_build_1 : decode cX7_build 1 = .ok (.bipush 12, 2) := by decide +kernel
theorem dX7_build_3 : decode cX7_build 3 = .ok (.bipush 30, 2) := by decide +kernel
theorem dX7_build_5 : decode cX7_build 5 = .ok (.invokestatic 75, 3) := by decide +kernel
theorem dX7_build_8 : decode cX7_build 8 = .ok (.ifCond .ne 9, 3) := by decide +kernel
theorem dX7_build_11 : decode cX7_build 11 = .ok (.aload_n 0, 1) := by decide +kernel
theorem dX7_build_12 : decode cX7_build 12 = .ok (.iconst 1, 1) := by decide +kernel
theorem dX7_build_13 : decode cX7_build 13 = .ok (.invokevirtual 79, 3) := by decide +kernel
theorem dX7_build_16 : decode cX7_build 16 = .ok (.ireturn, 1) := by decide +kernel
theorem dX7_build_17 : decode cX7_build 17 = .ok (.aload_n 0, 1) := by decide +kernel
theorem dX7_build_18 : decode cX7_build 18 = .ok (.iconst 0, 1) := by decide +kernel
theorem dX7_build_19 : decode cX7_build 19 = .ok (.putfield 54, 3) := by decide +kernel
theorem dX7_build_22 : decode cX7_build 22 = .ok (.aload_n 0, 1) := by decide +kernel
theorem dX7_build_23 : decode cX7_build 23 = .ok (.getfield 63, 3) := by decide +kernel
theorem dX7_build_26 : decode cX7_build 26 = .ok (.istore_n 2, 1) := by decide +kernel
theorem dX7_build_27 : decode cX7_build 27 = .ok (.aload_n 0, 1) := by decide +kernel
theorem dX7_build_28 : decode cX7_build 28 = .ok (.invokevirtual 51, 3) := by decide +kernel
theorem dX7_build_31 : decode cX7_build 31 = .ok (.aload_n 0, 1) := by decide +kernel
theorem dX7_build_32 : decode cX7_build 32 = .ok (.iload_n 1, 1) := by decide +kernel
theorem dX7_build_33 : decode cX7_build 33 = .ok (.putfield 28, 3) := by decide +kernel
theorem dX7_build_36 : decode cX7_build 36 = .ok (.aload_n 0, 1) := by decide +kernel
theorem dX7_build_37 : decode cX7_build 37 = .ok (.iconst 0, 1) := by decide +kernel
theorem dX7_build_38 : decode cX7_build 38 = .ok (.putfield 83, 3) := by decide +kernel
theorem dX7_build_41 : decode cX7_build 41 = .ok (.iload_n 2, 1) := by decide +kernel
theorem dX7_build_42 : decode cX7_build 42 = .ok (.ireturn, 1) := by decide +kernel
theorem dX7_isFree_0 : decode cX7_isFree 0 = .ok (.iload_n 1, 1) := by decide +kernel
theorem dX7_isFree_1 : decode cX7_isFree 1 = .ok (.iconst 1, 1) := by decide +kernel
theorem dX7_isFree_2 : decode cX7_isFree 2 = .ok (.aload_n 0, 1) := by decide +kernel
theorem dX7_isFree_3 : decode cX7_isFree 3 = .ok (.getfield 28, 3) := by decide +kernel
theorem dX7_isFree_6 : decode cX7_isFree 6 = .ok (.iconst 1, 1) := by decide +kernel
theorem dX7_isFree_7 : decode cX7_isFree 7 = .ok (.isub, 1) := by decide +kernel
theorem dX7_isFree_8 : decode cX7_isFree 8 = .ok (.invokestatic 75, 3) := by decide +kernel
theorem dX7_isFree_11 : decode cX7_isFree 11 = .ok (.ifCond .ne 5, 3) := by decide +kernel
theorem dX7_isFree_14 : decode cX7_isFree 14 = .ok (.iconst 0, 1) := by decide +kernel
theorem dX7_isFree_15 : decode cX7_isFree 15 = .ok (.ireturn, 1) := by decide +kernel
theorem dX7_isFree_16 : decode cX7_isFree 16 = .ok (.iconst 0, 1) := by decide +kernel
theorem dX7_isFree_17 : decode cX7_isFree 17 = .ok (.istore_n 2, 1) := by decide +kernel
theorem dX7_isFree_18 : decode cX7_isFree 18 = .ok (.iload_n 2, 1) := by decide +kernel
theorem dX7_isFree_19 : decode cX7_isFree 19 = .ok (.aload_n 0, 1) := by decide +kernel
theorem dX7_isFree_20 : decode cX7_isFree 20 = .ok (.getfield 57, 3) := by decide +kernel
theorem dX7_isFree_23 : decode cX7_isFree 23 = .ok (.if_icmp .ge 21, 3) := by decide +kernel
theorem dX7_isFree_26 : decode cX7_isFree 26 = .ok (.aload_n 0, 1) := by decide +kernel
theorem dX7_isFree_27 : decode cX7_isFree 27 = .ok (.iload_n 2, 1) := by decide +kernel
theorem dX7_isFree_28 : decode cX7_isFree 28 = .ok (.iconst 0, 1) := by decide +kernel
theorem dX7_isFree_29 : decode cX7_isFree 29 = .ok (.invokevirtual 86, 3) := by decide +kernel
theorem dX7_isFree_32 : decode cX7_isFree 32 = .ok (.iload_n 1, 1) := by decide +kernel
theorem dX7_isFree_33 : decode cX7_isFree 33 = .ok (.if_icmp .ne 5, 3) := by decide +kernel
theorem dX7_isFree_36 : decode cX7_isFree 36 = .ok (.iconst 0, 1) := by decide +kernel
theorem dX7_isFree_37 : decode cX7_isFree 37 = .ok (.ireturn, 1) := by decide +kernel
theorem dX7_isFree_38 : decode cX7_isFree 38 = .ok (.iinc 2 1, 3) := by decide +kernel
theorem dX7_isFree_41 : decode cX7_isFree 41 = .ok (.goto (-23), 3) := by decide +kernel
theorem dX7_isFree_44 : decode cX7_isFree 44 = .ok (.iconst 0, 1) := by decide +kernel
theorem dX7_isFree_45 : decode cX7_isFree 45 = .ok (.istore_n 2, 1) := by decide +kernel
theorem dX7_isFree_46 : decode cX7_isFree 46 = .ok (.iload_n 2, 1) := by decide +kernel
theorem dX7_isFree_47 : decode cX7_isFree 47 = .ok (.aload_n 0, 1) := by decide +kernel
theorem dX7_isFree_48 : decode cX7_isFree 48 = .ok (.getfield 60, 3) := by decide +kernel
theorem dX7_isFree_51 : decode cX7_isFree 51 = .ok (.if_icmp .ge 21, 3) := by decide +kernel
theorem dX7_isFree_54 : decode cX7_isFree 54 = .ok (.aload_n 0, 1) := by decide +kernel
theorem dX7_isFree_55 : decode cX7_isFree 55 = .ok (.iload_n 2, 1) := by decide +kernel
theorem dX7_isFree_56 : decode cX7_isFree 56 = .ok (.iconst 0, 1) := by decide +kernel
theorem dX7_isFree_57 : decode cX7_isFree 57 = .ok (.invokevirtual 90, 3) := by decide +kernel
theorem dX7_isFree_60 : decode cX7_isFree 60 = .ok (.iload_n 1, 1) := by decide +kernel
theorem dX7_isFree_61 : decode cX7_isFree 61 = .ok (.if_icmp .ne 5, 3) := by decide +kernel
theorem dX7_isFree_64 : decode cX7_isFree 64 = .ok (.iconst 0, 1) := by decide +kernel
theorem dX7_isFree_65 : decode cX7_isFree 65 = .ok (.ireturn, 1) := by decide +kernel
theorem dX7_isFree_66 : decode cX7_isFree 66 = .ok (.iinc 2 1, 3) := by decide +kernel
theorem dX7_isFree_69 : decode cX7_isFree 69 = .ok (.goto (-23), 3) := by decide +kernel
theorem dX7_isFree_72 : decode cX7_isFree 72 = .ok (.iconst 1, 1) := by decide +kernel
theorem dX7_isFree_73 : decode cX7_isFree 73 = .ok (.ireturn, 1) := by decide +kernel
theorem dX7_addStation_0 : decode cX7_addStation 0 = .ok (.aload_n 0, 1) := by decide +kernel
theorem dX7_addStation_1 : decode cX7_addStation 1 = .ok (.iload_n 1, 1) := by decide +kernel
theorem dX7_addStation_2 : decode cX7_addStation 2 = .ok (.invokevirtual 93, 3) := by decide +kernel
theorem dX7_addStation_5 : decode cX7_addStation 5 = .ok (.ifCond .ne 9, 3) := by decide +kernel
theorem dX7_addStation_8 : decode cX7_addStation 8 = .ok (.aload_n 0, 1) := by decide +kernel
theorem dX7_addStation_9 : decode cX7_addStation 9 = .ok (.iconst 1, 1) := by decide +kernel
theorem dX7_addStation_10 : decode cX7_addStation 10 = .ok (.invokevirtual 79, 3) := by decide +kernel
theorem dX7_addStation_13 : decode cX7_addStation 13 = .ok (.ireturn, 1) := by decide +kernel
theorem dX7_addStation_14 : decode cX7_addStation 14 = .ok (.aload_n 0, 1) := by decide +kernel
theorem dX7_addStation_15 : decode cX7_addStation 15 = .ok (.getfield 57, 3) := by decide +kernel
theorem dX7_addStation_18 : decode cX7_addStation 18 = .ok (.iconst 3, 1) := by decide +kernel
theorem dX7_addStation_19 : decode cX7_addStation 19 = .ok (.if_icmp .ne 9, 3) := by decide +kernel
theorem dX7_addStation_22 : decode cX7_addStation 22 = .ok (.aload_n 0, 1) := by decide +kernel
theorem dX7_addStation_23 : decode cX7_addStation 23 = .ok (.iconst 2, 1) := by decide +kernel
theorem dX7_addStation_24 : decode cX7_addStation 24 = .ok (.invokevirtual 79, 3) := by decide +kernel
theorem dX7_addStation_27 : decode cX7_addStation 27 = .ok (.ireturn, 1) := by decide +kernel
theorem dX7_addStation_28 : decode cX7_addStation 28 = .ok (.aload_n 0, 1) := by decide +kernel
theorem dX7_addStation_29 : decode cX7_addStation 29 = .ok (.iconst 0, 1) := by decide +kernel
theorem dX7_addStation_30 : decode cX7_addStation 30 = .ok (.putfield 54, 3) := by decide +kernel
theorem dX7_addStation_33 : decode cX7_addStation 33 = .ok (.aload_n 0, 1) := by decide +kernel
theorem dX7_addStation_34 : decode cX7_addStation 34 = .ok (.invokevirtual 97, 3) := by decide +kernel
theorem dX7_addStation_37 : decode cX7_addStation 37 = .ok (.iconst 0, 1) := by decide +kernel
theorem dX7_addStation_38 : decode cX7_addStation 38 = .ok (.istore_n 2, 1) := by decide +kernel
theorem dX7_addStation_39 : decode cX7_addStation 39 = .ok (.iload_n 2, 1) := by decide +kernel
theorem dX7_addStation_40 : decode cX7_addStation 40 = .ok (.bipush 13, 2) := by decide +kernel
theorem dX7_addStation_42 : decode cX7_addStation 42 = .ok (.if_icmp .ge 32, 3) := by decide +kernel
theorem dX7_addStation_45 : decode cX7_addStation 45 = .ok (.aload_n 0, 1) := by decide +kernel
theorem dX7_addStation_46 : decode cX7_addStation 46 = .ok (.getfield 13, 3) := by decide +kernel
theorem dX7_addStation_49 : decode cX7_addStation 49 = .ok (.bipush 13, 2) := by decide +kernel
theorem dX7_addStation_51 : decode cX7_addStation 51 = .ok (.aload_n 0, 1) := by decide +kernel
theorem dX7_addStation_52 : decode cX7_addStation 52 = .ok (.getfield 57, 3) := by decide +kernel
theorem dX7_addStation_55 : decode cX7_addStation 55 = .ok (.imul, 1) := by decide +kernel
theorem dX7_addStation_56 : decode cX7_addStation 56 = .ok (.iload_n 2, 1) := by decide +kernel
theorem dX7_addStation_57 : decode cX7_addStation 57 = .ok (.iadd, 1) := by decide +kernel
theorem dX7_addStation_58 : decode cX7_addStation 58 = .ok (.iload_n 2, 1) := by decide +kernel
theorem dX7_addStation_59 : decode cX7_addStation 59 = .ok (.ifCond .ne 7, 3) := by decide +kernel
theorem dX7_addStation_62 : decode cX7_addStation 62 = .ok (.iload_n 1, 1) := by decide +kernel
theorem dX7_addStation_63 : decode cX7_addStation 63 = .ok (.goto 4, 3) := by decide +kernel
theorem dX7_addStation_66 : decode cX7_addStation 66 = .ok (.iconst 0, 1) := by decide +kernel
theorem dX7_addStation_67 : decode cX7_addStation 67 = .ok (.iastore, 1) := by decide +kernel
theorem dX7_addStation_68 : decode cX7_addStation 68 = .ok (.iinc 2 1, 3) := by decide +kernel
theorem dX7_addStation_71 : decode cX7_addStation 71 = .ok (.goto (-32), 3) := by decide +kernel
theorem dX7_addStation_74 : decode cX7_addStation 74 = .ok (.aload_n 0, 1) := by decide +kernel
theorem dX7_addStation_75 : decode cX7_addStation 75 = .ok (.dup, 1) := by decide +kernel
theorem dX7_addStation_76 : decode cX7_addStation 76 = .ok (.getfield 57, 3) := by decide +kernel
theorem dX7_addStation_79 : decode cX7_addStation 79 = .ok (.iconst 1, 1) := by decide +kernel
theorem dX7_addStation_80 : decode cX7_addStation 80 = .ok (.iadd, 1) := by decide +kernel
theorem dX7_addStation_81 : decode cX7_addStation 81 = .ok (.putfield 57, 3) := by decide +kernel
theorem dX7_addStation_84 : decode cX7_addStation 84 = .ok (.aload_n 0, 1) := by decide +kernel
theorem dX7_addStation_85 : decode cX7_addStation 85 = .ok (.getfield 57, 3) := by decide +kernel
theorem dX7_addStation_88 : decode cX7_addStation 88 = .ok (.iconst 1, 1) := by decide +kernel
theorem dX7_addStation_89 : decode cX7_addStation 89 = .ok (.isub, 1) := by decide +kernel
theorem dX7_addStation_90 : decode cX7_addStation 90 = .ok (.ireturn, 1) := by decide +kernel
theorem dX7_addChute_0 : decode cX7_addChute 0 = .ok (.aload_n 0, 1) := by decide +kernel
theorem dX7_addChute_1 : decode cX7_addChute 1 = .ok (.iload_n 1, 1) := by decide +kernel
theorem dX7_addChute_2 : decode cX7_addChute 2 = .ok (.invokevirtual 93, 3) := by decide +kernel
theorem dX7_addChute_5 : decode cX7_addChute 5 = .ok (.ifCond .eq 55, 3) := by decide +kernel
theorem dX7_addChute_8 : decode cX7_addChute 8 = .ok (.iload_n 2, 1) := by decide +kernel
theorem dX7_addChute_9 : decode cX7_addChute 9 = .ok (.iconst 1, 1) := by decide +kernel
theorem dX7_addChute_10 : decode cX7_addChute 10 = .ok (.bipush 20, 2) := by decide +kernel
theorem dX7_addChute_12 : decode cX7_addChute 12 = .ok (.invokestatic 75, 3) := by decide +kernel
theorem dX7_addChute_15 : decode cX7_addChute 15 = .ok (.ifCond .eq 45, 3) := by decide +kernel
theorem dX7_addChute_18 : decode cX7_addChute 18 = .ok (.iload_n 3, 1) := by decide +kernel
theorem dX7_addChute_19 : decode cX7_addChute 19 = .ok (.iconst 0, 1) := by decide +kernel
theorem dX7_addChute_20 : decode cX7_addChute 20 = .ok (.iconst 5, 1) := by decide +kernel
theorem dX7_addChute_21 : decode cX7_addChute 21 = .ok (.invokestatic 75, 3) := by decide +kernel
theorem dX7_addChute_24 : decode cX7_addChute 24 = .ok (.ifCond .eq 36, 3) := by decide +kernel
theorem dX7_addChute_27 : decode cX7_addChute 27 = .ok (.iload 4, 2) := by decide +kernel
theorem dX7_addChute_29 : decode cX7_addChute 29 = .ok (.iconst 1, 1) := by decide +kernel
theorem dX7_addChute_30 : decode cX7_addChute 30 = .ok (.bipush 50, 2) := by decide +kernel
theorem dX7_addChute_32 : decode cX7_addChute 32 = .ok (.invokestatic 75, 3) := by decide +kernel
theorem dX7_addChute_35 : decode cX7_addChute 35 = .ok (.ifCond .eq 25, 3) := by decide +kernel
theorem dX7_addChute_38 : decode cX7_addChute 38 = .ok (.iload 5, 2) := by decide +kernel
theorem dX7_addChute_40 : decode cX7_addChute 40 = .ok (.iconst 1, 1) := by decide +kernel
theorem dX7_addChute_41 : decode cX7_addChute 41 = .ok (.bipush 9, 2) := by decide +kernel
theorem dX7_addChute_43 : decode cX7_addChute 43 = .ok (.invokestatic 75, 3) := by decide +kernel
theorem dX7_addChute_46 : decode cX7_addChute 46 = .ok (.ifCond .eq 14, 3) := by decide +kernel
theorem dX7_addChute_49 : decode cX7_addChute 49 = .ok (.iload 6, 2) := by decide +kernel
theorem dX7_addChute_51 : decode cX7_addChute 51 = .ok (.iconst 0, 1) := by decide +kernel
theorem dX7_addChute_52 : decode cX7_addChute 52 = .ok (.bipush 9, 2) := by decide +kernel
theorem dX7_addChute_54 : decode cX7_addChute 54 = .ok (.invokestatic 75, 3) := by decide +kernel
theorem dX7_addChute_57 : decode cX7_addChute 57 = .ok (.ifCond .ne 9, 3) := by decide +kernel
theorem dX7_addChute_60 : decode cX7_addChute 60 = .ok (.aload_n 0, 1) := by decide +kernel
theorem dX7_addChute_61 : decode cX7_addChute 61 = .ok (.iconst 1, 1) := by decide +kernel
theorem dX7_addChute_62 : decode cX7_addChute 62 = .ok (.invokevirtual 79, 3) := by decide +kernel
theorem dX7_addChute_65 : decode cX7_addChute 65 = .ok (.ireturn, 1) := by decide +kernel
theorem dX7_addChute_66 : decode cX7_addChute 66 = .ok (.aload_n 0, 1) := by decide +kernel
theorem dX7_addChute_67 : decode cX7_addChute 67 = .ok (.getfield 60, 3) := by decide +kernel
theorem dX7_addChute_70 : decode cX7_addChute 70 = .ok (.bipush 8, 2) := by decide +kernel
theorem dX7_addChute_72 : decode cX7_addChute 72 = .ok (.if_icmp .ne 9, 3) := by decide +kernel
theorem dX7_addChute_75 : decode cX7_addChute 75 = .ok (.aload_n 0, 1) := by decide +kernel
theorem dX7_addChute_76 : decode cX7_addChute 76 = .ok (.iconst 2, 1) := by decide +kernel
theorem dX7_addChute_77 : decode cX7_addChute 77 = .ok (.invokevirtual 79, 3) := by decide +kernel
theorem dX7_addChute_80 : decode cX7_addChute 80 = .ok (.ireturn, 1) := by decide +kernel
theorem dX7_addChute_81 : decode cX7_addChute 81 = .ok (.aload_n 0, 1) := by decide +kernel
theorem dX7_addChute_82 : decode cX7_addChute 82 = .ok (.iconst 0, 1) := by decide +kernel
theorem dX7_addChute_83 : decode cX7_addChute 83 = .ok (.putfield 54, 3) := by decide +kernel
theorem dX7_addChute_86 : decode cX7_addChute 86 = .ok (.aload_n 0, 1) := by decide +kernel
theorem dX7_addChute_87 : decode cX7_addChute 87 = .ok (.invokevirtual 97, 3) := by decide +kernel
theorem dX7_addChute_90 : decode cX7_addChute 90 = .ok (.iconst 0, 1) := by decide +kernel
theorem dX7_addChute_91 : decode cX7_addChute 91 = .ok (.istore 7, 2) := by decide +kernel
theorem dX7_addChute_93 : decode cX7_addChute 93 = .ok (.iload 7, 2) := by decide +kernel
theorem dX7_addChute_95 : decode cX7_addChute 95 = .ok (.bipush 15, 2) := by decide +kernel
theorem dX7_addChute_97 : decode cX7_addChute 97 = .ok (.if_icmp .ge 20, 3) := by decide +kernel
theorem dX7_addChute_100 : decode cX7_addChute 100 = .ok (.aload_n 0, 1) := by decide +kernel
theorem dX7_addChute_101 : decode cX7_addChute 101 = .ok (.aload_n 0, 1) := by decide +kernel
theorem dX7_addChute_102 : decode cX7_addChute 102 = .ok (.getfield 60, 3) := by decide +kernel
theorem dX7_addChute_105 : decode cX7_addChute 105 = .ok (.iload 7, 2) := by decide +kernel
theorem dX7_addChute_107 : decode cX7_addChute 107 = .ok (.iconst 0, 1) := by decide +kernel
theorem dX7_addChute_108 : decode cX7_addChute 108 = .ok (.invokevirtual 100, 3) := by decide +kernel
theorem dX7_addChute_111 : decode cX7_addChute 111 = .ok (.iinc 7 1, 3) := by decide +kernel
theorem dX7_addChute_114 : decode cX7_addChute 114 = .ok (.goto (-21), 3) := by decide +kernel
theorem dX7_addChute_117 : decode cX7_addChute 117 = .ok (.aload_n 0, 1) := by decide +kernel
theorem dX7_addChute_118 : decode cX7_addChute 118 = .ok (.aload_n 0, 1) := by decide +kernel
theorem dX7_addChute_119 : decode cX7_addChute 119 = .ok (.getfield 60, 3) := by decide +kernel
theorem dX7_addChute_122 : decode cX7_addChute 122 = .ok (.iconst 0, 1) := by decide +kernel
theorem dX7_addChute_123 : decode cX7_addChute 123 = .ok (.iload_n 1, 1) := by decide +kernel
theorem dX7_addChute_124 : decode cX7_addChute 124 = .ok (.invokevirtual 100, 3) := by decide +kernel
theorem dX7_addChute_127 : decode cX7_addChute 127 = .ok (.aload_n 0, 1) := by decide +kernel
theorem dX7_addChute_128 : decode cX7_addChute 128 = .ok (.aload_n 0, 1) := by decide +kernel
theorem dX7_addChute_129 : decode cX7_addChute 129 = .ok (.getfield 60, 3) := by decide +kernel
theorem dX7_addChute_132 : decode cX7_addChute 132 = .ok (.iconst 1, 1) := by decide +kernel
theorem dX7_addChute_133 : decode cX7_addChute 133 = .ok (.iload_n 2, 1) := by decide +kernel
theorem dX7_addChute_134 : decode cX7_addChute 134 = .ok (.invokevirtual 100, 3) := by decide +kernel
theorem dX7_addChute_137 : decode cX7_addChute 137 = .ok (.aload_n 0, 1) := by decide +kernel
theorem dX7_addChute_138 : decode cX7_addChute 138 = .ok (.aload_n 0, 1) := by decide +kernel
theorem dX7_addChute_139 : decode cX7_addChute 139 = .ok (.getfield 60, 3) := by decide +kernel
theorem dX7_addChute_142 : decode cX7_addChute 142 = .ok (.iconst 2, 1) := by decide +kernel
theorem dX7_addChute_143 : decode cX7_addChute 143 = .ok (.iload_n 3, 1) := by decide +kernel
theorem dX7_addChute_144 : decode cX7_addChute 144 = .ok (.invokevirtual 100, 3) := by decide +kernel
theorem dX7_addChute_147 : decode cX7_addChute 147 = .ok (.aload_n 0, 1) := by decide +kernel
theorem dX7_addChute_148 : decode cX7_addChute 148 = .ok (.aload_n 0, 1) := by decide +kernel
theorem dX7_addChute_149 : decode cX7_addChute 149 = .ok (.getfield 60, 3) := by decide +kernel
theorem dX7_addChute_152 : decode cX7_addChute 152 = .ok (.iconst 3, 1) := by decide +kernel
theorem dX7_addChute_153 : decode cX7_addChute 153 = .ok (.iload 4, 2) := by decide +kernel
theorem dX7_addChute_155 : decode cX7_addChute 155 = .ok (.invokevirtual 100, 3) := by decide +kernel
theorem dX7_addChute_158 : decode cX7_addChute 158 = .ok (.aload_n 0, 1) := by decide +kernel
theorem dX7_addChute_159 : decode cX7_addChute 159 = .ok (.aload_n 0, 1) := by decide +kernel
theorem dX7_addChute_160 : decode cX7_addChute 160 = .ok (.getfield 60, 3) := by decide +kernel
theorem dX7_addChute_163 : decode cX7_addChute 163 = .ok (.iconst 4, 1) := by decide +kernel
theorem dX7_addChute_164 : decode cX7_addChute 164 = .ok (.iload 5, 2) := by decide +kernel
theorem dX7_addChute_166 : decode cX7_addChute 166 = .ok (.invokevirtual 100, 3) := by decide +kernel
theorem dX7_addChute_169 : decode cX7_addChute 169 = .ok (.aload_n 0, 1) := by decide +kernel
theorem dX7_addChute_170 : decode cX7_addChute 170 = .ok (.aload_n 0, 1) := by decide +kernel
theorem dX7_addChute_171 : decode cX7_addChute 171 = .ok (.getfield 60, 3) := by decide +kernel
theorem dX7_addChute_174 : decode cX7_addChute 174 = .ok (.iconst 5, 1) := by decide +kernel
theorem dX7_addChute_175 : decode cX7_addChute 175 = .ok (.iload 6, 2) := by decide +kernel
theorem dX7_addChute_177 : decode cX7_addChute 177 = .ok (.invokevirtual 100, 3) := by decide +kernel
theorem dX7_addChute_180 : decode cX7_addChute 180 = .ok (.aload_n 0, 1) := by decide +kernel
theorem dX7_addChute_181 : decode cX7_addChute 181 = .ok (.aload_n 0, 1) := by decide +kernel
theorem dX7_addChute_182 : decode cX7_addChute 182 = .ok (.getfield 60, 3) := by decide +kernel
theorem dX7_addChute_185 : decode cX7_addChute 185 = .ok (.bipush 10, 2) := by decide +kernel
theorem dX7_addChute_187 : decode cX7_addChute 187 = .ok (.iconst (-1), 1) := by decide +kernel
theorem dX7_addChute_188 : decode cX7_addChute 188 = .ok (.invokevirtual 100, 3) := by decide +kernel
theorem dX7_addChute_191 : decode cX7_addChute 191 = .ok (.aload_n 0, 1) := by decide +kernel
theorem dX7_addChute_192 : decode cX7_addChute 192 = .ok (.dup, 1) := by decide +kernel
theorem dX7_addChute_193 : decode cX7_addChute 193 = .ok (.getfield 60, 3) := by decide +kernel
theorem dX7_addChute_196 : decode cX7_addChute 196 = .ok (.iconst 1, 1) := by decide +kernel
theorem dX7_addChute_197 : decode cX7_addChute 197 = .ok (.iadd, 1) := by decide +kernel
theorem dX7_addChute_198 : decode cX7_addChute 198 = .ok (.putfield 60, 3) := by decide +kernel
theorem dX7_addChute_201 : decode cX7_addChute 201 = .ok (.aload_n 0, 1) := by decide +kernel
theorem dX7_addChute_202 : decode cX7_addChute 202 = .ok (.getfield 60, 3) := by decide +kernel
theorem dX7_addChute_205 : decode cX7_addChute 205 = .ok (.iconst 1, 1) := by decide +kernel
theorem dX7_addChute_206 : decode cX7_addChute 206 = .ok (.isub, 1) := by decide +kernel
theorem dX7_addChute_207 : decode cX7_addChute 207 = .ok (.ireturn, 1) := by decide +kernel
theorem dX7_feed_0 : decode cX7_feed 0 = .ok (.aload_n 0, 1) := by decide +kernel
theorem dX7_feed_1 : decode cX7_feed 1 = .ok (.getfield 104, 3) := by decide +kernel
theorem dX7_feed_4 : decode cX7_feed 4 = .ok (.bipush 80, 2) := by decide +kernel
theorem dX7_feed_6 : decode cX7_feed 6 = .ok (.if_icmp .ne 9, 3) := by decide +kernel
theorem dX7_feed_9 : decode cX7_feed 9 = .ok (.aload_n 0, 1) := by decide +kernel
theorem dX7_feed_10 : decode cX7_feed 10 = .ok (.iconst 1, 1) := by decide +kernel
theorem dX7_feed_11 : decode cX7_feed 11 = .ok (.invokevirtual 79, 3) := by decide +kernel
theorem dX7_feed_14 : decode cX7_feed 14 = .ok (.ireturn, 1) := by decide +kernel
theorem dX7_feed_15 : decode cX7_feed 15 = .ok (.aload_n 0, 1) := by decide +kernel
theorem dX7_feed_16 : decode cX7_feed 16 = .ok (.iconst 0, 1) := by decide +kernel
theorem dX7_feed_17 : decode cX7_feed 17 = .ok (.putfield 54, 3) := by decide +kernel
theorem dX7_feed_20 : decode cX7_feed 20 = .ok (.aload_n 0, 1) := by decide +kernel
theorem dX7_feed_21 : decode cX7_feed 21 = .ok (.getfield 32, 3) := by decide +kernel
theorem dX7_feed_24 : decode cX7_feed 24 = .ok (.aload_n 0, 1) := by decide +kernel
theorem dX7_feed_25 : decode cX7_feed 25 = .ok (.getfield 104, 3) := by decide +kernel
theorem dX7_feed_28 : decode cX7_feed 28 = .ok (.iload_n 1, 1) := by decide +kernel
theorem dX7_feed_29 : decode cX7_feed 29 = .ok (.castore, 1) := by decide +kernel
theorem dX7_feed_30 : decode cX7_feed 30 = .ok (.aload_n 0, 1) := by decide +kernel
theorem dX7_feed_31 : decode cX7_feed 31 = .ok (.dup, 1) := by decide +kernel
theorem dX7_feed_32 : decode cX7_feed 32 = .ok (.getfield 104, 3) := by decide +kernel
theorem dX7_feed_35 : decode cX7_feed 35 = .ok (.iconst 1, 1) := by decide +kernel
theorem dX7_feed_36 : decode cX7_feed 36 = .ok (.iadd, 1) := by decide +kernel
theorem dX7_feed_37 : decode cX7_feed 37 = .ok (.putfield 104, 3) := by decide +kernel
theorem dX7_feed_40 : decode cX7_feed 40 = .ok (.aload_n 0, 1) := by decide +kernel
theorem dX7_feed_41 : decode cX7_feed 41 = .ok (.getfield 104, 3) := by decide +kernel
theorem dX7_feed_44 : decode cX7_feed 44 = .ok (.ireturn, 1) := by decide +kernel
theorem dX7_isNext_0 : decode cX7_isNext 0 = .ok (.aload_n 0, 1) := by decide +kernel
theorem dX7_isNext_1 : decode cX7_isNext 1 = .ok (.getfield 107, 3) := by decide +kernel
theorem dX7_isNext_4 : decode cX7_isNext 4 = .ok (.aload_n 0, 1) := by decide +kernel
theorem dX7_isNext_5 : decode cX7_isNext 5 = .ok (.getfield 104, 3) := by decide +kernel
theorem dX7_isNext_8 : decode cX7_isNext 8 = .ok (.if_icmp .ge 33, 3) := by decide +kernel
theorem dX7_isNext_11 : decode cX7_isNext 11 = .ok (.aload_n 0, 1) := by decide +kernel
theorem dX7_isNext_12 : decode cX7_isNext 12 = .ok (.getfield 32, 3) := by decide +kernel
theorem dX7_isNext_15 : decode cX7_isNext 15 = .ok (.aload_n 0, 1) := by decide +kernel
theorem dX7_isNext_16 : decode cX7_isNext 16 = .ok (.getfield 107, 3) := by decide +kernel
theorem dX7_isNext_19 : decode cX7_isNext 19 = .ok (.caload, 1) := by decide +kernel
theorem dX7_isNext_20 : decode cX7_isNext 20 = .ok (.iload_n 1, 1) := by decide +kernel
theorem dX7_isNext_21 : decode cX7_isNext 21 = .ok (.if_icmp .lt 20, 3) := by decide +kernel
theorem dX7_isNext_24 : decode cX7_isNext 24 = .ok (.aload_n 0, 1) := by decide +kernel
theorem dX7_isNext_25 : decode cX7_isNext 25 = .ok (.getfield 32, 3) := by decide +kernel
theorem dX7_isNext_28 : decode cX7_isNext 28 = .ok (.aload_n 0, 1) := by decide +kernel
theorem dX7_isNext_29 : decode cX7_isNext 29 = .ok (.getfield 107, 3) := by decide +kernel
theorem dX7_isNext_32 : decode cX7_isNext 32 = .ok (.caload, 1) := by decide +kernel
theorem dX7_isNext_33 : decode cX7_isNext 33 = .ok (.iload_n 2, 1) := by decide +kernel
theorem dX7_isNext_34 : decode cX7_isNext 34 = .ok (.if_icmp .gt 7, 3) := by decide +kernel
theorem dX7_isNext_37 : decode cX7_isNext 37 = .ok (.iconst 1, 1) := by decide +kernel
theorem dX7_isNext_38 : decode cX7_isNext 38 = .ok (.goto 4, 3) := by decide +kernel
theorem dX7_isNext_41 : decode cX7_isNext 41 = .ok (.iconst 0, 1) := by decide +kernel
theorem dX7_isNext_42 : decode cX7_isNext 42 = .ok (.ireturn, 1) := by decide +kernel
theorem dX7_skips_0 : decode cX7_skips 0 = .ok (.aload_n 0, 1) := by decide +kernel
theorem dX7_skips_1 : decode cX7_skips 1 = .ok (.iload_n 1, 1) := by decide +kernel
theorem dX7_skips_2 : decode cX7_skips 2 = .ok (.iload_n 1, 1) := by decide +kernel
theorem dX7_skips_3 : decode cX7_skips 3 = .ok (.invokevirtual 110, 3) := by decide +kernel
theorem dX7_skips_6 : decode cX7_skips 6 = .ok (.ifCond .ne 5, 3) := by decide +kernel
theorem dX7_skips_9 : decode cX7_skips 9 = .ok (.iconst 0, 1) := by decide +kernel
theorem dX7_skips_10 : decode cX7_skips 10 = .ok (.ireturn, 1) := by decide +kernel
theorem dX7_skips_11 : decode cX7_skips 11 = .ok (.aload_n 0, 1) := by decide +kernel
theorem dX7_skips_12 : decode cX7_skips 12 = .ok (.dup, 1) := by decide +kernel
theorem dX7_skips_13 : decode cX7_skips 13 = .ok (.getfield 107, 3) := by decide +kernel
theorem dX7_skips_16 : decode cX7_skips 16 = .ok (.iconst 1, 1) := by decide +kernel
theorem dX7_skips_17 : decode cX7_skips 17 = .ok (.iadd, 1) := by decide +kernel
theorem dX7_skips_18 : decode cX7_skips 18 = .ok (.putfield 107, 3) := by decide +kernel
theorem dX7_skips_21 : decode cX7_skips 21 = .ok (.iconst 1, 1) := by decide +kernel
theorem dX7_skips_22 : decode cX7_skips 22 = .ok (.ireturn, 1) := by decide +kernel
theorem dX7_takesNumber_0 : decode cX7_takesNumber 0 = .ok (.iconst (-1), 1) := by decide +kernel
theorem dX7_takesNumber_1 : decode cX7_takesNumber 1 = .ok (.istore_n 1, 1) := by decide +kernel
theorem dX7_takesNumber_2 : decode cX7_takesNumber 2 = .ok (.iconst 0, 1) := by decide +kernel
theorem dX7_takesNumber_3 : decode cX7_takesNumber 3 = .ok (.istore_n 2, 1) := by decide +kernel
theorem dX7_takesNumber_4 : decode cX7_takesNumber 4 = .ok (.iload_n 2, 1) := by decide +kernel
theorem dX7_takesNumber_5 : decode cX7_takesNumber 5 = .ok (.iconst 4, 1) := by decide +kernel
theorem dX7_takesNumber_6 : decode cX7_takesNumber 6 = .ok (.if_icmp .ge 56, 3) := by decide +kernel
theorem dX7_takesNumber_9 : decode cX7_takesNumber 9 = .ok (.aload_n 0, 1) := by decide +kernel
theorem dX7_takesNumber_10 : decode cX7_takesNumber 10 = .ok (.bipush 48, 2) := by decide +kernel
theorem dX7_takesNumber_12 : decode cX7_takesNumber 12 = .ok (.bipush 57, 2) := by decide +kernel
theorem dX7_takesNumber_14 : decode cX7_takesNumber 14 = .ok (.invokevirtual 110, 3) := by decide +kernel
theorem dX7_takesNumber_17 : decode cX7_takesNumber 17 = .ok (.ifCond .eq 45, 3) := by decide +kernel
theorem dX7_takesNumber_20 : decode cX7_takesNumber 20 = .ok (.bipush 10, 2) := by decide +kernel
theorem dX7_takesNumber_22 : decode cX7_takesNumber 22 = .ok (.iload_n 1, 1) := by decide +kernel
theorem dX7_takesNumber_23 : decode cX7_takesNumber 23 = .ok (.ifCond .ge 7, 3) := by decide +kernel
theorem dX7_takesNumber_26 : decode cX7_takesNumber 26 = .ok (.iconst 0, 1) := by decide +kernel
theorem dX7_takesNumber_27 : decode cX7_takesNumber 27 = .ok (.goto 4, 3) := by decide +kernel
theorem dX7_takesNumber_30 : decode cX7_takesNumber 30 = .ok (.iload_n 1, 1) := by decide +kernel
theorem dX7_takesNumber_31 : decode cX7_takesNumber 31 = .ok (.imul, 1) := by decide +kernel
theorem dX7_takesNumber_32 : decode cX7_takesNumber 32 = .ok (.aload_n 0, 1) := by decide +kernel
theorem dX7_takesNumber_33 : decode cX7_takesNumber 33 = .ok (.getfield 32, 3) := by decide +kernel
theorem dX7_takesNumber_36 : decode cX7_takesNumber 36 = .ok (.aload_n 0, 1) := by decide +kernel
theorem dX7_takesNumber_37 : decode cX7_takesNumber 37 = .ok (.getfield 107, 3) := by decide +kernel
theorem dX7_takesNumber_40 : decode cX7_takesNumber 40 = .ok (.caload, 1) := by decide +kernel
theorem dX7_takesNumber_41 : decode cX7_takesNumber 41 = .ok (.iadd, 1) := by decide +kernel
theorem dX7_takesNumber_42 : decode cX7_takesNumber 42 = .ok (.bipush 48, 2) := by decide +kernel
theorem dX7_takesNumber_44 : decode cX7_takesNumber 44 = .ok (.isub, 1) := by decide +kernel
theorem dX7_takesNumber_45 : decode cX7_takesNumber 45 = .ok (.istore_n 1, 1) := by decide +kernel
theorem dX7_takesNumber_46 : decode cX7_takesNumber 46 = .ok (.aload_n 0, 1) := by decide +kernel
theorem dX7_takesNumber_47 : decode cX7_takesNumber 47 = .ok (.dup, 1) := by decide +kernel
theorem dX7_takesNumber_48 : decode cX7_takesNumber 48 = .ok (.getfield 107, 3) := by decide +kernel
theorem dX7_takesNumber_51 : decode cX7_takesNumber 51 = .ok (.iconst 1, 1) := by decide +kernel
theorem dX7_takesNumber_52 : decode cX7_takesNumber 52 = .ok (.iadd, 1) := by decide +kernel
theorem dX7_takesNumber_53 : decode cX7_takesNumber 53 = .ok (.putfield 107, 3) := by decide +kernel
theorem dX7_takesNumber_56 : decode cX7_takesNumber 56 = .ok (.iinc 2 1, 3) := by decide +kernel
theorem dX7_takesNumber_59 : decode cX7_takesNumber 59 = .ok (.goto (-55), 3) := by decide +kernel
theorem dX7_takesNumber_62 : decode cX7_takesNumber 62 = .ok (.iload_n 1, 1) := by decide +kernel
theorem dX7_takesNumber_63 : decode cX7_takesNumber 63 = .ok (.ireturn, 1) := by decide +kernel
theorem dX7_takesChute_0 : decode cX7_takesChute 0 = .ok (.aload_n 0, 1) := by decide +kernel
theorem dX7_takesChute_1 : decode cX7_takesChute 1 = .ok (.bipush 48, 2) := by decide +kernel
theorem dX7_takesChute_3 : decode cX7_takesChute 3 = .ok (.bipush 55, 2) := by decide +kernel
theorem dX7_takesChute_5 : decode cX7_takesChute 5 = .ok (.invokevirtual 110, 3) := by decide +kernel
theorem dX7_takesChute_8 : decode cX7_takesChute 8 = .ok (.ifCond .ne 5, 3) := by decide +kernel
theorem dX7_takesChute_11 : decode cX7_takesChute 11 = .ok (.iconst 0, 1) := by decide +kernel
theorem dX7_takesChute_12 : decode cX7_takesChute 12 = .ok (.ireturn, 1) := by decide +kernel
theorem dX7_takesChute_13 : decode cX7_takesChute 13 = .ok (.aload_n 0, 1) := by decide +kernel
theorem dX7_takesChute_14 : decode cX7_takesChute 14 = .ok (.getfield 32, 3) := by decide +kernel
theorem dX7_takesChute_17 : decode cX7_takesChute 17 = .ok (.aload_n 0, 1) := by decide +kernel
theorem dX7_takesChute_18 : decode cX7_takesChute 18 = .ok (.getfield 107, 3) := by decide +kernel
theorem dX7_takesChute_21 : decode cX7_takesChute 21 = .ok (.caload, 1) := by decide +kernel
theorem dX7_takesChute_22 : decode cX7_takesChute 22 = .ok (.bipush 48, 2) := by decide +kernel
theorem dX7_takesChute_24 : decode cX7_takesChute 24 = .ok (.isub, 1) := by decide +kernel
theorem dX7_takesChute_25 : decode cX7_takesChute 25 = .ok (.istore_n 2, 1) := by decide +kernel
theorem dX7_takesChute_26 : decode cX7_takesChute 26 = .ok (.iconst 0, 1) := by decide +kernel
theorem dX7_takesChute_27 : decode cX7_takesChute 27 = .ok (.istore_n 3, 1) := by decide +kernel
theorem dX7_takesChute_28 : decode cX7_takesChute 28 = .ok (.iload_n 3, 1) := by decide +kernel
theorem dX7_takesChute_29 : decode cX7_takesChute 29 = .ok (.aload_n 0, 1) := by decide +kernel
theorem dX7_takesChute_30 : decode cX7_takesChute 30 = .ok (.getfield 36, 3) := by decide +kernel
theorem dX7_takesChute_33 : decode cX7_takesChute 33 = .ok (.iload_n 1, 1) := by decide +kernel
theorem dX7_takesChute_34 : decode cX7_takesChute 34 = .ok (.iconst 2, 1) := by decide +kernel
theorem dX7_takesChute_35 : decode cX7_takesChute 35 = .ok (.iadd, 1) := by decide +kernel
theorem dX7_takesChute_36 : decode cX7_takesChute 36 = .ok (.iaload, 1) := by decide +kernel
theorem dX7_takesChute_37 : decode cX7_takesChute 37 = .ok (.if_icmp .ge 25, 3) := by decide +kernel
theorem dX7_takesChute_40 : decode cX7_takesChute 40 = .ok (.aload_n 0, 1) := by decide +kernel
theorem dX7_takesChute_41 : decode cX7_takesChute 41 = .ok (.getfield 36, 3) := by decide +kernel
theorem dX7_takesChute_44 : decode cX7_takesChute 44 = .ok (.iload_n 1, 1) := by decide +kernel
theorem dX7_takesChute_45 : decode cX7_takesChute 45 = .ok (.iconst 3, 1) := by decide +kernel
theorem dX7_takesChute_46 : decode cX7_takesChute 46 = .ok (.iadd, 1) := by decide +kernel
theorem dX7_takesChute_47 : decode cX7_takesChute 47 = .ok (.iload_n 3, 1) := by decide +kernel
theorem dX7_takesChute_48 : decode cX7_takesChute 48 = .ok (.iadd, 1) := by decide +kernel
theorem dX7_takesChute_49 : decode cX7_takesChute 49 = .ok (.iaload, 1) := by decide +kernel
theorem dX7_takesChute_50 : decode cX7_takesChute 50 = .ok (.iload_n 2, 1) := by decide +kernel
theorem dX7_takesChute_51 : decode cX7_takesChute 51 = .ok (.if_icmp .ne 5, 3) := by decide +kernel
theorem dX7_takesChute_54 : decode cX7_takesChute 54 = .ok (.iconst 0, 1) := by decide +kernel
theorem dX7_takesChute_55 : decode cX7_takesChute 55 = .ok (.ireturn, 1) := by decide +kernel
theorem dX7_takesChute_56 : decode cX7_takesChute 56 = .ok (.iinc 3 1, 3) := by decide +kernel
theorem dX7_takesChute_59 : decode cX7_takesChute 59 = .ok (.goto (-31), 3) := by decide +kernel
theorem dX7_takesChute_62 : decode cX7_takesChute 62 = .ok (.aload_n 0, 1) := by decide +kernel
theorem dX7_takesChute_63 : decode cX7_takesChute 63 = .ok (.getfield 36, 3) := by decide +kernel
theorem dX7_takesChute_66 : decode cX7_takesChute 66 = .ok (.iload_n 1, 1) := by decide +kernel
theorem dX7_takesChute_67 : decode cX7_takesChute 67 = .ok (.iconst 3, 1) := by decide +kernel
theorem dX7_takesChute_68 : decode cX7_takesChute 68 = .ok (.iadd, 1) := by decide +kernel
theorem dX7_takesChute_69 : decode cX7_takesChute 69 = .ok (.aload_n 0, 1) := by decide +kernel
theorem dX7_takesChute_70 : decode cX7_takesChute 70 = .ok (.getfield 36, 3) := by decide +kernel
theorem dX7_takesChute_73 : decode cX7_takesChute 73 = .ok (.iload_n 1, 1) := by decide +kernel
theorem dX7_takesChute_74 : decode cX7_takesChute 74 = .ok (.iconst 2, 1) := by decide +kernel
theorem dX7_takesChute_75 : decode cX7_takesChute 75 = .ok (.iadd, 1) := by decide +kernel
theorem dX7_takesChute_76 : decode cX7_takesChute 76 = .ok (.iaload, 1) := by decide +kernel
theorem dX7_takesChute_77 : decode cX7_takesChute 77 = .ok (.iadd, 1) := by decide +kernel
theorem dX7_takesChute_78 : decode cX7_takesChute 78 = .ok (.iload_n 2, 1) := by decide +kernel
theorem dX7_takesChute_79 : decode cX7_takesChute 79 = .ok (.iastore, 1) := by decide +kernel
theorem dX7_takesChute_80 : decode cX7_takesChute 80 = .ok (.aload_n 0, 1) := by decide +kernel
theorem dX7_takesChute_81 : decode cX7_takesChute 81 = .ok (.getfield 36, 3) := by decide +kernel
theorem dX7_takesChute_84 : decode cX7_takesChute 84 = .ok (.iload_n 1, 1) := by decide +kernel
theorem dX7_takesChute_85 : decode cX7_takesChute 85 = .ok (.iconst 2, 1) := by decide +kernel
theorem dX7_takesChute_86 : decode cX7_takesChute 86 = .ok (.iadd, 1) := by decide +kernel
theorem dX7_takesChute_87 : decode cX7_takesChute 87 = .ok (.dup2, 1) := by decide +kernel
theorem dX7_takesChute_88 : decode cX7_takesChute 88 = .ok (.iaload, 1) := by decide +kernel
theorem dX7_takesChute_89 : decode cX7_takesChute 89 = .ok (.iconst 1, 1) := by decide +kernel
theorem dX7_takesChute_90 : decode cX7_takesChute 90 = .ok (.iadd, 1) := by decide +kernel
theorem dX7_takesChute_91 : decode cX7_takesChute 91 = .ok (.iastore, 1) := by decide +kernel
theorem dX7_takesChute_92 : decode cX7_takesChute 92 = .ok (.aload_n 0, 1) := by decide +kernel
theorem dX7_takesChute_93 : decode cX7_takesChute 93 = .ok (.dup, 1) := by decide +kernel
theorem dX7_takesChute_94 : decode cX7_takesChute 94 = .ok (.getfield 107, 3) := by decide +kernel
theorem dX7_takesChute_97 : decode cX7_takesChute 97 = .ok (.iconst 1, 1) := by decide +kernel
theorem dX7_takesChute_98 : decode cX7_takesChute 98 = .ok (.iadd, 1) := by decide +kernel
theorem dX7_takesChute_99 : decode cX7_takesChute 99 = .ok (.putfield 107, 3) := by decide +kernel
theorem dX7_takesChute_102 : decode cX7_takesChute 102 = .ok (.iconst 1, 1) := by decide +kernel
theorem dX7_takesChute_103 : decode cX7_takesChute 103 = .ok (.ireturn, 1) := by decide +kernel
theorem dX7_takesRule_0 : decode cX7_takesRule 0 = .ok (.aload_n 0, 1) := by decide +kernel
theorem dX7_takesRule_1 : decode cX7_takesRule 1 = .ok (.getfield 36, 3) := by decide +kernel
theorem dX7_takesRule_4 : decode cX7_takesRule 4 = .ok (.iload_n 1, 1) := by decide +kernel
theorem dX7_takesRule_5 : decode cX7_takesRule 5 = .ok (.aload_n 0, 1) := by decide +kernel
theorem dX7_takesRule_6 : decode cX7_takesRule 6 = .ok (.invokevirtual 114, 3) := by decide +kernel
theorem dX7_takesRule_9 : decode cX7_takesRule 9 = .ok (.iastore, 1) := by decide +kernel
theorem dX7_takesRule_10 : decode cX7_takesRule 10 = .ok (.aload_n 0, 1) := by decide +kernel
theorem dX7_takesRule_11 : decode cX7_takesRule 11 = .ok (.getfield 36, 3) := by decide +kernel
theorem dX7_takesRule_14 : decode cX7_takesRule 14 = .ok (.iload_n 1, 1) := by decide +kernel
theorem dX7_takesRule_15 : decode cX7_takesRule 15 = .ok (.iaload, 1) := by decide +kernel
theorem dX7_takesRule_16 : decode cX7_takesRule 16 = .ok (.ifCond .ge 5, 3) := by decide +kernel
theorem dX7_takesRule_19 : decode cX7_takesRule 19 = .ok (.iconst 0, 1) := by decide +kernel
theorem dX7_takesRule_20 : decode cX7_takesRule 20 = .ok (.ireturn, 1) := by decide +kernel
theorem dX7_takesRule_21 : decode cX7_takesRule 21 = .ok (.aload_n 0, 1) := by decide +kernel
theorem dX7_takesRule_22 : decode cX7_takesRule 22 = .ok (.getfield 36, 3) := by decide +kernel
theorem dX7_takesRule_25 : decode cX7_takesRule 25 = .ok (.iload_n 1, 1) := by decide +kernel
theorem dX7_takesRule_26 : decode cX7_takesRule 26 = .ok (.iconst 1, 1) := by decide +kernel
theorem dX7_takesRule_27 : decode cX7_takesRule 27 = .ok (.iadd, 1) := by decide +kernel
theorem dX7_takesRule_28 : decode cX7_takesRule 28 = .ok (.aload_n 0, 1) := by decide +kernel
theorem dX7_takesRule_29 : decode cX7_takesRule 29 = .ok (.getfield 36, 3) := by decide +kernel
theorem dX7_takesRule_32 : decode cX7_takesRule 32 = .ok (.iload_n 1, 1) := by decide +kernel
theorem dX7_takesRule_33 : decode cX7_takesRule 33 = .ok (.iaload, 1) := by decide +kernel
theorem dX7_takesRule_34 : decode cX7_takesRule 34 = .ok (.iastore, 1) := by decide +kernel
theorem dX7_takesRule_35 : decode cX7_takesRule 35 = .ok (.aload_n 0, 1) := by decide +kernel
theorem dX7_takesRule_36 : decode cX7_takesRule 36 = .ok (.bipush 45, 2) := by decide +kernel
theorem dX7_takesRule_38 : decode cX7_takesRule 38 = .ok (.invokevirtual 118, 3) := by decide +kernel
theorem dX7_takesRule_41 : decode cX7_takesRule 41 = .ok (.ifCond .eq 28, 3) := by decide +kernel
theorem dX7_takesRule_44 : decode cX7_takesRule 44 = .ok (.aload_n 0, 1) := by decide +kernel
theorem dX7_takesRule_45 : decode cX7_takesRule 45 = .ok (.getfield 36, 3) := by decide +kernel
theorem dX7_takesRule_48 : decode cX7_takesRule 48 = .ok (.iload_n 1, 1) := by decide +kernel
theorem dX7_takesRule_49 : decode cX7_takesRule 49 = .ok (.iconst 1, 1) := by decide +kernel
theorem dX7_takesRule_50 : decode cX7_takesRule 50 = .ok (.iadd, 1) := by decide +kernel
theorem dX7_takesRule_51 : decode cX7_takesRule 51 = .ok (.aload_n 0, 1) := by decide +kernel
theorem dX7_takesRule_52 : decode cX7_takesRule 52 = .ok (.invokevirtual 114, 3) := by decide +kernel
theorem dX7_takesRule_55 : decode cX7_takesRule 55 = .ok (.iastore, 1) := by decide +kernel
theorem dX7_takesRule_56 : decode cX7_takesRule 56 = .ok (.aload_n 0, 1) := by decide +kernel
theorem dX7_takesRule_57 : decode cX7_takesRule 57 = .ok (.getfield 36, 3) := by decide +kernel
theorem dX7_takesRule_60 : decode cX7_takesRule 60 = .ok (.iload_n 1, 1) := by decide +kernel
theorem dX7_takesRule_61 : decode cX7_takesRule 61 = .ok (.iconst 1, 1) := by decide +kernel
theorem dX7_takesRule_62 : decode cX7_takesRule 62 = .ok (.iadd, 1) := by decide +kernel
theorem dX7_takesRule_63 : decode cX7_takesRule 63 = .ok (.iaload, 1) := by decide +kernel
theorem dX7_takesRule_64 : decode cX7_takesRule 64 = .ok (.ifCond .ge 5, 3) := by decide +kernel
theorem dX7_takesRule_67 : decode cX7_takesRule 67 = .ok (.iconst 0, 1) := by decide +kernel
theorem dX7_takesRule_68 : decode cX7_takesRule 68 = .ok (.ireturn, 1) := by decide +kernel
theorem dX7_takesRule_69 : decode cX7_takesRule 69 = .ok (.aload_n 0, 1) := by decide +kernel
theorem dX7_takesRule_70 : decode cX7_takesRule 70 = .ok (.bipush 61, 2) := by decide +kernel
theorem dX7_takesRule_72 : decode cX7_takesRule 72 = .ok (.invokevirtual 118, 3) := by decide +kernel
theorem dX7_takesRule_75 : decode cX7_takesRule 75 = .ok (.ifCond .ne 5, 3) := by decide +kernel
theorem dX7_takesRule_78 : decode cX7_takesRule 78 = .ok (.iconst 0, 1) := by decide +kernel
theorem dX7_takesRule_79 : decode cX7_takesRule 79 = .ok (.ireturn, 1) := by decide +kernel
theorem dX7_takesRule_80 : decode cX7_takesRule 80 = .ok (.aload_n 0, 1) := by decide +kernel
theorem dX7_takesRule_81 : decode cX7_takesRule 81 = .ok (.getfield 36, 3) := by decide +kernel
theorem dX7_takesRule_84 : decode cX7_takesRule 84 = .ok (.iload_n 1, 1) := by decide +kernel
theorem dX7_takesRule_85 : decode cX7_takesRule 85 = .ok (.iconst 2, 1) := by decide +kernel
theorem dX7_takesRule_86 : decode cX7_takesRule 86 = .ok (.iadd, 1) := by decide +kernel
theorem dX7_takesRule_87 : decode cX7_takesRule 87 = .ok (.iconst 0, 1) := by decide +kernel
theorem dX7_takesRule_88 : decode cX7_takesRule 88 = .ok (.iastore, 1) := by decide +kernel
theorem dX7_takesRule_89 : decode cX7_takesRule 89 = .ok (.aload_n 0, 1) := by decide +kernel
theorem dX7_takesRule_90 : decode cX7_takesRule 90 = .ok (.iload_n 1, 1) := by decide +kernel
theorem dX7_takesRule_91 : decode cX7_takesRule 91 = .ok (.invokevirtual 122, 3) := by decide +kernel
theorem dX7_takesRule_94 : decode cX7_takesRule 94 = .ok (.ifCond .ne 5, 3) := by decide +kernel
theorem dX7_takesRule_97 : decode cX7_takesRule 97 = .ok (.iconst 0, 1) := by decide +kernel
theorem dX7_takesRule_98 : decode cX7_takesRule 98 = .ok (.ireturn, 1) := by decide +kernel
theorem dX7_takesRule_99 : decode cX7_takesRule 99 = .ok (.aload_n 0, 1) := by decide +kernel
theorem dX7_takesRule_100 : decode cX7_takesRule 100 = .ok (.getfield 36, 3) := by decide +kernel
theorem dX7_takesRule_103 : decode cX7_takesRule 103 = .ok (.iload_n 1, 1) := by decide +kernel
theorem dX7_takesRule_104 : decode cX7_takesRule 104 = .ok (.iconst 2, 1) := by decide +kernel
theorem dX7_takesRule_105 : decode cX7_takesRule 105 = .ok (.iadd, 1) := by decide +kernel
theorem dX7_takesRule_106 : decode cX7_takesRule 106 = .ok (.iaload, 1) := by decide +kernel
theorem dX7_takesRule_107 : decode cX7_takesRule 107 = .ok (.iconst 3, 1) := by decide +kernel
theorem dX7_takesRule_108 : decode cX7_takesRule 108 = .ok (.if_icmp .ge 22, 3) := by decide +kernel
theorem dX7_takesRule_111 : decode cX7_takesRule 111 = .ok (.aload_n 0, 1) := by decide +kernel
theorem dX7_takesRule_112 : decode cX7_takesRule 112 = .ok (.bipush 44, 2) := by decide +kernel
theorem dX7_takesRule_114 : decode cX7_takesRule 114 = .ok (.invokevirtual 118, 3) := by decide +kernel
theorem dX7_takesRule_117 : decode cX7_takesRule 117 = .ok (.ifCond .eq 13, 3) := by decide +kernel
theorem dX7_takesRule_120 : decode cX7_takesRule 120 = .ok (.aload_n 0, 1) := by decide +kernel
theorem dX7_takesRule_121 : decode cX7_takesRule 121 = .ok (.iload_n 1, 1) := by decide +kernel
theorem dX7_takesRule_122 : decode cX7_takesRule 122 = .ok (.invokevirtual 122, 3) := by decide +kernel
theorem dX7_takesRule_125 : decode cX7_takesRule 125 = .ok (.ifCond .ne (-26), 3) := by decide +kernel
theorem dX7_takesRule_128 : decode cX7_takesRule 128 = .ok (.iconst 0, 1) := by decide +kernel
theorem dX7_takesRule_129 : decode cX7_takesRule 129 = .ok (.ireturn, 1) := by decide +kernel
theorem dX7_takesRule_130 : decode cX7_takesRule 130 = .ok (.iconst 1, 1) := by decide +kernel
theorem dX7_takesRule_131 : decode cX7_takesRule 131 = .ok (.ireturn, 1) := by decide +kernel
theorem dX7_takesRules_0 : decode cX7_takesRules 0 = .ok (.aload_n 0, 1) := by decide +kernel
theorem dX7_takesRules_1 : decode cX7_takesRules 1 = .ok (.getfield 36, 3) := by decide +kernel
theorem dX7_takesRules_4 : decode cX7_takesRules 4 = .ok (.iconst 1, 1) := by decide +kernel
theorem dX7_takesRules_5 : decode cX7_takesRules 5 = .ok (.iconst 0, 1) := by decide +kernel
theorem dX7_takesRules_6 : decode cX7_takesRules 6 = .ok (.iastore, 1) := by decide +kernel
theorem dX7_takesRules_7 : decode cX7_takesRules 7 = .ok (.aload_n 0, 1) := by decide +kernel
theorem dX7_takesRules_8 : decode cX7_takesRules 8 = .ok (.iconst 4, 1) := by decide +kernel
theorem dX7_takesRules_9 : decode cX7_takesRules 9 = .ok (.bipush 6, 2) := by decide +kernel
theorem dX7_takesRules_11 : decode cX7_takesRules 11 = .ok (.aload_n 0, 1) := by decide +kernel
theorem dX7_takesRules_12 : decode cX7_takesRules 12 = .ok (.getfield 36, 3) := by decide +kernel
theorem dX7_takesRules_15 : decode cX7_takesRules 15 = .ok (.iconst 1, 1) := by decide +kernel
theorem dX7_takesRules_16 : decode cX7_takesRules 16 = .ok (.iaload, 1) := by decide +kernel
theorem dX7_takesRules_17 : decode cX7_takesRules 17 = .ok (.imul, 1) := by decide +kernel
theorem dX7_takesRules_18 : decode cX7_takesRules 18 = .ok (.iadd, 1) := by decide +kernel
theorem dX7_takesRules_19 : decode cX7_takesRules 19 = .ok (.invokevirtual 125, 3) := by decide +kernel
theorem dX7_takesRules_22 : decode cX7_takesRules 22 = .ok (.ifCond .ne 5, 3) := by decide +kernel
theorem dX7_takesRules_25 : decode cX7_takesRules 25 = .ok (.iconst 0, 1) := by decide +kernel
theorem dX7_takesRules_26 : decode cX7_takesRules 26 = .ok (.ireturn, 1) := by decide +kernel
theorem dX7_takesRules_27 : decode cX7_takesRules 27 = .ok (.aload_n 0, 1) := by decide +kernel
theorem dX7_takesRules_28 : decode cX7_takesRules 28 = .ok (.getfield 36, 3) := by decide +kernel
theorem dX7_takesRules_31 : decode cX7_takesRules 31 = .ok (.iconst 1, 1) := by decide +kernel
theorem dX7_takesRules_32 : decode cX7_takesRules 32 = .ok (.dup2, 1) := by decide +kernel
theorem dX7_takesRules_33 : decode cX7_takesRules 33 = .ok (.iaload, 1) := by decide +kernel
theorem dX7_takesRules_34 : decode cX7_takesRules 34 = .ok (.iconst 1, 1) := by decide +kernel
theorem dX7_takesRules_35 : decode cX7_takesRules 35 = .ok (.iadd, 1) := by decide +kernel
theorem dX7_takesRules_36 : decode cX7_takesRules 36 = .ok (.iastore, 1) := by decide +kernel
theorem dX7_takesRules_37 : decode cX7_takesRules 37 = .ok (.aload_n 0, 1) := by decide +kernel
theorem dX7_takesRules_38 : decode cX7_takesRules 38 = .ok (.getfield 36, 3) := by decide +kernel
theorem dX7_takesRules_41 : decode cX7_takesRules 41 = .ok (.iconst 1, 1) := by decide +kernel
theorem dX7_takesRules_42 : decode cX7_takesRules 42 = .ok (.iaload, 1) := by decide +kernel
theorem dX7_takesRules_43 : decode cX7_takesRules 43 = .ok (.bipush 8, 2) := by decide +kernel
theorem dX7_takesRules_45 : decode cX7_takesRules 45 = .ok (.if_icmp .ge 12, 3) := by decide +kernel
theorem dX7_takesRules_48 : decode cX7_takesRules 48 = .ok (.aload_n 0, 1) := by decide +kernel
theorem dX7_takesRules_49 : decode cX7_takesRules 49 = .ok (.bipush 59, 2) := by decide +kernel
theorem dX7_takesRules_51 : decode cX7_takesRules 51 = .ok (.invokevirtual 118, 3) := by decide +kernel
theorem dX7_takesRules_54 : decode cX7_takesRules 54 = .ok (.ifCond .ne (-47), 3) := by decide +kernel
theorem dX7_takesRules_57 : decode cX7_takesRules 57 = .ok (.iconst 1, 1) := by decide +kernel
theorem dX7_takesRules_58 : decode cX7_takesRules 58 = .ok (.ireturn, 1) := by decide +kernel
theorem dX7_takesPlan_0 : decode cX7_takesPlan 0 = .ok (.aload_n 0, 1) := by decide +kernel
theorem dX7_takesPlan_1 : decode cX7_takesPlan 1 = .ok (.iconst 0, 1) := by decide +kernel
theorem dX7_takesPlan_2 : decode cX7_takesPlan 2 = .ok (.putfield 107, 3) := by decide +kernel
theorem dX7_takesPlan_5 : decode cX7_takesPlan 5 = .ok (.aload_n 0, 1) := by decide +kernel
theorem dX7_takesPlan_6 : decode cX7_takesPlan 6 = .ok (.bipush 64, 2) := by decide +kernel
theorem dX7_takesPlan_8 : decode cX7_takesPlan 8 = .ok (.invokevirtual 118, 3) := by decide +kernel
theorem dX7_takesPlan_11 : decode cX7_takesPlan 11 = .ok (.ifCond .ne 5, 3) := by decide +kernel
theorem dX7_takesPlan_14 : decode cX7_takesPlan 14 = .ok (.iconst 0, 1) := by decide +kernel
theorem dX7_takesPlan_15 : decode cX7_takesPlan 15 = .ok (.ireturn, 1) := by decide +kernel
theorem dX7_takesPlan_16 : decode cX7_takesPlan 16 = .ok (.aload_n 0, 1) := by decide +kernel
theorem dX7_takesPlan_17 : decode cX7_takesPlan 17 = .ok (.getfield 36, 3) := by decide +kernel
theorem dX7_takesPlan_20 : decode cX7_takesPlan 20 = .ok (.iconst 0, 1) := by decide +kernel
theorem dX7_takesPlan_21 : decode cX7_takesPlan 21 = .ok (.aload_n 0, 1) := by decide +kernel
theorem dX7_takesPlan_22 : decode cX7_takesPlan 22 = .ok (.invokevirtual 114, 3) := by decide +kernel
theorem dX7_takesPlan_25 : decode cX7_takesPlan 25 = .ok (.iastore, 1) := by decide +kernel
theorem dX7_takesPlan_26 : decode cX7_takesPlan 26 = .ok (.aload_n 0, 1) := by decide +kernel
theorem dX7_takesPlan_27 : decode cX7_takesPlan 27 = .ok (.getfield 36, 3) := by decide +kernel
theorem dX7_takesPlan_30 : decode cX7_takesPlan 30 = .ok (.iconst 0, 1) := by decide +kernel
theorem dX7_takesPlan_31 : decode cX7_takesPlan 31 = .ok (.iaload, 1) := by decide +kernel
theorem dX7_takesPlan_32 : decode cX7_takesPlan 32 = .ok (.ifCond .lt 39, 3) := by decide +kernel
theorem dX7_takesPlan_35 : decode cX7_takesPlan 35 = .ok (.aload_n 0, 1) := by decide +kernel
theorem dX7_takesPlan_36 : decode cX7_takesPlan 36 = .ok (.bipush 58, 2) := by decide +kernel
theorem dX7_takesPlan_38 : decode cX7_takesPlan 38 = .ok (.invokevirtual 118, 3) := by decide +kernel
theorem dX7_takesPlan_41 : decode cX7_takesPlan 41 = .ok (.ifCond .eq 30, 3) := by decide +kernel
theorem dX7_takesPlan_44 : decode cX7_takesPlan 44 = .ok (.aload_n 0, 1) := by decide +kernel
theorem dX7_takesPlan_45 : decode cX7_takesPlan 45 = .ok (.invokevirtual 128, 3) := by decide +kernel
theorem dX7_takesPlan_48 : decode cX7_takesPlan 48 = .ok (.ifCond .eq 23, 3) := by decide +kernel
theorem dX7_takesPlan_51 : decode cX7_takesPlan 51 = .ok (.aload_n 0, 1) := by decide +kernel
theorem dX7_takesPlan_52 : decode cX7_takesPlan 52 = .ok (.bipush 120, 2) := by decide +kernel
theorem dX7_takesPlan_54 : decode cX7_takesPlan 54 = .ok (.invokevirtual 118, 3) := by decide +kernel
theorem dX7_takesPlan_57 : decode cX7_takesPlan 57 = .ok (.ifCond .eq 14, 3) := by decide +kernel
theorem dX7_takesPlan_60 : decode cX7_takesPlan 60 = .ok (.aload_n 0, 1) := by decide +kernel
theorem dX7_takesPlan_61 : decode cX7_takesPlan 61 = .ok (.bipush 48, 2) := by decide +kernel
theorem dX7_takesPlan_63 : decode cX7_takesPlan 63 = .ok (.bipush 55, 2) := by decide +kernel
theorem dX7_takesPlan_65 : decode cX7_takesPlan 65 = .ok (.invokevirtual 110, 3) := by decide +kernel
theorem dX7_takesPlan_68 : decode cX7_takesPlan 68 = .ok (.ifCond .ne 5, 3) := by decide +kernel
theorem dX7_takesPlan_71 : decode cX7_takesPlan 71 = .ok (.iconst 0, 1) := by decide +kernel
theorem dX7_takesPlan_72 : decode cX7_takesPlan 72 = .ok (.ireturn, 1) := by decide +kernel
theorem dX7_takesPlan_73 : decode cX7_takesPlan 73 = .ok (.aload_n 0, 1) := by decide +kernel
theorem dX7_takesPlan_74 : decode cX7_takesPlan 74 = .ok (.getfield 36, 3) := by decide +kernel
theorem dX7_takesPlan_77 : decode cX7_takesPlan 77 = .ok (.iconst 2, 1) := by decide +kernel
theorem dX7_takesPlan_78 : decode cX7_takesPlan 78 = .ok (.aload_n 0, 1) := by decide +kernel
theorem dX7_takesPlan_79 : decode cX7_takesPlan 79 = .ok (.getfield 32, 3) := by decide +kernel
theorem dX7_takesPlan_82 : decode cX7_takesPlan 82 = .ok (.aload_n 0, 1) := by decide +kernel
theorem dX7_takesPlan_83 : decode cX7_takesPlan 83 = .ok (.getfield 107, 3) := by decide +kernel
theorem dX7_takesPlan_86 : decode cX7_takesPlan 86 = .ok (.caload, 1) := by decide +kernel
theorem dX7_takesPlan_87 : decode cX7_takesPlan 87 = .ok (.bipush 48, 2) := by decide +kernel
theorem dX7_takesPlan_89 : decode cX7_takesPlan 89 = .ok (.isub, 1) := by decide +kernel
theorem dX7_takesPlan_90 : decode cX7_takesPlan 90 = .ok (.iastore, 1) := by decide +kernel
theorem dX7_takesPlan_91 : decode cX7_takesPlan 91 = .ok (.aload_n 0, 1) := by decide +kernel
theorem dX7_takesPlan_92 : decode cX7_takesPlan 92 = .ok (.dup, 1) := by decide +kernel
theorem dX7_takesPlan_93 : decode cX7_takesPlan 93 = .ok (.getfield 107, 3) := by decide +kernel
theorem dX7_takesPlan_96 : decode cX7_takesPlan 96 = .ok (.iconst 1, 1) := by decide +kernel
theorem dX7_takesPlan_97 : decode cX7_takesPlan 97 = .ok (.iadd, 1) := by decide +kernel
theorem dX7_takesPlan_98 : decode cX7_takesPlan 98 = .ok (.putfield 107, 3) := by decide +kernel
theorem dX7_takesPlan_101 : decode cX7_takesPlan 101 = .ok (.aload_n 0, 1) := by decide +kernel
theorem dX7_takesPlan_102 : decode cX7_takesPlan 102 = .ok (.getfield 36, 3) := by decide +kernel
theorem dX7_takesPlan_105 : decode cX7_takesPlan 105 = .ok (.iconst 3, 1) := by decide +kernel
theorem dX7_takesPlan_106 : decode cX7_takesPlan 106 = .ok (.iconst 3, 1) := by decide +kernel
theorem dX7_takesPlan_107 : decode cX7_takesPlan 107 = .ok (.iastore, 1) := by decide +kernel
theorem dX7_takesPlan_108 : decode cX7_takesPlan 108 = .ok (.aload_n 0, 1) := by decide +kernel
theorem dX7_takesPlan_109 : decode cX7_takesPlan 109 = .ok (.bipush 42, 2) := by decide +kernel
theorem dX7_takesPlan_111 : decode cX7_takesPlan 111 = .ok (.invokevirtual 118, 3) := by decide +kernel
theorem dX7_takesPlan_114 : decode cX7_takesPlan 114 = .ok (.ifCond .eq 44, 3) := by decide +kernel
theorem dX7_takesPlan_117 : decode cX7_takesPlan 117 = .ok (.aload_n 0, 1) := by decide +kernel
theorem dX7_takesPlan_118 : decode cX7_takesPlan 118 = .ok (.bipush 48, 2) := by decide +kernel
theorem dX7_takesPlan_120 : decode cX7_takesPlan 120 = .ok (.bipush 57, 2) := by decide +kernel
theorem dX7_takesPlan_122 : decode cX7_takesPlan 122 = .ok (.invokevirtual 110, 3) := by decide +kernel
theorem dX7_takesPlan_125 : decode cX7_takesPlan 125 = .ok (.ifCond .ne 5, 3) := by decide +kernel
theorem dX7_takesPlan_128 : decode cX7_takesPlan 128 = .ok (.iconst 0, 1) := by decide +kernel
theorem dX7_takesPlan_129 : decode cX7_takesPlan 129 = .ok (.ireturn, 1) := by decide +kernel
theorem dX7_takesPlan_130 : decode cX7_takesPlan 130 = .ok (.aload_n 0, 1) := by decide +kernel
theorem dX7_takesPlan_131 : decode cX7_takesPlan 131 = .ok (.getfield 36, 3) := by decide +kernel
theorem dX7_takesPlan_134 : decode cX7_takesPlan 134 = .ok (.iconst 3, 1) := by decide +kernel
theorem dX7_takesPlan_135 : decode cX7_takesPlan 135 = .ok (.aload_n 0, 1) := by decide +kernel
theorem dX7_takesPlan_136 : decode cX7_takesPlan 136 = .ok (.getfield 32, 3) := by decide +kernel
theorem dX7_takesPlan_139 : decode cX7_takesPlan 139 = .ok (.aload_n 0, 1) := by decide +kernel
theorem dX7_takesPlan_140 : decode cX7_takesPlan 140 = .ok (.getfield 107, 3) := by decide +kernel
theorem dX7_takesPlan_143 : decode cX7_takesPlan 143 = .ok (.caload, 1) := by decide +kernel
theorem dX7_takesPlan_144 : decode cX7_takesPlan 144 = .ok (.bipush 48, 2) := by decide +kernel
theorem dX7_takesPlan_146 : decode cX7_takesPlan 146 = .ok (.isub, 1) := by decide +kernel
theorem dX7_takesPlan_147 : decode cX7_takesPlan 147 = .ok (.iastore, 1) := by decide +kernel
theorem dX7_takesPlan_148 : decode cX7_takesPlan 148 = .ok (.aload_n 0, 1) := by decide +kernel
theorem dX7_takesPlan_149 : decode cX7_takesPlan 149 = .ok (.dup, 1) := by decide +kernel
theorem dX7_takesPlan_150 : decode cX7_takesPlan 150 = .ok (.getfield 107, 3) := by decide +kernel
theorem dX7_takesPlan_153 : decode cX7_takesPlan 153 = .ok (.iconst 1, 1) := by decide +kernel
theorem dX7_takesPlan_154 : decode cX7_takesPlan 154 = .ok (.iadd, 1) := by decide +kernel
theorem dX7_takesPlan_155 : decode cX7_takesPlan 155 = .ok (.putfield 107, 3) := by decide +kernel
theorem dX7_takesPlan_158 : decode cX7_takesPlan 158 = .ok (.aload_n 0, 1) := by decide +kernel
theorem dX7_takesPlan_159 : decode cX7_takesPlan 159 = .ok (.getfield 107, 3) := by decide +kernel
theorem dX7_takesPlan_162 : decode cX7_takesPlan 162 = .ok (.aload_n 0, 1) := by decide +kernel
theorem dX7_takesPlan_163 : decode cX7_takesPlan 163 = .ok (.getfield 104, 3) := by decide +kernel
theorem dX7_takesPlan_166 : decode cX7_takesPlan 166 = .ok (.if_icmp .ne 7, 3) := by decide +kernel
theorem dX7_takesPlan_169 : decode cX7_takesPlan 169 = .ok (.iconst 1, 1) := by decide +kernel
theorem dX7_takesPlan_170 : decode cX7_takesPlan 170 = .ok (.goto 4, 3) := by decide +kernel
theorem dX7_takesPlan_173 : decode cX7_takesPlan 173 = .ok (.iconst 0, 1) := by decide +kernel
theorem dX7_takesPlan_174 : decode cX7_takesPlan 174 = .ok (.ireturn, 1) := by decide +kernel
theorem dX7_isPossible_0 : decode cX7_isPossible 0 = .ok (.aload_n 0, 1) := by decide +kernel
theorem dX7_isPossible_1 : decode cX7_isPossible 1 = .ok (.aload_n 0, 1) := by decide +kernel
theorem dX7_isPossible_2 : decode cX7_isPossible 2 = .ok (.getfield 36, 3) := by decide +kernel
theorem dX7_isPossible_5 : decode cX7_isPossible 5 = .ok (.iconst 2, 1) := by decide +kernel
theorem dX7_isPossible_6 : decode cX7_isPossible 6 = .ok (.iaload, 1) := by decide +kernel
theorem dX7_isPossible_7 : decode cX7_isPossible 7 = .ok (.invokevirtual 132, 3) := by decide +kernel
theorem dX7_isPossible_10 : decode cX7_isPossible 10 = .ok (.ifCond .ne 5, 3) := by decide +kernel
theorem dX7_isPossible_13 : decode cX7_isPossible 13 = .ok (.iconst 0, 1) := by decide +kernel
theorem dX7_isPossible_14 : decode cX7_isPossible 14 = .ok (.ireturn, 1) := by decide +kernel
theorem dX7_isPossible_15 : decode cX7_isPossible 15 = .ok (.iconst 0, 1) := by decide +kernel
theorem dX7_isPossible_16 : decode cX7_isPossible 16 = .ok (.istore_n 1, 1) := by decide +kernel
theorem dX7_isPossible_17 : decode cX7_isPossible 17 = .ok (.iload_n 1, 1) := by decide +kernel
theorem dX7_isPossible_18 : decode cX7_isPossible 18 = .ok (.aload_n 0, 1) := by decide +kernel
theorem dX7_isPossible_19 : decode cX7_isPossible 19 = .ok (.getfield 36, 3) := by decide +kernel
theorem dX7_isPossible_22 : decode cX7_isPossible 22 = .ok (.iconst 1, 1) := by decide +kernel
theorem dX7_isPossible_23 : decode cX7_isPossible 23 = .ok (.iaload, 1) := by decide +kernel
theorem dX7_isPossible_24 : decode cX7_isPossible 24 = .ok (.if_icmp .ge 87, 3) := by decide +kernel
theorem dX7_isPossible_27 : decode cX7_isPossible 27 = .ok (.iconst 4, 1) := by decide +kernel
theorem dX7_isPossible_28 : decode cX7_isPossible 28 = .ok (.bipush 6, 2) := by decide +kernel
theorem dX7_isPossible_30 : decode cX7_isPossible 30 = .ok (.iload_n 1, 1) := by decide +kernel
theorem dX7_isPossible_31 : decode cX7_isPossible 31 = .ok (.imul, 1) := by decide +kernel
theorem dX7_isPossible_32 : decode cX7_isPossible 32 = .ok (.iadd, 1) := by decide +kernel
theorem dX7_isPossible_33 : decode cX7_isPossible 33 = .ok (.istore_n 2, 1) := by decide +kernel
theorem dX7_isPossible_34 : decode cX7_isPossible 34 = .ok (.aload_n 0, 1) := by decide +kernel
theorem dX7_isPossible_35 : decode cX7_isPossible 35 = .ok (.getfield 36, 3) := by decide +kernel
theorem dX7_isPossible_38 : decode cX7_isPossible 38 = .ok (.iload_n 2, 1) := by decide +kernel
theorem dX7_isPossible_39 : decode cX7_isPossible 39 = .ok (.iconst 1, 1) := by decide +kernel
theorem dX7_isPossible_40 : decode cX7_isPossible 40 = .ok (.iadd, 1) := by decide +kernel
theorem dX7_isPossible_41 : decode cX7_isPossible 41 = .ok (.iaload, 1) := by decide +kernel
theorem dX7_isPossible_42 : decode cX7_isPossible 42 = .ok (.bipush 99, 2) := by decide +kernel
theorem dX7_isPossible_44 : decode cX7_isPossible 44 = .ok (.if_icmp .gt 20, 3) := by decide +kernel
theorem dX7_isPossible_47 : decode cX7_isPossible 47 = .ok (.aload_n 0, 1) := by decide +kernel
theorem dX7_isPossible_48 : decode cX7_isPossible 48 = .ok (.getfield 36, 3) := by decide +kernel
theorem dX7_isPossible_51 : decode cX7_isPossible 51 = .ok (.iload_n 2, 1) := by decide +kernel
theorem dX7_isPossible_52 : decode cX7_isPossible 52 = .ok (.iaload, 1) := by decide +kernel
theorem dX7_isPossible_53 : decode cX7_isPossible 53 = .ok (.aload_n 0, 1) := by decide +kernel
theorem dX7_isPossible_54 : decode cX7_isPossible 54 = .ok (.getfield 36, 3) := by decide +kernel
theorem dX7_isPossible_57 : decode cX7_isPossible 57 = .ok (.iload_n 2, 1) := by decide +kernel
theorem dX7_isPossible_58 : decode cX7_isPossible 58 = .ok (.iconst 1, 1) := by decide +kernel
theorem dX7_isPossible_59 : decode cX7_isPossible 59 = .ok (.iadd, 1) := by decide +kernel
theorem dX7_isPossible_60 : decode cX7_isPossible 60 = .ok (.iaload, 1) := by decide +kernel
theorem dX7_isPossible_61 : decode cX7_isPossible 61 = .ok (.if_icmp .le 5, 3) := by decide +kernel
theorem dX7_isPossible_64 : decode cX7_isPossible 64 = .ok (.iconst 0, 1) := by decide +kernel
theorem dX7_isPossible_65 : decode cX7_isPossible 65 = .ok (.ireturn, 1) := by decide +kernel
theorem dX7_isPossible_66 : decode cX7_isPossible 66 = .ok (.iconst 0, 1) := by decide +kernel
theorem dX7_isPossible_67 : decode cX7_isPossible 67 = .ok (.istore_n 3, 1) := by decide +kernel
theorem dX7_isPossible_68 : decode cX7_isPossible 68 = .ok (.iload_n 3, 1) := by decide +kernel
theorem dX7_isPossible_69 : decode cX7_isPossible 69 = .ok (.aload_n 0, 1) := by decide +kernel
theorem dX7_isPossible_70 : decode cX7_isPossible 70 = .ok (.getfield 36, 3) := by decide +kernel
theorem dX7_isPossible_73 : decode cX7_isPossible 73 = .ok (.iload_n 2, 1) := by decide +kernel
theorem dX7_isPossible_74 : decode cX7_isPossible 74 = .ok (.iconst 2, 1) := by decide +kernel
theorem dX7_isPossible_75 : decode cX7_isPossible 75 = .ok (.iadd, 1) := by decide +kernel
theorem dX7_isPossible_76 : decode cX7_isPossible 76 = .ok (.iaload, 1) := by decide +kernel
theorem dX7_isPossible_77 : decode cX7_isPossible 77 = .ok (.if_icmp .ge 28, 3) := by decide +kernel
theorem dX7_isPossible_80 : decode cX7_isPossible 80 = .ok (.aload_n 0, 1) := by decide +kernel
theorem dX7_isPossible_81 : decode cX7_isPossible 81 = .ok (.aload_n 0, 1) := by decide +kernel
theorem dX7_isPossible_82 : decode cX7_isPossible 82 = .ok (.getfield 36, 3) := by decide +kernel
theorem dX7_isPossible_85 : decode cX7_isPossible 85 = .ok (.iload_n 2, 1) := by decide +kernel
theorem dX7_isPossible_86 : decode cX7_isPossible 86 = .ok (.iconst 3, 1) := by decide +kernel
theorem dX7_isPossible_87 : decode cX7_isPossible 87 = .ok (.iadd, 1) := by decide +kernel
theorem dX7_isPossible_88 : decode cX7_isPossible 88 = .ok (.iload_n 3, 1) := by decide +kernel
theorem dX7_isPossible_89 : decode cX7_isPossible 89 = .ok (.iadd, 1) := by decide +kernel
theorem dX7_isPossible_90 : decode cX7_isPossible 90 = .ok (.iaload, 1) := by decide +kernel
theorem dX7_isPossible_91 : decode cX7_isPossible 91 = .ok (.invokevirtual 132, 3) := by decide +kernel
theorem dX7_isPossible_94 : decode cX7_isPossible 94 = .ok (.ifCond .ne 5, 3) := by decide +kernel
theorem dX7_isPossible_97 : decode cX7_isPossible 97 = .ok (.iconst 0, 1) := by decide +kernel
theorem dX7_isPossible_98 : decode cX7_isPossible 98 = .ok (.ireturn, 1) := by decide +kernel
theorem dX7_isPossible_99 : decode cX7_isPossible 99 = .ok (.iinc 3 1, 3) := by decide +kernel
theorem dX7_isPossible_102 : decode cX7_isPossible 102 = .ok (.goto (-34), 3) := by decide +kernel
theorem dX7_isPossible_105 : decode cX7_isPossible 105 = .ok (.iinc 1 1, 3) := by decide +kernel
theorem dX7_isPossible_108 : decode cX7_isPossible 108 = .ok (.goto (-91), 3) := by decide +kernel
theorem dX7_isPossible_111 : decode cX7_isPossible 111 = .ok (.iconst 1, 1) := by decide +kernel
theorem dX7_isPossible_112 : decode cX7_isPossible 112 = .ok (.ireturn, 1) := by decide +kernel
theorem dX7_addPlan_0 : decode cX7_addPlan 0 = .ok (.aload_n 0, 1) := by decide +kernel
theorem dX7_addPlan_1 : decode cX7_addPlan 1 = .ok (.invokevirtual 135, 3) := by decide +kernel
theorem dX7_addPlan_4 : decode cX7_addPlan 4 = .ok (.istore_n 1, 1) := by decide +kernel
theorem dX7_addPlan_5 : decode cX7_addPlan 5 = .ok (.aload_n 0, 1) := by decide +kernel
theorem dX7_addPlan_6 : decode cX7_addPlan 6 = .ok (.iconst 0, 1) := by decide +kernel
theorem dX7_addPlan_7 : decode cX7_addPlan 7 = .ok (.putfield 104, 3) := by decide +kernel
theorem dX7_addPlan_10 : decode cX7_addPlan 10 = .ok (.aload_n 0, 1) := by decide +kernel
theorem dX7_addPlan_11 : decode cX7_addPlan 11 = .ok (.iconst 0, 1) := by decide +kernel
theorem dX7_addPlan_12 : decode cX7_addPlan 12 = .ok (.putfield 54, 3) := by decide +kernel
theorem dX7_addPlan_15 : decode cX7_addPlan 15 = .ok (.iload_n 1, 1) := by decide +kernel
theorem dX7_addPlan_16 : decode cX7_addPlan 16 = .ok (.ifCond .ne 11, 3) := by decide +kernel
theorem dX7_addPlan_19 : decode cX7_addPlan 19 = .ok (.bipush (-100), 2) := by decide +kernel
theorem dX7_addPlan_21 : decode cX7_addPlan 21 = .ok (.aload_n 0, 1) := by decide +kernel
theorem dX7_addPlan_22 : decode cX7_addPlan 22 = .ok (.getfield 107, 3) := by decide +kernel
theorem dX7_addPlan_25 : decode cX7_addPlan 25 = .ok (.isub, 1) := by decide +kernel
theorem dX7_addPlan_26 : decode cX7_addPlan 26 = .ok (.ireturn, 1) := by decide +kernel
theorem dX7_addPlan_27 : decode cX7_addPlan 27 = .ok (.aload_n 0, 1) := by decide +kernel
theorem dX7_addPlan_28 : decode cX7_addPlan 28 = .ok (.invokevirtual 138, 3) := by decide +kernel
theorem dX7_addPlan_31 : decode cX7_addPlan 31 = .ok (.ifCond .ne 9, 3) := by decide +kernel
theorem dX7_addPlan_34 : decode cX7_addPlan 34 = .ok (.aload_n 0, 1) := by decide +kernel
theorem dX7_addPlan_35 : decode cX7_addPlan 35 = .ok (.iconst 1, 1) := by decide +kernel
theorem dX7_addPlan_36 : decode cX7_addPlan 36 = .ok (.invokevirtual 79, 3) := by decide +kernel
theorem dX7_addPlan_39 : decode cX7_addPlan 39 = .ok (.ireturn, 1) := by decide +kernel
theorem dX7_addPlan_40 : decode cX7_addPlan 40 = .ok (.iconst 0, 1) := by decide +kernel
theorem dX7_addPlan_41 : decode cX7_addPlan 41 = .ok (.istore_n 2, 1) := by decide +kernel
theorem dX7_addPlan_42 : decode cX7_addPlan 42 = .ok (.iload_n 2, 1) := by decide +kernel
theorem dX7_addPlan_43 : decode cX7_addPlan 43 = .ok (.aload_n 0, 1) := by decide +kernel
theorem dX7_addPlan_44 : decode cX7_addPlan 44 = .ok (.getfield 66, 3) := by decide +kernel
theorem dX7_addPlan_47 : decode cX7_addPlan 47 = .ok (.if_icmp .ge 24, 3) := by decide +kernel
theorem dX7_addPlan_50 : decode cX7_addPlan 50 = .ok (.aload_n 0, 1) := by decide +kernel
theorem dX7_addPlan_51 : decode cX7_addPlan 51 = .ok (.iload_n 2, 1) := by decide +kernel
theorem dX7_addPlan_52 : decode cX7_addPlan 52 = .ok (.iconst 0, 1) := by decide +kernel
theorem dX7_addPlan_53 : decode cX7_addPlan 53 = .ok (.invokevirtual 141, 3) := by decide +kernel
theorem dX7_addPlan_56 : decode cX7_addPlan 56 = .ok (.aload_n 0, 1) := by decide +kernel
theorem dX7_addPlan_57 : decode cX7_addPlan 57 = .ok (.getfield 36, 3) := by decide +kernel
theorem dX7_addPlan_60 : decode cX7_addPlan 60 = .ok (.iconst 0, 1) := by decide +kernel
theorem dX7_addPlan_61 : decode cX7_addPlan 61 = .ok (.iaload, 1) := by decide +kernel
theorem dX7_addPlan_62 : decode cX7_addPlan 62 = .ok (.if_icmp .ge 9, 3) := by decide +kernel
theorem dX7_addPlan_65 : decode cX7_addPlan 65 = .ok (.iinc 2 1, 3) := by decide +kernel
theorem dX7_addPlan_68 : decode cX7_addPlan 68 = .ok (.goto (-26), 3) := by decide +kernel
theorem dX7_addPlan_71 : decode cX7_addPlan 71 = .ok (.iload_n 2, 1) := by decide +kernel
theorem dX7_addPlan_72 : decode cX7_addPlan 72 = .ok (.aload_n 0, 1) := by decide +kernel
theorem dX7_addPlan_73 : decode cX7_addPlan 73 = .ok (.getfield 66, 3) := by decide +kernel
theorem dX7_addPlan_76 : decode cX7_addPlan 76 = .ok (.if_icmp .ge 22, 3) := by decide +kernel
theorem dX7_addPlan_79 : decode cX7_addPlan 79 = .ok (.aload_n 0, 1) := by decide +kernel
theorem dX7_addPlan_80 : decode cX7_addPlan 80 = .ok (.iload_n 2, 1) := by decide +kernel
theorem dX7_addPlan_81 : decode cX7_addPlan 81 = .ok (.iconst 0, 1) := by decide +kernel
theorem dX7_addPlan_82 : decode cX7_addPlan 82 = .ok (.invokevirtual 141, 3) := by decide +kernel
theorem dX7_addPlan_85 : decode cX7_addPlan 85 = .ok (.aload_n 0, 1) := by decide +kernel
theorem dX7_addPlan_86 : decode cX7_addPlan 86 = .ok (.getfield 36, 3) := by decide +kernel
theorem dX7_addPlan_89 : decode cX7_addPlan 89 = .ok (.iconst 0, 1) := by decide +kernel
theorem dX7_addPlan_90 : decode cX7_addPlan 90 = .ok (.iaload, 1) := by decide +kernel
theorem dX7_addPlan_91 : decode cX7_addPlan 91 = .ok (.if_icmp .ne 7, 3) := by decide +kernel
theorem dX7_addPlan_94 : decode cX7_addPlan 94 = .ok (.iconst 1, 1) := by decide +kernel
theorem dX7_addPlan_95 : decode cX7_addPlan 95 = .ok (.goto 4, 3) := by decide +kernel
theorem dX7_addPlan_98 : decode cX7_addPlan 98 = .ok (.iconst 0, 1) := by decide +kernel
theorem dX7_addPlan_99 : decode cX7_addPlan 99 = .ok (.istore_n 3, 1) := by decide +kernel
theorem dX7_addPlan_100 : decode cX7_addPlan 100 = .ok (.iload_n 3, 1) := by decide +kernel
theorem dX7_addPlan_101 : decode cX7_addPlan 101 = .ok (.ifCond .ne 17, 3) := by decide +kernel
theorem dX7_addPlan_104 : decode cX7_addPlan 104 = .ok (.aload_n 0, 1) := by decide +kernel
theorem dX7_addPlan_105 : decode cX7_addPlan 105 = .ok (.getfield 66, 3) := by decide +kernel
theorem dX7_addPlan_108 : decode cX7_addPlan 108 = .ok (.iconst 5, 1) := by decide +kernel
theorem dX7_addPlan_109 : decode cX7_addPlan 109 = .ok (.if_icmp .ne 9, 3) := by decide +kernel
theorem dX7_addPlan_112 : decode cX7_addPlan 112 = .ok (.aload_n 0, 1) := by decide +kernel
theorem dX7_addPlan_113 : decode cX7_addPlan 113 = .ok (.iconst 2, 1) := by decide +kernel
theorem dX7_addPlan_114 : decode cX7_addPlan 114 = .ok (.invokevirtual 79, 3) := by decide +kernel
theorem dX7_addPlan_117 : decode cX7_addPlan 117 = .ok (.ireturn, 1) := by decide +kernel
theorem dX7_addPlan_118 : decode cX7_addPlan 118 = .ok (.aload_n 0, 1) := by decide +kernel
theorem dX7_addPlan_119 : decode cX7_addPlan 119 = .ok (.invokevirtual 97, 3) := by decide +kernel
theorem dX7_addPlan_122 : decode cX7_addPlan 122 = .ok (.iload_n 3, 1) := by decide +kernel
theorem dX7_addPlan_123 : decode cX7_addPlan 123 = .ok (.ifCond .ne 56, 3) := by decide +kernel
theorem dX7_addPlan_126 : decode cX7_addPlan 126 = .ok (.bipush 52, 2) := by decide +kernel
theorem dX7_addPlan_128 : decode cX7_addPlan 128 = .ok (.aload_n 0, 1) := by decide +kernel
theorem dX7_addPlan_129 : decode cX7_addPlan 129 = .ok (.getfield 66, 3) := by decide +kernel
theorem dX7_addPlan_132 : decode cX7_addPlan 132 = .ok (.imul, 1) := by decide +kernel
theorem dX7_addPlan_133 : decode cX7_addPlan 133 = .ok (.iconst 1, 1) := by decide +kernel
theorem dX7_addPlan_134 : decode cX7_addPlan 134 = .ok (.isub, 1) := by decide +kernel
theorem dX7_addPlan_135 : decode cX7_addPlan 135 = .ok (.istore 4, 2) := by decide +kernel
theorem dX7_addPlan_137 : decode cX7_addPlan 137 = .ok (.iload 4, 2) := by decide +kernel
theorem dX7_addPlan_139 : decode cX7_addPlan 139 = .ok (.bipush 52, 2) := by decide +kernel
theorem dX7_addPlan_141 : decode cX7_addPlan 141 = .ok (.iload_n 2, 1) := by decide +kernel
theorem dX7_addPlan_142 : decode cX7_addPlan 142 = .ok (.imul, 1) := by decide +kernel
theorem dX7_addPlan_143 : decode cX7_addPlan 143 = .ok (.if_icmp .lt 26, 3) := by decide +kernel
theorem dX7_addPlan_146 : decode cX7_addPlan 146 = .ok (.aload_n 0, 1) := by decide +kernel
theorem dX7_addPlan_147 : decode cX7_addPlan 147 = .ok (.getfield 19, 3) := by decide +kernel
theorem dX7_addPlan_150 : decode cX7_addPlan 150 = .ok (.iload 4, 2) := by decide +kernel
theorem dX7_addPlan_152 : decode cX7_addPlan 152 = .ok (.bipush 52, 2) := by decide +kernel
theorem dX7_addPlan_154 : decode cX7_addPlan 154 = .ok (.iadd, 1) := by decide +kernel
theorem dX7_addPlan_155 : decode cX7_addPlan 155 = .ok (.aload_n 0, 1) := by decide +kernel
theorem dX7_addPlan_156 : decode cX7_addPlan 156 = .ok (.getfield 19, 3) := by decide +kernel
theorem dX7_addPlan_159 : decode cX7_addPlan 159 = .ok (.iload 4, 2) := by decide +kernel
theorem dX7_addPlan_161 : decode cX7_addPlan 161 = .ok (.iaload, 1) := by decide +kernel
theorem dX7_addPlan_162 : decode cX7_addPlan 162 = .ok (.iastore, 1) := by decide +kernel
theorem dX7_addPlan_163 : decode cX7_addPlan 163 = .ok (.iinc 4 (-1), 3) := by decide +kernel
theorem dX7_addPlan_166 : decode cX7_addPlan 166 = .ok (.goto (-29), 3) := by decide +kernel
theorem dX7_addPlan_169 : decode cX7_addPlan 169 = .ok (.aload_n 0, 1) := by decide +kernel
theorem dX7_addPlan_170 : decode cX7_addPlan 170 = .ok (.dup, 1) := by decide +kernel
theorem dX7_addPlan_171 : decode cX7_addPlan 171 = .ok (.getfield 66, 3) := by decide +kernel
theorem dX7_addPlan_174 : decode cX7_addPlan 174 = .ok (.iconst 1, 1) := by decide +kernel
theorem dX7_addPlan_175 : decode cX7_addPlan 175 = .ok (.iadd, 1) := by decide +kernel
theorem dX7_addPlan_176 : decode cX7_addPlan 176 = .ok (.putfield 66, 3) := by decide +kernel
theorem dX7_addPlan_179 : decode cX7_addPlan 179 = .ok (.iconst 0, 1) := by decide +kernel
theorem dX7_addPlan_180 : decode cX7_addPlan 180 = .ok (.istore 4, 2) := by decide +kernel
theorem dX7_addPlan_182 : decode cX7_addPlan 182 = .ok (.iload 4, 2) := by decide +kernel
theorem dX7_addPlan_184 : decode cX7_addPlan 184 = .ok (.bipush 52, 2) := by decide +kernel
theorem dX7_addPlan_186 : decode cX7_addPlan 186 = .ok (.if_icmp .ge 28, 3) := by decide +kernel
theorem dX7_addPlan_189 : decode cX7_addPlan 189 = .ok (.aload_n 0, 1) := by decide +kernel
theorem dX7_addPlan_190 : decode cX7_addPlan 190 = .ok (.getfield 19, 3) := by decide +kernel
theorem dX7_addPlan_193 : decode cX7_addPlan 193 = .ok (.bipush 52, 2) := by decide +kernel
theorem dX7_addPlan_195 : decode cX7_addPlan 195 = .ok (.iload_n 2, 1) := by decide +kernel
theorem dX7_addPlan_196 : decode cX7_addPlan 196 = .ok (.imul, 1) := by decide +kernel
theorem dX7_addPlan_197 : decode cX7_addPlan 197 = .ok (.iload 4, 2) := by decide +kernel
theorem dX7_addPlan_199 : decode cX7_addPlan 199 = .ok (.iadd, 1) := by decide +kernel
theorem dX7_addPlan_200 : decode cX7_addPlan 200 = .ok (.aload_n 0, 1) := by decide +kernel
theorem dX7_addPlan_201 : decode cX7_addPlan 201 = .ok (.getfield 36, 3) := by decide +kernel
theorem dX7_addPlan_204 : decode cX7_addPlan 204 = .ok (.iload 4, 2) := by decide +kernel
theorem dX7_addPlan_206 : decode cX7_addPlan 206 = .ok (.iaload, 1) := by decide +kernel
theorem dX7_addPlan_207 : decode cX7_addPlan 207 = .ok (.iastore, 1) := by decide +kernel
theorem dX7_addPlan_208 : decode cX7_addPlan 208 = .ok (.iinc 4 1, 3) := by decide +kernel
theorem dX7_addPlan_211 : decode cX7_addPlan 211 = .ok (.goto (-29), 3) := by decide +kernel
theorem dX7_addPlan_214 : decode cX7_addPlan 214 = .ok (.aload_n 0, 1) := by decide +kernel
theorem dX7_addPlan_215 : decode cX7_addPlan 215 = .ok (.getfield 66, 3) := by decide +kernel
theorem dX7_addPlan_218 : decode cX7_addPlan 218 = .ok (.ireturn, 1) := by decide +kernel
theorem dX7_ruleFor_0 : decode cX7_ruleFor 0 = .ok (.iconst 0, 1) := by decide +kernel
theorem dX7_ruleFor_1 : decode cX7_ruleFor 1 = .ok (.istore_n 3, 1) := by decide +kernel
theorem dX7_ruleFor_2 : decode cX7_ruleFor 2 = .ok (.iload_n 3, 1) := by decide +kernel
theorem dX7_ruleFor_3 : decode cX7_ruleFor 3 = .ok (.aload_n 0, 1) := by decide +kernel
theorem dX7_ruleFor_4 : decode cX7_ruleFor 4 = .ok (.iload_n 1, 1) := by decide +kernel
theorem dX7_ruleFor_5 : decode cX7_ruleFor 5 = .ok (.iconst 1, 1) := by decide +kernel
theorem dX7_ruleFor_6 : decode cX7_ruleFor 6 = .ok (.invokevirtual 141, 3) := by decide +kernel
theorem dX7_ruleFor_9 : decode cX7_ruleFor 9 = .ok (.if_icmp .ge 32, 3) := by decide +kernel
theorem dX7_ruleFor_12 : decode cX7_ruleFor 12 = .ok (.iload_n 2, 1) := by decide +kernel
theorem dX7_ruleFor_13 : decode cX7_ruleFor 13 = .ok (.aload_n 0, 1) := by decide +kernel
theorem dX7_ruleFor_14 : decode cX7_ruleFor 14 = .ok (.iload_n 1, 1) := by decide +kernel
theorem dX7_ruleFor_15 : decode cX7_ruleFor 15 = .ok (.iload_n 3, 1) := by decide +kernel
theorem dX7_ruleFor_16 : decode cX7_ruleFor 16 = .ok (.iconst 0, 1) := by decide +kernel
theorem dX7_ruleFor_17 : decode cX7_ruleFor 17 = .ok (.invokevirtual 144, 3) := by decide +kernel
theorem dX7_ruleFor_20 : decode cX7_ruleFor 20 = .ok (.aload_n 0, 1) := by decide +kernel
theorem dX7_ruleFor_21 : decode cX7_ruleFor 21 = .ok (.iload_n 1, 1) := by decide +kernel
theorem dX7_ruleFor_22 : decode cX7_ruleFor 22 = .ok (.iload_n 3, 1) := by decide +kernel
theorem dX7_ruleFor_23 : decode cX7_ruleFor 23 = .ok (.iconst 1, 1) := by decide +kernel
theorem dX7_ruleFor_24 : decode cX7_ruleFor 24 = .ok (.invokevirtual 144, 3) := by decide +kernel
theorem dX7_ruleFor_27 : decode cX7_ruleFor 27 = .ok (.invokestatic 75, 3) := by decide +kernel
theorem dX7_ruleFor_30 : decode cX7_ruleFor 30 = .ok (.ifCond .eq 5, 3) := by decide +kernel
theorem dX7_ruleFor_33 : decode cX7_ruleFor 33 = .ok (.iload_n 3, 1) := by decide +kernel
theorem dX7_ruleFor_34 : decode cX7_ruleFor 34 = .ok (.ireturn, 1) := by decide +kernel
theorem dX7_ruleFor_35 : decode cX7_ruleFor 35 = .ok (.iinc 3 1, 3) := by decide +kernel
theorem dX7_ruleFor_38 : decode cX7_ruleFor 38 = .ok (.goto (-36), 3) := by decide +kernel
theorem dX7_ruleFor_41 : decode cX7_ruleFor 41 = .ok (.iconst (-1), 1) := by decide +kernel
theorem dX7_ruleFor_42 : decode cX7_ruleFor 42 = .ok (.ireturn, 1) := by decide +kernel
theorem dX7_planOf_0 : decode cX7_planOf 0 = .ok (.iconst (-1), 1) := by decide +kernel
theorem dX7_planOf_1 : decode cX7_planOf 1 = .ok (.istore_n 2, 1) := by decide +kernel
theorem dX7_planOf_2 : decode cX7_planOf 2 = .ok (.iconst 0, 1) := by decide +kernel
theorem dX7_planOf_3 : decode cX7_planOf 3 = .ok (.istore_n 3, 1) := by decide +kernel
theorem dX7_planOf_4 : decode cX7_planOf 4 = .ok (.iload_n 3, 1) := by decide +kernel
theorem dX7_planOf_5 : decode cX7_planOf 5 = .ok (.aload_n 0, 1) := by decide +kernel
theorem dX7_planOf_6 : decode cX7_planOf 6 = .ok (.getfield 66, 3) := by decide +kernel
theorem dX7_planOf_9 : decode cX7_planOf 9 = .ok (.if_icmp .ge 25, 3) := by decide +kernel
theorem dX7_planOf_12 : decode cX7_planOf 12 = .ok (.aload_n 0, 1) := by decide +kernel
theorem dX7_planOf_13 : decode cX7_planOf 13 = .ok (.iload_n 3, 1) := by decide +kernel
theorem dX7_planOf_14 : decode cX7_planOf 14 = .ok (.iconst 0, 1) := by decide +kernel
theorem dX7_planOf_15 : decode cX7_planOf 15 = .ok (.invokevirtual 141, 3) := by decide +kernel
theorem dX7_planOf_18 : decode cX7_planOf 18 = .ok (.iload_n 1, 1) := by decide +kernel
theorem dX7_planOf_19 : decode cX7_planOf 19 = .ok (.if_icmp .gt 7, 3) := by decide +kernel
theorem dX7_planOf_22 : decode cX7_planOf 22 = .ok (.iload_n 3, 1) := by decide +kernel
theorem dX7_planOf_23 : decode cX7_planOf 23 = .ok (.goto 4, 3) := by decide +kernel
theorem dX7_planOf_26 : decode cX7_planOf 26 = .ok (.iload_n 2, 1) := by decide +kernel
theorem dX7_planOf_27 : decode cX7_planOf 27 = .ok (.istore_n 2, 1) := by decide +kernel
theorem dX7_planOf_28 : decode cX7_planOf 28 = .ok (.iinc 3 1, 3) := by decide +kernel
theorem dX7_planOf_31 : decode cX7_planOf 31 = .ok (.goto (-27), 3) := by decide +kernel
theorem dX7_planOf_34 : decode cX7_planOf 34 = .ok (.iload_n 2, 1) := by decide +kernel
theorem dX7_planOf_35 : decode cX7_planOf 35 = .ok (.ireturn, 1) := by decide +kernel
theorem dX7_plan_0 : decode cX7_plan 0 = .ok (.aload_n 0, 1) := by decide +kernel
theorem dX7_plan_1 : decode cX7_plan 1 = .ok (.iload_n 1, 1) := by decide +kernel
theorem dX7_plan_2 : decode cX7_plan 2 = .ok (.invokevirtual 148, 3) := by decide +kernel
theorem dX7_plan_5 : decode cX7_plan 5 = .ok (.ifCond .ne 9, 3) := by decide +kernel
theorem dX7_plan_8 : decode cX7_plan 8 = .ok (.aload_n 0, 1) := by decide +kernel
theorem dX7_plan_9 : decode cX7_plan 9 = .ok (.iconst 1, 1) := by decide +kernel
theorem dX7_plan_10 : decode cX7_plan 10 = .ok (.invokevirtual 79, 3) := by decide +kernel
theorem dX7_plan_13 : decode cX7_plan 13 = .ok (.ireturn, 1) := by decide +kernel
theorem dX7_plan_14 : decode cX7_plan 14 = .ok (.iload_n 2, 1) := by decide +kernel
theorem dX7_plan_15 : decode cX7_plan 15 = .ok (.iconst 0, 1) := by decide +kernel
theorem dX7_plan_16 : decode cX7_plan 16 = .ok (.iconst 4, 1) := by decide +kernel
theorem dX7_plan_17 : decode cX7_plan 17 = .ok (.invokestatic 75, 3) := by decide +kernel
theorem dX7_plan_20 : decode cX7_plan 20 = .ok (.ifCond .ne 9, 3) := by decide +kernel
theorem dX7_plan_23 : decode cX7_plan 23 = .ok (.aload_n 0, 1) := by decide +kernel
theorem dX7_plan_24 : decode cX7_plan 24 = .ok (.iconst 2, 1) := by decide +kernel
theorem dX7_plan_25 : decode cX7_plan 25 = .ok (.invokevirtual 79, 3) := by decide +kernel
theorem dX7_plan_28 : decode cX7_plan 28 = .ok (.ireturn, 1) := by decide +kernel
theorem dX7_plan_29 : decode cX7_plan 29 = .ok (.aload_n 0, 1) := by decide +kernel
theorem dX7_plan_30 : decode cX7_plan 30 = .ok (.iconst 0, 1) := by decide +kernel
theorem dX7_plan_31 : decode cX7_plan 31 = .ok (.putfield 54, 3) := by decide +kernel
theorem dX7_plan_34 : decode cX7_plan 34 = .ok (.iload_n 2, 1) := by decide +kernel
theorem dX7_plan_35 : decode cX7_plan 35 = .ok (.iconst 4, 1) := by decide +kernel
theorem dX7_plan_36 : decode cX7_plan 36 = .ok (.if_icmp .ge 10, 3) := by decide +kernel
theorem dX7_plan_39 : decode cX7_plan 39 = .ok (.aload_n 0, 1) := by decide +kernel
theorem dX7_plan_40 : decode cX7_plan 40 = .ok (.iload_n 1, 1) := by decide +kernel
theorem dX7_plan_41 : decode cX7_plan 41 = .ok (.iload_n 2, 1) := by decide +kernel
theorem dX7_plan_42 : decode cX7_plan 42 = .ok (.invokevirtual 141, 3) := by decide +kernel
theorem dX7_plan_45 : decode cX7_plan 45 = .ok (.ireturn, 1) := by decide +kernel
theorem dX7_plan_46 : decode cX7_plan 46 = .ok (.iconst 0, 1) := by decide +kernel
theorem dX7_plan_47 : decode cX7_plan 47 = .ok (.istore_n 3, 1) := by decide +kernel
theorem dX7_plan_48 : decode cX7_plan 48 = .ok (.iconst 0, 1) := by decide +kernel
theorem dX7_plan_49 : decode cX7_plan 49 = .ok (.istore 4, 2) := by decide +kernel
theorem dX7_plan_51 : decode cX7_plan 51 = .ok (.iload 4, 2) := by decide +kernel
theorem dX7_plan_53 : decode cX7_plan 53 = .ok (.bipush 100, 2) := by decide +kernel
theorem dX7_plan_55 : decode cX7_plan 55 = .ok (.if_icmp .ge 27, 3) := by decide +kernel
theorem dX7_plan_58 : decode cX7_plan 58 = .ok (.iload_n 3, 1) := by decide +kernel
theorem dX7_plan_59 : decode cX7_plan 59 = .ok (.aload_n 0, 1) := by decide +kernel
theorem dX7_plan_60 : decode cX7_plan 60 = .ok (.iload_n 1, 1) := by decide +kernel
theorem dX7_plan_61 : decode cX7_plan 61 = .ok (.iload 4, 2) := by decide +kernel
theorem dX7_plan_63 : decode cX7_plan 63 = .ok (.invokevirtual 151, 3) := by decide +kernel
theorem dX7_plan_66 : decode cX7_plan 66 = .ok (.ifCond .ge 7, 3) := by decide +kernel
theorem dX7_plan_69 : decode cX7_plan 69 = .ok (.iconst 1, 1) := by decide +kernel
theorem dX7_plan_70 : decode cX7_plan 70 = .ok (.goto 4, 3) := by decide +kernel
theorem dX7_plan_73 : decode cX7_plan 73 = .ok (.iconst 0, 1) := by decide +kernel
theorem dX7_plan_74 : decode cX7_plan 74 = .ok (.iadd, 1) := by decide +kernel
theorem dX7_plan_75 : decode cX7_plan 75 = .ok (.istore_n 3, 1) := by decide +kernel
theorem dX7_plan_76 : decode cX7_plan 76 = .ok (.iinc 4 1, 3) := by decide +kernel
theorem dX7_plan_79 : decode cX7_plan 79 = .ok (.goto (-28), 3) := by decide +kernel
theorem dX7_plan_82 : decode cX7_plan 82 = .ok (.iload_n 3, 1) := by decide +kernel
theorem dX7_plan_83 : decode cX7_plan 83 = .ok (.ireturn, 1) := by decide +kernel
theorem dX7_route_0 : decode cX7_route 0 = .ok (.iload_n 1, 1) := by decide +kernel
theorem dX7_route_1 : decode cX7_route 1 = .ok (.ifCond .lt 13, 3) := by decide +kernel
theorem dX7_route_4 : decode cX7_route 4 = .ok (.iload_n 2, 1) := by decide +kernel
theorem dX7_route_5 : decode cX7_route 5 = .ok (.iconst 0, 1) := by decide +kernel
theorem dX7_route_6 : decode cX7_route 6 = .ok (.bipush 99, 2) := by decide +kernel
theorem dX7_route_8 : decode cX7_route 8 = .ok (.invokestatic 75, 3) := by decide +kernel
theorem dX7_route_11 : decode cX7_route 11 = .ok (.ifCond .ne 9, 3) := by decide +kernel
theorem dX7_route_14 : decode cX7_route 14 = .ok (.aload_n 0, 1) := by decide +kernel
theorem dX7_route_15 : decode cX7_route 15 = .ok (.iconst 1, 1) := by decide +kernel
theorem dX7_route_16 : decode cX7_route 16 = .ok (.invokevirtual 79, 3) := by decide +kernel
theorem dX7_route_19 : decode cX7_route 19 = .ok (.ireturn, 1) := by decide +kernel
theorem dX7_route_20 : decode cX7_route 20 = .ok (.aload_n 0, 1) := by decide +kernel
theorem dX7_route_21 : decode cX7_route 21 = .ok (.iload_n 1, 1) := by decide +kernel
theorem dX7_route_22 : decode cX7_route 22 = .ok (.invokevirtual 154, 3) := by decide +kernel
theorem dX7_route_25 : decode cX7_route 25 = .ok (.istore 4, 2) := by decide +kernel
theorem dX7_route_27 : decode cX7_route 27 = .ok (.iload 4, 2) := by decide +kernel
theorem dX7_route_29 : decode cX7_route 29 = .ok (.ifCond .ge 9, 3) := by decide +kernel
theorem dX7_route_32 : decode cX7_route 32 = .ok (.aload_n 0, 1) := by decide +kernel
theorem dX7_route_33 : decode cX7_route 33 = .ok (.iconst 2, 1) := by decide +kernel
theorem dX7_route_34 : decode cX7_route 34 = .ok (.invokevirtual 79, 3) := by decide +kernel
theorem dX7_route_37 : decode cX7_route 37 = .ok (.ireturn, 1) := by decide +kernel
theorem dX7_route_38 : decode cX7_route 38 = .ok (.aload_n 0, 1) := by decide +kernel
theorem dX7_route_39 : decode cX7_route 39 = .ok (.iload 4, 2) := by decide +kernel
theorem dX7_route_41 : decode cX7_route 41 = .ok (.iload_n 2, 1) := by decide +kernel
theorem dX7_route_42 : decode cX7_route 42 = .ok (.invokevirtual 151, 3) := by decide +kernel
theorem dX7_route_45 : decode cX7_route 45 = .ok (.istore 5, 2) := by decide +kernel
theorem dX7_route_47 : decode cX7_route 47 = .ok (.iload 5, 2) := by decide +kernel
theorem dX7_route_49 : decode cX7_route 49 = .ok (.ifCond .lt 22, 3) := by decide +kernel
theorem dX7_route_52 : decode cX7_route 52 = .ok (.iload_n 3, 1) := by decide +kernel
theorem dX7_route_53 : decode cX7_route 53 = .ok (.iconst (-1), 1) := by decide +kernel
theorem dX7_route_54 : decode cX7_route 54 = .ok (.aload_n 0, 1) := by decide +kernel
theorem dX7_route_55 : decode cX7_route 55 = .ok (.iload 4, 2) := by decide +kernel
theorem dX7_route_57 : decode cX7_route 57 = .ok (.iload 5, 2) := by decide +kernel
theorem dX7_route_59 : decode cX7_route 59 = .ok (.iconst 2, 1) := by decide +kernel
theorem dX7_route_60 : decode cX7_route 60 = .ok (.invokevirtual 144, 3) := by decide +kernel
theorem dX7_route_63 : decode cX7_route 63 = .ok (.iconst 1, 1) := by decide +kernel
theorem dX7_route_64 : decode cX7_route 64 = .ok (.isub, 1) := by decide +kernel
theorem dX7_route_65 : decode cX7_route 65 = .ok (.invokestatic 75, 3) := by decide +kernel
theorem dX7_route_68 : decode cX7_route 68 = .ok (.ifCond .ne 9, 3) := by decide +kernel
theorem dX7_route_71 : decode cX7_route 71 = .ok (.aload_n 0, 1) := by decide +kernel
theorem dX7_route_72 : decode cX7_route 72 = .ok (.iconst 3, 1) := by decide +kernel
theorem dX7_route_73 : decode cX7_route 73 = .ok (.invokevirtual 79, 3) := by decide +kernel
theorem dX7_route_76 : decode cX7_route 76 = .ok (.ireturn, 1) := by decide +kernel
theorem dX7_route_77 : decode cX7_route 77 = .ok (.aload_n 0, 1) := by decide +kernel
theorem dX7_route_78 : decode cX7_route 78 = .ok (.iconst 0, 1) := by decide +kernel
theorem dX7_route_79 : decode cX7_route 79 = .ok (.putfield 54, 3) := by decide +kernel
theorem dX7_route_82 : decode cX7_route 82 = .ok (.aload_n 0, 1) := by decide +kernel
theorem dX7_route_83 : decode cX7_route 83 = .ok (.iload 4, 2) := by decide +kernel
theorem dX7_route_85 : decode cX7_route 85 = .ok (.iload 5, 2) := by decide +kernel
theorem dX7_route_87 : decode cX7_route 87 = .ok (.iload_n 3, 1) := by decide +kernel
theorem dX7_route_88 : decode cX7_route 88 = .ok (.ifCond .ge 7, 3) := by decide +kernel
theorem dX7_route_91 : decode cX7_route 91 = .ok (.iconst 2, 1) := by decide +kernel
theorem dX7_route_92 : decode cX7_route 92 = .ok (.goto 6, 3) := by decide +kernel
theorem dX7_route_95 : decode cX7_route 95 = .ok (.iconst 3, 1) := by decide +kernel
theorem dX7_route_96 : decode cX7_route 96 = .ok (.iload_n 3, 1) := by decide +kernel
theorem dX7_route_97 : decode cX7_route 97 = .ok (.iadd, 1) := by decide +kernel
theorem dX7_route_98 : decode cX7_route 98 = .ok (.invokevirtual 144, 3) := by decide +kernel
theorem dX7_route_101 : decode cX7_route 101 = .ok (.ireturn, 1) := by decide +kernel
theorem dX7_arrive_0 : decode cX7_arrive 0 = .ok (.aload_n 0, 1) := by decide +kernel
theorem dX7_arrive_1 : decode cX7_arrive 1 = .ok (.iload_n 1, 1) := by decide +kernel
theorem dX7_arrive_2 : decode cX7_arrive 2 = .ok (.invokevirtual 157, 3) := by decide +kernel
theorem dX7_arrive_5 : decode cX7_arrive 5 = .ok (.ifCond .ne 9, 3) := by decide +kernel
theorem dX7_arrive_8 : decode cX7_arrive 8 = .ok (.aload_n 0, 1) := by decide +kernel
theorem dX7_arrive_9 : decode cX7_arrive 9 = .ok (.iconst 1, 1) := by decide +kernel
theorem dX7_arrive_10 : decode cX7_arrive 10 = .ok (.invokevirtual 79, 3) := by decide +kernel
theorem dX7_arrive_13 : decode cX7_arrive 13 = .ok (.ireturn, 1) := by decide +kernel
theorem dX7_arrive_14 : decode cX7_arrive 14 = .ok (.iload_n 2, 1) := by decide +kernel
theorem dX7_arrive_15 : decode cX7_arrive 15 = .ok (.iconst 0, 1) := by decide +kernel
theorem dX7_arrive_16 : decode cX7_arrive 16 = .ok (.bipush 99, 2) := by decide +kernel
theorem dX7_arrive_18 : decode cX7_arrive 18 = .ok (.invokestatic 75, 3) := by decide +kernel
theorem dX7_arrive_21 : decode cX7_arrive 21 = .ok (.ifCond .eq 23, 3) := by decide +kernel
theorem dX7_arrive_24 : decode cX7_arrive 24 = .ok (.iload_n 3, 1) := by decide +kernel
theorem dX7_arrive_25 : decode cX7_arrive 25 = .ok (.iconst 1, 1) := by decide +kernel
theorem dX7_arrive_26 : decode cX7_arrive 26 = .ok (.bipush 50, 2) := by decide +kernel
theorem dX7_arrive_28 : decode cX7_arrive 28 = .ok (.invokestatic 75, 3) := by decide +kernel
theorem dX7_arrive_31 : decode cX7_arrive 31 = .ok (.ifCond .eq 13, 3) := by decide +kernel
theorem dX7_arrive_34 : decode cX7_arrive 34 = .ok (.iload 4, 2) := by decide +kernel
theorem dX7_arrive_36 : decode cX7_arrive 36 = .ok (.iconst 0, 1) := by decide +kernel
theorem dX7_arrive_37 : decode cX7_arrive 37 = .ok (.iconst 2, 1) := by decide +kernel
theorem dX7_arrive_38 : decode cX7_arrive 38 = .ok (.invokestatic 75, 3) := by decide +kernel
theorem dX7_arrive_41 : decode cX7_arrive 41 = .ok (.ifCond .ne 9, 3) := by decide +kernel
theorem dX7_arrive_44 : decode cX7_arrive 44 = .ok (.aload_n 0, 1) := by decide +kernel
theorem dX7_arrive_45 : decode cX7_arrive 45 = .ok (.iconst 2, 1) := by decide +kernel
theorem dX7_arrive_46 : decode cX7_arrive 46 = .ok (.invokevirtual 79, 3) := by decide +kernel
theorem dX7_arrive_49 : decode cX7_arrive 49 = .ok (.ireturn, 1) := by decide +kernel
theorem dX7_arrive_50 : decode cX7_arrive 50 = .ok (.aload_n 0, 1) := by decide +kernel
theorem dX7_arrive_51 : decode cX7_arrive 51 = .ok (.iload_n 1, 1) := by decide +kernel
theorem dX7_arrive_52 : decode cX7_arrive 52 = .ok (.iconst 1, 1) := by decide +kernel
theorem dX7_arrive_53 : decode cX7_arrive 53 = .ok (.invokevirtual 86, 3) := by decide +kernel
theorem dX7_arrive_56 : decode cX7_arrive 56 = .ok (.istore 5, 2) := by decide +kernel
theorem dX7_arrive_58 : decode cX7_arrive 58 = .ok (.aload_n 0, 1) := by decide +kernel
theorem dX7_arrive_59 : decode cX7_arrive 59 = .ok (.getfield 63, 3) := by decide +kernel
theorem dX7_arrive_62 : decode cX7_arrive 62 = .ok (.bipush 60, 2) := by decide +kernel
theorem dX7_arrive_64 : decode cX7_arrive 64 = .ok (.if_icmp .eq 10, 3) := by decide +kernel
theorem dX7_arrive_67 : decode cX7_arrive 67 = .ok (.iload 5, 2) := by decide +kernel
theorem dX7_arrive_69 : decode cX7_arrive 69 = .ok (.bipush 10, 2) := by decide +kernel
theorem dX7_arrive_71 : decode cX7_arrive 71 = .ok (.if_icmp .ne 9, 3) := by decide +kernel
theorem dX7_arrive_74 : decode cX7_arrive 74 = .ok (.aload_n 0, 1) := by decide +kernel
theorem dX7_arrive_75 : decode cX7_arrive 75 = .ok (.iconst 3, 1) := by decide +kernel
theorem dX7_arrive_76 : decode cX7_arrive 76 = .ok (.invokevirtual 79, 3) := by decide +kernel
theorem dX7_arrive_79 : decode cX7_arrive 79 = .ok (.ireturn, 1) := by decide +kernel
theorem dX7_arrive_80 : decode cX7_arrive 80 = .ok (.aload_n 0, 1) := by decide +kernel
theorem dX7_arrive_81 : decode cX7_arrive 81 = .ok (.iconst 0, 1) := by decide +kernel
theorem dX7_arrive_82 : decode cX7_arrive 82 = .ok (.putfield 54, 3) := by decide +kernel
theorem dX7_arrive_85 : decode cX7_arrive 85 = .ok (.aload_n 0, 1) := by decide +kernel
theorem dX7_arrive_86 : decode cX7_arrive 86 = .ok (.invokevirtual 97, 3) := by decide +kernel
theorem dX7_arrive_89 : decode cX7_arrive 89 = .ok (.iconst 0, 1) := by decide +kernel
theorem dX7_arrive_90 : decode cX7_arrive 90 = .ok (.istore 6, 2) := by decide +kernel
theorem dX7_arrive_92 : decode cX7_arrive 92 = .ok (.iconst 0, 1) := by decide +kernel
theorem dX7_arrive_93 : decode cX7_arrive 93 = .ok (.istore 7, 2) := by decide +kernel
theorem dX7_arrive_95 : decode cX7_arrive 95 = .ok (.iload 7, 2) := by decide +kernel
theorem dX7_arrive_97 : decode cX7_arrive 97 = .ok (.aload_n 0, 1) := by decide +kernel
theorem dX7_arrive_98 : decode cX7_arrive 98 = .ok (.getfield 63, 3) := by decide +kernel
theorem dX7_arrive_101 : decode cX7_arrive 101 = .ok (.if_icmp .ge 30, 3) := by decide +kernel
theorem dX7_arrive_104 : decode cX7_arrive 104 = .ok (.iload 6, 2) := by decide +kernel
theorem dX7_arrive_106 : decode cX7_arrive 106 = .ok (.aload_n 0, 1) := by decide +kernel
theorem dX7_arrive_107 : decode cX7_arrive 107 = .ok (.iload 7, 2) := by decide +kernel
theorem dX7_arrive_109 : decode cX7_arrive 109 = .ok (.iconst 0, 1) := by decide +kernel
theorem dX7_arrive_110 : decode cX7_arrive 110 = .ok (.invokevirtual 160, 3) := by decide +kernel
theorem dX7_arrive_113 : decode cX7_arrive 113 = .ok (.iload_n 2, 1) := by decide +kernel
theorem dX7_arrive_114 : decode cX7_arrive 114 = .ok (.if_icmp .ne 7, 3) := by decide +kernel
theorem dX7_arrive_117 : decode cX7_arrive 117 = .ok (.iconst 1, 1) := by decide +kernel
theorem dX7_arrive_118 : decode cX7_arrive 118 = .ok (.goto 4, 3) := by decide +kernel
theorem dX7_arrive_121 : decode cX7_arrive 121 = .ok (.iconst 0, 1) := by decide +kernel
theorem dX7_arrive_122 : decode cX7_arrive 122 = .ok (.iadd, 1) := by decide +kernel
theorem dX7_arrive_123 : decode cX7_arrive 123 = .ok (.istore 6, 2) := by decide +kernel
theorem dX7_arrive_125 : decode cX7_arrive 125 = .ok (.iinc 7 1, 3) := by decide +kernel
theorem dX7_arrive_128 : decode cX7_arrive 128 = .ok (.goto (-33), 3) := by decide +kernel
theorem dX7_arrive_131 : decode cX7_arrive 131 = .ok (.aload_n 0, 1) := by decide +kernel
theorem dX7_arrive_132 : decode cX7_arrive 132 = .ok (.getfield 63, 3) := by decide +kernel
theorem dX7_arrive_135 : decode cX7_arrive 135 = .ok (.istore 7, 2) := by decide +kernel
theorem dX7_arrive_137 : decode cX7_arrive 137 = .ok (.iconst 0, 1) := by decide +kernel
theorem dX7_arrive_138 : decode cX7_arrive 138 = .ok (.istore 8, 2) := by decide +kernel
theorem dX7_arrive_140 : decode cX7_arrive 140 = .ok (.iload 8, 2) := by decide +kernel
theorem dX7_arrive_142 : decode cX7_arrive 142 = .ok (.bipush 12, 2) := by decide +kernel
theorem dX7_arrive_144 : decode cX7_arrive 144 = .ok (.if_icmp .ge 18, 3) := by decide +kernel
theorem dX7_arrive_147 : decode cX7_arrive 147 = .ok (.aload_n 0, 1) := by decide +kernel
theorem dX7_arrive_148 : decode cX7_arrive 148 = .ok (.iload 7, 2) := by decide +kernel
theorem dX7_arrive_150 : decode cX7_arrive 150 = .ok (.iload 8, 2) := by decide +kernel
theorem dX7_arrive_152 : decode cX7_arrive 152 = .ok (.iconst 0, 1) := by decide +kernel
theorem dX7_arrive_153 : decode cX7_arrive 153 = .ok (.invokevirtual 163, 3) := by decide +kernel
theorem dX7_arrive_156 : decode cX7_arrive 156 = .ok (.iinc 8 1, 3) := by decide +kernel
theorem dX7_arrive_159 : decode cX7_arrive 159 = .ok (.goto (-19), 3) := by decide +kernel
theorem dX7_arrive_162 : decode cX7_arrive 162 = .ok (.aload_n 0, 1) := by decide +kernel
theorem dX7_arrive_163 : decode cX7_arrive 163 = .ok (.iload 7, 2) := by decide +kernel
theorem dX7_arrive_165 : decode cX7_arrive 165 = .ok (.iconst 0, 1) := by decide +kernel
theorem dX7_arrive_166 : decode cX7_arrive 166 = .ok (.iload_n 2, 1) := by decide +kernel
theorem dX7_arrive_167 : decode cX7_arrive 167 = .ok (.invokevirtual 163, 3) := by decide +kernel
theorem dX7_arrive_170 : decode cX7_arrive 170 = .ok (.aload_n 0, 1) := by decide +kernel
theorem dX7_arrive_171 : decode cX7_arrive 171 = .ok (.iload 7, 2) := by decide +kernel
theorem dX7_arrive_173 : decode cX7_arrive 173 = .ok (.iconst 1, 1) := by decide +kernel
theorem dX7_arrive_174 : decode cX7_arrive 174 = .ok (.iload 6, 2) := by decide +kernel
theorem dX7_arrive_176 : decode cX7_arrive 176 = .ok (.invokevirtual 163, 3) := by decide +kernel
theorem dX7_arrive_179 : decode cX7_arrive 179 = .ok (.aload_n 0, 1) := by decide +kernel
theorem dX7_arrive_180 : decode cX7_arrive 180 = .ok (.iload 7, 2) := by decide +kernel
theorem dX7_arrive_182 : decode cX7_arrive 182 = .ok (.iconst 2, 1) := by decide +kernel
theorem dX7_arrive_183 : decode cX7_arrive 183 = .ok (.iload_n 3, 1) := by decide +kernel
theorem dX7_arrive_184 : decode cX7_arrive 184 = .ok (.invokevirtual 163, 3) := by decide +kernel
theorem dX7_arrive_187 : decode cX7_arrive 187 = .ok (.aload_n 0, 1) := by decide +kernel
theorem dX7_arrive_188 : decode cX7_arrive 188 = .ok (.iload 7, 2) := by decide +kernel
theorem dX7_arrive_190 : decode cX7_arrive 190 = .ok (.iconst 3, 1) := by decide +kernel
theorem dX7_arrive_191 : decode cX7_arrive 191 = .ok (.iload 4, 2) := by decide +kernel
theorem dX7_arrive_193 : decode cX7_arrive 193 = .ok (.invokevirtual 163, 3) := by decide +kernel
theorem dX7_arrive_196 : decode cX7_arrive 196 = .ok (.aload_n 0, 1) := by decide +kernel
theorem dX7_arrive_197 : decode cX7_arrive 197 = .ok (.iload 7, 2) := by decide +kernel
theorem dX7_arrive_199 : decode cX7_arrive 199 = .ok (.iconst 5, 1) := by decide +kernel
theorem dX7_arrive_200 : decode cX7_arrive 200 = .ok (.iload_n 1, 1) := by decide +kernel
theorem dX7_arrive_201 : decode cX7_arrive 201 = .ok (.invokevirtual 163, 3) := by decide +kernel
theorem dX7_arrive_204 : decode cX7_arrive 204 = .ok (.bipush 7, 2) := by decide +kernel
theorem dX7_arrive_206 : decode cX7_arrive 206 = .ok (.istore 8, 2) := by decide +kernel
theorem dX7_arrive_208 : decode cX7_arrive 208 = .ok (.iload 8, 2) := by decide +kernel
theorem dX7_arrive_210 : decode cX7_arrive 210 = .ok (.bipush 10, 2) := by decide +kernel
theorem dX7_arrive_212 : decode cX7_arrive 212 = .ok (.if_icmp .gt 18, 3) := by decide +kernel
theorem dX7_arrive_215 : decode cX7_arrive 215 = .ok (.aload_n 0, 1) := by decide +kernel
theorem dX7_arrive_216 : decode cX7_arrive 216 = .ok (.iload 7, 2) := by decide +kernel
theorem dX7_arrive_218 : decode cX7_arrive 218 = .ok (.iload 8, 2) := by decide +kernel
theorem dX7_arrive_220 : decode cX7_arrive 220 = .ok (.iconst (-1), 1) := by decide +kernel
theorem dX7_arrive_221 : decode cX7_arrive 221 = .ok (.invokevirtual 163, 3) := by decide +kernel
theorem dX7_arrive_224 : decode cX7_arrive 224 = .ok (.iinc 8 1, 3) := by decide +kernel
theorem dX7_arrive_227 : decode cX7_arrive 227 = .ok (.goto (-19), 3) := by decide +kernel
theorem dX7_arrive_230 : decode cX7_arrive 230 = .ok (.aload_n 0, 1) := by decide +kernel
theorem dX7_arrive_231 : decode cX7_arrive 231 = .ok (.getfield 13, 3) := by decide +kernel
theorem dX7_arrive_234 : decode cX7_arrive 234 = .ok (.bipush 13, 2) := by decide +kernel
theorem dX7_arrive_236 : decode cX7_arrive 236 = .ok (.iload_n 1, 1) := by decide +kernel
theorem dX7_arrive_237 : decode cX7_arrive 237 = .ok (.imul, 1) := by decide +kernel
theorem dX7_arrive_238 : decode cX7_arrive 238 = .ok (.iconst 3, 1) := by decide +kernel
theorem dX7_arrive_239 : decode cX7_arrive 239 = .ok (.iadd, 1) := by decide +kernel
theorem dX7_arrive_240 : decode cX7_arrive 240 = .ok (.iload 5, 2) := by decide +kernel
theorem dX7_arrive_242 : decode cX7_arrive 242 = .ok (.iadd, 1) := by decide +kernel
theorem dX7_arrive_243 : decode cX7_arrive 243 = .ok (.iload 7, 2) := by decide +kernel
theorem dX7_arrive_245 : decode cX7_arrive 245 = .ok (.iastore, 1) := by decide +kernel
theorem dX7_arrive_246 : decode cX7_arrive 246 = .ok (.aload_n 0, 1) := by decide +kernel
theorem dX7_arrive_247 : decode cX7_arrive 247 = .ok (.getfield 13, 3) := by decide +kernel
theorem dX7_arrive_250 : decode cX7_arrive 250 = .ok (.bipush 13, 2) := by decide +kernel
theorem dX7_arrive_252 : decode cX7_arrive 252 = .ok (.iload_n 1, 1) := by decide +kernel
theorem dX7_arrive_253 : decode cX7_arrive 253 = .ok (.imul, 1) := by decide +kernel
theorem dX7_arrive_254 : decode cX7_arrive 254 = .ok (.iconst 1, 1) := by decide +kernel
theorem dX7_arrive_255 : decode cX7_arrive 255 = .ok (.iadd, 1) := by decide +kernel
theorem dX7_arrive_256 : decode cX7_arrive 256 = .ok (.dup2, 1) := by decide +kernel
theorem dX7_arrive_257 : decode cX7_arrive 257 = .ok (.iaload, 1) := by decide +kernel
theorem dX7_arrive_258 : decode cX7_arrive 258 = .ok (.iconst 1, 1) := by decide +kernel
theorem dX7_arrive_259 : decode cX7_arrive 259 = .ok (.iadd, 1) := by decide +kernel
theorem dX7_arrive_260 : decode cX7_arrive 260 = .ok (.iastore, 1) := by decide +kernel
theorem dX7_arrive_261 : decode cX7_arrive 261 = .ok (.aload_n 0, 1) := by decide +kernel
theorem dX7_arrive_262 : decode cX7_arrive 262 = .ok (.dup, 1) := by decide +kernel
theorem dX7_arrive_263 : decode cX7_arrive 263 = .ok (.getfield 63, 3) := by decide +kernel
theorem dX7_arrive_266 : decode cX7_arrive 266 = .ok (.iconst 1, 1) := by decide +kernel
theorem dX7_arrive_267 : decode cX7_arrive 267 = .ok (.iadd, 1) := by decide +kernel
theorem dX7_arrive_268 : decode cX7_arrive 268 = .ok (.putfield 63, 3) := by decide +kernel
theorem dX7_arrive_271 : decode cX7_arrive 271 = .ok (.iload 7, 2) := by decide +kernel
theorem dX7_arrive_273 : decode cX7_arrive 273 = .ok (.ireturn, 1) := by decide +kernel
theorem dX7_find_0 : decode cX7_find 0 = .ok (.iconst 0, 1) := by decide +kernel
theorem dX7_find_1 : decode cX7_find 1 = .ok (.istore_n 3, 1) := by decide +kernel
theorem dX7_find_2 : decode cX7_find 2 = .ok (.iload_n 3, 1) := by decide +kernel
theorem dX7_find_3 : decode cX7_find 3 = .ok (.aload_n 0, 1) := by decide +kernel
theorem dX7_find_4 : decode cX7_find 4 = .ok (.getfield 63, 3) := by decide +kernel
theorem dX7_find_7 : decode cX7_find 7 = .ok (.if_icmp .ge 39, 3) := by decide +kernel
theorem dX7_find_10 : decode cX7_find 10 = .ok (.aload_n 0, 1) := by decide +kernel
theorem dX7_find_11 : decode cX7_find 11 = .ok (.iload_n 3, 1) := by decide +kernel
theorem dX7_find_12 : decode cX7_find 12 = .ok (.iconst 0, 1) := by decide +kernel
theorem dX7_find_13 : decode cX7_find 13 = .ok (.invokevirtual 160, 3) := by decide +kernel
theorem dX7_find_16 : decode cX7_find 16 = .ok (.iload_n 1, 1) := by decide +kernel
theorem dX7_find_17 : decode cX7_find 17 = .ok (.if_icmp .ne 23, 3) := by decide +kernel
theorem dX7_find_20 : decode cX7_find 20 = .ok (.aload_n 0, 1) := by decide +kernel
theorem dX7_find_21 : decode cX7_find 21 = .ok (.iload_n 3, 1) := by decide +kernel
theorem dX7_find_22 : decode cX7_find 22 = .ok (.iconst 1, 1) := by decide +kernel
theorem dX7_find_23 : decode cX7_find 23 = .ok (.invokevirtual 160, 3) := by decide +kernel
theorem dX7_find_26 : decode cX7_find 26 = .ok (.iload_n 2, 1) := by decide +kernel
theorem dX7_find_27 : decode cX7_find 27 = .ok (.if_icmp .eq 6, 3) := by decide +kernel
theorem dX7_find_30 : decode cX7_find 30 = .ok (.goto 10, 3) := by decide +kernel
theorem dX7_find_33 : decode cX7_find 33 = .ok (.aload_n 0, 1) := by decide +kernel
theorem dX7_find_34 : decode cX7_find 34 = .ok (.iconst 0, 1) := by decide +kernel
theorem dX7_find_35 : decode cX7_find 35 = .ok (.putfield 54, 3) := by decide +kernel
theorem dX7_find_38 : decode cX7_find 38 = .ok (.iload_n 3, 1) := by decide +kernel
theorem dX7_find_39 : decode cX7_find 39 = .ok (.ireturn, 1) := by decide +kernel
theorem dX7_find_40 : decode cX7_find 40 = .ok (.iinc 3 1, 3) := by decide +kernel
theorem dX7_find_43 : decode cX7_find 43 = .ok (.goto (-41), 3) := by decide +kernel
theorem dX7_find_46 : decode cX7_find 46 = .ok (.aload_n 0, 1) := by decide +kernel
theorem dX7_find_47 : decode cX7_find 47 = .ok (.iconst 1, 1) := by decide +kernel
theorem dX7_find_48 : decode cX7_find 48 = .ok (.invokevirtual 79, 3) := by decide +kernel
theorem dX7_find_51 : decode cX7_find 51 = .ok (.ireturn, 1) := by decide +kernel
theorem dX7_parcel_0 : decode cX7_parcel 0 = .ok (.aload_n 0, 1) := by decide +kernel
theorem dX7_parcel_1 : decode cX7_parcel 1 = .ok (.iload_n 1, 1) := by decide +kernel
theorem dX7_parcel_2 : decode cX7_parcel 2 = .ok (.invokevirtual 166, 3) := by decide +kernel
theorem dX7_parcel_5 : decode cX7_parcel 5 = .ok (.ifCond .ne 9, 3) := by decide +kernel
theorem dX7_parcel_8 : decode cX7_parcel 8 = .ok (.aload_n 0, 1) := by decide +kernel
theorem dX7_parcel_9 : decode cX7_parcel 9 = .ok (.iconst 1, 1) := by decide +kernel
theorem dX7_parcel_10 : decode cX7_parcel 10 = .ok (.invokevirtual 79, 3) := by decide +kernel
theorem dX7_parcel_13 : decode cX7_parcel 13 = .ok (.ireturn, 1) := by decide +kernel
theorem dX7_parcel_14 : decode cX7_parcel 14 = .ok (.iload_n 2, 1) := by decide +kernel
theorem dX7_parcel_15 : decode cX7_parcel 15 = .ok (.iconst 0, 1) := by decide +kernel
theorem dX7_parcel_16 : decode cX7_parcel 16 = .ok (.bipush 11, 2) := by decide +kernel
theorem dX7_parcel_18 : decode cX7_parcel 18 = .ok (.invokestatic 75, 3) := by decide +kernel
theorem dX7_parcel_21 : decode cX7_parcel 21 = .ok (.ifCond .ne 9, 3) := by decide +kernel
theorem dX7_parcel_24 : decode cX7_parcel 24 = .ok (.aload_n 0, 1) := by decide +kernel
theorem dX7_parcel_25 : decode cX7_parcel 25 = .ok (.iconst 2, 1) := by decide +kernel
theorem dX7_parcel_26 : decode cX7_parcel 26 = .ok (.invokevirtual 79, 3) := by decide +kernel
theorem dX7_parcel_29 : decode cX7_parcel 29 = .ok (.ireturn, 1) := by decide +kernel
theorem dX7_parcel_30 : decode cX7_parcel 30 = .ok (.aload_n 0, 1) := by decide +kernel
theorem dX7_parcel_31 : decode cX7_parcel 31 = .ok (.iconst 0, 1) := by decide +kernel
theorem dX7_parcel_32 : decode cX7_parcel 32 = .ok (.putfield 54, 3) := by decide +kernel
theorem dX7_parcel_35 : decode cX7_parcel 35 = .ok (.aload_n 0, 1) := by decide +kernel
theorem dX7_parcel_36 : decode cX7_parcel 36 = .ok (.iload_n 1, 1) := by decide +kernel
theorem dX7_parcel_37 : decode cX7_parcel 37 = .ok (.iload_n 2, 1) := by decide +kernel
theorem dX7_parcel_38 : decode cX7_parcel 38 = .ok (.invokevirtual 160, 3) := by decide +kernel
theorem dX7_parcel_41 : decode cX7_parcel 41 = .ok (.ireturn, 1) := by decide +kernel
theorem dX7_carried_0 : decode cX7_carried 0 = .ok (.iload_n 1, 1) := by decide +kernel
theorem dX7_carried_1 : decode cX7_carried 1 = .ok (.iconst 0, 1) := by decide +kernel
theorem dX7_carried_2 : decode cX7_carried 2 = .ok (.aload_n 0, 1) := by decide +kernel
theorem dX7_carried_3 : decode cX7_carried 3 = .ok (.getfield 28, 3) := by decide +kernel
theorem dX7_carried_6 : decode cX7_carried 6 = .ok (.iconst 1, 1) := by decide +kernel
theorem dX7_carried_7 : decode cX7_carried 7 = .ok (.isub, 1) := by decide +kernel
theorem dX7_carried_8 : decode cX7_carried 8 = .ok (.invokestatic 75, 3) := by decide +kernel
theorem dX7_carried_11 : decode cX7_carried 11 = .ok (.ifCond .ne 9, 3) := by decide +kernel
theorem dX7_carried_14 : decode cX7_carried 14 = .ok (.aload_n 0, 1) := by decide +kernel
theorem dX7_carried_15 : decode cX7_carried 15 = .ok (.iconst 1, 1) := by decide +kernel
theorem dX7_carried_16 : decode cX7_carried 16 = .ok (.invokevirtual 79, 3) := by decide +kernel
theorem dX7_carried_19 : decode cX7_carried 19 = .ok (.ireturn, 1) := by decide +kernel
theorem dX7_carried_20 : decode cX7_carried 20 = .ok (.aload_n 0, 1) := by decide +kernel
theorem dX7_carried_21 : decode cX7_carried 21 = .ok (.getfield 7, 3) := by decide +kernel
theorem dX7_carried_24 : decode cX7_carried 24 = .ok (.iload_n 1, 1) := by decide +kernel
theorem dX7_carried_25 : decode cX7_carried 25 = .ok (.iaload, 1) := by decide +kernel
theorem dX7_carried_26 : decode cX7_carried 26 = .ok (.ifCond .ge 9, 3) := by decide +kernel
theorem dX7_carried_29 : decode cX7_carried 29 = .ok (.aload_n 0, 1) := by decide +kernel
theorem dX7_carried_30 : decode cX7_carried 30 = .ok (.iconst 2, 1) := by decide +kernel
theorem dX7_carried_31 : decode cX7_carried 31 = .ok (.invokevirtual 79, 3) := by decide +kernel
theorem dX7_carried_34 : decode cX7_carried 34 = .ok (.ireturn, 1) := by decide +kernel
theorem dX7_carried_35 : decode cX7_carried 35 = .ok (.aload_n 0, 1) := by decide +kernel
theorem dX7_carried_36 : decode cX7_carried 36 = .ok (.iconst 0, 1) := by decide +kernel
theorem dX7_carried_37 : decode cX7_carried 37 = .ok (.putfield 54, 3) := by decide +kernel
theorem dX7_carried_40 : decode cX7_carried 40 = .ok (.aload_n 0, 1) := by decide +kernel
theorem dX7_carried_41 : decode cX7_carried 41 = .ok (.getfield 7, 3) := by decide +kernel
theorem dX7_carried_44 : decode cX7_carried 44 = .ok (.iload_n 1, 1) := by decide +kernel
theorem dX7_carried_45 : decode cX7_carried 45 = .ok (.iaload, 1) := by decide +kernel
theorem dX7_carried_46 : decode cX7_carried 46 = .ok (.ireturn, 1) := by decide +kernel
theorem dX7_isUsable_0 : decode cX7_isUsable 0 = .ok (.aload_n 0, 1) := by decide +kernel
theorem dX7_isUsable_1 : decode cX7_isUsable 1 = .ok (.iload_n 1, 1) := by decide +kernel
theorem dX7_isUsable_2 : decode cX7_isUsable 2 = .ok (.bipush 9, 2) := by decide +kernel
theorem dX7_isUsable_4 : decode cX7_isUsable 4 = .ok (.invokevirtual 90, 3) := by decide +kernel
theorem dX7_isUsable_7 : decode cX7_isUsable 7 = .ok (.ifCond .ne 43, 3) := by decide +kernel
theorem dX7_isUsable_10 : decode cX7_isUsable 10 = .ok (.aload_n 0, 1) := by decide +kernel
theorem dX7_isUsable_11 : decode cX7_isUsable 11 = .ok (.iload_n 1, 1) := by decide +kernel
theorem dX7_isUsable_12 : decode cX7_isUsable 12 = .ok (.bipush 7, 2) := by decide +kernel
theorem dX7_isUsable_14 : decode cX7_isUsable 14 = .ok (.invokevirtual 90, 3) := by decide +kernel
theorem dX7_isUsable_17 : decode cX7_isUsable 17 = .ok (.ifCond .ne 33, 3) := by decide +kernel
theorem dX7_isUsable_20 : decode cX7_isUsable 20 = .ok (.aload_n 0, 1) := by decide +kernel
theorem dX7_isUsable_21 : decode cX7_isUsable 21 = .ok (.iload_n 1, 1) := by decide +kernel
theorem dX7_isUsable_22 : decode cX7_isUsable 22 = .ok (.bipush 8, 2) := by decide +kernel
theorem dX7_isUsable_24 : decode cX7_isUsable 24 = .ok (.invokevirtual 90, 3) := by decide +kernel
theorem dX7_isUsable_27 : decode cX7_isUsable 27 = .ok (.ifCond .ne 23, 3) := by decide +kernel
theorem dX7_isUsable_30 : decode cX7_isUsable 30 = .ok (.aload_n 0, 1) := by decide +kernel
theorem dX7_isUsable_31 : decode cX7_isUsable 31 = .ok (.iload_n 1, 1) := by decide +kernel
theorem dX7_isUsable_32 : decode cX7_isUsable 32 = .ok (.bipush 6, 2) := by decide +kernel
theorem dX7_isUsable_34 : decode cX7_isUsable 34 = .ok (.invokevirtual 90, 3) := by decide +kernel
theorem dX7_isUsable_37 : decode cX7_isUsable 37 = .ok (.aload_n 0, 1) := by decide +kernel
theorem dX7_isUsable_38 : decode cX7_isUsable 38 = .ok (.iload_n 1, 1) := by decide +kernel
theorem dX7_isUsable_39 : decode cX7_isUsable 39 = .ok (.iconst 1, 1) := by decide +kernel
theorem dX7_isUsable_40 : decode cX7_isUsable 40 = .ok (.invokevirtual 90, 3) := by decide +kernel
theorem dX7_isUsable_43 : decode cX7_isUsable 43 = .ok (.if_icmp .ge 7, 3) := by decide +kernel
theorem dX7_isUsable_46 : decode cX7_isUsable 46 = .ok (.iconst 1, 1) := by decide +kernel
theorem dX7_isUsable_47 : decode cX7_isUsable 47 = .ok (.goto 4, 3) := by decide +kernel
theorem dX7_isUsable_50 : decode cX7_isUsable 50 = .ok (.iconst 0, 1) := by decide +kernel
theorem dX7_isUsable_51 : decode cX7_isUsable 51 = .ok (.ireturn, 1) := by decide +kernel
theorem dX7_canGo_0 : decode cX7_canGo 0 = .ok (.aload_n 0, 1) := by decide +kernel
theorem dX7_canGo_1 : decode cX7_canGo 1 = .ok (.iload_n 2, 1) := by decide +kernel
theorem dX7_canGo_2 : decode cX7_canGo 2 = .ok (.invokevirtual 169, 3) := by decide +kernel
theorem dX7_canGo_5 : decode cX7_canGo 5 = .ok (.ifCond .eq 21, 3) := by decide +kernel
theorem dX7_canGo_8 : decode cX7_canGo 8 = .ok (.aload_n 0, 1) := by decide +kernel
theorem dX7_canGo_9 : decode cX7_canGo 9 = .ok (.iload_n 1, 1) := by decide +kernel
theorem dX7_canGo_10 : decode cX7_canGo 10 = .ok (.bipush 11, 2) := by decide +kernel
theorem dX7_canGo_12 : decode cX7_canGo 12 = .ok (.invokevirtual 160, 3) := by decide +kernel
theorem dX7_canGo_15 : decode cX7_canGo 15 = .ok (.iload_n 2, 1) := by decide +kernel
theorem dX7_canGo_16 : decode cX7_canGo 16 = .ok (.invokestatic 172, 3) := by decide +kernel
theorem dX7_canGo_19 : decode cX7_canGo 19 = .ok (.ifCond .ne 7, 3) := by decide +kernel
theorem dX7_canGo_22 : decode cX7_canGo 22 = .ok (.iconst 1, 1) := by decide +kernel
theorem dX7_canGo_23 : decode cX7_canGo 23 = .ok (.goto 4, 3) := by decide +kernel
theorem dX7_canGo_26 : decode cX7_canGo 26 = .ok (.iconst 0, 1) := by decide +kernel
theorem dX7_canGo_27 : decode cX7_canGo 27 = .ok (.ireturn, 1) := by decide +kernel
theorem dX7_waitsLess_0 : decode cX7_waitsLess 0 = .ok (.aload_n 0, 1) := by decide +kernel
theorem dX7_waitsLess_1 : decode cX7_waitsLess 1 = .ok (.iload_n 1, 1) := by decide +kernel
theorem dX7_waitsLess_2 : decode cX7_waitsLess 2 = .ok (.bipush 7, 2) := by decide +kernel
theorem dX7_waitsLess_4 : decode cX7_waitsLess 4 = .ok (.invokevirtual 90, 3) := by decide +kernel
theorem dX7_waitsLess_7 : decode cX7_waitsLess 7 = .ok (.ifCond .le 11, 3) := by decide +kernel
theorem dX7_waitsLess_10 : decode cX7_waitsLess 10 = .ok (.aload_n 0, 1) := by decide +kernel
theorem dX7_waitsLess_11 : decode cX7_waitsLess 11 = .ok (.iload_n 1, 1) := by decide +kernel
theorem dX7_waitsLess_12 : decode cX7_waitsLess 12 = .ok (.bipush 7, 2) := by decide +kernel
theorem dX7_waitsLess_14 : decode cX7_waitsLess 14 = .ok (.iconst (-1), 1) := by decide +kernel
theorem dX7_waitsLess_15 : decode cX7_waitsLess 15 = .ok (.invokevirtual 176, 3) := by decide +kernel
theorem dX7_waitsLess_18 : decode cX7_waitsLess 18 = .ok (.aload_n 0, 1) := by decide +kernel
theorem dX7_waitsLess_19 : decode cX7_waitsLess 19 = .ok (.iload_n 1, 1) := by decide +kernel
theorem dX7_waitsLess_20 : decode cX7_waitsLess 20 = .ok (.bipush 8, 2) := by decide +kernel
theorem dX7_waitsLess_22 : decode cX7_waitsLess 22 = .ok (.invokevirtual 90, 3) := by decide +kernel
theorem dX7_waitsLess_25 : decode cX7_waitsLess 25 = .ok (.ifCond .ne 4, 3) := by decide +kernel
theorem dX7_waitsLess_28 : decode cX7_waitsLess 28 = .ok (.return_, 1) := by decide +kernel
theorem dX7_waitsLess_29 : decode cX7_waitsLess 29 = .ok (.aload_n 0, 1) := by decide +kernel
theorem dX7_waitsLess_30 : decode cX7_waitsLess 30 = .ok (.iload_n 1, 1) := by decide +kernel
theorem dX7_waitsLess_31 : decode cX7_waitsLess 31 = .ok (.bipush 8, 2) := by decide +kernel
theorem dX7_waitsLess_33 : decode cX7_waitsLess 33 = .ok (.iconst (-1), 1) := by decide +kernel
theorem dX7_waitsLess_34 : decode cX7_waitsLess 34 = .ok (.invokevirtual 176, 3) := by decide +kernel
theorem dX7_waitsLess_37 : decode cX7_waitsLess 37 = .ok (.aload_n 0, 1) := by decide +kernel
theorem dX7_waitsLess_38 : decode cX7_waitsLess 38 = .ok (.iload_n 1, 1) := by decide +kernel
theorem dX7_waitsLess_39 : decode cX7_waitsLess 39 = .ok (.bipush 8, 2) := by decide +kernel
theorem dX7_waitsLess_41 : decode cX7_waitsLess 41 = .ok (.invokevirtual 90, 3) := by decide +kernel
theorem dX7_waitsLess_44 : decode cX7_waitsLess 44 = .ok (.ifCond .ne 11, 3) := by decide +kernel
theorem dX7_waitsLess_47 : decode cX7_waitsLess 47 = .ok (.aload_n 0, 1) := by decide +kernel
theorem dX7_waitsLess_48 : decode cX7_waitsLess 48 = .ok (.iload_n 1, 1) := by decide +kernel
theorem dX7_waitsLess_49 : decode cX7_waitsLess 49 = .ok (.bipush 6, 2) := by decide +kernel
theorem dX7_waitsLess_51 : decode cX7_waitsLess 51 = .ok (.iconst 0, 1) := by decide +kernel
theorem dX7_waitsLess_52 : decode cX7_waitsLess 52 = .ok (.invokevirtual 100, 3) := by decide +kernel
theorem dX7_waitsLess_55 : decode cX7_waitsLess 55 = .ok (.return_, 1) := by decide +kernel
theorem dX7_turns_0 : decode cX7_turns 0 = .ok (.aload_n 0, 1) := by decide +kernel
theorem dX7_turns_1 : decode cX7_turns 1 = .ok (.getfield 7, 3) := by decide +kernel
theorem dX7_turns_4 : decode cX7_turns 4 = .ok (.aload_n 0, 1) := by decide +kernel
theorem dX7_turns_5 : decode cX7_turns 5 = .ok (.getfield 28, 3) := by decide +kernel
theorem dX7_turns_8 : decode cX7_turns 8 = .ok (.iconst 1, 1) := by decide +kernel
theorem dX7_turns_9 : decode cX7_turns 9 = .ok (.isub, 1) := by decide +kernel
theorem dX7_turns_10 : decode cX7_turns 10 = .ok (.iaload, 1) := by decide +kernel
theorem dX7_turns_11 : decode cX7_turns 11 = .ok (.istore_n 1, 1) := by decide +kernel
theorem dX7_turns_12 : decode cX7_turns 12 = .ok (.aload_n 0, 1) := by decide +kernel
theorem dX7_turns_13 : decode cX7_turns 13 = .ok (.getfield 28, 3) := by decide +kernel
theorem dX7_turns_16 : decode cX7_turns 16 = .ok (.iconst 1, 1) := by decide +kernel
theorem dX7_turns_17 : decode cX7_turns 17 = .ok (.isub, 1) := by decide +kernel
theorem dX7_turns_18 : decode cX7_turns 18 = .ok (.istore_n 2, 1) := by decide +kernel
theorem dX7_turns_19 : decode cX7_turns 19 = .ok (.iload_n 2, 1) := by decide +kernel
theorem dX7_turns_20 : decode cX7_turns 20 = .ok (.ifCond .le 23, 3) := by decide +kernel
theorem dX7_turns_23 : decode cX7_turns 23 = .ok (.aload_n 0, 1) := by decide +kernel
theorem dX7_turns_24 : decode cX7_turns 24 = .ok (.getfield 7, 3) := by decide +kernel
theorem dX7_turns_27 : decode cX7_turns 27 = .ok (.iload_n 2, 1) := by decide +kernel
theorem dX7_turns_28 : decode cX7_turns 28 = .ok (.aload_n 0, 1) := by decide +kernel
theorem dX7_turns_29 : decode cX7_turns 29 = .ok (.getfield 7, 3) := by decide +kernel
theorem dX7_turns_32 : decode cX7_turns 32 = .ok (.iload_n 2, 1) := by decide +kernel
theorem dX7_turns_33 : decode cX7_turns 33 = .ok (.iconst 1, 1) := by decide +kernel
theorem dX7_turns_34 : decode cX7_turns 34 = .ok (.isub, 1) := by decide +kernel
theorem dX7_turns_35 : decode cX7_turns 35 = .ok (.iaload, 1) := by decide +kernel
theorem dX7_turns_36 : decode cX7_turns 36 = .ok (.iastore, 1) := by decide +kernel
theorem dX7_turns_37 : decode cX7_turns 37 = .ok (.iinc 2 (-1), 3) := by decide +kernel
theorem dX7_turns_40 : decode cX7_turns 40 = .ok (.goto (-21), 3) := by decide +kernel
theorem dX7_turns_43 : decode cX7_turns 43 = .ok (.aload_n 0, 1) := by decide +kernel
theorem dX7_turns_44 : decode cX7_turns 44 = .ok (.getfield 7, 3) := by decide +kernel
theorem dX7_turns_47 : decode cX7_turns 47 = .ok (.iconst 0, 1) := by decide +kernel
theorem dX7_turns_48 : decode cX7_turns 48 = .ok (.iload_n 1, 1) := by decide +kernel
theorem dX7_turns_49 : decode cX7_turns 49 = .ok (.iastore, 1) := by decide +kernel
theorem dX7_turns_50 : decode cX7_turns 50 = .ok (.iconst 0, 1) := by decide +kernel
theorem dX7_turns_51 : decode cX7_turns 51 = .ok (.istore_n 2, 1) := by decide +kernel
theorem dX7_turns_52 : decode cX7_turns 52 = .ok (.iload_n 2, 1) := by decide +kernel
theorem dX7_turns_53 : decode cX7_turns 53 = .ok (.aload_n 0, 1) := by decide +kernel
theorem dX7_turns_54 : decode cX7_turns 54 = .ok (.getfield 28, 3) := by decide +kernel
theorem dX7_turns_57 : decode cX7_turns 57 = .ok (.if_icmp .ge 30, 3) := by decide +kernel
theorem dX7_turns_60 : decode cX7_turns 60 = .ok (.aload_n 0, 1) := by decide +kernel
theorem dX7_turns_61 : decode cX7_turns 61 = .ok (.getfield 7, 3) := by decide +kernel
theorem dX7_turns_64 : decode cX7_turns 64 = .ok (.iload_n 2, 1) := by decide +kernel
theorem dX7_turns_65 : decode cX7_turns 65 = .ok (.iaload, 1) := by decide +kernel
theorem dX7_turns_66 : decode cX7_turns 66 = .ok (.ifCond .lt 15, 3) := by decide +kernel
theorem dX7_turns_69 : decode cX7_turns 69 = .ok (.aload_n 0, 1) := by decide +kernel
theorem dX7_turns_70 : decode cX7_turns 70 = .ok (.aload_n 0, 1) := by decide +kernel
theorem dX7_turns_71 : decode cX7_turns 71 = .ok (.getfield 7, 3) := by decide +kernel
theorem dX7_turns_74 : decode cX7_turns 74 = .ok (.iload_n 2, 1) := by decide +kernel
theorem dX7_turns_75 : decode cX7_turns 75 = .ok (.iaload, 1) := by decide +kernel
theorem dX7_turns_76 : decode cX7_turns 76 = .ok (.iconst 5, 1) := by decide +kernel
theorem dX7_turns_77 : decode cX7_turns 77 = .ok (.iload_n 2, 1) := by decide +kernel
theorem dX7_turns_78 : decode cX7_turns 78 = .ok (.invokevirtual 163, 3) := by decide +kernel
theorem dX7_turns_81 : decode cX7_turns 81 = .ok (.iinc 2 1, 3) := by decide +kernel
theorem dX7_turns_84 : decode cX7_turns 84 = .ok (.goto (-32), 3) := by decide +kernel
theorem dX7_turns_87 : decode cX7_turns 87 = .ok (.return_, 1) := by decide +kernel
theorem dX7_destinationRead_0 : decode cX7_destinationRead 0 = .ok (.aload_n 0, 1) := by decide +kernel
theorem dX7_destinationRead_1 : decode cX7_destinationRead 1 = .ok (.iload_n 1, 1) := by decide +kernel
theorem dX7_destinationRead_2 : decode cX7_destinationRead 2 = .ok (.iconst 0, 1) := by decide +kernel
theorem dX7_destinationRead_3 : decode cX7_destinationRead 3 = .ok (.invokevirtual 160, 3) := by decide +kernel
theorem dX7_destinationRead_6 : decode cX7_destinationRead 6 = .ok (.istore_n 2, 1) := by decide +kernel
theorem dX7_destinationRead_7 : decode cX7_destinationRead 7 = .ok (.aload_n 0, 1) := by decide +kernel
theorem dX7_destinationRead_8 : decode cX7_destinationRead 8 = .ok (.iload_n 1, 1) := by decide +kernel
theorem dX7_destinationRead_9 : decode cX7_destinationRead 9 = .ok (.iconst 3, 1) := by decide +kernel
theorem dX7_destinationRead_10 : decode cX7_destinationRead 10 = .ok (.invokevirtual 160, 3) := by decide +kernel
theorem dX7_destinationRead_13 : decode cX7_destinationRead 13 = .ok (.iconst 1, 1) := by decide +kernel
theorem dX7_destinationRead_14 : decode cX7_destinationRead 14 = .ok (.if_icmp .ne 18, 3) := by decide +kernel
theorem dX7_destinationRead_17 : decode cX7_destinationRead 17 = .ok (.bipush 10, 2) := by decide +kernel
theorem dX7_destinationRead_19 : decode cX7_destinationRead 19 = .ok (.iload_n 2, 1) := by decide +kernel
theorem dX7_destinationRead_20 : decode cX7_destinationRead 20 = .ok (.bipush 10, 2) := by decide +kernel
theorem dX7_destinationRead_22 : decode cX7_destinationRead 22 = .ok (.irem, 1) := by decide +kernel
theorem dX7_destinationRead_23 : decode cX7_destinationRead 23 = .ok (.imul, 1) := by decide +kernel
theorem dX7_destinationRead_24 : decode cX7_destinationRead 24 = .ok (.iload_n 2, 1) := by decide +kernel
theorem dX7_destinationRead_25 : decode cX7_destinationRead 25 = .ok (.bipush 10, 2) := by decide +kernel
theorem dX7_destinationRead_27 : decode cX7_destinationRead 27 = .ok (.idiv, 1) := by decide +kernel
theorem dX7_destinationRead_28 : decode cX7_destinationRead 28 = .ok (.iadd, 1) := by decide +kernel
theorem dX7_destinationRead_29 : decode cX7_destinationRead 29 = .ok (.goto 4, 3) := by decide +kernel
theorem dX7_destinationRead_32 : decode cX7_destinationRead 32 = .ok (.iload_n 2, 1) := by decide +kernel
theorem dX7_destinationRead_33 : decode cX7_destinationRead 33 = .ok (.ireturn, 1) := by decide +kernel
theorem dX7_aims_0 : decode cX7_aims 0 = .ok (.aload_n 0, 1) := by decide +kernel
theorem dX7_aims_1 : decode cX7_aims 1 = .ok (.iload_n 1, 1) := by decide +kernel
theorem dX7_aims_2 : decode cX7_aims 2 = .ok (.bipush 7, 2) := by decide +kernel
theorem dX7_aims_4 : decode cX7_aims 4 = .ok (.iload_n 2, 1) := by decide +kernel
theorem dX7_aims_5 : decode cX7_aims 5 = .ok (.invokevirtual 163, 3) := by decide +kernel
theorem dX7_aims_8 : decode cX7_aims 8 = .ok (.aload_n 0, 1) := by decide +kernel
theorem dX7_aims_9 : decode cX7_aims 9 = .ok (.iload_n 1, 1) := by decide +kernel
theorem dX7_aims_10 : decode cX7_aims 10 = .ok (.bipush 8, 2) := by decide +kernel
theorem dX7_aims_12 : decode cX7_aims 12 = .ok (.iload_n 3, 1) := by decide +kernel
theorem dX7_aims_13 : decode cX7_aims 13 = .ok (.invokevirtual 163, 3) := by decide +kernel
theorem dX7_aims_16 : decode cX7_aims 16 = .ok (.return_, 1) := by decide +kernel
theorem dX7_excepts_0 : decode cX7_excepts 0 = .ok (.aload_n 0, 1) := by decide +kernel
theorem dX7_excepts_1 : decode cX7_excepts 1 = .ok (.iload_n 2, 1) := by decide +kernel
theorem dX7_excepts_2 : decode cX7_excepts 2 = .ok (.iconst 2, 1) := by decide +kernel
theorem dX7_excepts_3 : decode cX7_excepts 3 = .ok (.invokevirtual 141, 3) := by decide +kernel
theorem dX7_excepts_6 : decode cX7_excepts 6 = .ok (.istore 4, 2) := by decide +kernel
theorem dX7_excepts_8 : decode cX7_excepts 8 = .ok (.aload_n 0, 1) := by decide +kernel
theorem dX7_excepts_9 : decode cX7_excepts 9 = .ok (.iload_n 1, 1) := by decide +kernel
theorem dX7_excepts_10 : decode cX7_excepts 10 = .ok (.iload 4, 2) := by decide +kernel
theorem dX7_excepts_12 : decode cX7_excepts 12 = .ok (.invokevirtual 179, 3) := by decide +kernel
theorem dX7_excepts_15 : decode cX7_excepts 15 = .ok (.ifCond .eq 14, 3) := by decide +kernel
theorem dX7_excepts_18 : decode cX7_excepts 18 = .ok (.aload_n 0, 1) := by decide +kernel
theorem dX7_excepts_19 : decode cX7_excepts 19 = .ok (.iload_n 1, 1) := by decide +kernel
theorem dX7_excepts_20 : decode cX7_excepts 20 = .ok (.iload 4, 2) := by decide +kernel
theorem dX7_excepts_22 : decode cX7_excepts 22 = .ok (.iload_n 3, 1) := by decide +kernel
theorem dX7_excepts_23 : decode cX7_excepts 23 = .ok (.invokevirtual 182, 3) := by decide +kernel
theorem dX7_excepts_26 : decode cX7_excepts 26 = .ok (.goto 13, 3) := by decide +kernel
theorem dX7_excepts_29 : decode cX7_excepts 29 = .ok (.aload_n 0, 1) := by decide +kernel
theorem dX7_excepts_30 : decode cX7_excepts 30 = .ok (.iload_n 1, 1) := by decide +kernel
theorem dX7_excepts_31 : decode cX7_excepts 31 = .ok (.iconst (-1), 1) := by decide +kernel
theorem dX7_excepts_32 : decode cX7_excepts 32 = .ok (.iload_n 3, 1) := by decide +kernel
theorem dX7_excepts_33 : decode cX7_excepts 33 = .ok (.bipush 10, 2) := by decide +kernel
theorem dX7_excepts_35 : decode cX7_excepts 35 = .ok (.iadd, 1) := by decide +kernel
theorem dX7_excepts_36 : decode cX7_excepts 36 = .ok (.invokevirtual 182, 3) := by decide +kernel
theorem dX7_excepts_39 : decode cX7_excepts 39 = .ok (.return_, 1) := by decide +kernel
theorem dX7_scans_0 : decode cX7_scans 0 = .ok (.aload_n 0, 1) := by decide +kernel
theorem dX7_scans_1 : decode cX7_scans 1 = .ok (.getfield 22, 3) := by decide +kernel
theorem dX7_scans_4 : decode cX7_scans 4 = .ok (.bipush 12, 2) := by decide +kernel
theorem dX7_scans_6 : decode cX7_scans 6 = .ok (.iload_n 1, 1) := by decide +kernel
theorem dX7_scans_7 : decode cX7_scans 7 = .ok (.imul, 1) := by decide +kernel
theorem dX7_scans_8 : decode cX7_scans 8 = .ok (.bipush 6, 2) := by decide +kernel
theorem dX7_scans_10 : decode cX7_scans 10 = .ok (.iadd, 1) := by decide +kernel
theorem dX7_scans_11 : decode cX7_scans 11 = .ok (.dup2, 1) := by decide +kernel
theorem dX7_scans_12 : decode cX7_scans 12 = .ok (.iaload, 1) := by decide +kernel
theorem dX7_scans_13 : decode cX7_scans 13 = .ok (.iconst 1, 1) := by decide +kernel
theorem dX7_scans_14 : decode cX7_scans 14 = .ok (.iadd, 1) := by decide +kernel
theorem dX7_scans_15 : decode cX7_scans 15 = .ok (.iastore, 1) := by decide +kernel
theorem dX7_scans_16 : decode cX7_scans 16 = .ok (.aload_n 0, 1) := by decide +kernel
theorem dX7_scans_17 : decode cX7_scans 17 = .ok (.aload_n 0, 1) := by decide +kernel
theorem dX7_scans_18 : decode cX7_scans 18 = .ok (.getfield 72, 3) := by decide +kernel
theorem dX7_scans_21 : decode cX7_scans 21 = .ok (.invokevirtual 154, 3) := by decide +kernel
theorem dX7_scans_24 : decode cX7_scans 24 = .ok (.istore_n 2, 1) := by decide +kernel
theorem dX7_scans_25 : decode cX7_scans 25 = .ok (.iload_n 2, 1) := by decide +kernel
theorem dX7_scans_26 : decode cX7_scans 26 = .ok (.ifCond .ge 11, 3) := by decide +kernel
theorem dX7_scans_29 : decode cX7_scans 29 = .ok (.aload_n 0, 1) := by decide +kernel
theorem dX7_scans_30 : decode cX7_scans 30 = .ok (.iload_n 1, 1) := by decide +kernel
theorem dX7_scans_31 : decode cX7_scans 31 = .ok (.iconst (-1), 1) := by decide +kernel
theorem dX7_scans_32 : decode cX7_scans 32 = .ok (.iconst 5, 1) := by decide +kernel
theorem dX7_scans_33 : decode cX7_scans 33 = .ok (.invokevirtual 182, 3) := by decide +kernel
theorem dX7_scans_36 : decode cX7_scans 36 = .ok (.return_, 1) := by decide +kernel
theorem dX7_scans_37 : decode cX7_scans 37 = .ok (.aload_n 0, 1) := by decide +kernel
theorem dX7_scans_38 : decode cX7_scans 38 = .ok (.iload_n 2, 1) := by decide +kernel
theorem dX7_scans_39 : decode cX7_scans 39 = .ok (.aload_n 0, 1) := by decide +kernel
theorem dX7_scans_40 : decode cX7_scans 40 = .ok (.iload_n 1, 1) := by decide +kernel
theorem dX7_scans_41 : decode cX7_scans 41 = .ok (.invokevirtual 185, 3) := by decide +kernel
theorem dX7_scans_44 : decode cX7_scans 44 = .ok (.invokevirtual 151, 3) := by decide +kernel
theorem dX7_scans_47 : decode cX7_scans 47 = .ok (.istore_n 3, 1) := by decide +kernel
theorem dX7_scans_48 : decode cX7_scans 48 = .ok (.aload_n 0, 1) := by decide +kernel
theorem dX7_scans_49 : decode cX7_scans 49 = .ok (.iload_n 1, 1) := by decide +kernel
theorem dX7_scans_50 : decode cX7_scans 50 = .ok (.iconst 3, 1) := by decide +kernel
theorem dX7_scans_51 : decode cX7_scans 51 = .ok (.invokevirtual 160, 3) := by decide +kernel
theorem dX7_scans_54 : decode cX7_scans 54 = .ok (.iconst 2, 1) := by decide +kernel
theorem dX7_scans_55 : decode cX7_scans 55 = .ok (.if_icmp .ne 7, 3) := by decide +kernel
theorem dX7_scans_58 : decode cX7_scans 58 = .ok (.iconst 2, 1) := by decide +kernel
theorem dX7_scans_59 : decode cX7_scans 59 = .ok (.goto 34, 3) := by decide +kernel
theorem dX7_scans_62 : decode cX7_scans 62 = .ok (.aload_n 0, 1) := by decide +kernel
theorem dX7_scans_63 : decode cX7_scans 63 = .ok (.iload_n 1, 1) := by decide +kernel
theorem dX7_scans_64 : decode cX7_scans 64 = .ok (.bipush 6, 2) := by decide +kernel
theorem dX7_scans_66 : decode cX7_scans 66 = .ok (.invokevirtual 160, 3) := by decide +kernel
theorem dX7_scans_69 : decode cX7_scans 69 = .ok (.iconst 1, 1) := by decide +kernel
theorem dX7_scans_70 : decode cX7_scans 70 = .ok (.isub, 1) := by decide +kernel
theorem dX7_scans_71 : decode cX7_scans 71 = .ok (.aload_n 0, 1) := by decide +kernel
theorem dX7_scans_72 : decode cX7_scans 72 = .ok (.iload_n 2, 1) := by decide +kernel
theorem dX7_scans_73 : decode cX7_scans 73 = .ok (.iconst 3, 1) := by decide +kernel
theorem dX7_scans_74 : decode cX7_scans 74 = .ok (.invokevirtual 141, 3) := by decide +kernel
theorem dX7_scans_77 : decode cX7_scans 77 = .ok (.if_icmp .le 7, 3) := by decide +kernel
theorem dX7_scans_80 : decode cX7_scans 80 = .ok (.iconst 3, 1) := by decide +kernel
theorem dX7_scans_81 : decode cX7_scans 81 = .ok (.goto 12, 3) := by decide +kernel
theorem dX7_scans_84 : decode cX7_scans 84 = .ok (.iload_n 3, 1) := by decide +kernel
theorem dX7_scans_85 : decode cX7_scans 85 = .ok (.ifCond .ge 7, 3) := by decide +kernel
theorem dX7_scans_88 : decode cX7_scans 88 = .ok (.iconst 4, 1) := by decide +kernel
theorem dX7_scans_89 : decode cX7_scans 89 = .ok (.goto 4, 3) := by decide +kernel
theorem dX7_scans_92 : decode cX7_scans 92 = .ok (.iconst 0, 1) := by decide +kernel
theorem dX7_scans_93 : decode cX7_scans 93 = .ok (.istore 4, 2) := by decide +kernel
theorem dX7_scans_95 : decode cX7_scans 95 = .ok (.iload 4, 2) := by decide +kernel
theorem dX7_scans_97 : decode cX7_scans 97 = .ok (.ifCond .le 12, 3) := by decide +kernel
theorem dX7_scans_100 : decode cX7_scans 100 = .ok (.aload_n 0, 1) := by decide +kernel
theorem dX7_scans_101 : decode cX7_scans 101 = .ok (.iload_n 1, 1) := by decide +kernel
theorem dX7_scans_102 : decode cX7_scans 102 = .ok (.iload_n 2, 1) := by decide +kernel
theorem dX7_scans_103 : decode cX7_scans 103 = .ok (.iload 4, 2) := by decide +kernel
theorem dX7_scans_105 : decode cX7_scans 105 = .ok (.invokevirtual 188, 3) := by decide +kernel
theorem dX7_scans_108 : decode cX7_scans 108 = .ok (.return_, 1) := by decide +kernel
theorem dX7_scans_109 : decode cX7_scans 109 = .ok (.aload_n 0, 1) := by decide +kernel
theorem dX7_scans_110 : decode cX7_scans 110 = .ok (.iload_n 1, 1) := by decide +kernel
theorem dX7_scans_111 : decode cX7_scans 111 = .ok (.iconst (-1), 1) := by decide +kernel
theorem dX7_scans_112 : decode cX7_scans 112 = .ok (.bipush 6, 2) := by decide +kernel
theorem dX7_scans_114 : decode cX7_scans 114 = .ok (.invokevirtual 182, 3) := by decide +kernel
theorem dX7_scans_117 : decode cX7_scans 117 = .ok (.aload_n 0, 1) := by decide +kernel
theorem dX7_scans_118 : decode cX7_scans 118 = .ok (.iload_n 2, 1) := by decide +kernel
theorem dX7_scans_119 : decode cX7_scans 119 = .ok (.iload_n 3, 1) := by decide +kernel
theorem dX7_scans_120 : decode cX7_scans 120 = .ok (.iconst 2, 1) := by decide +kernel
theorem dX7_scans_121 : decode cX7_scans 121 = .ok (.invokevirtual 144, 3) := by decide +kernel
theorem dX7_scans_124 : decode cX7_scans 124 = .ok (.iconst 1, 1) := by decide +kernel
theorem dX7_scans_125 : decode cX7_scans 125 = .ok (.isub, 1) := by decide +kernel
theorem dX7_scans_126 : decode cX7_scans 126 = .ok (.istore 5, 2) := by decide +kernel
theorem dX7_scans_128 : decode cX7_scans 128 = .ok (.iload 5, 2) := by decide +kernel
theorem dX7_scans_130 : decode cX7_scans 130 = .ok (.ifCond .lt 48, 3) := by decide +kernel
theorem dX7_scans_133 : decode cX7_scans 133 = .ok (.aload_n 0, 1) := by decide +kernel
theorem dX7_scans_134 : decode cX7_scans 134 = .ok (.iload_n 2, 1) := by decide +kernel
theorem dX7_scans_135 : decode cX7_scans 135 = .ok (.iload_n 3, 1) := by decide +kernel
theorem dX7_scans_136 : decode cX7_scans 136 = .ok (.iconst 3, 1) := by decide +kernel
theorem dX7_scans_137 : decode cX7_scans 137 = .ok (.iload 5, 2) := by decide +kernel
theorem dX7_scans_139 : decode cX7_scans 139 = .ok (.iadd, 1) := by decide +kernel
theorem dX7_scans_140 : decode cX7_scans 140 = .ok (.invokevirtual 144, 3) := by decide +kernel
theorem dX7_scans_143 : decode cX7_scans 143 = .ok (.istore 6, 2) := by decide +kernel
theorem dX7_scans_145 : decode cX7_scans 145 = .ok (.aload_n 0, 1) := by decide +kernel
theorem dX7_scans_146 : decode cX7_scans 146 = .ok (.iload_n 1, 1) := by decide +kernel
theorem dX7_scans_147 : decode cX7_scans 147 = .ok (.iload 6, 2) := by decide +kernel
theorem dX7_scans_149 : decode cX7_scans 149 = .ok (.invokevirtual 179, 3) := by decide +kernel
theorem dX7_scans_152 : decode cX7_scans 152 = .ok (.ifCond .eq 20, 3) := by decide +kernel
theorem dX7_scans_155 : decode cX7_scans 155 = .ok (.aload_n 0, 1) := by decide +kernel
theorem dX7_scans_156 : decode cX7_scans 156 = .ok (.iload_n 1, 1) := by decide +kernel
theorem dX7_scans_157 : decode cX7_scans 157 = .ok (.iload 6, 2) := by decide +kernel
theorem dX7_scans_159 : decode cX7_scans 159 = .ok (.iload 5, 2) := by decide +kernel
theorem dX7_scans_161 : decode cX7_scans 161 = .ok (.ifCond .ne 7, 3) := by decide +kernel
theorem dX7_scans_164 : decode cX7_scans 164 = .ok (.iconst 0, 1) := by decide +kernel
theorem dX7_scans_165 : decode cX7_scans 165 = .ok (.goto 4, 3) := by decide +kernel
theorem dX7_scans_168 : decode cX7_scans 168 = .ok (.iconst 1, 1) := by decide +kernel
theorem dX7_scans_169 : decode cX7_scans 169 = .ok (.invokevirtual 182, 3) := by decide +kernel
theorem dX7_scans_172 : decode cX7_scans 172 = .ok (.iinc 5 (-1), 3) := by decide +kernel
theorem dX7_scans_175 : decode cX7_scans 175 = .ok (.goto (-47), 3) := by decide +kernel
theorem dX7_scans_178 : decode cX7_scans 178 = .ok (.return_, 1) := by decide +kernel
theorem dX7_verdictOf_0 : decode cX7_verdictOf 0 = .ok (.aload_n 0, 1) := by decide +kernel
theorem dX7_verdictOf_1 : decode cX7_verdictOf 1 = .ok (.aload_n 0, 1) := by decide +kernel
theorem dX7_verdictOf_2 : decode cX7_verdictOf 2 = .ok (.getfield 72, 3) := by decide +kernel
theorem dX7_verdictOf_5 : decode cX7_verdictOf 5 = .ok (.invokevirtual 154, 3) := by decide +kernel
theorem dX7_verdictOf_8 : decode cX7_verdictOf 8 = .ok (.istore_n 3, 1) := by decide +kernel
theorem dX7_verdictOf_9 : decode cX7_verdictOf 9 = .ok (.iload_n 3, 1) := by decide +kernel
theorem dX7_verdictOf_10 : decode cX7_verdictOf 10 = .ok (.ifCond .lt 15, 3) := by decide +kernel
theorem dX7_verdictOf_13 : decode cX7_verdictOf 13 = .ok (.aload_n 0, 1) := by decide +kernel
theorem dX7_verdictOf_14 : decode cX7_verdictOf 14 = .ok (.iload_n 3, 1) := by decide +kernel
theorem dX7_verdictOf_15 : decode cX7_verdictOf 15 = .ok (.iconst 2, 1) := by decide +kernel
theorem dX7_verdictOf_16 : decode cX7_verdictOf 16 = .ok (.invokevirtual 141, 3) := by decide +kernel
theorem dX7_verdictOf_19 : decode cX7_verdictOf 19 = .ok (.iload_n 2, 1) := by decide +kernel
theorem dX7_verdictOf_20 : decode cX7_verdictOf 20 = .ok (.if_icmp .ne 5, 3) := by decide +kernel
theorem dX7_verdictOf_23 : decode cX7_verdictOf 23 = .ok (.iconst 1, 1) := by decide +kernel
theorem dX7_verdictOf_24 : decode cX7_verdictOf 24 = .ok (.ireturn, 1) := by decide +kernel
theorem dX7_verdictOf_25 : decode cX7_verdictOf 25 = .ok (.iload_n 3, 1) := by decide +kernel
theorem dX7_verdictOf_26 : decode cX7_verdictOf 26 = .ok (.ifCond .ge 7, 3) := by decide +kernel
theorem dX7_verdictOf_29 : decode cX7_verdictOf 29 = .ok (.iconst (-1), 1) := by decide +kernel
theorem dX7_verdictOf_30 : decode cX7_verdictOf 30 = .ok (.goto 14, 3) := by decide +kernel
theorem dX7_verdictOf_33 : decode cX7_verdictOf 33 = .ok (.aload_n 0, 1) := by decide +kernel
theorem dX7_verdictOf_34 : decode cX7_verdictOf 34 = .ok (.iload_n 3, 1) := by decide +kernel
theorem dX7_verdictOf_35 : decode cX7_verdictOf 35 = .ok (.aload_n 0, 1) := by decide +kernel
theorem dX7_verdictOf_36 : decode cX7_verdictOf 36 = .ok (.iload_n 1, 1) := by decide +kernel
theorem dX7_verdictOf_37 : decode cX7_verdictOf 37 = .ok (.iconst 0, 1) := by decide +kernel
theorem dX7_verdictOf_38 : decode cX7_verdictOf 38 = .ok (.invokevirtual 160, 3) := by decide +kernel
theorem dX7_verdictOf_41 : decode cX7_verdictOf 41 = .ok (.invokevirtual 151, 3) := by decide +kernel
theorem dX7_verdictOf_44 : decode cX7_verdictOf 44 = .ok (.istore 4, 2) := by decide +kernel
theorem dX7_verdictOf_46 : decode cX7_verdictOf 46 = .ok (.iconst 0, 1) := by decide +kernel
theorem dX7_verdictOf_47 : decode cX7_verdictOf 47 = .ok (.istore 5, 2) := by decide +kernel
theorem dX7_verdictOf_49 : decode cX7_verdictOf 49 = .ok (.iload 4, 2) := by decide +kernel
theorem dX7_verdictOf_51 : decode cX7_verdictOf 51 = .ok (.ifCond .lt 39, 3) := by decide +kernel
theorem dX7_verdictOf_54 : decode cX7_verdictOf 54 = .ok (.iload 5, 2) := by decide +kernel
theorem dX7_verdictOf_56 : decode cX7_verdictOf 56 = .ok (.aload_n 0, 1) := by decide +kernel
theorem dX7_verdictOf_57 : decode cX7_verdictOf 57 = .ok (.iload_n 3, 1) := by decide +kernel
theorem dX7_verdictOf_58 : decode cX7_verdictOf 58 = .ok (.iload 4, 2) := by decide +kernel
theorem dX7_verdictOf_60 : decode cX7_verdictOf 60 = .ok (.iconst 2, 1) := by decide +kernel
theorem dX7_verdictOf_61 : decode cX7_verdictOf 61 = .ok (.invokevirtual 144, 3) := by decide +kernel
theorem dX7_verdictOf_64 : decode cX7_verdictOf 64 = .ok (.if_icmp .ge 26, 3) := by decide +kernel
theorem dX7_verdictOf_67 : decode cX7_verdictOf 67 = .ok (.aload_n 0, 1) := by decide +kernel
theorem dX7_verdictOf_68 : decode cX7_verdictOf 68 = .ok (.iload_n 3, 1) := by decide +kernel
theorem dX7_verdictOf_69 : decode cX7_verdictOf 69 = .ok (.iload 4, 2) := by decide +kernel
theorem dX7_verdictOf_71 : decode cX7_verdictOf 71 = .ok (.iconst 3, 1) := by decide +kernel
theorem dX7_verdictOf_72 : decode cX7_verdictOf 72 = .ok (.iload 5, 2) := by decide +kernel
theorem dX7_verdictOf_74 : decode cX7_verdictOf 74 = .ok (.iadd, 1) := by decide +kernel
theorem dX7_verdictOf_75 : decode cX7_verdictOf 75 = .ok (.invokevirtual 144, 3) := by decide +kernel
theorem dX7_verdictOf_78 : decode cX7_verdictOf 78 = .ok (.iload_n 2, 1) := by decide +kernel
theorem dX7_verdictOf_79 : decode cX7_verdictOf 79 = .ok (.if_icmp .ne 5, 3) := by decide +kernel
theorem dX7_verdictOf_82 : decode cX7_verdictOf 82 = .ok (.iconst 0, 1) := by decide +kernel
theorem dX7_verdictOf_83 : decode cX7_verdictOf 83 = .ok (.ireturn, 1) := by decide +kernel
theorem dX7_verdictOf_84 : decode cX7_verdictOf 84 = .ok (.iinc 5 1, 3) := by decide +kernel
theorem dX7_verdictOf_87 : decode cX7_verdictOf 87 = .ok (.goto (-38), 3) := by decide +kernel
theorem dX7_verdictOf_90 : decode cX7_verdictOf 90 = .ok (.aload_n 0, 1) := by decide +kernel
theorem dX7_verdictOf_91 : decode cX7_verdictOf 91 = .ok (.iload_n 1, 1) := by decide +kernel
theorem dX7_verdictOf_92 : decode cX7_verdictOf 92 = .ok (.iconst 3, 1) := by decide +kernel
theorem dX7_verdictOf_93 : decode cX7_verdictOf 93 = .ok (.invokevirtual 160, 3) := by decide +kernel
theorem dX7_verdictOf_96 : decode cX7_verdictOf 96 = .ok (.iconst 1, 1) := by decide +kernel
theorem dX7_verdictOf_97 : decode cX7_verdictOf 97 = .ok (.if_icmp .ne 7, 3) := by decide +kernel
theorem dX7_verdictOf_100 : decode cX7_verdictOf 100 = .ok (.iconst 2, 1) := by decide +kernel
theorem dX7_verdictOf_101 : decode cX7_verdictOf 101 = .ok (.goto 4, 3) := by decide +kernel
theorem dX7_verdictOf_104 : decode cX7_verdictOf 104 = .ok (.iconst 3, 1) := by decide +kernel
theorem dX7_verdictOf_105 : decode cX7_verdictOf 105 = .ok (.ireturn, 1) := by decide +kernel
theorem dX7_drops_0 : decode cX7_drops 0 = .ok (.aload_n 0, 1) := by decide +kernel
theorem dX7_drops_1 : decode cX7_drops 1 = .ok (.getfield 7, 3) := by decide +kernel
theorem dX7_drops_4 : decode cX7_drops 4 = .ok (.aload_n 0, 1) := by decide +kernel
theorem dX7_drops_5 : decode cX7_drops 5 = .ok (.iload_n 1, 1) := by decide +kernel
theorem dX7_drops_6 : decode cX7_drops 6 = .ok (.iconst 5, 1) := by decide +kernel
theorem dX7_drops_7 : decode cX7_drops 7 = .ok (.invokevirtual 160, 3) := by decide +kernel
theorem dX7_drops_10 : decode cX7_drops 10 = .ok (.iconst (-1), 1) := by decide +kernel
theorem dX7_drops_11 : decode cX7_drops 11 = .ok (.iastore, 1) := by decide +kernel
theorem dX7_drops_12 : decode cX7_drops 12 = .ok (.aload_n 0, 1) := by decide +kernel
theorem dX7_drops_13 : decode cX7_drops 13 = .ok (.iload_n 1, 1) := by decide +kernel
theorem dX7_drops_14 : decode cX7_drops 14 = .ok (.bipush 10, 2) := by decide +kernel
theorem dX7_drops_16 : decode cX7_drops 16 = .ok (.aload_n 0, 1) := by decide +kernel
theorem dX7_drops_17 : decode cX7_drops 17 = .ok (.iload_n 1, 1) := by decide +kernel
theorem dX7_drops_18 : decode cX7_drops 18 = .ok (.iload_n 2, 1) := by decide +kernel
theorem dX7_drops_19 : decode cX7_drops 19 = .ok (.invokevirtual 191, 3) := by decide +kernel
theorem dX7_drops_22 : decode cX7_drops 22 = .ok (.invokevirtual 163, 3) := by decide +kernel
theorem dX7_drops_25 : decode cX7_drops 25 = .ok (.aload_n 0, 1) := by decide +kernel
theorem dX7_drops_26 : decode cX7_drops 26 = .ok (.iload_n 1, 1) := by decide +kernel
theorem dX7_drops_27 : decode cX7_drops 27 = .ok (.iconst 4, 1) := by decide +kernel
theorem dX7_drops_28 : decode cX7_drops 28 = .ok (.iconst 2, 1) := by decide +kernel
theorem dX7_drops_29 : decode cX7_drops 29 = .ok (.invokevirtual 163, 3) := by decide +kernel
theorem dX7_drops_32 : decode cX7_drops 32 = .ok (.aload_n 0, 1) := by decide +kernel
theorem dX7_drops_33 : decode cX7_drops 33 = .ok (.iload_n 1, 1) := by decide +kernel
theorem dX7_drops_34 : decode cX7_drops 34 = .ok (.iconst 5, 1) := by decide +kernel
theorem dX7_drops_35 : decode cX7_drops 35 = .ok (.iload_n 2, 1) := by decide +kernel
theorem dX7_drops_36 : decode cX7_drops 36 = .ok (.invokevirtual 163, 3) := by decide +kernel
theorem dX7_drops_39 : decode cX7_drops 39 = .ok (.aload_n 0, 1) := by decide +kernel
theorem dX7_drops_40 : decode cX7_drops 40 = .ok (.iload_n 1, 1) := by decide +kernel
theorem dX7_drops_41 : decode cX7_drops 41 = .ok (.bipush 7, 2) := by decide +kernel
theorem dX7_drops_43 : decode cX7_drops 43 = .ok (.iconst (-1), 1) := by decide +kernel
theorem dX7_drops_44 : decode cX7_drops 44 = .ok (.invokevirtual 163, 3) := by decide +kernel
theorem dX7_drops_47 : decode cX7_drops 47 = .ok (.aload_n 0, 1) := by decide +kernel
theorem dX7_drops_48 : decode cX7_drops 48 = .ok (.iload_n 1, 1) := by decide +kernel
theorem dX7_drops_49 : decode cX7_drops 49 = .ok (.bipush 9, 2) := by decide +kernel
theorem dX7_drops_51 : decode cX7_drops 51 = .ok (.aload_n 0, 1) := by decide +kernel
theorem dX7_drops_52 : decode cX7_drops 52 = .ok (.getfield 72, 3) := by decide +kernel
theorem dX7_drops_55 : decode cX7_drops 55 = .ok (.invokevirtual 163, 3) := by decide +kernel
theorem dX7_drops_58 : decode cX7_drops 58 = .ok (.aload_n 0, 1) := by decide +kernel
theorem dX7_drops_59 : decode cX7_drops 59 = .ok (.getfield 25, 3) := by decide +kernel
theorem dX7_drops_62 : decode cX7_drops 62 = .ok (.aload_n 0, 1) := by decide +kernel
theorem dX7_drops_63 : decode cX7_drops 63 = .ok (.getfield 69, 3) := by decide +kernel
theorem dX7_drops_66 : decode cX7_drops 66 = .ok (.iload_n 1, 1) := by decide +kernel
theorem dX7_drops_67 : decode cX7_drops 67 = .ok (.iastore, 1) := by decide +kernel
theorem dX7_drops_68 : decode cX7_drops 68 = .ok (.aload_n 0, 1) := by decide +kernel
theorem dX7_drops_69 : decode cX7_drops 69 = .ok (.dup, 1) := by decide +kernel
theorem dX7_drops_70 : decode cX7_drops 70 = .ok (.getfield 69, 3) := by decide +kernel
theorem dX7_drops_73 : decode cX7_drops 73 = .ok (.iconst 1, 1) := by decide +kernel
theorem dX7_drops_74 : decode cX7_drops 74 = .ok (.iadd, 1) := by decide +kernel
theorem dX7_drops_75 : decode cX7_drops 75 = .ok (.putfield 69, 3) := by decide +kernel
theorem dX7_drops_78 : decode cX7_drops 78 = .ok (.aload_n 0, 1) := by decide +kernel
theorem dX7_drops_79 : decode cX7_drops 79 = .ok (.iload_n 2, 1) := by decide +kernel
theorem dX7_drops_80 : decode cX7_drops 80 = .ok (.bipush 10, 2) := by decide +kernel
theorem dX7_drops_82 : decode cX7_drops 82 = .ok (.aload_n 0, 1) := by decide +kernel
theorem dX7_drops_83 : decode cX7_drops 83 = .ok (.getfield 72, 3) := by decide +kernel
theorem dX7_drops_86 : decode cX7_drops 86 = .ok (.invokevirtual 100, 3) := by decide +kernel
theorem dX7_drops_89 : decode cX7_drops 89 = .ok (.aload_n 0, 1) := by decide +kernel
theorem dX7_drops_90 : decode cX7_drops 90 = .ok (.iload_n 2, 1) := by decide +kernel
theorem dX7_drops_91 : decode cX7_drops 91 = .ok (.bipush 11, 2) := by decide +kernel
theorem dX7_drops_93 : decode cX7_drops 93 = .ok (.iconst 1, 1) := by decide +kernel
theorem dX7_drops_94 : decode cX7_drops 94 = .ok (.invokevirtual 176, 3) := by decide +kernel
theorem dX7_drops_97 : decode cX7_drops 97 = .ok (.aload_n 0, 1) := by decide +kernel
theorem dX7_drops_98 : decode cX7_drops 98 = .ok (.iload_n 2, 1) := by decide +kernel
theorem dX7_drops_99 : decode cX7_drops 99 = .ok (.bipush 6, 2) := by decide +kernel
theorem dX7_drops_101 : decode cX7_drops 101 = .ok (.iconst 1, 1) := by decide +kernel
theorem dX7_drops_102 : decode cX7_drops 102 = .ok (.invokevirtual 176, 3) := by decide +kernel
theorem dX7_drops_105 : decode cX7_drops 105 = .ok (.aload_n 0, 1) := by decide +kernel
theorem dX7_drops_106 : decode cX7_drops 106 = .ok (.iload_n 2, 1) := by decide +kernel
theorem dX7_drops_107 : decode cX7_drops 107 = .ok (.bipush 6, 2) := by decide +kernel
theorem dX7_drops_109 : decode cX7_drops 109 = .ok (.invokevirtual 90, 3) := by decide +kernel
theorem dX7_drops_112 : decode cX7_drops 112 = .ok (.aload_n 0, 1) := by decide +kernel
theorem dX7_drops_113 : decode cX7_drops 113 = .ok (.iload_n 2, 1) := by decide +kernel
theorem dX7_drops_114 : decode cX7_drops 114 = .ok (.iconst 1, 1) := by decide +kernel
theorem dX7_drops_115 : decode cX7_drops 115 = .ok (.invokevirtual 90, 3) := by decide +kernel
theorem dX7_drops_118 : decode cX7_drops 118 = .ok (.if_icmp .ge 4, 3) := by decide +kernel
theorem dX7_drops_121 : decode cX7_drops 121 = .ok (.return_, 1) := by decide +kernel
theorem dX7_drops_122 : decode cX7_drops 122 = .ok (.aload_n 0, 1) := by decide +kernel
theorem dX7_drops_123 : decode cX7_drops 123 = .ok (.iload_n 2, 1) := by decide +kernel
theorem dX7_drops_124 : decode cX7_drops 124 = .ok (.bipush 14, 2) := by decide +kernel
theorem dX7_drops_126 : decode cX7_drops 126 = .ok (.iconst 1, 1) := by decide +kernel
theorem dX7_drops_127 : decode cX7_drops 127 = .ok (.invokevirtual 176, 3) := by decide +kernel
theorem dX7_drops_130 : decode cX7_drops 130 = .ok (.aload_n 0, 1) := by decide +kernel
theorem dX7_drops_131 : decode cX7_drops 131 = .ok (.iload_n 2, 1) := by decide +kernel
theorem dX7_drops_132 : decode cX7_drops 132 = .ok (.bipush 8, 2) := by decide +kernel
theorem dX7_drops_134 : decode cX7_drops 134 = .ok (.aload_n 0, 1) := by decide +kernel
theorem dX7_drops_135 : decode cX7_drops 135 = .ok (.iload_n 2, 1) := by decide +kernel
theorem dX7_drops_136 : decode cX7_drops 136 = .ok (.iconst 5, 1) := by decide +kernel
theorem dX7_drops_137 : decode cX7_drops 137 = .ok (.invokevirtual 90, 3) := by decide +kernel
theorem dX7_drops_140 : decode cX7_drops 140 = .ok (.invokevirtual 100, 3) := by decide +kernel
theorem dX7_drops_143 : decode cX7_drops 143 = .ok (.aload_n 0, 1) := by decide +kernel
theorem dX7_drops_144 : decode cX7_drops 144 = .ok (.iload_n 2, 1) := by decide +kernel
theorem dX7_drops_145 : decode cX7_drops 145 = .ok (.iconst 5, 1) := by decide +kernel
theorem dX7_drops_146 : decode cX7_drops 146 = .ok (.invokevirtual 90, 3) := by decide +kernel
theorem dX7_drops_149 : decode cX7_drops 149 = .ok (.ifCond .ne 11, 3) := by decide +kernel
theorem dX7_drops_152 : decode cX7_drops 152 = .ok (.aload_n 0, 1) := by decide +kernel
theorem dX7_drops_153 : decode cX7_drops 153 = .ok (.iload_n 2, 1) := by decide +kernel
theorem dX7_drops_154 : decode cX7_drops 154 = .ok (.bipush 6, 2) := by decide +kernel
theorem dX7_drops_156 : decode cX7_drops 156 = .ok (.iconst 0, 1) := by decide +kernel
theorem dX7_drops_157 : decode cX7_drops 157 = .ok (.invokevirtual 100, 3) := by decide +kernel
theorem dX7_drops_160 : decode cX7_drops 160 = .ok (.return_, 1) := by decide +kernel
theorem dX7_tries_0 : decode cX7_tries 0 = .ok (.aload_n 0, 1) := by decide +kernel
theorem dX7_tries_1 : decode cX7_tries 1 = .ok (.iload_n 1, 1) := by decide +kernel
theorem dX7_tries_2 : decode cX7_tries 2 = .ok (.iconst 2, 1) := by decide +kernel
theorem dX7_tries_3 : decode cX7_tries 3 = .ok (.invokevirtual 160, 3) := by decide +kernel
theorem dX7_tries_6 : decode cX7_tries 6 = .ok (.aload_n 0, 1) := by decide +kernel
theorem dX7_tries_7 : decode cX7_tries 7 = .ok (.iload_n 2, 1) := by decide +kernel
theorem dX7_tries_8 : decode cX7_tries 8 = .ok (.iconst 3, 1) := by decide +kernel
theorem dX7_tries_9 : decode cX7_tries 9 = .ok (.invokevirtual 90, 3) := by decide +kernel
theorem dX7_tries_12 : decode cX7_tries 12 = .ok (.if_icmp .le 7, 3) := by decide +kernel
theorem dX7_tries_15 : decode cX7_tries 15 = .ok (.iconst 1, 1) := by decide +kernel
theorem dX7_tries_16 : decode cX7_tries 16 = .ok (.goto 4, 3) := by decide +kernel
theorem dX7_tries_19 : decode cX7_tries 19 = .ok (.iconst 0, 1) := by decide +kernel
theorem dX7_tries_20 : decode cX7_tries 20 = .ok (.istore_n 3, 1) := by decide +kernel
theorem dX7_tries_21 : decode cX7_tries 21 = .ok (.aload_n 0, 1) := by decide +kernel
theorem dX7_tries_22 : decode cX7_tries 22 = .ok (.iload_n 2, 1) := by decide +kernel
theorem dX7_tries_23 : decode cX7_tries 23 = .ok (.bipush 10, 2) := by decide +kernel
theorem dX7_tries_25 : decode cX7_tries 25 = .ok (.invokevirtual 90, 3) := by decide +kernel
theorem dX7_tries_28 : decode cX7_tries 28 = .ok (.ifCond .lt 28, 3) := by decide +kernel
theorem dX7_tries_31 : decode cX7_tries 31 = .ok (.aload_n 0, 1) := by decide +kernel
theorem dX7_tries_32 : decode cX7_tries 32 = .ok (.getfield 72, 3) := by decide +kernel
theorem dX7_tries_35 : decode cX7_tries 35 = .ok (.aload_n 0, 1) := by decide +kernel
theorem dX7_tries_36 : decode cX7_tries 36 = .ok (.iload_n 2, 1) := by decide +kernel
theorem dX7_tries_37 : decode cX7_tries 37 = .ok (.bipush 10, 2) := by decide +kernel
theorem dX7_tries_39 : decode cX7_tries 39 = .ok (.invokevirtual 90, 3) := by decide +kernel
theorem dX7_tries_42 : decode cX7_tries 42 = .ok (.isub, 1) := by decide +kernel
theorem dX7_tries_43 : decode cX7_tries 43 = .ok (.aload_n 0, 1) := by decide +kernel
theorem dX7_tries_44 : decode cX7_tries 44 = .ok (.iload_n 2, 1) := by decide +kernel
theorem dX7_tries_45 : decode cX7_tries 45 = .ok (.iconst 2, 1) := by decide +kernel
theorem dX7_tries_46 : decode cX7_tries 46 = .ok (.invokevirtual 90, 3) := by decide +kernel
theorem dX7_tries_49 : decode cX7_tries 49 = .ok (.if_icmp .ge 7, 3) := by decide +kernel
theorem dX7_tries_52 : decode cX7_tries 52 = .ok (.iconst 1, 1) := by decide +kernel
theorem dX7_tries_53 : decode cX7_tries 53 = .ok (.goto 4, 3) := by decide +kernel
theorem dX7_tries_56 : decode cX7_tries 56 = .ok (.iconst 0, 1) := by decide +kernel
theorem dX7_tries_57 : decode cX7_tries 57 = .ok (.istore 4, 2) := by decide +kernel
theorem dX7_tries_59 : decode cX7_tries 59 = .ok (.aload_n 0, 1) := by decide +kernel
theorem dX7_tries_60 : decode cX7_tries 60 = .ok (.iload_n 2, 1) := by decide +kernel
theorem dX7_tries_61 : decode cX7_tries 61 = .ok (.invokevirtual 169, 3) := by decide +kernel
theorem dX7_tries_64 : decode cX7_tries 64 = .ok (.ifCond .eq 19, 3) := by decide +kernel
theorem dX7_tries_67 : decode cX7_tries 67 = .ok (.iload_n 3, 1) := by decide +kernel
theorem dX7_tries_68 : decode cX7_tries 68 = .ok (.ifCond .ne 15, 3) := by decide +kernel
theorem dX7_tries_71 : decode cX7_tries 71 = .ok (.iload 4, 2) := by decide +kernel
theorem dX7_tries_73 : decode cX7_tries 73 = .ok (.ifCond .ne 10, 3) := by decide +kernel
theorem dX7_tries_76 : decode cX7_tries 76 = .ok (.aload_n 0, 1) := by decide +kernel
theorem dX7_tries_77 : decode cX7_tries 77 = .ok (.iload_n 1, 1) := by decide +kernel
theorem dX7_tries_78 : decode cX7_tries 78 = .ok (.iload_n 2, 1) := by decide +kernel
theorem dX7_tries_79 : decode cX7_tries 79 = .ok (.invokevirtual 194, 3) := by decide +kernel
theorem dX7_tries_82 : decode cX7_tries 82 = .ok (.return_, 1) := by decide +kernel
theorem dX7_tries_83 : decode cX7_tries 83 = .ok (.aload_n 0, 1) := by decide +kernel
theorem dX7_tries_84 : decode cX7_tries 84 = .ok (.iload_n 1, 1) := by decide +kernel
theorem dX7_tries_85 : decode cX7_tries 85 = .ok (.bipush 7, 2) := by decide +kernel
theorem dX7_tries_87 : decode cX7_tries 87 = .ok (.iconst (-1), 1) := by decide +kernel
theorem dX7_tries_88 : decode cX7_tries 88 = .ok (.invokevirtual 163, 3) := by decide +kernel
theorem dX7_tries_91 : decode cX7_tries 91 = .ok (.aload_n 0, 1) := by decide +kernel
theorem dX7_tries_92 : decode cX7_tries 92 = .ok (.iload_n 2, 1) := by decide +kernel
theorem dX7_tries_93 : decode cX7_tries 93 = .ok (.invokevirtual 169, 3) := by decide +kernel
theorem dX7_tries_96 : decode cX7_tries 96 = .ok (.ifCond .ne 12, 3) := by decide +kernel
theorem dX7_tries_99 : decode cX7_tries 99 = .ok (.aload_n 0, 1) := by decide +kernel
theorem dX7_tries_100 : decode cX7_tries 100 = .ok (.iload_n 2, 1) := by decide +kernel
theorem dX7_tries_101 : decode cX7_tries 101 = .ok (.bipush 13, 2) := by decide +kernel
theorem dX7_tries_103 : decode cX7_tries 103 = .ok (.iconst 1, 1) := by decide +kernel
theorem dX7_tries_104 : decode cX7_tries 104 = .ok (.invokevirtual 176, 3) := by decide +kernel
theorem dX7_tries_107 : decode cX7_tries 107 = .ok (.return_, 1) := by decide +kernel
theorem dX7_tries_108 : decode cX7_tries 108 = .ok (.iload_n 3, 1) := by decide +kernel
theorem dX7_tries_109 : decode cX7_tries 109 = .ok (.ifCond .eq 21, 3) := by decide +kernel
theorem dX7_tries_112 : decode cX7_tries 112 = .ok (.aload_n 0, 1) := by decide +kernel
theorem dX7_tries_113 : decode cX7_tries 113 = .ok (.iload_n 1, 1) := by decide +kernel
theorem dX7_tries_114 : decode cX7_tries 114 = .ok (.bipush 11, 2) := by decide +kernel
theorem dX7_tries_116 : decode cX7_tries 116 = .ok (.aload_n 0, 1) := by decide +kernel
theorem dX7_tries_117 : decode cX7_tries 117 = .ok (.iload_n 1, 1) := by decide +kernel
theorem dX7_tries_118 : decode cX7_tries 118 = .ok (.bipush 11, 2) := by decide +kernel
theorem dX7_tries_120 : decode cX7_tries 120 = .ok (.invokevirtual 160, 3) := by decide +kernel
theorem dX7_tries_123 : decode cX7_tries 123 = .ok (.iconst 1, 1) := by decide +kernel
theorem dX7_tries_124 : decode cX7_tries 124 = .ok (.iload_n 2, 1) := by decide +kernel
theorem dX7_tries_125 : decode cX7_tries 125 = .ok (.ishl, 1) := by decide +kernel
theorem dX7_tries_126 : decode cX7_tries 126 = .ok (.ior, 1) := by decide +kernel
theorem dX7_tries_127 : decode cX7_tries 127 = .ok (.invokevirtual 163, 3) := by decide +kernel
theorem dX7_tries_130 : decode cX7_tries 130 = .ok (.aload_n 0, 1) := by decide +kernel
theorem dX7_tries_131 : decode cX7_tries 131 = .ok (.iload_n 2, 1) := by decide +kernel
theorem dX7_tries_132 : decode cX7_tries 132 = .ok (.bipush 7, 2) := by decide +kernel
theorem dX7_tries_134 : decode cX7_tries 134 = .ok (.aload_n 0, 1) := by decide +kernel
theorem dX7_tries_135 : decode cX7_tries 135 = .ok (.iload_n 2, 1) := by decide +kernel
theorem dX7_tries_136 : decode cX7_tries 136 = .ok (.iconst 4, 1) := by decide +kernel
theorem dX7_tries_137 : decode cX7_tries 137 = .ok (.invokevirtual 90, 3) := by decide +kernel
theorem dX7_tries_140 : decode cX7_tries 140 = .ok (.invokevirtual 100, 3) := by decide +kernel
theorem dX7_tries_143 : decode cX7_tries 143 = .ok (.aload_n 0, 1) := by decide +kernel
theorem dX7_tries_144 : decode cX7_tries 144 = .ok (.iload_n 2, 1) := by decide +kernel
theorem dX7_tries_145 : decode cX7_tries 145 = .ok (.bipush 12, 2) := by decide +kernel
theorem dX7_tries_147 : decode cX7_tries 147 = .ok (.iconst 1, 1) := by decide +kernel
theorem dX7_tries_148 : decode cX7_tries 148 = .ok (.invokevirtual 176, 3) := by decide +kernel
theorem dX7_tries_151 : decode cX7_tries 151 = .ok (.return_, 1) := by decide +kernel
theorem dX7_sends_0 : decode cX7_sends 0 = .ok (.aload_n 0, 1) := by decide +kernel
theorem dX7_sends_1 : decode cX7_sends 1 = .ok (.iload_n 1, 1) := by decide +kernel
theorem dX7_sends_2 : decode cX7_sends 2 = .ok (.iconst 0, 1) := by decide +kernel
theorem dX7_sends_3 : decode cX7_sends 3 = .ok (.invokevirtual 86, 3) := by decide +kernel
theorem dX7_sends_6 : decode cX7_sends 6 = .ok (.istore_n 2, 1) := by decide +kernel
theorem dX7_sends_7 : decode cX7_sends 7 = .ok (.aload_n 0, 1) := by decide +kernel
theorem dX7_sends_8 : decode cX7_sends 8 = .ok (.iload_n 1, 1) := by decide +kernel
theorem dX7_sends_9 : decode cX7_sends 9 = .ok (.iconst 1, 1) := by decide +kernel
theorem dX7_sends_10 : decode cX7_sends 10 = .ok (.invokevirtual 86, 3) := by decide +kernel
theorem dX7_sends_13 : decode cX7_sends 13 = .ok (.istore_n 3, 1) := by decide +kernel
theorem dX7_sends_14 : decode cX7_sends 14 = .ok (.aload_n 0, 1) := by decide +kernel
theorem dX7_sends_15 : decode cX7_sends 15 = .ok (.getfield 7, 3) := by decide +kernel
theorem dX7_sends_18 : decode cX7_sends 18 = .ok (.iload_n 2, 1) := by decide +kernel
theorem dX7_sends_19 : decode cX7_sends 19 = .ok (.iaload, 1) := by decide +kernel
theorem dX7_sends_20 : decode cX7_sends 20 = .ok (.ifCond .ge 7, 3) := by decide +kernel
theorem dX7_sends_23 : decode cX7_sends 23 = .ok (.iload_n 3, 1) := by decide +kernel
theorem dX7_sends_24 : decode cX7_sends 24 = .ok (.ifCond .ne 4, 3) := by decide +kernel
theorem dX7_sends_27 : decode cX7_sends 27 = .ok (.return_, 1) := by decide +kernel
theorem dX7_sends_28 : decode cX7_sends 28 = .ok (.aload_n 0, 1) := by decide +kernel
theorem dX7_sends_29 : decode cX7_sends 29 = .ok (.iload_n 1, 1) := by decide +kernel
theorem dX7_sends_30 : decode cX7_sends 30 = .ok (.iconst 3, 1) := by decide +kernel
theorem dX7_sends_31 : decode cX7_sends 31 = .ok (.invokevirtual 86, 3) := by decide +kernel
theorem dX7_sends_34 : decode cX7_sends 34 = .ok (.istore 4, 2) := by decide +kernel
theorem dX7_sends_36 : decode cX7_sends 36 = .ok (.iconst 3, 1) := by decide +kernel
theorem dX7_sends_37 : decode cX7_sends 37 = .ok (.istore 5, 2) := by decide +kernel
theorem dX7_sends_39 : decode cX7_sends 39 = .ok (.iload 5, 2) := by decide +kernel
theorem dX7_sends_41 : decode cX7_sends 41 = .ok (.iconst 2, 1) := by decide +kernel
theorem dX7_sends_42 : decode cX7_sends 42 = .ok (.iload_n 3, 1) := by decide +kernel
theorem dX7_sends_43 : decode cX7_sends 43 = .ok (.iadd, 1) := by decide +kernel
theorem dX7_sends_44 : decode cX7_sends 44 = .ok (.if_icmp .ge 35, 3) := by decide +kernel
theorem dX7_sends_47 : decode cX7_sends 47 = .ok (.aload_n 0, 1) := by decide +kernel
theorem dX7_sends_48 : decode cX7_sends 48 = .ok (.getfield 13, 3) := by decide +kernel
theorem dX7_sends_51 : decode cX7_sends 51 = .ok (.bipush 13, 2) := by decide +kernel
theorem dX7_sends_53 : decode cX7_sends 53 = .ok (.iload_n 1, 1) := by decide +kernel
theorem dX7_sends_54 : decode cX7_sends 54 = .ok (.imul, 1) := by decide +kernel
theorem dX7_sends_55 : decode cX7_sends 55 = .ok (.iload 5, 2) := by decide +kernel
theorem dX7_sends_57 : decode cX7_sends 57 = .ok (.iadd, 1) := by decide +kernel
theorem dX7_sends_58 : decode cX7_sends 58 = .ok (.aload_n 0, 1) := by decide +kernel
theorem dX7_sends_59 : decode cX7_sends 59 = .ok (.getfield 13, 3) := by decide +kernel
theorem dX7_sends_62 : decode cX7_sends 62 = .ok (.bipush 13, 2) := by decide +kernel
theorem dX7_sends_64 : decode cX7_sends 64 = .ok (.iload_n 1, 1) := by decide +kernel
theorem dX7_sends_65 : decode cX7_sends 65 = .ok (.imul, 1) := by decide +kernel
theorem dX7_sends_66 : decode cX7_sends 66 = .ok (.iload 5, 2) := by decide +kernel
theorem dX7_sends_68 : decode cX7_sends 68 = .ok (.iadd, 1) := by decide +kernel
theorem dX7_sends_69 : decode cX7_sends 69 = .ok (.iconst 1, 1) := by decide +kernel
theorem dX7_sends_70 : decode cX7_sends 70 = .ok (.iadd, 1) := by decide +kernel
theorem dX7_sends_71 : decode cX7_sends 71 = .ok (.iaload, 1) := by decide +kernel
theorem dX7_sends_72 : decode cX7_sends 72 = .ok (.iastore, 1) := by decide +kernel
theorem dX7_sends_73 : decode cX7_sends 73 = .ok (.iinc 5 1, 3) := by decide +kernel
theorem dX7_sends_76 : decode cX7_sends 76 = .ok (.goto (-37), 3) := by decide +kernel
theorem dX7_sends_79 : decode cX7_sends 79 = .ok (.aload_n 0, 1) := by decide +kernel
theorem dX7_sends_80 : decode cX7_sends 80 = .ok (.getfield 13, 3) := by decide +kernel
theorem dX7_sends_83 : decode cX7_sends 83 = .ok (.bipush 13, 2) := by decide +kernel
theorem dX7_sends_85 : decode cX7_sends 85 = .ok (.iload_n 1, 1) := by decide +kernel
theorem dX7_sends_86 : decode cX7_sends 86 = .ok (.imul, 1) := by decide +kernel
theorem dX7_sends_87 : decode cX7_sends 87 = .ok (.iconst 1, 1) := by decide +kernel
theorem dX7_sends_88 : decode cX7_sends 88 = .ok (.iadd, 1) := by decide +kernel
theorem dX7_sends_89 : decode cX7_sends 89 = .ok (.dup2, 1) := by decide +kernel
theorem dX7_sends_90 : decode cX7_sends 90 = .ok (.iaload, 1) := by decide +kernel
theorem dX7_sends_91 : decode cX7_sends 91 = .ok (.iconst 1, 1) := by decide +kernel
theorem dX7_sends_92 : decode cX7_sends 92 = .ok (.isub, 1) := by decide +kernel
theorem dX7_sends_93 : decode cX7_sends 93 = .ok (.iastore, 1) := by decide +kernel
theorem dX7_sends_94 : decode cX7_sends 94 = .ok (.aload_n 0, 1) := by decide +kernel
theorem dX7_sends_95 : decode cX7_sends 95 = .ok (.getfield 13, 3) := by decide +kernel
theorem dX7_sends_98 : decode cX7_sends 98 = .ok (.bipush 13, 2) := by decide +kernel
theorem dX7_sends_100 : decode cX7_sends 100 = .ok (.iload_n 1, 1) := by decide +kernel
theorem dX7_sends_101 : decode cX7_sends 101 = .ok (.imul, 1) := by decide +kernel
theorem dX7_sends_102 : decode cX7_sends 102 = .ok (.iconst 2, 1) := by decide +kernel
theorem dX7_sends_103 : decode cX7_sends 103 = .ok (.iadd, 1) := by decide +kernel
theorem dX7_sends_104 : decode cX7_sends 104 = .ok (.dup2, 1) := by decide +kernel
theorem dX7_sends_105 : decode cX7_sends 105 = .ok (.iaload, 1) := by decide +kernel
theorem dX7_sends_106 : decode cX7_sends 106 = .ok (.iconst 1, 1) := by decide +kernel
theorem dX7_sends_107 : decode cX7_sends 107 = .ok (.iadd, 1) := by decide +kernel
theorem dX7_sends_108 : decode cX7_sends 108 = .ok (.iastore, 1) := by decide +kernel
theorem dX7_sends_109 : decode cX7_sends 109 = .ok (.aload_n 0, 1) := by decide +kernel
theorem dX7_sends_110 : decode cX7_sends 110 = .ok (.getfield 7, 3) := by decide +kernel
theorem dX7_sends_113 : decode cX7_sends 113 = .ok (.iload_n 2, 1) := by decide +kernel
theorem dX7_sends_114 : decode cX7_sends 114 = .ok (.iload 4, 2) := by decide +kernel
theorem dX7_sends_116 : decode cX7_sends 116 = .ok (.iastore, 1) := by decide +kernel
theorem dX7_sends_117 : decode cX7_sends 117 = .ok (.aload_n 0, 1) := by decide +kernel
theorem dX7_sends_118 : decode cX7_sends 118 = .ok (.iload 4, 2) := by decide +kernel
theorem dX7_sends_120 : decode cX7_sends 120 = .ok (.iconst 4, 1) := by decide +kernel
theorem dX7_sends_121 : decode cX7_sends 121 = .ok (.iconst 1, 1) := by decide +kernel
theorem dX7_sends_122 : decode cX7_sends 122 = .ok (.invokevirtual 163, 3) := by decide +kernel
theorem dX7_sends_125 : decode cX7_sends 125 = .ok (.aload_n 0, 1) := by decide +kernel
theorem dX7_sends_126 : decode cX7_sends 126 = .ok (.iload 4, 2) := by decide +kernel
theorem dX7_sends_128 : decode cX7_sends 128 = .ok (.iconst 5, 1) := by decide +kernel
theorem dX7_sends_129 : decode cX7_sends 129 = .ok (.iload_n 2, 1) := by decide +kernel
theorem dX7_sends_130 : decode cX7_sends 130 = .ok (.invokevirtual 163, 3) := by decide +kernel
theorem dX7_sends_133 : decode cX7_sends 133 = .ok (.return_, 1) := by decide +kernel
theorem dX7_ticks_0 : decode cX7_ticks 0 = .ok (.aload_n 0, 1) := by decide +kernel
theorem dX7_ticks_1 : decode cX7_ticks 1 = .ok (.dup, 1) := by decide +kernel
theorem dX7_ticks_2 : decode cX7_ticks 2 = .ok (.getfield 72, 3) := by decide +kernel
theorem dX7_ticks_5 : decode cX7_ticks 5 = .ok (.iconst 1, 1) := by decide +kernel
theorem dX7_ticks_6 : decode cX7_ticks 6 = .ok (.iadd, 1) := by decide +kernel
theorem dX7_ticks_7 : decode cX7_ticks 7 = .ok (.putfield 72, 3) := by decide +kernel
theorem dX7_ticks_10 : decode cX7_ticks 10 = .ok (.iconst 0, 1) := by decide +kernel
theorem dX7_ticks_11 : decode cX7_ticks 11 = .ok (.istore_n 1, 1) := by decide +kernel
theorem dX7_ticks_12 : decode cX7_ticks 12 = .ok (.iload_n 1, 1) := by decide +kernel
theorem dX7_ticks_13 : decode cX7_ticks 13 = .ok (.aload_n 0, 1) := by decide +kernel
theorem dX7_ticks_14 : decode cX7_ticks 14 = .ok (.getfield 60, 3) := by decide +kernel
theorem dX7_ticks_17 : decode cX7_ticks 17 = .ok (.if_icmp .ge 14, 3) := by decide +kernel
theorem dX7_ticks_20 : decode cX7_ticks 20 = .ok (.aload_n 0, 1) := by decide +kernel
theorem dX7_ticks_21 : decode cX7_ticks 21 = .ok (.iload_n 1, 1) := by decide +kernel
theorem dX7_ticks_22 : decode cX7_ticks 22 = .ok (.invokevirtual 198, 3) := by decide +kernel
theorem dX7_ticks_25 : decode cX7_ticks 25 = .ok (.iinc 1 1, 3) := by decide +kernel
theorem dX7_ticks_28 : decode cX7_ticks 28 = .ok (.goto (-16), 3) := by decide +kernel
theorem dX7_ticks_31 : decode cX7_ticks 31 = .ok (.aload_n 0, 1) := by decide +kernel
theorem dX7_ticks_32 : decode cX7_ticks 32 = .ok (.invokevirtual 202, 3) := by decide +kernel
theorem dX7_ticks_35 : decode cX7_ticks 35 = .ok (.aload_n 0, 1) := by decide +kernel
theorem dX7_ticks_36 : decode cX7_ticks 36 = .ok (.getfield 7, 3) := by decide +kernel
theorem dX7_ticks_39 : decode cX7_ticks 39 = .ok (.iconst 0, 1) := by decide +kernel
theorem dX7_ticks_40 : decode cX7_ticks 40 = .ok (.iaload, 1) := by decide +kernel
theorem dX7_ticks_41 : decode cX7_ticks 41 = .ok (.ifCond .lt 13, 3) := by decide +kernel
theorem dX7_ticks_44 : decode cX7_ticks 44 = .ok (.aload_n 0, 1) := by decide +kernel
theorem dX7_ticks_45 : decode cX7_ticks 45 = .ok (.aload_n 0, 1) := by decide +kernel
theorem dX7_ticks_46 : decode cX7_ticks 46 = .ok (.getfield 7, 3) := by decide +kernel
theorem dX7_ticks_49 : decode cX7_ticks 49 = .ok (.iconst 0, 1) := by decide +kernel
theorem dX7_ticks_50 : decode cX7_ticks 50 = .ok (.iaload, 1) := by decide +kernel
theorem dX7_ticks_51 : decode cX7_ticks 51 = .ok (.invokevirtual 205, 3) := by decide +kernel
theorem dX7_ticks_54 : decode cX7_ticks 54 = .ok (.iconst 0, 1) := by decide +kernel
theorem dX7_ticks_55 : decode cX7_ticks 55 = .ok (.istore_n 1, 1) := by decide +kernel
theorem dX7_ticks_56 : decode cX7_ticks 56 = .ok (.iload_n 1, 1) := by decide +kernel
theorem dX7_ticks_57 : decode cX7_ticks 57 = .ok (.aload_n 0, 1) := by decide +kernel
theorem dX7_ticks_58 : decode cX7_ticks 58 = .ok (.getfield 60, 3) := by decide +kernel
theorem dX7_ticks_61 : decode cX7_ticks 61 = .ok (.if_icmp .ge 42, 3) := by decide +kernel
theorem dX7_ticks_64 : decode cX7_ticks 64 = .ok (.aload_n 0, 1) := by decide +kernel
theorem dX7_ticks_65 : decode cX7_ticks 65 = .ok (.getfield 7, 3) := by decide +kernel
theorem dX7_ticks_68 : decode cX7_ticks 68 = .ok (.aload_n 0, 1) := by decide +kernel
theorem dX7_ticks_69 : decode cX7_ticks 69 = .ok (.iload_n 1, 1) := by decide +kernel
theorem dX7_ticks_70 : decode cX7_ticks 70 = .ok (.iconst 0, 1) := by decide +kernel
theorem dX7_ticks_71 : decode cX7_ticks 71 = .ok (.invokevirtual 90, 3) := by decide +kernel
theorem dX7_ticks_74 : decode cX7_ticks 74 = .ok (.iaload, 1) := by decide +kernel
theorem dX7_ticks_75 : decode cX7_ticks 75 = .ok (.istore_n 2, 1) := by decide +kernel
theorem dX7_ticks_76 : decode cX7_ticks 76 = .ok (.iload_n 2, 1) := by decide +kernel
theorem dX7_ticks_77 : decode cX7_ticks 77 = .ok (.ifCond .lt 20, 3) := by decide +kernel
theorem dX7_ticks_80 : decode cX7_ticks 80 = .ok (.aload_n 0, 1) := by decide +kernel
theorem dX7_ticks_81 : decode cX7_ticks 81 = .ok (.iload_n 2, 1) := by decide +kernel
theorem dX7_ticks_82 : decode cX7_ticks 82 = .ok (.bipush 7, 2) := by decide +kernel
theorem dX7_ticks_84 : decode cX7_ticks 84 = .ok (.invokevirtual 160, 3) := by decide +kernel
theorem dX7_ticks_87 : decode cX7_ticks 87 = .ok (.iload_n 1, 1) := by decide +kernel
theorem dX7_ticks_88 : decode cX7_ticks 88 = .ok (.if_icmp .ne 9, 3) := by decide +kernel
theorem dX7_ticks_91 : decode cX7_ticks 91 = .ok (.aload_n 0, 1) := by decide +kernel
theorem dX7_ticks_92 : decode cX7_ticks 92 = .ok (.iload_n 2, 1) := by decide +kernel
theorem dX7_ticks_93 : decode cX7_ticks 93 = .ok (.iload_n 1, 1) := by decide +kernel
theorem dX7_ticks_94 : decode cX7_ticks 94 = .ok (.invokevirtual 208, 3) := by decide +kernel
theorem dX7_ticks_97 : decode cX7_ticks 97 = .ok (.iinc 1 1, 3) := by decide +kernel
theorem dX7_ticks_100 : decode cX7_ticks 100 = .ok (.goto (-44), 3) := by decide +kernel
theorem dX7_ticks_103 : decode cX7_ticks 103 = .ok (.iconst 0, 1) := by decide +kernel
theorem dX7_ticks_104 : decode cX7_ticks 104 = .ok (.istore_n 1, 1) := by decide +kernel
theorem dX7_ticks_105 : decode cX7_ticks 105 = .ok (.iload_n 1, 1) := by decide +kernel
theorem dX7_ticks_106 : decode cX7_ticks 106 = .ok (.aload_n 0, 1) := by decide +kernel
theorem dX7_ticks_107 : decode cX7_ticks 107 = .ok (.getfield 57, 3) := by decide +kernel
theorem dX7_ticks_110 : decode cX7_ticks 110 = .ok (.if_icmp .ge 14, 3) := by decide +kernel
theorem dX7_ticks_113 : decode cX7_ticks 113 = .ok (.aload_n 0, 1) := by decide +kernel
theorem dX7_ticks_114 : decode cX7_ticks 114 = .ok (.iload_n 1, 1) := by decide +kernel
theorem dX7_ticks_115 : decode cX7_ticks 115 = .ok (.invokevirtual 211, 3) := by decide +kernel
theorem dX7_ticks_118 : decode cX7_ticks 118 = .ok (.iinc 1 1, 3) := by decide +kernel
theorem dX7_ticks_121 : decode cX7_ticks 121 = .ok (.goto (-16), 3) := by decide +kernel
theorem dX7_ticks_124 : decode cX7_ticks 124 = .ok (.return_, 1) := by decide +kernel
theorem dX7_run_0 : decode cX7_run 0 = .ok (.iload_n 1, 1) := by decide +kernel
theorem dX7_run_1 : decode cX7_run 1 = .ok (.iconst 1, 1) := by decide +kernel
theorem dX7_run_2 : decode cX7_run 2 = .ok (.bipush 100, 2) := by decide +kernel
theorem dX7_run_4 : decode cX7_run 4 = .ok (.invokestatic 75, 3) := by decide +kernel
theorem dX7_run_7 : decode cX7_run 7 = .ok (.ifCond .ne 9, 3) := by decide +kernel
theorem dX7_run_10 : decode cX7_run 10 = .ok (.aload_n 0, 1) := by decide +kernel
theorem dX7_run_11 : decode cX7_run 11 = .ok (.iconst 1, 1) := by decide +kernel
theorem dX7_run_12 : decode cX7_run 12 = .ok (.invokevirtual 79, 3) := by decide +kernel
theorem dX7_run_15 : decode cX7_run 15 = .ok (.ireturn, 1) := by decide +kernel
theorem dX7_run_16 : decode cX7_run 16 = .ok (.aload_n 0, 1) := by decide +kernel
theorem dX7_run_17 : decode cX7_run 17 = .ok (.iconst 0, 1) := by decide +kernel
theorem dX7_run_18 : decode cX7_run 18 = .ok (.putfield 54, 3) := by decide +kernel
theorem dX7_run_21 : decode cX7_run 21 = .ok (.aload_n 0, 1) := by decide +kernel
theorem dX7_run_22 : decode cX7_run 22 = .ok (.invokevirtual 97, 3) := by decide +kernel
theorem dX7_run_25 : decode cX7_run 25 = .ok (.aload_n 0, 1) := by decide +kernel
theorem dX7_run_26 : decode cX7_run 26 = .ok (.getfield 69, 3) := by decide +kernel
theorem dX7_run_29 : decode cX7_run 29 = .ok (.istore_n 2, 1) := by decide +kernel
theorem dX7_run_30 : decode cX7_run 30 = .ok (.iconst 0, 1) := by decide +kernel
theorem dX7_run_31 : decode cX7_run 31 = .ok (.istore_n 3, 1) := by decide +kernel
theorem dX7_run_32 : decode cX7_run 32 = .ok (.iload_n 3, 1) := by decide +kernel
theorem dX7_run_33 : decode cX7_run 33 = .ok (.iload_n 1, 1) := by decide +kernel
theorem dX7_run_34 : decode cX7_run 34 = .ok (.if_icmp .ge 13, 3) := by decide +kernel
theorem dX7_run_37 : decode cX7_run 37 = .ok (.aload_n 0, 1) := by decide +kernel
theorem dX7_run_38 : decode cX7_run 38 = .ok (.invokevirtual 214, 3) := by decide +kernel
theorem dX7_run_41 : decode cX7_run 41 = .ok (.iinc 3 1, 3) := by decide +kernel
theorem dX7_run_44 : decode cX7_run 44 = .ok (.goto (-12), 3) := by decide +kernel
theorem dX7_run_47 : decode cX7_run 47 = .ok (.aload_n 0, 1) := by decide +kernel
theorem dX7_run_48 : decode cX7_run 48 = .ok (.getfield 69, 3) := by decide +kernel
theorem dX7_run_51 : decode cX7_run 51 = .ok (.iload_n 2, 1) := by decide +kernel
theorem dX7_run_52 : decode cX7_run 52 = .ok (.isub, 1) := by decide +kernel
theorem dX7_run_53 : decode cX7_run 53 = .ok (.ireturn, 1) := by decide +kernel
theorem dX7_setClosed_0 : decode cX7_setClosed 0 = .ok (.aload_n 0, 1) := by decide +kernel
theorem dX7_setClosed_1 : decode cX7_setClosed 1 = .ok (.aload_n 0, 1) := by decide +kernel
theorem dX7_setClosed_2 : decode cX7_setClosed 2 = .ok (.iload_n 1, 1) := by decide +kernel
theorem dX7_setClosed_3 : decode cX7_setClosed 3 = .ok (.invokevirtual 132, 3) := by decide +kernel
theorem dX7_setClosed_6 : decode cX7_setClosed 6 = .ok (.ifCond .eq 7, 3) := by decide +kernel
theorem dX7_setClosed_9 : decode cX7_setClosed 9 = .ok (.iconst 0, 1) := by decide +kernel
theorem dX7_setClosed_10 : decode cX7_setClosed 10 = .ok (.goto 4, 3) := by decide +kernel
theorem dX7_setClosed_13 : decode cX7_setClosed 13 = .ok (.iconst 1, 1) := by decide +kernel
theorem dX7_setClosed_14 : decode cX7_setClosed 14 = .ok (.putfield 54, 3) := by decide +kernel
theorem dX7_setClosed_17 : decode cX7_setClosed 17 = .ok (.aload_n 0, 1) := by decide +kernel
theorem dX7_setClosed_18 : decode cX7_setClosed 18 = .ok (.getfield 54, 3) := by decide +kernel
theorem dX7_setClosed_21 : decode cX7_setClosed 21 = .ok (.ifCond .le 5, 3) := by decide +kernel
theorem dX7_setClosed_24 : decode cX7_setClosed 24 = .ok (.iconst 0, 1) := by decide +kernel
theorem dX7_setClosed_25 : decode cX7_setClosed 25 = .ok (.ireturn, 1) := by decide +kernel
theorem dX7_setClosed_26 : decode cX7_setClosed 26 = .ok (.aload_n 0, 1) := by decide +kernel
theorem dX7_setClosed_27 : decode cX7_setClosed 27 = .ok (.invokevirtual 97, 3) := by decide +kernel
theorem dX7_setClosed_30 : decode cX7_setClosed 30 = .ok (.aload_n 0, 1) := by decide +kernel
theorem dX7_setClosed_31 : decode cX7_setClosed 31 = .ok (.iload_n 1, 1) := by decide +kernel
theorem dX7_setClosed_32 : decode cX7_setClosed 32 = .ok (.bipush 9, 2) := by decide +kernel
theorem dX7_setClosed_34 : decode cX7_setClosed 34 = .ok (.invokevirtual 90, 3) := by decide +kernel
theorem dX7_setClosed_37 : decode cX7_setClosed 37 = .ok (.iconst 1, 1) := by decide +kernel
theorem dX7_setClosed_38 : decode cX7_setClosed 38 = .ok (.if_icmp .ne 7, 3) := by decide +kernel
theorem dX7_setClosed_41 : decode cX7_setClosed 41 = .ok (.iconst 1, 1) := by decide +kernel
theorem dX7_setClosed_42 : decode cX7_setClosed 42 = .ok (.goto 4, 3) := by decide +kernel
theorem dX7_setClosed_45 : decode cX7_setClosed 45 = .ok (.iconst 0, 1) := by decide +kernel
theorem dX7_setClosed_46 : decode cX7_setClosed 46 = .ok (.istore_n 3, 1) := by decide +kernel
theorem dX7_setClosed_47 : decode cX7_setClosed 47 = .ok (.aload_n 0, 1) := by decide +kernel
theorem dX7_setClosed_48 : decode cX7_setClosed 48 = .ok (.iload_n 1, 1) := by decide +kernel
theorem dX7_setClosed_49 : decode cX7_setClosed 49 = .ok (.bipush 9, 2) := by decide +kernel
theorem dX7_setClosed_51 : decode cX7_setClosed 51 = .ok (.iload_n 2, 1) := by decide +kernel
theorem dX7_setClosed_52 : decode cX7_setClosed 52 = .ok (.ifCond .eq 7, 3) := by decide +kernel
theorem dX7_setClosed_55 : decode cX7_setClosed 55 = .ok (.iconst 1, 1) := by decide +kernel
theorem dX7_setClosed_56 : decode cX7_setClosed 56 = .ok (.goto 4, 3) := by decide +kernel
theorem dX7_setClosed_59 : decode cX7_setClosed 59 = .ok (.iconst 0, 1) := by decide +kernel
theorem dX7_setClosed_60 : decode cX7_setClosed 60 = .ok (.invokevirtual 100, 3) := by decide +kernel
theorem dX7_setClosed_63 : decode cX7_setClosed 63 = .ok (.iload_n 3, 1) := by decide +kernel
theorem dX7_setClosed_64 : decode cX7_setClosed 64 = .ok (.ireturn, 1) := by decide +kernel
theorem dX7_clear_0 : decode cX7_clear 0 = .ok (.aload_n 0, 1) := by decide +kernel
theorem dX7_clear_1 : decode cX7_clear 1 = .ok (.iload_n 1, 1) := by decide +kernel
theorem dX7_clear_2 : decode cX7_clear 2 = .ok (.invokevirtual 132, 3) := by decide +kernel
theorem dX7_clear_5 : decode cX7_clear 5 = .ok (.ifCond .ne 9, 3) := by decide +kernel
theorem dX7_clear_8 : decode cX7_clear 8 = .ok (.aload_n 0, 1) := by decide +kernel
theorem dX7_clear_9 : decode cX7_clear 9 = .ok (.iconst 1, 1) := by decide +kernel
theorem dX7_clear_10 : decode cX7_clear 10 = .ok (.invokevirtual 79, 3) := by decide +kernel
theorem dX7_clear_13 : decode cX7_clear 13 = .ok (.ireturn, 1) := by decide +kernel
theorem dX7_clear_14 : decode cX7_clear 14 = .ok (.aload_n 0, 1) := by decide +kernel
theorem dX7_clear_15 : decode cX7_clear 15 = .ok (.iload_n 1, 1) := by decide +kernel
theorem dX7_clear_16 : decode cX7_clear 16 = .ok (.bipush 7, 2) := by decide +kernel
theorem dX7_clear_18 : decode cX7_clear 18 = .ok (.invokevirtual 90, 3) := by decide +kernel
theorem dX7_clear_21 : decode cX7_clear 21 = .ok (.ifCond .ne 9, 3) := by decide +kernel
theorem dX7_clear_24 : decode cX7_clear 24 = .ok (.aload_n 0, 1) := by decide +kernel
theorem dX7_clear_25 : decode cX7_clear 25 = .ok (.iconst 2, 1) := by decide +kernel
theorem dX7_clear_26 : decode cX7_clear 26 = .ok (.invokevirtual 79, 3) := by decide +kernel
theorem dX7_clear_29 : decode cX7_clear 29 = .ok (.ireturn, 1) := by decide +kernel
theorem dX7_clear_30 : decode cX7_clear 30 = .ok (.aload_n 0, 1) := by decide +kernel
theorem dX7_clear_31 : decode cX7_clear 31 = .ok (.iconst 0, 1) := by decide +kernel
theorem dX7_clear_32 : decode cX7_clear 32 = .ok (.putfield 54, 3) := by decide +kernel
theorem dX7_clear_35 : decode cX7_clear 35 = .ok (.aload_n 0, 1) := by decide +kernel
theorem dX7_clear_36 : decode cX7_clear 36 = .ok (.invokevirtual 97, 3) := by decide +kernel
theorem dX7_clear_39 : decode cX7_clear 39 = .ok (.aload_n 0, 1) := by decide +kernel
theorem dX7_clear_40 : decode cX7_clear 40 = .ok (.iload_n 1, 1) := by decide +kernel
theorem dX7_clear_41 : decode cX7_clear 41 = .ok (.bipush 7, 2) := by decide +kernel
theorem dX7_clear_43 : decode cX7_clear 43 = .ok (.invokevirtual 90, 3) := by decide +kernel
theorem dX7_clear_46 : decode cX7_clear 46 = .ok (.istore_n 2, 1) := by decide +kernel
theorem dX7_clear_47 : decode cX7_clear 47 = .ok (.aload_n 0, 1) := by decide +kernel
theorem dX7_clear_48 : decode cX7_clear 48 = .ok (.iload_n 1, 1) := by decide +kernel
theorem dX7_clear_49 : decode cX7_clear 49 = .ok (.bipush 7, 2) := by decide +kernel
theorem dX7_clear_51 : decode cX7_clear 51 = .ok (.iconst 0, 1) := by decide +kernel
theorem dX7_clear_52 : decode cX7_clear 52 = .ok (.invokevirtual 100, 3) := by decide +kernel
theorem dX7_clear_55 : decode cX7_clear 55 = .ok (.iload_n 2, 1) := by decide +kernel
theorem dX7_clear_56 : decode cX7_clear 56 = .ok (.ireturn, 1) := by decide +kernel
theorem dX7_aimedAt_0 : decode cX7_aimedAt 0 = .ok (.iconst 0, 1) := by decide +kernel
theorem dX7_aimedAt_1 : decode cX7_aimedAt 1 = .ok (.istore_n 2, 1) := by decide +kernel
theorem dX7_aimedAt_2 : decode cX7_aimedAt 2 = .ok (.iconst 0, 1) := by decide +kernel
theorem dX7_aimedAt_3 : decode cX7_aimedAt 3 = .ok (.istore_n 3, 1) := by decide +kernel
theorem dX7_aimedAt_4 : decode cX7_aimedAt 4 = .ok (.iload_n 3, 1) := by decide +kernel
theorem dX7_aimedAt_5 : decode cX7_aimedAt 5 = .ok (.aload_n 0, 1) := by decide +kernel
theorem dX7_aimedAt_6 : decode cX7_aimedAt 6 = .ok (.getfield 63, 3) := by decide +kernel
theorem dX7_aimedAt_9 : decode cX7_aimedAt 9 = .ok (.if_icmp .ge 28, 3) := by decide +kernel
theorem dX7_aimedAt_12 : decode cX7_aimedAt 12 = .ok (.iload_n 2, 1) := by decide +kernel
theorem dX7_aimedAt_13 : decode cX7_aimedAt 13 = .ok (.aload_n 0, 1) := by decide +kernel
theorem dX7_aimedAt_14 : decode cX7_aimedAt 14 = .ok (.iload_n 3, 1) := by decide +kernel
theorem dX7_aimedAt_15 : decode cX7_aimedAt 15 = .ok (.bipush 7, 2) := by decide +kernel
theorem dX7_aimedAt_17 : decode cX7_aimedAt 17 = .ok (.invokevirtual 160, 3) := by decide +kernel
theorem dX7_aimedAt_20 : decode cX7_aimedAt 20 = .ok (.iload_n 1, 1) := by decide +kernel
theorem dX7_aimedAt_21 : decode cX7_aimedAt 21 = .ok (.if_icmp .ne 7, 3) := by decide +kernel
theorem dX7_aimedAt_24 : decode cX7_aimedAt 24 = .ok (.iconst 1, 1) := by decide +kernel
theorem dX7_aimedAt_25 : decode cX7_aimedAt 25 = .ok (.goto 4, 3) := by decide +kernel
theorem dX7_aimedAt_28 : decode cX7_aimedAt 28 = .ok (.iconst 0, 1) := by decide +kernel
theorem dX7_aimedAt_29 : decode cX7_aimedAt 29 = .ok (.iadd, 1) := by decide +kernel
theorem dX7_aimedAt_30 : decode cX7_aimedAt 30 = .ok (.istore_n 2, 1) := by decide +kernel
theorem dX7_aimedAt_31 : decode cX7_aimedAt 31 = .ok (.iinc 3 1, 3) := by decide +kernel
theorem dX7_aimedAt_34 : decode cX7_aimedAt 34 = .ok (.goto (-30), 3) := by decide +kernel
theorem dX7_aimedAt_37 : decode cX7_aimedAt 37 = .ok (.iload_n 2, 1) := by decide +kernel
theorem dX7_aimedAt_38 : decode cX7_aimedAt 38 = .ok (.ireturn, 1) := by decide +kernel
theorem dX7_chute_0 : decode cX7_chute 0 = .ok (.aload_n 0, 1) := by decide +kernel
theorem dX7_chute_1 : decode cX7_chute 1 = .ok (.iload_n 1, 1) := by decide +kernel
theorem dX7_chute_2 : decode cX7_chute 2 = .ok (.invokevirtual 132, 3) := by decide +kernel
theorem dX7_chute_5 : decode cX7_chute 5 = .ok (.ifCond .ne 9, 3) := by decide +kernel
theorem dX7_chute_8 : decode cX7_chute 8 = .ok (.aload_n 0, 1) := by decide +kernel
theorem dX7_chute_9 : decode cX7_chute 9 = .ok (.iconst 1, 1) := by decide +kernel
theorem dX7_chute_10 : decode cX7_chute 10 = .ok (.invokevirtual 79, 3) := by decide +kernel
theorem dX7_chute_13 : decode cX7_chute 13 = .ok (.ireturn, 1) := by decide +kernel
theorem dX7_chute_14 : decode cX7_chute 14 = .ok (.iload_n 2, 1) := by decide +kernel
theorem dX7_chute_15 : decode cX7_chute 15 = .ok (.iconst 0, 1) := by decide +kernel
theorem dX7_chute_16 : decode cX7_chute 16 = .ok (.bipush 11, 2) := by decide +kernel
theorem dX7_chute_18 : decode cX7_chute 18 = .ok (.invokestatic 75, 3) := by decide +kernel
theorem dX7_chute_21 : decode cX7_chute 21 = .ok (.ifCond .ne 9, 3) := by decide +kernel
theorem dX7_chute_24 : decode cX7_chute 24 = .ok (.aload_n 0, 1) := by decide +kernel
theorem dX7_chute_25 : decode cX7_chute 25 = .ok (.iconst 2, 1) := by decide +kernel
theorem dX7_chute_26 : decode cX7_chute 26 = .ok (.invokevirtual 79, 3) := by decide +kernel
theorem dX7_chute_29 : decode cX7_chute 29 = .ok (.ireturn, 1) := by decide +kernel
theorem dX7_chute_30 : decode cX7_chute 30 = .ok (.aload_n 0, 1) := by decide +kernel
theorem dX7_chute_31 : decode cX7_chute 31 = .ok (.iconst 0, 1) := by decide +kernel
theorem dX7_chute_32 : decode cX7_chute 32 = .ok (.putfield 54, 3) := by decide +kernel
theorem dX7_chute_35 : decode cX7_chute 35 = .ok (.iload_n 2, 1) := by decide +kernel
theorem dX7_chute_36 : decode cX7_chute 36 = .ok (.tableswitch 123 0 11 #[64, 71, 79, 87, 95, 103, 123, 123, 123, 123, 123, 117], 64) := by decide +kernel
theorem dX7_chute_100 : decode cX7_chute 100 = .ok (.aload_n 0, 1) := by decide +kernel
theorem dX7_chute_101 : decode cX7_chute 101 = .ok (.iload_n 1, 1) := by decide +kernel
theorem dX7_chute_102 : decode cX7_chute 102 = .ok (.iconst 0, 1) := by decide +kernel
theorem dX7_chute_103 : decode cX7_chute 103 = .ok (.invokevirtual 90, 3) := by decide +kernel
theorem dX7_chute_106 : decode cX7_chute 106 = .ok (.ireturn, 1) := by decide +kernel
theorem dX7_chute_107 : decode cX7_chute 107 = .ok (.aload_n 0, 1) := by decide +kernel
theorem dX7_chute_108 : decode cX7_chute 108 = .ok (.iload_n 1, 1) := by decide +kernel
theorem dX7_chute_109 : decode cX7_chute 109 = .ok (.bipush 6, 2) := by decide +kernel
theorem dX7_chute_111 : decode cX7_chute 111 = .ok (.invokevirtual 90, 3) := by decide +kernel
theorem dX7_chute_114 : decode cX7_chute 114 = .ok (.ireturn, 1) := by decide +kernel
theorem dX7_chute_115 : decode cX7_chute 115 = .ok (.aload_n 0, 1) := by decide +kernel
theorem dX7_chute_116 : decode cX7_chute 116 = .ok (.iload_n 1, 1) := by decide +kernel
theorem dX7_chute_117 : decode cX7_chute 117 = .ok (.bipush 7, 2) := by decide +kernel
theorem dX7_chute_119 : decode cX7_chute 119 = .ok (.invokevirtual 90, 3) := by decide +kernel
theorem dX7_chute_122 : decode cX7_chute 122 = .ok (.ireturn, 1) := by decide +kernel
theorem dX7_chute_123 : decode cX7_chute 123 = .ok (.aload_n 0, 1) := by decide +kernel
theorem dX7_chute_124 : decode cX7_chute 124 = .ok (.iload_n 1, 1) := by decide +kernel
theorem dX7_chute_125 : decode cX7_chute 125 = .ok (.bipush 8, 2) := by decide +kernel
theorem dX7_chute_127 : decode cX7_chute 127 = .ok (.invokevirtual 90, 3) := by decide +kernel
theorem dX7_chute_130 : decode cX7_chute 130 = .ok (.ireturn, 1) := by decide +kernel
theorem dX7_chute_131 : decode cX7_chute 131 = .ok (.aload_n 0, 1) := by decide +kernel
theorem dX7_chute_132 : decode cX7_chute 132 = .ok (.iload_n 1, 1) := by decide +kernel
theorem dX7_chute_133 : decode cX7_chute 133 = .ok (.bipush 9, 2) := by decide +kernel
theorem dX7_chute_135 : decode cX7_chute 135 = .ok (.invokevirtual 90, 3) := by decide +kernel
theorem dX7_chute_138 : decode cX7_chute 138 = .ok (.ireturn, 1) := by decide +kernel
theorem dX7_chute_139 : decode cX7_chute 139 = .ok (.aload_n 0, 1) := by decide +kernel
theorem dX7_chute_140 : decode cX7_chute 140 = .ok (.iload_n 1, 1) := by decide +kernel
theorem dX7_chute_141 : decode cX7_chute 141 = .ok (.invokevirtual 169, 3) := by decide +kernel
theorem dX7_chute_144 : decode cX7_chute 144 = .ok (.ifCond .eq 7, 3) := by decide +kernel
theorem dX7_chute_147 : decode cX7_chute 147 = .ok (.iconst 1, 1) := by decide +kernel
theorem dX7_chute_148 : decode cX7_chute 148 = .ok (.goto 4, 3) := by decide +kernel
theorem dX7_chute_151 : decode cX7_chute 151 = .ok (.iconst 0, 1) := by decide +kernel
theorem dX7_chute_152 : decode cX7_chute 152 = .ok (.ireturn, 1) := by decide +kernel
theorem dX7_chute_153 : decode cX7_chute 153 = .ok (.aload_n 0, 1) := by decide +kernel
theorem dX7_chute_154 : decode cX7_chute 154 = .ok (.iload_n 1, 1) := by decide +kernel
theorem dX7_chute_155 : decode cX7_chute 155 = .ok (.invokevirtual 217, 3) := by decide +kernel
theorem dX7_chute_158 : decode cX7_chute 158 = .ok (.ireturn, 1) := by decide +kernel
theorem dX7_chute_159 : decode cX7_chute 159 = .ok (.aload_n 0, 1) := by decide +kernel
theorem dX7_chute_160 : decode cX7_chute 160 = .ok (.iload_n 1, 1) := by decide +kernel
theorem dX7_chute_161 : decode cX7_chute 161 = .ok (.iload_n 2, 1) := by decide +kernel
theorem dX7_chute_162 : decode cX7_chute 162 = .ok (.iconst 4, 1) := by decide +kernel
theorem dX7_chute_163 : decode cX7_chute 163 = .ok (.iadd, 1) := by decide +kernel
theorem dX7_chute_164 : decode cX7_chute 164 = .ok (.invokevirtual 90, 3) := by decide +kernel
theorem dX7_chute_167 : decode cX7_chute 167 = .ok (.ireturn, 1) := by decide +kernel
theorem dX7_station_0 : decode cX7_station 0 = .ok (.aload_n 0, 1) := by decide +kernel
theorem dX7_station_1 : decode cX7_station 1 = .ok (.iload_n 1, 1) := by decide +kernel
theorem dX7_station_2 : decode cX7_station 2 = .ok (.invokevirtual 157, 3) := by decide +kernel
theorem dX7_station_5 : decode cX7_station 5 = .ok (.ifCond .ne 9, 3) := by decide +kernel
theorem dX7_station_8 : decode cX7_station 8 = .ok (.aload_n 0, 1) := by decide +kernel
theorem dX7_station_9 : decode cX7_station 9 = .ok (.iconst 1, 1) := by decide +kernel
theorem dX7_station_10 : decode cX7_station 10 = .ok (.invokevirtual 79, 3) := by decide +kernel
theorem dX7_station_13 : decode cX7_station 13 = .ok (.ireturn, 1) := by decide +kernel
theorem dX7_station_14 : decode cX7_station 14 = .ok (.iload_n 2, 1) := by decide +kernel
theorem dX7_station_15 : decode cX7_station 15 = .ok (.iconst 0, 1) := by decide +kernel
theorem dX7_station_16 : decode cX7_station 16 = .ok (.iconst 3, 1) := by decide +kernel
theorem dX7_station_17 : decode cX7_station 17 = .ok (.invokestatic 75, 3) := by decide +kernel
theorem dX7_station_20 : decode cX7_station 20 = .ok (.ifCond .ne 9, 3) := by decide +kernel
theorem dX7_station_23 : decode cX7_station 23 = .ok (.aload_n 0, 1) := by decide +kernel
theorem dX7_station_24 : decode cX7_station 24 = .ok (.iconst 2, 1) := by decide +kernel
theorem dX7_station_25 : decode cX7_station 25 = .ok (.invokevirtual 79, 3) := by decide +kernel
theorem dX7_station_28 : decode cX7_station 28 = .ok (.ireturn, 1) := by decide +kernel
theorem dX7_station_29 : decode cX7_station 29 = .ok (.aload_n 0, 1) := by decide +kernel
theorem dX7_station_30 : decode cX7_station 30 = .ok (.iconst 0, 1) := by decide +kernel
theorem dX7_station_31 : decode cX7_station 31 = .ok (.putfield 54, 3) := by decide +kernel
theorem dX7_station_34 : decode cX7_station 34 = .ok (.iload_n 2, 1) := by decide +kernel
theorem dX7_station_35 : decode cX7_station 35 = .ok (.iconst 2, 1) := by decide +kernel
theorem dX7_station_36 : decode cX7_station 36 = .ok (.if_icmp .ne 23, 3) := by decide +kernel
theorem dX7_station_39 : decode cX7_station 39 = .ok (.aload_n 0, 1) := by decide +kernel
theorem dX7_station_40 : decode cX7_station 40 = .ok (.iload_n 1, 1) := by decide +kernel
theorem dX7_station_41 : decode cX7_station 41 = .ok (.iconst 1, 1) := by decide +kernel
theorem dX7_station_42 : decode cX7_station 42 = .ok (.invokevirtual 86, 3) := by decide +kernel
theorem dX7_station_45 : decode cX7_station 45 = .ok (.ifCond .ne 7, 3) := by decide +kernel
theorem dX7_station_48 : decode cX7_station 48 = .ok (.iconst (-1), 1) := by decide +kernel
theorem dX7_station_49 : decode cX7_station 49 = .ok (.goto 9, 3) := by decide +kernel
theorem dX7_station_52 : decode cX7_station 52 = .ok (.aload_n 0, 1) := by decide +kernel
theorem dX7_station_53 : decode cX7_station 53 = .ok (.iload_n 1, 1) := by decide +kernel
theorem dX7_station_54 : decode cX7_station 54 = .ok (.iconst 3, 1) := by decide +kernel
theorem dX7_station_55 : decode cX7_station 55 = .ok (.invokevirtual 86, 3) := by decide +kernel
theorem dX7_station_58 : decode cX7_station 58 = .ok (.ireturn, 1) := by decide +kernel
theorem dX7_station_59 : decode cX7_station 59 = .ok (.aload_n 0, 1) := by decide +kernel
theorem dX7_station_60 : decode cX7_station 60 = .ok (.iload_n 1, 1) := by decide +kernel
theorem dX7_station_61 : decode cX7_station 61 = .ok (.iload_n 2, 1) := by decide +kernel
theorem dX7_station_62 : decode cX7_station 62 = .ok (.iconst 3, 1) := by decide +kernel
theorem dX7_station_63 : decode cX7_station 63 = .ok (.if_icmp .ne 7, 3) := by decide +kernel
theorem dX7_station_66 : decode cX7_station 66 = .ok (.iconst 2, 1) := by decide +kernel
theorem dX7_station_67 : decode cX7_station 67 = .ok (.goto 4, 3) := by decide +kernel
theorem dX7_station_70 : decode cX7_station 70 = .ok (.iload_n 2, 1) := by decide +kernel
theorem dX7_station_71 : decode cX7_station 71 = .ok (.invokevirtual 86, 3) := by decide +kernel
theorem dX7_station_74 : decode cX7_station 74 = .ok (.ireturn, 1) := by decide +kernel
theorem dX7_rounds_0 : decode cX7_rounds 0 = .ok (.aload_n 0, 1) := by decide +kernel
theorem dX7_rounds_1 : decode cX7_rounds 1 = .ok (.iload_n 1, 1) := by decide +kernel
theorem dX7_rounds_2 : decode cX7_rounds 2 = .ok (.bipush 6, 2) := by decide +kernel
theorem dX7_rounds_4 : decode cX7_rounds 4 = .ok (.invokevirtual 160, 3) := by decide +kernel
theorem dX7_rounds_7 : decode cX7_rounds 7 = .ok (.ifCond .ne 7, 3) := by decide +kernel
theorem dX7_rounds_10 : decode cX7_rounds 10 = .ok (.iconst 0, 1) := by decide +kernel
theorem dX7_rounds_11 : decode cX7_rounds 11 = .ok (.goto 12, 3) := by decide +kernel
theorem dX7_rounds_14 : decode cX7_rounds 14 = .ok (.aload_n 0, 1) := by decide +kernel
theorem dX7_rounds_15 : decode cX7_rounds 15 = .ok (.iload_n 1, 1) := by decide +kernel
theorem dX7_rounds_16 : decode cX7_rounds 16 = .ok (.bipush 6, 2) := by decide +kernel
theorem dX7_rounds_18 : decode cX7_rounds 18 = .ok (.invokevirtual 160, 3) := by decide +kernel
theorem dX7_rounds_21 : decode cX7_rounds 21 = .ok (.iconst 1, 1) := by decide +kernel
theorem dX7_rounds_22 : decode cX7_rounds 22 = .ok (.isub, 1) := by decide +kernel
theorem dX7_rounds_23 : decode cX7_rounds 23 = .ok (.ireturn, 1) := by decide +kernel
theorem dX7_parcelsWith_0 : decode cX7_parcelsWith 0 = .ok (.iconst 0, 1) := by decide +kernel
theorem dX7_parcelsWith_1 : decode cX7_parcelsWith 1 = .ok (.istore_n 3, 1) := by decide +kernel
theorem dX7_parcelsWith_2 : decode cX7_parcelsWith 2 = .ok (.iconst 0, 1) := by decide +kernel
theorem dX7_parcelsWith_3 : decode cX7_parcelsWith 3 = .ok (.istore 4, 2) := by decide +kernel
theorem dX7_parcelsWith_5 : decode cX7_parcelsWith 5 = .ok (.iload 4, 2) := by decide +kernel
theorem dX7_parcelsWith_7 : decode cX7_parcelsWith 7 = .ok (.aload_n 0, 1) := by decide +kernel
theorem dX7_parcelsWith_8 : decode cX7_parcelsWith 8 = .ok (.getfield 63, 3) := by decide +kernel
theorem dX7_parcelsWith_11 : decode cX7_parcelsWith 11 = .ok (.if_icmp .ge 28, 3) := by decide +kernel
theorem dX7_parcelsWith_14 : decode cX7_parcelsWith 14 = .ok (.iload_n 3, 1) := by decide +kernel
theorem dX7_parcelsWith_15 : decode cX7_parcelsWith 15 = .ok (.aload_n 0, 1) := by decide +kernel
theorem dX7_parcelsWith_16 : decode cX7_parcelsWith 16 = .ok (.iload 4, 2) := by decide +kernel
theorem dX7_parcelsWith_18 : decode cX7_parcelsWith 18 = .ok (.iload_n 1, 1) := by decide +kernel
theorem dX7_parcelsWith_19 : decode cX7_parcelsWith 19 = .ok (.invokevirtual 160, 3) := by decide +kernel
theorem dX7_parcelsWith_22 : decode cX7_parcelsWith 22 = .ok (.iload_n 2, 1) := by decide +kernel
theorem dX7_parcelsWith_23 : decode cX7_parcelsWith 23 = .ok (.if_icmp .ne 7, 3) := by decide +kernel
theorem dX7_parcelsWith_26 : decode cX7_parcelsWith 26 = .ok (.iconst 1, 1) := by decide +kernel
theorem dX7_parcelsWith_27 : decode cX7_parcelsWith 27 = .ok (.goto 4, 3) := by decide +kernel
theorem dX7_parcelsWith_30 : decode cX7_parcelsWith 30 = .ok (.iconst 0, 1) := by decide +kernel
theorem dX7_parcelsWith_31 : decode cX7_parcelsWith 31 = .ok (.iadd, 1) := by decide +kernel
theorem dX7_parcelsWith_32 : decode cX7_parcelsWith 32 = .ok (.istore_n 3, 1) := by decide +kernel
theorem dX7_parcelsWith_33 : decode cX7_parcelsWith 33 = .ok (.iinc 4 1, 3) := by decide +kernel
theorem dX7_parcelsWith_36 : decode cX7_parcelsWith 36 = .ok (.goto (-31), 3) := by decide +kernel
theorem dX7_parcelsWith_39 : decode cX7_parcelsWith 39 = .ok (.iload_n 3, 1) := by decide +kernel
theorem dX7_parcelsWith_40 : decode cX7_parcelsWith 40 = .ok (.ireturn, 1) := by decide +kernel
theorem dX7_sumOfChutes_0 : decode cX7_sumOfChutes 0 = .ok (.iconst 0, 1) := by decide +kernel
theorem dX7_sumOfChutes_1 : decode cX7_sumOfChutes 1 = .ok (.istore_n 2, 1) := by decide +kernel
theorem dX7_sumOfChutes_2 : decode cX7_sumOfChutes 2 = .ok (.iconst 0, 1) := by decide +kernel
theorem dX7_sumOfChutes_3 : decode cX7_sumOfChutes 3 = .ok (.istore_n 3, 1) := by decide +kernel
theorem dX7_sumOfChutes_4 : decode cX7_sumOfChutes 4 = .ok (.iload_n 3, 1) := by decide +kernel
theorem dX7_sumOfChutes_5 : decode cX7_sumOfChutes 5 = .ok (.aload_n 0, 1) := by decide +kernel
theorem dX7_sumOfChutes_6 : decode cX7_sumOfChutes 6 = .ok (.getfield 60, 3) := by decide +kernel
theorem dX7_sumOfChutes_9 : decode cX7_sumOfChutes 9 = .ok (.if_icmp .ge 18, 3) := by decide +kernel
theorem dX7_sumOfChutes_12 : decode cX7_sumOfChutes 12 = .ok (.iload_n 2, 1) := by decide +kernel
theorem dX7_sumOfChutes_13 : decode cX7_sumOfChutes 13 = .ok (.aload_n 0, 1) := by decide +kernel
theorem dX7_sumOfChutes_14 : decode cX7_sumOfChutes 14 = .ok (.iload_n 3, 1) := by decide +kernel
theorem dX7_sumOfChutes_15 : decode cX7_sumOfChutes 15 = .ok (.iload_n 1, 1) := by decide +kernel
theorem dX7_sumOfChutes_16 : decode cX7_sumOfChutes 16 = .ok (.invokevirtual 90, 3) := by decide +kernel
theorem dX7_sumOfChutes_19 : decode cX7_sumOfChutes 19 = .ok (.iadd, 1) := by decide +kernel
theorem dX7_sumOfChutes_20 : decode cX7_sumOfChutes 20 = .ok (.istore_n 2, 1) := by decide +kernel
theorem dX7_sumOfChutes_21 : decode cX7_sumOfChutes 21 = .ok (.iinc 3 1, 3) := by decide +kernel
theorem dX7_sumOfChutes_24 : decode cX7_sumOfChutes 24 = .ok (.goto (-20), 3) := by decide +kernel
theorem dX7_sumOfChutes_27 : decode cX7_sumOfChutes 27 = .ok (.iload_n 2, 1) := by decide +kernel
theorem dX7_sumOfChutes_28 : decode cX7_sumOfChutes 28 = .ok (.ireturn, 1) := by decide +kernel
theorem dX7_roundsOf_0 : decode cX7_roundsOf 0 = .ok (.iconst 0, 1) := by decide +kernel
theorem dX7_roundsOf_1 : decode cX7_roundsOf 1 = .ok (.istore_n 2, 1) := by decide +kernel
theorem dX7_roundsOf_2 : decode cX7_roundsOf 2 = .ok (.iconst 0, 1) := by decide +kernel
theorem dX7_roundsOf_3 : decode cX7_roundsOf 3 = .ok (.istore_n 3, 1) := by decide +kernel
theorem dX7_roundsOf_4 : decode cX7_roundsOf 4 = .ok (.iload_n 3, 1) := by decide +kernel
theorem dX7_roundsOf_5 : decode cX7_roundsOf 5 = .ok (.aload_n 0, 1) := by decide +kernel
theorem dX7_roundsOf_6 : decode cX7_roundsOf 6 = .ok (.getfield 63, 3) := by decide +kernel
theorem dX7_roundsOf_9 : decode cX7_roundsOf 9 = .ok (.if_icmp .ge 42, 3) := by decide +kernel
theorem dX7_roundsOf_12 : decode cX7_roundsOf 12 = .ok (.iload_n 1, 1) := by decide +kernel
theorem dX7_roundsOf_13 : decode cX7_roundsOf 13 = .ok (.ifCond .ne 13, 3) := by decide +kernel
theorem dX7_roundsOf_16 : decode cX7_roundsOf 16 = .ok (.iload_n 2, 1) := by decide +kernel
theorem dX7_roundsOf_17 : decode cX7_roundsOf 17 = .ok (.aload_n 0, 1) := by decide +kernel
theorem dX7_roundsOf_18 : decode cX7_roundsOf 18 = .ok (.iload_n 3, 1) := by decide +kernel
theorem dX7_roundsOf_19 : decode cX7_roundsOf 19 = .ok (.invokevirtual 220, 3) := by decide +kernel
theorem dX7_roundsOf_22 : decode cX7_roundsOf 22 = .ok (.iadd, 1) := by decide +kernel
theorem dX7_roundsOf_23 : decode cX7_roundsOf 23 = .ok (.goto 21, 3) := by decide +kernel
theorem dX7_roundsOf_26 : decode cX7_roundsOf 26 = .ok (.aload_n 0, 1) := by decide +kernel
theorem dX7_roundsOf_27 : decode cX7_roundsOf 27 = .ok (.iload_n 3, 1) := by decide +kernel
theorem dX7_roundsOf_28 : decode cX7_roundsOf 28 = .ok (.invokevirtual 220, 3) := by decide +kernel
theorem dX7_roundsOf_31 : decode cX7_roundsOf 31 = .ok (.iload_n 2, 1) := by decide +kernel
theorem dX7_roundsOf_32 : decode cX7_roundsOf 32 = .ok (.if_icmp .le 11, 3) := by decide +kernel
theorem dX7_roundsOf_35 : decode cX7_roundsOf 35 = .ok (.aload_n 0, 1) := by decide +kernel
theorem dX7_roundsOf_36 : decode cX7_roundsOf 36 = .ok (.iload_n 3, 1) := by decide +kernel
theorem dX7_roundsOf_37 : decode cX7_roundsOf 37 = .ok (.invokevirtual 220, 3) := by decide +kernel
theorem dX7_roundsOf_40 : decode cX7_roundsOf 40 = .ok (.goto 4, 3) := by decide +kernel
theorem dX7_roundsOf_43 : decode cX7_roundsOf 43 = .ok (.iload_n 2, 1) := by decide +kernel
theorem dX7_roundsOf_44 : decode cX7_roundsOf 44 = .ok (.istore_n 2, 1) := by decide +kernel
theorem dX7_roundsOf_45 : decode cX7_roundsOf 45 = .ok (.iinc 3 1, 3) := by decide +kernel
theorem dX7_roundsOf_48 : decode cX7_roundsOf 48 = .ok (.goto (-44), 3) := by decide +kernel
theorem dX7_roundsOf_51 : decode cX7_roundsOf 51 = .ok (.iload_n 2, 1) := by decide +kernel
theorem dX7_roundsOf_52 : decode cX7_roundsOf 52 = .ok (.ireturn, 1) := by decide +kernel
theorem dX7_count_0 : decode cX7_count 0 = .ok (.iload_n 1, 1) := by decide +kernel
theorem dX7_count_1 : decode cX7_count 1 = .ok (.iconst 0, 1) := by decide +kernel
theorem dX7_count_2 : decode cX7_count 2 = .ok (.bipush 16, 2) := by decide +kernel
theorem dX7_count_4 : decode cX7_count 4 = .ok (.invokestatic 75, 3) := by decide +kernel
theorem dX7_count_7 : decode cX7_count 7 = .ok (.ifCond .ne 9, 3) := by decide +kernel
theorem dX7_count_10 : decode cX7_count 10 = .ok (.aload_n 0, 1) := by decide +kernel
theorem dX7_count_11 : decode cX7_count 11 = .ok (.iconst 1, 1) := by decide +kernel
theorem dX7_count_12 : decode cX7_count 12 = .ok (.invokevirtual 79, 3) := by decide +kernel
theorem dX7_count_15 : decode cX7_count 15 = .ok (.ireturn, 1) := by decide +kernel
theorem dX7_count_16 : decode cX7_count 16 = .ok (.aload_n 0, 1) := by decide +kernel
theorem dX7_count_17 : decode cX7_count 17 = .ok (.iconst 0, 1) := by decide +kernel
theorem dX7_count_18 : decode cX7_count 18 = .ok (.putfield 54, 3) := by decide +kernel
theorem dX7_count_21 : decode cX7_count 21 = .ok (.iload_n 1, 1) := by decide +kernel
theorem dX7_count_22 : decode cX7_count 22 = .ok (.tableswitch 152 0 16 #[82, 87, 92, 97, 102, 107, 112, 112, 112, 152, 152, 152, 152, 122, 138, 145, 122], 82) := by decide +kernel
theorem dX7_count_104 : decode cX7_count 104 = .ok (.aload_n 0, 1) := by decide +kernel
theorem dX7_count_105 : decode cX7_count 105 = .ok (.getfield 72, 3) := by decide +kernel
theorem dX7_count_108 : decode cX7_count 108 = .ok (.ireturn, 1) := by decide +kernel
theorem dX7_count_109 : decode cX7_count 109 = .ok (.aload_n 0, 1) := by decide +kernel
theorem dX7_count_110 : decode cX7_count 110 = .ok (.getfield 28, 3) := by decide +kernel
theorem dX7_count_113 : decode cX7_count 113 = .ok (.ireturn, 1) := by decide +kernel
theorem dX7_count_114 : decode cX7_count 114 = .ok (.aload_n 0, 1) := by decide +kernel
theorem dX7_count_115 : decode cX7_count 115 = .ok (.getfield 57, 3) := by decide +kernel
theorem dX7_count_118 : decode cX7_count 118 = .ok (.ireturn, 1) := by decide +kernel
theorem dX7_count_119 : decode cX7_count 119 = .ok (.aload_n 0, 1) := by decide +kernel
theorem dX7_count_120 : decode cX7_count 120 = .ok (.getfield 60, 3) := by decide +kernel
theorem dX7_count_123 : decode cX7_count 123 = .ok (.ireturn, 1) := by decide +kernel
theorem dX7_count_124 : decode cX7_count 124 = .ok (.aload_n 0, 1) := by decide +kernel
theorem dX7_count_125 : decode cX7_count 125 = .ok (.getfield 66, 3) := by decide +kernel
theorem dX7_count_128 : decode cX7_count 128 = .ok (.ireturn, 1) := by decide +kernel
theorem dX7_count_129 : decode cX7_count 129 = .ok (.aload_n 0, 1) := by decide +kernel
theorem dX7_count_130 : decode cX7_count 130 = .ok (.getfield 63, 3) := by decide +kernel
theorem dX7_count_133 : decode cX7_count 133 = .ok (.ireturn, 1) := by decide +kernel
theorem dX7_count_134 : decode cX7_count 134 = .ok (.aload_n 0, 1) := by decide +kernel
theorem dX7_count_135 : decode cX7_count 135 = .ok (.iconst 4, 1) := by decide +kernel
theorem dX7_count_136 : decode cX7_count 136 = .ok (.iload_n 1, 1) := by decide +kernel
theorem dX7_count_137 : decode cX7_count 137 = .ok (.bipush 6, 2) := by decide +kernel
theorem dX7_count_139 : decode cX7_count 139 = .ok (.isub, 1) := by decide +kernel
theorem dX7_count_140 : decode cX7_count 140 = .ok (.invokevirtual 223, 3) := by decide +kernel
theorem dX7_count_143 : decode cX7_count 143 = .ok (.ireturn, 1) := by decide +kernel
theorem dX7_count_144 : decode cX7_count 144 = .ok (.aload_n 0, 1) := by decide +kernel
theorem dX7_count_145 : decode cX7_count 145 = .ok (.iload_n 1, 1) := by decide +kernel
theorem dX7_count_146 : decode cX7_count 146 = .ok (.bipush 16, 2) := by decide +kernel
theorem dX7_count_148 : decode cX7_count 148 = .ok (.if_icmp .ne 7, 3) := by decide +kernel
theorem dX7_count_151 : decode cX7_count 151 = .ok (.iconst 1, 1) := by decide +kernel
theorem dX7_count_152 : decode cX7_count 152 = .ok (.goto 4, 3) := by decide +kernel
theorem dX7_count_155 : decode cX7_count 155 = .ok (.iconst 0, 1) := by decide +kernel
theorem dX7_count_156 : decode cX7_count 156 = .ok (.invokevirtual 226, 3) := by decide +kernel
theorem dX7_count_159 : decode cX7_count 159 = .ok (.ireturn, 1) := by decide +kernel
theorem dX7_count_160 : decode cX7_count 160 = .ok (.aload_n 0, 1) := by decide +kernel
theorem dX7_count_161 : decode cX7_count 161 = .ok (.bipush 12, 2) := by decide +kernel
theorem dX7_count_163 : decode cX7_count 163 = .ok (.invokevirtual 230, 3) := by decide +kernel
theorem dX7_count_166 : decode cX7_count 166 = .ok (.ireturn, 1) := by decide +kernel
theorem dX7_count_167 : decode cX7_count 167 = .ok (.aload_n 0, 1) := by decide +kernel
theorem dX7_count_168 : decode cX7_count 168 = .ok (.bipush 14, 2) := by decide +kernel
theorem dX7_count_170 : decode cX7_count 170 = .ok (.invokevirtual 230, 3) := by decide +kernel
theorem dX7_count_173 : decode cX7_count 173 = .ok (.ireturn, 1) := by decide +kernel
theorem dX7_count_174 : decode cX7_count 174 = .ok (.aload_n 0, 1) := by decide +kernel
theorem dX7_count_175 : decode cX7_count 175 = .ok (.bipush 10, 2) := by decide +kernel
theorem dX7_count_177 : decode cX7_count 177 = .ok (.iload_n 1, 1) := by decide +kernel
theorem dX7_count_178 : decode cX7_count 178 = .ok (.bipush 9, 2) := by decide +kernel
theorem dX7_count_180 : decode cX7_count 180 = .ok (.isub, 1) := by decide +kernel
theorem dX7_count_181 : decode cX7_count 181 = .ok (.invokevirtual 223, 3) := by decide +kernel
theorem dX7_count_184 : decode cX7_count 184 = .ok (.ireturn, 1) := by decide +kernel
theorem dX7_meanRounds_0 : decode cX7_meanRounds 0 = .ok (.aload_n 0, 1) := by decide +kernel
theorem dX7_meanRounds_1 : decode cX7_meanRounds 1 = .ok (.getfield 69, 3) := by decide +kernel
theorem dX7_meanRounds_4 : decode cX7_meanRounds 4 = .ok (.ifCond .ne 10, 3) := by decide +kernel
theorem dX7_meanRounds_7 : decode cX7_meanRounds 7 = .ok (.aload_n 0, 1) := by decide +kernel
theorem dX7_meanRounds_8 : decode cX7_meanRounds 8 = .ok (.iconst 1, 1) := by decide +kernel
theorem dX7_meanRounds_9 : decode cX7_meanRounds 9 = .ok (.invokevirtual 79, 3) := by decide +kernel
theorem dX7_meanRounds_12 : decode cX7_meanRounds 12 = .ok (.i2d, 1) := by decide +kernel
theorem dX7_meanRounds_13 : decode cX7_meanRounds 13 = .ok (.dreturn, 1) := by decide +kernel
theorem dX7_meanRounds_14 : decode cX7_meanRounds 14 = .ok (.aload_n 0, 1) := by decide +kernel
theorem dX7_meanRounds_15 : decode cX7_meanRounds 15 = .ok (.iconst 0, 1) := by decide +kernel
theorem dX7_meanRounds_16 : decode cX7_meanRounds 16 = .ok (.putfield 54, 3) := by decide +kernel
theorem dX7_meanRounds_19 : decode cX7_meanRounds 19 = .ok (.iconst 0, 1) := by decide +kernel
theorem dX7_meanRounds_20 : decode cX7_meanRounds 20 = .ok (.istore_n 1, 1) := by decide +kernel
theorem dX7_meanRounds_21 : decode cX7_meanRounds 21 = .ok (.iconst 0, 1) := by decide +kernel
theorem dX7_meanRounds_22 : decode cX7_meanRounds 22 = .ok (.istore_n 2, 1) := by decide +kernel
theorem dX7_meanRounds_23 : decode cX7_meanRounds 23 = .ok (.iload_n 2, 1) := by decide +kernel
theorem dX7_meanRounds_24 : decode cX7_meanRounds 24 = .ok (.aload_n 0, 1) := by decide +kernel
theorem dX7_meanRounds_25 : decode cX7_meanRounds 25 = .ok (.getfield 69, 3) := by decide +kernel
theorem dX7_meanRounds_28 : decode cX7_meanRounds 28 = .ok (.if_icmp .ge 22, 3) := by decide +kernel
theorem dX7_meanRounds_31 : decode cX7_meanRounds 31 = .ok (.iload_n 1, 1) := by decide +kernel
theorem dX7_meanRounds_32 : decode cX7_meanRounds 32 = .ok (.aload_n 0, 1) := by decide +kernel
theorem dX7_meanRounds_33 : decode cX7_meanRounds 33 = .ok (.aload_n 0, 1) := by decide +kernel
theorem dX7_meanRounds_34 : decode cX7_meanRounds 34 = .ok (.getfield 25, 3) := by decide +kernel
theorem dX7_meanRounds_37 : decode cX7_meanRounds 37 = .ok (.iload_n 2, 1) := by decide +kernel
theorem dX7_meanRounds_38 : decode cX7_meanRounds 38 = .ok (.iaload, 1) := by decide +kernel
theorem dX7_meanRounds_39 : decode cX7_meanRounds 39 = .ok (.invokevirtual 220, 3) := by decide +kernel
theorem dX7_meanRounds_42 : decode cX7_meanRounds 42 = .ok (.iadd, 1) := by decide +kernel
theorem dX7_meanRounds_43 : decode cX7_meanRounds 43 = .ok (.istore_n 1, 1) := by decide +kernel
theorem dX7_meanRounds_44 : decode cX7_meanRounds 44 = .ok (.iinc 2 1, 3) := by decide +kernel
theorem dX7_meanRounds_47 : decode cX7_meanRounds 47 = .ok (.goto (-24), 3) := by decide +kernel
theorem dX7_meanRounds_50 : decode cX7_meanRounds 50 = .ok (.iload_n 1, 1) := by decide +kernel
theorem dX7_meanRounds_51 : decode cX7_meanRounds 51 = .ok (.i2d, 1) := by decide +kernel
theorem dX7_meanRounds_52 : decode cX7_meanRounds 52 = .ok (.aload_n 0, 1) := by decide +kernel
theorem dX7_meanRounds_53 : decode cX7_meanRounds 53 = .ok (.getfield 69, 3) := by decide +kernel
theorem dX7_meanRounds_56 : decode cX7_meanRounds 56 = .ok (.i2d, 1) := by decide +kernel
theorem dX7_meanRounds_57 : decode cX7_meanRounds 57 = .ok (.ddiv, 1) := by decide +kernel
theorem dX7_meanRounds_58 : decode cX7_meanRounds 58 = .ok (.dreturn, 1) := by decide +kernel
theorem dX7_hands_0 : decode cX7_hands 0 = .ok (.iconst 0, 1) := by decide +kernel
theorem dX7_hands_1 : decode cX7_hands 1 = .ok (.istore_n 3, 1) := by decide +kernel
theorem dX7_hands_2 : decode cX7_hands 2 = .ok (.iload_n 3, 1) := by decide +kernel
theorem dX7_hands_3 : decode cX7_hands 3 = .ok (.aload_n 1, 1) := by decide +kernel
theorem dX7_hands_4 : decode cX7_hands 4 = .ok (.arraylength, 1) := by decide +kernel
theorem dX7_hands_5 : decode cX7_hands 5 = .ok (.if_icmp .ge 47, 3) := by decide +kernel
theorem dX7_hands_8 : decode cX7_hands 8 = .ok (.aload_n 0, 1) := by decide +kernel
theorem dX7_hands_9 : decode cX7_hands 9 = .ok (.getfield 233, 3) := by decide +kernel
theorem dX7_hands_12 : decode cX7_hands 12 = .ok (.ifCond .eq 15, 3) := by decide +kernel
theorem dX7_hands_15 : decode cX7_hands 15 = .ok (.aload_n 2, 1) := by decide +kernel
theorem dX7_hands_16 : decode cX7_hands 16 = .ok (.aload_n 0, 1) := by decide +kernel
theorem dX7_hands_17 : decode cX7_hands 17 = .ok (.getfield 237, 3) := by decide +kernel
theorem dX7_hands_20 : decode cX7_hands 20 = .ok (.aload_n 1, 1) := by decide +kernel
theorem dX7_hands_21 : decode cX7_hands 21 = .ok (.iload_n 3, 1) := by decide +kernel
theorem dX7_hands_22 : decode cX7_hands 22 = .ok (.iaload, 1) := by decide +kernel
theorem dX7_hands_23 : decode cX7_hands 23 = .ok (.iastore, 1) := by decide +kernel
theorem dX7_hands_24 : decode cX7_hands 24 = .ok (.goto 12, 3) := by decide +kernel
theorem dX7_hands_27 : decode cX7_hands 27 = .ok (.aload_n 1, 1) := by decide +kernel
theorem dX7_hands_28 : decode cX7_hands 28 = .ok (.iload_n 3, 1) := by decide +kernel
theorem dX7_hands_29 : decode cX7_hands 29 = .ok (.aload_n 2, 1) := by decide +kernel
theorem dX7_hands_30 : decode cX7_hands 30 = .ok (.aload_n 0, 1) := by decide +kernel
theorem dX7_hands_31 : decode cX7_hands 31 = .ok (.getfield 237, 3) := by decide +kernel
theorem dX7_hands_34 : decode cX7_hands 34 = .ok (.iaload, 1) := by decide +kernel
theorem dX7_hands_35 : decode cX7_hands 35 = .ok (.iastore, 1) := by decide +kernel
theorem dX7_hands_36 : decode cX7_hands 36 = .ok (.aload_n 0, 1) := by decide +kernel
theorem dX7_hands_37 : decode cX7_hands 37 = .ok (.dup, 1) := by decide +kernel
theorem dX7_hands_38 : decode cX7_hands 38 = .ok (.getfield 237, 3) := by decide +kernel
theorem dX7_hands_41 : decode cX7_hands 41 = .ok (.iconst 1, 1) := by decide +kernel
theorem dX7_hands_42 : decode cX7_hands 42 = .ok (.iadd, 1) := by decide +kernel
theorem dX7_hands_43 : decode cX7_hands 43 = .ok (.putfield 237, 3) := by decide +kernel
theorem dX7_hands_46 : decode cX7_hands 46 = .ok (.iinc 3 1, 3) := by decide +kernel
theorem dX7_hands_49 : decode cX7_hands 49 = .ok (.goto (-47), 3) := by decide +kernel
theorem dX7_hands_52 : decode cX7_hands 52 = .ok (.return_, 1) := by decide +kernel
theorem dX7_hand_0 : decode cX7_hand 0 = .ok (.aload_n 0, 1) := by decide +kernel
theorem dX7_hand_1 : decode cX7_hand 1 = .ok (.getfield 233, 3) := by decide +kernel
theorem dX7_hand_4 : decode cX7_hand 4 = .ok (.ifCond .eq 7, 3) := by decide +kernel
theorem dX7_hand_7 : decode cX7_hand 7 = .ok (.iload_n 1, 1) := by decide +kernel
theorem dX7_hand_8 : decode cX7_hand 8 = .ok (.goto 9, 3) := by decide +kernel
theorem dX7_hand_11 : decode cX7_hand 11 = .ok (.aload_n 2, 1) := by decide +kernel
theorem dX7_hand_12 : decode cX7_hand 12 = .ok (.aload_n 0, 1) := by decide +kernel
theorem dX7_hand_13 : decode cX7_hand 13 = .ok (.getfield 237, 3) := by decide +kernel
theorem dX7_hand_16 : decode cX7_hand 16 = .ok (.iaload, 1) := by decide +kernel
theorem dX7_hand_17 : decode cX7_hand 17 = .ok (.istore_n 3, 1) := by decide +kernel
theorem dX7_hand_18 : decode cX7_hand 18 = .ok (.aload_n 2, 1) := by decide +kernel
theorem dX7_hand_19 : decode cX7_hand 19 = .ok (.aload_n 0, 1) := by decide +kernel
theorem dX7_hand_20 : decode cX7_hand 20 = .ok (.getfield 237, 3) := by decide +kernel
theorem dX7_hand_23 : decode cX7_hand 23 = .ok (.iload_n 3, 1) := by decide +kernel
theorem dX7_hand_24 : decode cX7_hand 24 = .ok (.iastore, 1) := by decide +kernel
theorem dX7_hand_25 : decode cX7_hand 25 = .ok (.aload_n 0, 1) := by decide +kernel
theorem dX7_hand_26 : decode cX7_hand 26 = .ok (.dup, 1) := by decide +kernel
theorem dX7_hand_27 : decode cX7_hand 27 = .ok (.getfield 237, 3) := by decide +kernel
theorem dX7_hand_30 : decode cX7_hand 30 = .ok (.iconst 1, 1) := by decide +kernel
theorem dX7_hand_31 : decode cX7_hand 31 = .ok (.iadd, 1) := by decide +kernel
theorem dX7_hand_32 : decode cX7_hand 32 = .ok (.putfield 237, 3) := by decide +kernel
theorem dX7_hand_35 : decode cX7_hand 35 = .ok (.iload_n 3, 1) := by decide +kernel
theorem dX7_hand_36 : decode cX7_hand 36 = .ok (.ireturn, 1) := by decide +kernel
theorem dX7_handsAll_0 : decode cX7_handsAll 0 = .ok (.aload_n 0, 1) := by decide +kernel
theorem dX7_handsAll_1 : decode cX7_handsAll 1 = .ok (.iload_n 3, 1) := by decide +kernel
theorem dX7_handsAll_2 : decode cX7_handsAll 2 = .ok (.putfield 233, 3) := by decide +kernel
theorem dX7_handsAll_5 : decode cX7_handsAll 5 = .ok (.aload_n 0, 1) := by decide +kernel
theorem dX7_handsAll_6 : decode cX7_handsAll 6 = .ok (.iload_n 2, 1) := by decide +kernel
theorem dX7_handsAll_7 : decode cX7_handsAll 7 = .ok (.putfield 237, 3) := by decide +kernel
theorem dX7_handsAll_10 : decode cX7_handsAll 10 = .ok (.aload_n 0, 1) := by decide +kernel
theorem dX7_handsAll_11 : decode cX7_handsAll 11 = .ok (.aload_n 0, 1) := by decide +kernel
theorem dX7_handsAll_12 : decode cX7_handsAll 12 = .ok (.getfield 7, 3) := by decide +kernel
theorem dX7_handsAll_15 : decode cX7_handsAll 15 = .ok (.aload_n 1, 1) := by decide +kernel
theorem dX7_handsAll_16 : decode cX7_handsAll 16 = .ok (.invokevirtual 240, 3) := by decide +kernel
theorem dX7_handsAll_19 : decode cX7_handsAll 19 = .ok (.aload_n 0, 1) := by decide +kernel
theorem dX7_handsAll_20 : decode cX7_handsAll 20 = .ok (.aload_n 0, 1) := by decide +kernel
theorem dX7_handsAll_21 : decode cX7_handsAll 21 = .ok (.getfield 13, 3) := by decide +kernel
theorem dX7_handsAll_24 : decode cX7_handsAll 24 = .ok (.aload_n 1, 1) := by decide +kernel
theorem dX7_handsAll_25 : decode cX7_handsAll 25 = .ok (.invokevirtual 240, 3) := by decide +kernel
theorem dX7_handsAll_28 : decode cX7_handsAll 28 = .ok (.aload_n 0, 1) := by decide +kernel
theorem dX7_handsAll_29 : decode cX7_handsAll 29 = .ok (.aload_n 0, 1) := by decide +kernel
theorem dX7_handsAll_30 : decode cX7_handsAll 30 = .ok (.getfield 16, 3) := by decide +kernel
theorem dX7_handsAll_33 : decode cX7_handsAll 33 = .ok (.aload_n 1, 1) := by decide +kernel
theorem dX7_handsAll_34 : decode cX7_handsAll 34 = .ok (.invokevirtual 240, 3) := by decide +kernel
theorem dX7_handsAll_37 : decode cX7_handsAll 37 = .ok (.aload_n 0, 1) := by decide +kernel
theorem dX7_handsAll_38 : decode cX7_handsAll 38 = .ok (.aload_n 0, 1) := by decide +kernel
theorem dX7_handsAll_39 : decode cX7_handsAll 39 = .ok (.getfield 19, 3) := by decide +kernel
theorem dX7_handsAll_42 : decode cX7_handsAll 42 = .ok (.aload_n 1, 1) := by decide +kernel
theorem dX7_handsAll_43 : decode cX7_handsAll 43 = .ok (.invokevirtual 240, 3) := by decide +kernel
theorem dX7_handsAll_46 : decode cX7_handsAll 46 = .ok (.aload_n 0, 1) := by decide +kernel
theorem dX7_handsAll_47 : decode cX7_handsAll 47 = .ok (.aload_n 0, 1) := by decide +kernel
theorem dX7_handsAll_48 : decode cX7_handsAll 48 = .ok (.getfield 22, 3) := by decide +kernel
theorem dX7_handsAll_51 : decode cX7_handsAll 51 = .ok (.aload_n 1, 1) := by decide +kernel
theorem dX7_handsAll_52 : decode cX7_handsAll 52 = .ok (.invokevirtual 240, 3) := by decide +kernel
theorem dX7_handsAll_55 : decode cX7_handsAll 55 = .ok (.aload_n 0, 1) := by decide +kernel
theorem dX7_handsAll_56 : decode cX7_handsAll 56 = .ok (.aload_n 0, 1) := by decide +kernel
theorem dX7_handsAll_57 : decode cX7_handsAll 57 = .ok (.getfield 25, 3) := by decide +kernel
theorem dX7_handsAll_60 : decode cX7_handsAll 60 = .ok (.aload_n 1, 1) := by decide +kernel
theorem dX7_handsAll_61 : decode cX7_handsAll 61 = .ok (.invokevirtual 240, 3) := by decide +kernel
theorem dX7_handsAll_64 : decode cX7_handsAll 64 = .ok (.aload_n 0, 1) := by decide +kernel
theorem dX7_handsAll_65 : decode cX7_handsAll 65 = .ok (.aload_n 0, 1) := by decide +kernel
theorem dX7_handsAll_66 : decode cX7_handsAll 66 = .ok (.aload_n 0, 1) := by decide +kernel
theorem dX7_handsAll_67 : decode cX7_handsAll 67 = .ok (.getfield 28, 3) := by decide +kernel
theorem dX7_handsAll_70 : decode cX7_handsAll 70 = .ok (.aload_n 1, 1) := by decide +kernel
theorem dX7_handsAll_71 : decode cX7_handsAll 71 = .ok (.invokevirtual 244, 3) := by decide +kernel
theorem dX7_handsAll_74 : decode cX7_handsAll 74 = .ok (.putfield 28, 3) := by decide +kernel
theorem dX7_handsAll_77 : decode cX7_handsAll 77 = .ok (.aload_n 0, 1) := by decide +kernel
theorem dX7_handsAll_78 : decode cX7_handsAll 78 = .ok (.aload_n 0, 1) := by decide +kernel
theorem dX7_handsAll_79 : decode cX7_handsAll 79 = .ok (.aload_n 0, 1) := by decide +kernel
theorem dX7_handsAll_80 : decode cX7_handsAll 80 = .ok (.getfield 57, 3) := by decide +kernel
theorem dX7_handsAll_83 : decode cX7_handsAll 83 = .ok (.aload_n 1, 1) := by decide +kernel
theorem dX7_handsAll_84 : decode cX7_handsAll 84 = .ok (.invokevirtual 244, 3) := by decide +kernel
theorem dX7_handsAll_87 : decode cX7_handsAll 87 = .ok (.putfield 57, 3) := by decide +kernel
theorem dX7_handsAll_90 : decode cX7_handsAll 90 = .ok (.aload_n 0, 1) := by decide +kernel
theorem dX7_handsAll_91 : decode cX7_handsAll 91 = .ok (.aload_n 0, 1) := by decide +kernel
theorem dX7_handsAll_92 : decode cX7_handsAll 92 = .ok (.aload_n 0, 1) := by decide +kernel
theorem dX7_handsAll_93 : decode cX7_handsAll 93 = .ok (.getfield 60, 3) := by decide +kernel
theorem dX7_handsAll_96 : decode cX7_handsAll 96 = .ok (.aload_n 1, 1) := by decide +kernel
theorem dX7_handsAll_97 : decode cX7_handsAll 97 = .ok (.invokevirtual 244, 3) := by decide +kernel
theorem dX7_handsAll_100 : decode cX7_handsAll 100 = .ok (.putfield 60, 3) := by decide +kernel
theorem dX7_handsAll_103 : decode cX7_handsAll 103 = .ok (.aload_n 0, 1) := by decide +kernel
theorem dX7_handsAll_104 : decode cX7_handsAll 104 = .ok (.aload_n 0, 1) := by decide +kernel
theorem dX7_handsAll_105 : decode cX7_handsAll 105 = .ok (.aload_n 0, 1) := by decide +kernel
theorem dX7_handsAll_106 : decode cX7_handsAll 106 = .ok (.getfield 66, 3) := by decide +kernel
theorem dX7_handsAll_109 : decode cX7_handsAll 109 = .ok (.aload_n 1, 1) := by decide +kernel
theorem dX7_handsAll_110 : decode cX7_handsAll 110 = .ok (.invokevirtual 244, 3) := by decide +kernel
theorem dX7_handsAll_113 : decode cX7_handsAll 113 = .ok (.putfield 66, 3) := by decide +kernel
theorem dX7_handsAll_116 : decode cX7_handsAll 116 = .ok (.aload_n 0, 1) := by decide +kernel
theorem dX7_handsAll_117 : decode cX7_handsAll 117 = .ok (.aload_n 0, 1) := by decide +kernel
theorem dX7_handsAll_118 : decode cX7_handsAll 118 = .ok (.aload_n 0, 1) := by decide +kernel
theorem dX7_handsAll_119 : decode cX7_handsAll 119 = .ok (.getfield 63, 3) := by decide +kernel
theorem dX7_handsAll_122 : decode cX7_handsAll 122 = .ok (.aload_n 1, 1) := by decide +kernel
theorem dX7_handsAll_123 : decode cX7_handsAll 123 = .ok (.invokevirtual 244, 3) := by decide +kernel
theorem dX7_handsAll_126 : decode cX7_handsAll 126 = .ok (.putfield 63, 3) := by decide +kernel
theorem dX7_handsAll_129 : decode cX7_handsAll 129 = .ok (.aload_n 0, 1) := by decide +kernel
theorem dX7_handsAll_130 : decode cX7_handsAll 130 = .ok (.aload_n 0, 1) := by decide +kernel
theorem dX7_handsAll_131 : decode cX7_handsAll 131 = .ok (.aload_n 0, 1) := by decide +kernel
theorem dX7_handsAll_132 : decode cX7_handsAll 132 = .ok (.getfield 69, 3) := by decide +kernel
theorem dX7_handsAll_135 : decode cX7_handsAll 135 = .ok (.aload_n 1, 1) := by decide +kernel
theorem dX7_handsAll_136 : decode cX7_handsAll 136 = .ok (.invokevirtual 244, 3) := by decide +kernel
theorem dX7_handsAll_139 : decode cX7_handsAll 139 = .ok (.putfield 69, 3) := by decide +kernel
theorem dX7_handsAll_142 : decode cX7_handsAll 142 = .ok (.aload_n 0, 1) := by decide +kernel
theorem dX7_handsAll_143 : decode cX7_handsAll 143 = .ok (.aload_n 0, 1) := by decide +kernel
theorem dX7_handsAll_144 : decode cX7_handsAll 144 = .ok (.aload_n 0, 1) := by decide +kernel
theorem dX7_handsAll_145 : decode cX7_handsAll 145 = .ok (.getfield 72, 3) := by decide +kernel
theorem dX7_handsAll_148 : decode cX7_handsAll 148 = .ok (.aload_n 1, 1) := by decide +kernel
theorem dX7_handsAll_149 : decode cX7_handsAll 149 = .ok (.invokevirtual 244, 3) := by decide +kernel
theorem dX7_handsAll_152 : decode cX7_handsAll 152 = .ok (.putfield 72, 3) := by decide +kernel
theorem dX7_handsAll_155 : decode cX7_handsAll 155 = .ok (.return_, 1) := by decide +kernel
theorem dX7_foresee_0 : decode cX7_foresee 0 = .ok (.aload_n 0, 1) := by decide +kernel
theorem dX7_foresee_1 : decode cX7_foresee 1 = .ok (.iload_n 1, 1) := by decide +kernel
theorem dX7_foresee_2 : decode cX7_foresee 2 = .ok (.invokevirtual 166, 3) := by decide +kernel
theorem dX7_foresee_5 : decode cX7_foresee 5 = .ok (.ifCond .ne 9, 3) := by decide +kernel
theorem dX7_foresee_8 : decode cX7_foresee 8 = .ok (.aload_n 0, 1) := by decide +kernel
theorem dX7_foresee_9 : decode cX7_foresee 9 = .ok (.iconst 1, 1) := by decide +kernel
theorem dX7_foresee_10 : decode cX7_foresee 10 = .ok (.invokevirtual 79, 3) := by decide +kernel
theorem dX7_foresee_13 : decode cX7_foresee 13 = .ok (.ireturn, 1) := by decide +kernel
theorem dX7_foresee_14 : decode cX7_foresee 14 = .ok (.iload_n 2, 1) := by decide +kernel
theorem dX7_foresee_15 : decode cX7_foresee 15 = .ok (.iconst 1, 1) := by decide +kernel
theorem dX7_foresee_16 : decode cX7_foresee 16 = .ok (.sipush 200, 3) := by decide +kernel
theorem dX7_foresee_19 : decode cX7_foresee 19 = .ok (.invokestatic 75, 3) := by decide +kernel
theorem dX7_foresee_22 : decode cX7_foresee 22 = .ok (.ifCond .ne 9, 3) := by decide +kernel
theorem dX7_foresee_25 : decode cX7_foresee 25 = .ok (.aload_n 0, 1) := by decide +kernel
theorem dX7_foresee_26 : decode cX7_foresee 26 = .ok (.iconst 2, 1) := by decide +kernel
theorem dX7_foresee_27 : decode cX7_foresee 27 = .ok (.invokevirtual 79, 3) := by decide +kernel
theorem dX7_foresee_30 : decode cX7_foresee 30 = .ok (.ireturn, 1) := by decide +kernel
theorem dX7_foresee_31 : decode cX7_foresee 31 = .ok (.aload_n 0, 1) := by decide +kernel
theorem dX7_foresee_32 : decode cX7_foresee 32 = .ok (.aload_n 0, 1) := by decide +kernel
theorem dX7_foresee_33 : decode cX7_foresee 33 = .ok (.getfield 39, 3) := by decide +kernel
theorem dX7_foresee_36 : decode cX7_foresee 36 = .ok (.iconst 0, 1) := by decide +kernel
theorem dX7_foresee_37 : decode cX7_foresee 37 = .ok (.iconst 1, 1) := by decide +kernel
theorem dX7_foresee_38 : decode cX7_foresee 38 = .ok (.invokevirtual 248, 3) := by decide +kernel
theorem dX7_foresee_41 : decode cX7_foresee 41 = .ok (.iconst 0, 1) := by decide +kernel
theorem dX7_foresee_42 : decode cX7_foresee 42 = .ok (.istore 4, 2) := by decide +kernel
theorem dX7_foresee_44 : decode cX7_foresee 44 = .ok (.iload 4, 2) := by decide +kernel
theorem dX7_foresee_46 : decode cX7_foresee 46 = .ok (.iload_n 2, 1) := by decide +kernel
theorem dX7_foresee_47 : decode cX7_foresee 47 = .ok (.if_icmp .ge 23, 3) := by decide +kernel
theorem dX7_foresee_50 : decode cX7_foresee 50 = .ok (.aload_n 0, 1) := by decide +kernel
theorem dX7_foresee_51 : decode cX7_foresee 51 = .ok (.iload_n 1, 1) := by decide +kernel
theorem dX7_foresee_52 : decode cX7_foresee 52 = .ok (.iconst 4, 1) := by decide +kernel
theorem dX7_foresee_53 : decode cX7_foresee 53 = .ok (.invokevirtual 160, 3) := by decide +kernel
theorem dX7_foresee_56 : decode cX7_foresee 56 = .ok (.iconst 2, 1) := by decide +kernel
theorem dX7_foresee_57 : decode cX7_foresee 57 = .ok (.if_icmp .eq 13, 3) := by decide +kernel
theorem dX7_foresee_60 : decode cX7_foresee 60 = .ok (.aload_n 0, 1) := by decide +kernel
theorem dX7_foresee_61 : decode cX7_foresee 61 = .ok (.invokevirtual 214, 3) := by decide +kernel
theorem dX7_foresee_64 : decode cX7_foresee 64 = .ok (.iinc 4 1, 3) := by decide +kernel
theorem dX7_foresee_67 : decode cX7_foresee 67 = .ok (.goto (-23), 3) := by decide +kernel
theorem dX7_foresee_70 : decode cX7_foresee 70 = .ok (.aload_n 0, 1) := by decide +kernel
theorem dX7_foresee_71 : decode cX7_foresee 71 = .ok (.aload_n 0, 1) := by decide +kernel
theorem dX7_foresee_72 : decode cX7_foresee 72 = .ok (.iload_n 1, 1) := by decide +kernel
theorem dX7_foresee_73 : decode cX7_foresee 73 = .ok (.iconst 4, 1) := by decide +kernel
theorem dX7_foresee_74 : decode cX7_foresee 74 = .ok (.invokevirtual 160, 3) := by decide +kernel
theorem dX7_foresee_77 : decode cX7_foresee 77 = .ok (.iconst 2, 1) := by decide +kernel
theorem dX7_foresee_78 : decode cX7_foresee 78 = .ok (.if_icmp .ne 7, 3) := by decide +kernel
theorem dX7_foresee_81 : decode cX7_foresee 81 = .ok (.iconst 0, 1) := by decide +kernel
theorem dX7_foresee_82 : decode cX7_foresee 82 = .ok (.goto 4, 3) := by decide +kernel
theorem dX7_foresee_85 : decode cX7_foresee 85 = .ok (.iconst 3, 1) := by decide +kernel
theorem dX7_foresee_86 : decode cX7_foresee 86 = .ok (.putfield 54, 3) := by decide +kernel
theorem dX7_foresee_89 : decode cX7_foresee 89 = .ok (.aload_n 0, 1) := by decide +kernel
theorem dX7_foresee_90 : decode cX7_foresee 90 = .ok (.getfield 54, 3) := by decide +kernel
theorem dX7_foresee_93 : decode cX7_foresee 93 = .ok (.ifCond .le 7, 3) := by decide +kernel
theorem dX7_foresee_96 : decode cX7_foresee 96 = .ok (.iconst 0, 1) := by decide +kernel
theorem dX7_foresee_97 : decode cX7_foresee 97 = .ok (.goto 18, 3) := by decide +kernel
theorem dX7_foresee_100 : decode cX7_foresee 100 = .ok (.aload_n 0, 1) := by decide +kernel
theorem dX7_foresee_101 : decode cX7_foresee 101 = .ok (.iload_n 1, 1) := by decide +kernel
theorem dX7_foresee_102 : decode cX7_foresee 102 = .ok (.iload_n 3, 1) := by decide +kernel
theorem dX7_foresee_103 : decode cX7_foresee 103 = .ok (.ifCond .eq 8, 3) := by decide +kernel
theorem dX7_foresee_106 : decode cX7_foresee 106 = .ok (.bipush 9, 2) := by decide +kernel
theorem dX7_foresee_108 : decode cX7_foresee 108 = .ok (.goto 4, 3) := by decide +kernel
theorem dX7_foresee_111 : decode cX7_foresee 111 = .ok (.iconst 5, 1) := by decide +kernel
theorem dX7_foresee_112 : decode cX7_foresee 112 = .ok (.invokevirtual 160, 3) := by decide +kernel
theorem dX7_foresee_115 : decode cX7_foresee 115 = .ok (.istore 4, 2) := by decide +kernel
theorem dX7_foresee_117 : decode cX7_foresee 117 = .ok (.aload_n 0, 1) := by decide +kernel
theorem dX7_foresee_118 : decode cX7_foresee 118 = .ok (.aload_n 0, 1) := by decide +kernel
theorem dX7_foresee_119 : decode cX7_foresee 119 = .ok (.getfield 39, 3) := by decide +kernel
theorem dX7_foresee_122 : decode cX7_foresee 122 = .ok (.iconst 0, 1) := by decide +kernel
theorem dX7_foresee_123 : decode cX7_foresee 123 = .ok (.iconst 0, 1) := by decide +kernel
theorem dX7_foresee_124 : decode cX7_foresee 124 = .ok (.invokevirtual 248, 3) := by decide +kernel
theorem dX7_foresee_127 : decode cX7_foresee 127 = .ok (.iload 4, 2) := by decide +kernel
theorem dX7_foresee_129 : decode cX7_foresee 129 = .ok (.ireturn, 1) := by decide +kernel
theorem dX7_untilEmpty_0 : decode cX7_untilEmpty 0 = .ok (.iload_n 1, 1) := by decide +kernel
theorem dX7_untilEmpty_1 : decode cX7_untilEmpty 1 = .ok (.iconst 1, 1) := by decide +kernel
theorem dX7_untilEmpty_2 : decode cX7_untilEmpty 2 = .ok (.sipush 200, 3) := by decide +kernel
theorem dX7_untilEmpty_5 : decode cX7_untilEmpty 5 = .ok (.invokestatic 75, 3) := by decide +kernel
theorem dX7_untilEmpty_8 : decode cX7_untilEmpty 8 = .ok (.ifCond .ne 9, 3) := by decide +kernel
theorem dX7_untilEmpty_11 : decode cX7_untilEmpty 11 = .ok (.aload_n 0, 1) := by decide +kernel
theorem dX7_untilEmpty_12 : decode cX7_untilEmpty 12 = .ok (.iconst 1, 1) := by decide +kernel
theorem dX7_untilEmpty_13 : decode cX7_untilEmpty 13 = .ok (.invokevirtual 79, 3) := by decide +kernel
theorem dX7_untilEmpty_16 : decode cX7_untilEmpty 16 = .ok (.ireturn, 1) := by decide +kernel
theorem dX7_untilEmpty_17 : decode cX7_untilEmpty 17 = .ok (.aload_n 0, 1) := by decide +kernel
theorem dX7_untilEmpty_18 : decode cX7_untilEmpty 18 = .ok (.aload_n 0, 1) := by decide +kernel
theorem dX7_untilEmpty_19 : decode cX7_untilEmpty 19 = .ok (.getfield 39, 3) := by decide +kernel
theorem dX7_untilEmpty_22 : decode cX7_untilEmpty 22 = .ok (.iconst 0, 1) := by decide +kernel
theorem dX7_untilEmpty_23 : decode cX7_untilEmpty 23 = .ok (.iconst 1, 1) := by decide +kernel
theorem dX7_untilEmpty_24 : decode cX7_untilEmpty 24 = .ok (.invokevirtual 248, 3) := by decide +kernel
theorem dX7_untilEmpty_27 : decode cX7_untilEmpty 27 = .ok (.iconst 0, 1) := by decide +kernel
theorem dX7_untilEmpty_28 : decode cX7_untilEmpty 28 = .ok (.istore_n 2, 1) := by decide +kernel
theorem dX7_untilEmpty_29 : decode cX7_untilEmpty 29 = .ok (.iload_n 2, 1) := by decide +kernel
theorem dX7_untilEmpty_30 : decode cX7_untilEmpty 30 = .ok (.iload_n 1, 1) := by decide +kernel
theorem dX7_untilEmpty_31 : decode cX7_untilEmpty 31 = .ok (.if_icmp .ge 24, 3) := by decide +kernel
theorem dX7_untilEmpty_34 : decode cX7_untilEmpty 34 = .ok (.aload_n 0, 1) := by decide +kernel
theorem dX7_untilEmpty_35 : decode cX7_untilEmpty 35 = .ok (.getfield 69, 3) := by decide +kernel
theorem dX7_untilEmpty_38 : decode cX7_untilEmpty 38 = .ok (.aload_n 0, 1) := by decide +kernel
theorem dX7_untilEmpty_39 : decode cX7_untilEmpty 39 = .ok (.getfield 63, 3) := by decide +kernel
theorem dX7_untilEmpty_42 : decode cX7_untilEmpty 42 = .ok (.if_icmp .ge 13, 3) := by decide +kernel
theorem dX7_untilEmpty_45 : decode cX7_untilEmpty 45 = .ok (.aload_n 0, 1) := by decide +kernel
theorem dX7_untilEmpty_46 : decode cX7_untilEmpty 46 = .ok (.invokevirtual 214, 3) := by decide +kernel
theorem dX7_untilEmpty_49 : decode cX7_untilEmpty 49 = .ok (.iinc 2 1, 3) := by decide +kernel
theorem dX7_untilEmpty_52 : decode cX7_untilEmpty 52 = .ok (.goto (-23), 3) := by decide +kernel
theorem dX7_untilEmpty_55 : decode cX7_untilEmpty 55 = .ok (.aload_n 0, 1) := by decide +kernel
theorem dX7_untilEmpty_56 : decode cX7_untilEmpty 56 = .ok (.aload_n 0, 1) := by decide +kernel
theorem dX7_untilEmpty_57 : decode cX7_untilEmpty 57 = .ok (.getfield 69, 3) := by decide +kernel
theorem dX7_untilEmpty_60 : decode cX7_untilEmpty 60 = .ok (.aload_n 0, 1) := by decide +kernel
theorem dX7_untilEmpty_61 : decode cX7_untilEmpty 61 = .ok (.getfield 63, 3) := by decide +kernel
theorem dX7_untilEmpty_64 : decode cX7_untilEmpty 64 = .ok (.if_icmp .ne 7, 3) := by decide +kernel
theorem dX7_untilEmpty_67 : decode cX7_untilEmpty 67 = .ok (.iconst 0, 1) := by decide +kernel
theorem dX7_untilEmpty_68 : decode cX7_untilEmpty 68 = .ok (.goto 4, 3) := by decide +kernel
theorem dX7_untilEmpty_71 : decode cX7_untilEmpty 71 = .ok (.iconst 2, 1) := by decide +kernel
theorem dX7_untilEmpty_72 : decode cX7_untilEmpty 72 = .ok (.putfield 54, 3) := by decide +kernel
theorem dX7_untilEmpty_75 : decode cX7_untilEmpty 75 = .ok (.aload_n 0, 1) := by decide +kernel
theorem dX7_untilEmpty_76 : decode cX7_untilEmpty 76 = .ok (.aload_n 0, 1) := by decide +kernel
theorem dX7_untilEmpty_77 : decode cX7_untilEmpty 77 = .ok (.getfield 39, 3) := by decide +kernel
theorem dX7_untilEmpty_80 : decode cX7_untilEmpty 80 = .ok (.iconst 0, 1) := by decide +kernel
theorem dX7_untilEmpty_81 : decode cX7_untilEmpty 81 = .ok (.iconst 0, 1) := by decide +kernel
theorem dX7_untilEmpty_82 : decode cX7_untilEmpty 82 = .ok (.invokevirtual 248, 3) := by decide +kernel
theorem dX7_untilEmpty_85 : decode cX7_untilEmpty 85 = .ok (.aload_n 0, 1) := by decide +kernel
theorem dX7_untilEmpty_86 : decode cX7_untilEmpty 86 = .ok (.getfield 54, 3) := by decide +kernel
theorem dX7_untilEmpty_89 : decode cX7_untilEmpty 89 = .ok (.ifCond .le 7, 3) := by decide +kernel
theorem dX7_untilEmpty_92 : decode cX7_untilEmpty 92 = .ok (.iconst 0, 1) := by decide +kernel
theorem dX7_untilEmpty_93 : decode cX7_untilEmpty 93 = .ok (.goto 4, 3) := by decide +kernel
theorem dX7_untilEmpty_96 : decode cX7_untilEmpty 96 = .ok (.iload_n 2, 1) := by decide +kernel
theorem dX7_untilEmpty_97 : decode cX7_untilEmpty 97 = .ok (.ireturn, 1) := by decide +kernel
theorem dX7_audit_0 : decode cX7_audit 0 = .ok (.aload_n 0, 1) := by decide +kernel
theorem dX7_audit_1 : decode cX7_audit 1 = .ok (.iconst 0, 1) := by decide +kernel
theorem dX7_audit_2 : decode cX7_audit 2 = .ok (.putfield 54, 3) := by decide +kernel
theorem dX7_audit_5 : decode cX7_audit 5 = .ok (.iconst 0, 1) := by decide +kernel
theorem dX7_audit_6 : decode cX7_audit 6 = .ok (.istore_n 1, 1) := by decide +kernel
theorem dX7_audit_7 : decode cX7_audit 7 = .ok (.iload_n 1, 1) := by decide +kernel
theorem dX7_audit_8 : decode cX7_audit 8 = .ok (.aload_n 0, 1) := by decide +kernel
theorem dX7_audit_9 : decode cX7_audit 9 = .ok (.getfield 60, 3) := by decide +kernel
theorem dX7_audit_12 : decode cX7_audit 12 = .ok (.if_icmp .ge 68, 3) := by decide +kernel
theorem dX7_audit_15 : decode cX7_audit 15 = .ok (.iconst 0, 1) := by decide +kernel
theorem dX7_audit_16 : decode cX7_audit 16 = .ok (.istore_n 2, 1) := by decide +kernel
theorem dX7_audit_17 : decode cX7_audit 17 = .ok (.iconst 0, 1) := by decide +kernel
theorem dX7_audit_18 : decode cX7_audit 18 = .ok (.istore_n 3, 1) := by decide +kernel
theorem dX7_audit_19 : decode cX7_audit 19 = .ok (.iload_n 3, 1) := by decide +kernel
theorem dX7_audit_20 : decode cX7_audit 20 = .ok (.aload_n 0, 1) := by decide +kernel
theorem dX7_audit_21 : decode cX7_audit 21 = .ok (.getfield 63, 3) := by decide +kernel
theorem dX7_audit_24 : decode cX7_audit 24 = .ok (.if_icmp .ge 37, 3) := by decide +kernel
theorem dX7_audit_27 : decode cX7_audit 27 = .ok (.iload_n 2, 1) := by decide +kernel
theorem dX7_audit_28 : decode cX7_audit 28 = .ok (.aload_n 0, 1) := by decide +kernel
theorem dX7_audit_29 : decode cX7_audit 29 = .ok (.iload_n 3, 1) := by decide +kernel
theorem dX7_audit_30 : decode cX7_audit 30 = .ok (.iconst 4, 1) := by decide +kernel
theorem dX7_audit_31 : decode cX7_audit 31 = .ok (.invokevirtual 160, 3) := by decide +kernel
theorem dX7_audit_34 : decode cX7_audit 34 = .ok (.iconst 2, 1) := by decide +kernel
theorem dX7_audit_35 : decode cX7_audit 35 = .ok (.if_icmp .ne 17, 3) := by decide +kernel
theorem dX7_audit_38 : decode cX7_audit 38 = .ok (.aload_n 0, 1) := by decide +kernel
theorem dX7_audit_39 : decode cX7_audit 39 = .ok (.iload_n 3, 1) := by decide +kernel
theorem dX7_audit_40 : decode cX7_audit 40 = .ok (.iconst 5, 1) := by decide +kernel
theorem dX7_audit_41 : decode cX7_audit 41 = .ok (.invokevirtual 160, 3) := by decide +kernel
theorem dX7_audit_44 : decode cX7_audit 44 = .ok (.iload_n 1, 1) := by decide +kernel
theorem dX7_audit_45 : decode cX7_audit 45 = .ok (.if_icmp .ne 7, 3) := by decide +kernel
theorem dX7_audit_48 : decode cX7_audit 48 = .ok (.iconst 1, 1) := by decide +kernel
theorem dX7_audit_49 : decode cX7_audit 49 = .ok (.goto 4, 3) := by decide +kernel
theorem dX7_audit_52 : decode cX7_audit 52 = .ok (.iconst 0, 1) := by decide +kernel
theorem dX7_audit_53 : decode cX7_audit 53 = .ok (.iadd, 1) := by decide +kernel
theorem dX7_audit_54 : decode cX7_audit 54 = .ok (.istore_n 2, 1) := by decide +kernel
theorem dX7_audit_55 : decode cX7_audit 55 = .ok (.iinc 3 1, 3) := by decide +kernel
theorem dX7_audit_58 : decode cX7_audit 58 = .ok (.goto (-39), 3) := by decide +kernel
theorem dX7_audit_61 : decode cX7_audit 61 = .ok (.iload_n 2, 1) := by decide +kernel
theorem dX7_audit_62 : decode cX7_audit 62 = .ok (.aload_n 0, 1) := by decide +kernel
theorem dX7_audit_63 : decode cX7_audit 63 = .ok (.iload_n 1, 1) := by decide +kernel
theorem dX7_audit_64 : decode cX7_audit 64 = .ok (.bipush 11, 2) := by decide +kernel
theorem dX7_audit_66 : decode cX7_audit 66 = .ok (.invokevirtual 90, 3) := by decide +kernel
theorem dX7_audit_69 : decode cX7_audit 69 = .ok (.if_icmp .eq 5, 3) := by decide +kernel
theorem dX7_audit_72 : decode cX7_audit 72 = .ok (.iconst 0, 1) := by decide +kernel
theorem dX7_audit_73 : decode cX7_audit 73 = .ok (.ireturn, 1) := by decide +kernel
theorem dX7_audit_74 : decode cX7_audit 74 = .ok (.iinc 1 1, 3) := by decide +kernel
theorem dX7_audit_77 : decode cX7_audit 77 = .ok (.goto (-70), 3) := by decide +kernel
theorem dX7_audit_80 : decode cX7_audit 80 = .ok (.aload_n 0, 1) := by decide +kernel
theorem dX7_audit_81 : decode cX7_audit 81 = .ok (.bipush 11, 2) := by decide +kernel
theorem dX7_audit_83 : decode cX7_audit 83 = .ok (.invokevirtual 230, 3) := by decide +kernel
theorem dX7_audit_86 : decode cX7_audit 86 = .ok (.aload_n 0, 1) := by decide +kernel
theorem dX7_audit_87 : decode cX7_audit 87 = .ok (.getfield 69, 3) := by decide +kernel
theorem dX7_audit_90 : decode cX7_audit 90 = .ok (.if_icmp .ne 34, 3) := by decide +kernel
theorem dX7_audit_93 : decode cX7_audit 93 = .ok (.aload_n 0, 1) := by decide +kernel
theorem dX7_audit_94 : decode cX7_audit 94 = .ok (.iconst 4, 1) := by decide +kernel
theorem dX7_audit_95 : decode cX7_audit 95 = .ok (.iconst 0, 1) := by decide +kernel
theorem dX7_audit_96 : decode cX7_audit 96 = .ok (.invokevirtual 223, 3) := by decide +kernel
theorem dX7_audit_99 : decode cX7_audit 99 = .ok (.aload_n 0, 1) := by decide +kernel
theorem dX7_audit_100 : decode cX7_audit 100 = .ok (.iconst 4, 1) := by decide +kernel
theorem dX7_audit_101 : decode cX7_audit 101 = .ok (.iconst 1, 1) := by decide +kernel
theorem dX7_audit_102 : decode cX7_audit 102 = .ok (.invokevirtual 223, 3) := by decide +kernel
theorem dX7_audit_105 : decode cX7_audit 105 = .ok (.iadd, 1) := by decide +kernel
theorem dX7_audit_106 : decode cX7_audit 106 = .ok (.aload_n 0, 1) := by decide +kernel
theorem dX7_audit_107 : decode cX7_audit 107 = .ok (.iconst 4, 1) := by decide +kernel
theorem dX7_audit_108 : decode cX7_audit 108 = .ok (.iconst 2, 1) := by decide +kernel
theorem dX7_audit_109 : decode cX7_audit 109 = .ok (.invokevirtual 223, 3) := by decide +kernel
theorem dX7_audit_112 : decode cX7_audit 112 = .ok (.iadd, 1) := by decide +kernel
theorem dX7_audit_113 : decode cX7_audit 113 = .ok (.aload_n 0, 1) := by decide +kernel
theorem dX7_audit_114 : decode cX7_audit 114 = .ok (.getfield 63, 3) := by decide +kernel
theorem dX7_audit_117 : decode cX7_audit 117 = .ok (.if_icmp .ne 7, 3) := by decide +kernel
theorem dX7_audit_120 : decode cX7_audit 120 = .ok (.iconst 1, 1) := by decide +kernel
theorem dX7_audit_121 : decode cX7_audit 121 = .ok (.goto 4, 3) := by decide +kernel
theorem dX7_audit_124 : decode cX7_audit 124 = .ok (.iconst 0, 1) := by decide +kernel
theorem dX7_audit_125 : decode cX7_audit 125 = .ok (.ireturn, 1) := by decide +kernel
theorem dX7_ledger_0 : decode cX7_ledger 0 = .ok (.iload_n 1, 1) := by decide +kernel
theorem dX7_ledger_1 : decode cX7_ledger 1 = .ok (.iconst 0, 1) := by decide +kernel
theorem dX7_ledger_2 : decode cX7_ledger 2 = .ok (.aload_n 0, 1) := by decide +kernel
theorem dX7_ledger_3 : decode cX7_ledger 3 = .ok (.getfield 69, 3) := by decide +kernel
theorem dX7_ledger_6 : decode cX7_ledger 6 = .ok (.iconst 1, 1) := by decide +kernel
theorem dX7_ledger_7 : decode cX7_ledger 7 = .ok (.isub, 1) := by decide +kernel
theorem dX7_ledger_8 : decode cX7_ledger 8 = .ok (.invokestatic 75, 3) := by decide +kernel
theorem dX7_ledger_11 : decode cX7_ledger 11 = .ok (.ifCond .ne 9, 3) := by decide +kernel
theorem dX7_ledger_14 : decode cX7_ledger 14 = .ok (.aload_n 0, 1) := by decide +kernel
theorem dX7_ledger_15 : decode cX7_ledger 15 = .ok (.iconst 1, 1) := by decide +kernel
theorem dX7_ledger_16 : decode cX7_ledger 16 = .ok (.invokevirtual 79, 3) := by decide +kernel
theorem dX7_ledger_19 : decode cX7_ledger 19 = .ok (.ireturn, 1) := by decide +kernel
theorem dX7_ledger_20 : decode cX7_ledger 20 = .ok (.iload_n 2, 1) := by decide +kernel
theorem dX7_ledger_21 : decode cX7_ledger 21 = .ok (.iconst 0, 1) := by decide +kernel
theorem dX7_ledger_22 : decode cX7_ledger 22 = .ok (.iconst 3, 1) := by decide +kernel
theorem dX7_ledger_23 : decode cX7_ledger 23 = .ok (.invokestatic 75, 3) := by decide +kernel
theorem dX7_ledger_26 : decode cX7_ledger 26 = .ok (.ifCond .ne 9, 3) := by decide +kernel
theorem dX7_ledger_29 : decode cX7_ledger 29 = .ok (.aload_n 0, 1) := by decide +kernel
theorem dX7_ledger_30 : decode cX7_ledger 30 = .ok (.iconst 2, 1) := by decide +kernel
theorem dX7_ledger_31 : decode cX7_ledger 31 = .ok (.invokevirtual 79, 3) := by decide +kernel
theorem dX7_ledger_34 : decode cX7_ledger 34 = .ok (.ireturn, 1) := by decide +kernel
theorem dX7_ledger_35 : decode cX7_ledger 35 = .ok (.aload_n 0, 1) := by decide +kernel
theorem dX7_ledger_36 : decode cX7_ledger 36 = .ok (.iconst 0, 1) := by decide +kernel
theorem dX7_ledger_37 : decode cX7_ledger 37 = .ok (.putfield 54, 3) := by decide +kernel
theorem dX7_ledger_40 : decode cX7_ledger 40 = .ok (.aload_n 0, 1) := by decide +kernel
theorem dX7_ledger_41 : decode cX7_ledger 41 = .ok (.getfield 25, 3) := by decide +kernel
theorem dX7_ledger_44 : decode cX7_ledger 44 = .ok (.iload_n 1, 1) := by decide +kernel
theorem dX7_ledger_45 : decode cX7_ledger 45 = .ok (.iaload, 1) := by decide +kernel
theorem dX7_ledger_46 : decode cX7_ledger 46 = .ok (.istore_n 3, 1) := by decide +kernel
theorem dX7_ledger_47 : decode cX7_ledger 47 = .ok (.iload_n 2, 1) := by decide +kernel
theorem dX7_ledger_48 : decode cX7_ledger 48 = .ok (.ifCond .ne 7, 3) := by decide +kernel
theorem dX7_ledger_51 : decode cX7_ledger 51 = .ok (.iload_n 3, 1) := by decide +kernel
theorem dX7_ledger_52 : decode cX7_ledger 52 = .ok (.goto 29, 3) := by decide +kernel
theorem dX7_ledger_55 : decode cX7_ledger 55 = .ok (.aload_n 0, 1) := by decide +kernel
theorem dX7_ledger_56 : decode cX7_ledger 56 = .ok (.iload_n 3, 1) := by decide +kernel
theorem dX7_ledger_57 : decode cX7_ledger 57 = .ok (.iload_n 2, 1) := by decide +kernel
theorem dX7_ledger_58 : decode cX7_ledger 58 = .ok (.iconst 1, 1) := by decide +kernel
theorem dX7_ledger_59 : decode cX7_ledger 59 = .ok (.if_icmp .ne 7, 3) := by decide +kernel
theorem dX7_ledger_62 : decode cX7_ledger 62 = .ok (.iconst 5, 1) := by decide +kernel
theorem dX7_ledger_63 : decode cX7_ledger 63 = .ok (.goto 15, 3) := by decide +kernel
theorem dX7_ledger_66 : decode cX7_ledger 66 = .ok (.iload_n 2, 1) := by decide +kernel
theorem dX7_ledger_67 : decode cX7_ledger 67 = .ok (.iconst 2, 1) := by decide +kernel
theorem dX7_ledger_68 : decode cX7_ledger 68 = .ok (.if_icmp .ne 8, 3) := by decide +kernel
theorem dX7_ledger_71 : decode cX7_ledger 71 = .ok (.bipush 9, 2) := by decide +kernel
theorem dX7_ledger_73 : decode cX7_ledger 73 = .ok (.goto 5, 3) := by decide +kernel
theorem dX7_ledger_76 : decode cX7_ledger 76 = .ok (.bipush 10, 2) := by decide +kernel
theorem dX7_ledger_78 : decode cX7_ledger 78 = .ok (.invokevirtual 160, 3) := by decide +kernel
theorem dX7_ledger_81 : decode cX7_ledger 81 = .ok (.ireturn, 1) := by decide +kernel
theorem dX7_remembers_0 : decode cX7_remembers 0 = .ok (.aload_n 0, 1) := by decide +kernel
theorem dX7_remembers_1 : decode cX7_remembers 1 = .ok (.getfield 83, 3) := by decide +kernel
theorem dX7_remembers_4 : decode cX7_remembers 4 = .ok (.bipush 8, 2) := by decide +kernel
theorem dX7_remembers_6 : decode cX7_remembers 6 = .ok (.if_icmp .ne 44, 3) := by decide +kernel
theorem dX7_remembers_9 : decode cX7_remembers 9 = .ok (.iconst 0, 1) := by decide +kernel
theorem dX7_remembers_10 : decode cX7_remembers 10 = .ok (.istore_n 1, 1) := by decide +kernel
theorem dX7_remembers_11 : decode cX7_remembers 11 = .ok (.iload_n 1, 1) := by decide +kernel
theorem dX7_remembers_12 : decode cX7_remembers 12 = .ok (.sipush 9520, 3) := by decide +kernel
theorem dX7_remembers_15 : decode cX7_remembers 15 = .ok (.if_icmp .ge 25, 3) := by decide +kernel
theorem dX7_remembers_18 : decode cX7_remembers 18 = .ok (.aload_n 0, 1) := by decide +kernel
theorem dX7_remembers_19 : decode cX7_remembers 19 = .ok (.getfield 42, 3) := by decide +kernel
theorem dX7_remembers_22 : decode cX7_remembers 22 = .ok (.iload_n 1, 1) := by decide +kernel
theorem dX7_remembers_23 : decode cX7_remembers 23 = .ok (.aload_n 0, 1) := by decide +kernel
theorem dX7_remembers_24 : decode cX7_remembers 24 = .ok (.getfield 42, 3) := by decide +kernel
theorem dX7_remembers_27 : decode cX7_remembers 27 = .ok (.iload_n 1, 1) := by decide +kernel
theorem dX7_remembers_28 : decode cX7_remembers 28 = .ok (.sipush 1360, 3) := by decide +kernel
theorem dX7_remembers_31 : decode cX7_remembers 31 = .ok (.iadd, 1) := by decide +kernel
theorem dX7_remembers_32 : decode cX7_remembers 32 = .ok (.iaload, 1) := by decide +kernel
theorem dX7_remembers_33 : decode cX7_remembers 33 = .ok (.iastore, 1) := by decide +kernel
theorem dX7_remembers_34 : decode cX7_remembers 34 = .ok (.iinc 1 1, 3) := by decide +kernel
theorem dX7_remembers_37 : decode cX7_remembers 37 = .ok (.goto (-26), 3) := by decide +kernel
theorem dX7_remembers_40 : decode cX7_remembers 40 = .ok (.aload_n 0, 1) := by decide +kernel
theorem dX7_remembers_41 : decode cX7_remembers 41 = .ok (.dup, 1) := by decide +kernel
theorem dX7_remembers_42 : decode cX7_remembers 42 = .ok (.getfield 83, 3) := by decide +kernel
theorem dX7_remembers_45 : decode cX7_remembers 45 = .ok (.iconst 1, 1) := by decide +kernel
theorem dX7_remembers_46 : decode cX7_remembers 46 = .ok (.isub, 1) := by decide +kernel
theorem dX7_remembers_47 : decode cX7_remembers 47 = .ok (.putfield 83, 3) := by decide +kernel
theorem dX7_remembers_50 : decode cX7_remembers 50 = .ok (.aload_n 0, 1) := by decide +kernel
theorem dX7_remembers_51 : decode cX7_remembers 51 = .ok (.aload_n 0, 1) := by decide +kernel
theorem dX7_remembers_52 : decode cX7_remembers 52 = .ok (.getfield 42, 3) := by decide +kernel
theorem dX7_remembers_55 : decode cX7_remembers 55 = .ok (.sipush 1360, 3) := by decide +kernel
theorem dX7_remembers_58 : decode cX7_remembers 58 = .ok (.aload_n 0, 1) := by decide +kernel
theorem dX7_remembers_59 : decode cX7_remembers 59 = .ok (.getfield 83, 3) := by decide +kernel
theorem dX7_remembers_62 : decode cX7_remembers 62 = .ok (.imul, 1) := by decide +kernel
theorem dX7_remembers_63 : decode cX7_remembers 63 = .ok (.iconst 1, 1) := by decide +kernel
theorem dX7_remembers_64 : decode cX7_remembers 64 = .ok (.invokevirtual 248, 3) := by decide +kernel
theorem dX7_remembers_67 : decode cX7_remembers 67 = .ok (.aload_n 0, 1) := by decide +kernel
theorem dX7_remembers_68 : decode cX7_remembers 68 = .ok (.dup, 1) := by decide +kernel
theorem dX7_remembers_69 : decode cX7_remembers 69 = .ok (.getfield 83, 3) := by decide +kernel
theorem dX7_remembers_72 : decode cX7_remembers 72 = .ok (.iconst 1, 1) := by decide +kernel
theorem dX7_remembers_73 : decode cX7_remembers 73 = .ok (.iadd, 1) := by decide +kernel
theorem dX7_remembers_74 : decode cX7_remembers 74 = .ok (.putfield 83, 3) := by decide +kernel
theorem dX7_remembers_77 : decode cX7_remembers 77 = .ok (.return_, 1) := by decide +kernel
theorem dX7_undo_0 : decode cX7_undo 0 = .ok (.aload_n 0, 1) := by decide +kernel
theorem dX7_undo_1 : decode cX7_undo 1 = .ok (.getfield 83, 3) := by decide +kernel
theorem dX7_undo_4 : decode cX7_undo 4 = .ok (.ifCond .ne 9, 3) := by decide +kernel
theorem dX7_undo_7 : decode cX7_undo 7 = .ok (.aload_n 0, 1) := by decide +kernel
theorem dX7_undo_8 : decode cX7_undo 8 = .ok (.iconst 1, 1) := by decide +kernel
theorem dX7_undo_9 : decode cX7_undo 9 = .ok (.invokevirtual 79, 3) := by decide +kernel
theorem dX7_undo_12 : decode cX7_undo 12 = .ok (.ireturn, 1) := by decide +kernel
theorem dX7_undo_13 : decode cX7_undo 13 = .ok (.aload_n 0, 1) := by decide +kernel
theorem dX7_undo_14 : decode cX7_undo 14 = .ok (.iconst 0, 1) := by decide +kernel
theorem dX7_undo_15 : decode cX7_undo 15 = .ok (.putfield 54, 3) := by decide +kernel
theorem dX7_undo_18 : decode cX7_undo 18 = .ok (.aload_n 0, 1) := by decide +kernel
theorem dX7_undo_19 : decode cX7_undo 19 = .ok (.dup, 1) := by decide +kernel
theorem dX7_undo_20 : decode cX7_undo 20 = .ok (.getfield 83, 3) := by decide +kernel
theorem dX7_undo_23 : decode cX7_undo 23 = .ok (.iconst 1, 1) := by decide +kernel
theorem dX7_undo_24 : decode cX7_undo 24 = .ok (.isub, 1) := by decide +kernel
theorem dX7_undo_25 : decode cX7_undo 25 = .ok (.putfield 83, 3) := by decide +kernel
theorem dX7_undo_28 : decode cX7_undo 28 = .ok (.aload_n 0, 1) := by decide +kernel
theorem dX7_undo_29 : decode cX7_undo 29 = .ok (.aload_n 0, 1) := by decide +kernel
theorem dX7_undo_30 : decode cX7_undo 30 = .ok (.getfield 42, 3) := by decide +kernel
theorem dX7_undo_33 : decode cX7_undo 33 = .ok (.sipush 1360, 3) := by decide +kernel
theorem dX7_undo_36 : decode cX7_undo 36 = .ok (.aload_n 0, 1) := by decide +kernel
theorem dX7_undo_37 : decode cX7_undo 37 = .ok (.getfield 83, 3) := by decide +kernel
theorem dX7_undo_40 : decode cX7_undo 40 = .ok (.imul, 1) := by decide +kernel
theorem dX7_undo_41 : decode cX7_undo 41 = .ok (.iconst 0, 1) := by decide +kernel
theorem dX7_undo_42 : decode cX7_undo 42 = .ok (.invokevirtual 248, 3) := by decide +kernel
theorem dX7_undo_45 : decode cX7_undo 45 = .ok (.aload_n 0, 1) := by decide +kernel
theorem dX7_undo_46 : decode cX7_undo 46 = .ok (.getfield 83, 3) := by decide +kernel
theorem dX7_undo_49 : decode cX7_undo 49 = .ok (.ireturn, 1) := by decide +kernel
theorem dX7_saveSnapshot_0 : decode cX7_saveSnapshot 0 = .ok (.aload_n 0, 1) := by decide +kernel
theorem dX7_saveSnapshot_1 : decode cX7_saveSnapshot 1 = .ok (.iconst 0, 1) := by decide +kernel
theorem dX7_saveSnapshot_2 : decode cX7_saveSnapshot 2 = .ok (.putfield 54, 3) := by decide +kernel
theorem dX7_saveSnapshot_5 : decode cX7_saveSnapshot 5 = .ok (.aload_n 0, 1) := by decide +kernel
theorem dX7_saveSnapshot_6 : decode cX7_saveSnapshot 6 = .ok (.iconst 1, 1) := by decide +kernel
theorem dX7_saveSnapshot_7 : decode cX7_saveSnapshot 7 = .ok (.putfield 252, 3) := by decide +kernel
theorem dX7_saveSnapshot_10 : decode cX7_saveSnapshot 10 = .ok (.aload_n 0, 1) := by decide +kernel
theorem dX7_saveSnapshot_11 : decode cX7_saveSnapshot 11 = .ok (.aload_n 0, 1) := by decide +kernel
theorem dX7_saveSnapshot_12 : decode cX7_saveSnapshot 12 = .ok (.getfield 45, 3) := by decide +kernel
theorem dX7_saveSnapshot_15 : decode cX7_saveSnapshot 15 = .ok (.iconst 0, 1) := by decide +kernel
theorem dX7_saveSnapshot_16 : decode cX7_saveSnapshot 16 = .ok (.iconst 1, 1) := by decide +kernel
theorem dX7_saveSnapshot_17 : decode cX7_saveSnapshot 17 = .ok (.invokevirtual 248, 3) := by decide +kernel
theorem dX7_saveSnapshot_20 : decode cX7_saveSnapshot 20 = .ok (.aload_n 0, 1) := by decide +kernel
theorem dX7_saveSnapshot_21 : decode cX7_saveSnapshot 21 = .ok (.getfield 72, 3) := by decide +kernel
theorem dX7_saveSnapshot_24 : decode cX7_saveSnapshot 24 = .ok (.ireturn, 1) := by decide +kernel
theorem dX7_restoreSnapshot_0 : decode cX7_restoreSnapshot 0 = .ok (.aload_n 0, 1) := by decide +kernel
theorem dX7_restoreSnapshot_1 : decode cX7_restoreSnapshot 1 = .ok (.getfield 252, 3) := by decide +kernel
theorem dX7_restoreSnapshot_4 : decode cX7_restoreSnapshot 4 = .ok (.ifCond .ne 9, 3) := by decide +kernel
theorem dX7_restoreSnapshot_7 : decode cX7_restoreSnapshot 7 = .ok (.aload_n 0, 1) := by decide +kernel
theorem dX7_restoreSnapshot_8 : decode cX7_restoreSnapshot 8 = .ok (.iconst 1, 1) := by decide +kernel
theorem dX7_restoreSnapshot_9 : decode cX7_restoreSnapshot 9 = .ok (.invokevirtual 79, 3) := by decide +kernel
theorem dX7_restoreSnapshot_12 : decode cX7_restoreSnapshot 12 = .ok (.ireturn, 1) := by decide +kernel
theorem dX7_restoreSnapshot_13 : decode cX7_restoreSnapshot 13 = .ok (.aload_n 0, 1) := by decide +kernel
theorem dX7_restoreSnapshot_14 : decode cX7_restoreSnapshot 14 = .ok (.iconst 0, 1) := by decide +kernel
theorem dX7_restoreSnapshot_15 : decode cX7_restoreSnapshot 15 = .ok (.putfield 54, 3) := by decide +kernel
theorem dX7_restoreSnapshot_18 : decode cX7_restoreSnapshot 18 = .ok (.aload_n 0, 1) := by decide +kernel
theorem dX7_restoreSnapshot_19 : decode cX7_restoreSnapshot 19 = .ok (.aload_n 0, 1) := by decide +kernel
theorem dX7_restoreSnapshot_20 : decode cX7_restoreSnapshot 20 = .ok (.getfield 45, 3) := by decide +kernel
theorem dX7_restoreSnapshot_23 : decode cX7_restoreSnapshot 23 = .ok (.iconst 0, 1) := by decide +kernel
theorem dX7_restoreSnapshot_24 : decode cX7_restoreSnapshot 24 = .ok (.iconst 0, 1) := by decide +kernel
theorem dX7_restoreSnapshot_25 : decode cX7_restoreSnapshot 25 = .ok (.invokevirtual 248, 3) := by decide +kernel
theorem dX7_restoreSnapshot_28 : decode cX7_restoreSnapshot 28 = .ok (.aload_n 0, 1) := by decide +kernel
theorem dX7_restoreSnapshot_29 : decode cX7_restoreSnapshot 29 = .ok (.iconst 0, 1) := by decide +kernel
theorem dX7_restoreSnapshot_30 : decode cX7_restoreSnapshot 30 = .ok (.putfield 83, 3) := by decide +kernel
theorem dX7_restoreSnapshot_33 : decode cX7_restoreSnapshot 33 = .ok (.aload_n 0, 1) := by decide +kernel
theorem dX7_restoreSnapshot_34 : decode cX7_restoreSnapshot 34 = .ok (.getfield 72, 3) := by decide +kernel
theorem dX7_restoreSnapshot_37 : decode cX7_restoreSnapshot 37 = .ok (.ireturn, 1) := by decide +kernel
theorem dX7_prints_0 : decode cX7_prints 0 = .ok (.aload_n 0, 1) := by decide +kernel
theorem dX7_prints_1 : decode cX7_prints 1 = .ok (.getfield 48, 3) := by decide +kernel
theorem dX7_prints_4 : decode cX7_prints 4 = .ok (.aload_n 0, 1) := by decide +kernel
theorem dX7_prints_5 : decode cX7_prints 5 = .ok (.getfield 255, 3) := by decide +kernel
theorem dX7_prints_8 : decode cX7_prints 8 = .ok (.iload_n 1, 1) := by decide +kernel
theorem dX7_prints_9 : decode cX7_prints 9 = .ok (.iastore, 1) := by decide +kernel
theorem dX7_prints_10 : decode cX7_prints 10 = .ok (.aload_n 0, 1) := by decide +kernel
theorem dX7_prints_11 : decode cX7_prints 11 = .ok (.dup, 1) := by decide +kernel
theorem dX7_prints_12 : decode cX7_prints 12 = .ok (.getfield 255, 3) := by decide +kernel
theorem dX7_prints_15 : decode cX7_prints 15 = .ok (.iconst 1, 1) := by decide +kernel
theorem dX7_prints_16 : decode cX7_prints 16 = .ok (.iadd, 1) := by decide +kernel
theorem dX7_prints_17 : decode cX7_prints 17 = .ok (.putfield 255, 3) := by decide +kernel
theorem dX7_prints_20 : decode cX7_prints 20 = .ok (.return_, 1) := by decide +kernel
theorem dX7_printsNumber_0 : decode cX7_printsNumber 0 = .ok (.iconst 1, 1) := by decide +kernel
theorem dX7_printsNumber_1 : decode cX7_printsNumber 1 = .ok (.istore_n 2, 1) := by decide +kernel
theorem dX7_printsNumber_2 : decode cX7_printsNumber 2 = .ok (.iload_n 1, 1) := by decide +kernel
theorem dX7_printsNumber_3 : decode cX7_printsNumber 3 = .ok (.iload_n 2, 1) := by decide +kernel
theorem dX7_printsNumber_4 : decode cX7_printsNumber 4 = .ok (.idiv, 1) := by decide +kernel
theorem dX7_printsNumber_5 : decode cX7_printsNumber 5 = .ok (.bipush 9, 2) := by decide +kernel
theorem dX7_printsNumber_7 : decode cX7_printsNumber 7 = .ok (.if_icmp .le 11, 3) := by decide +kernel
theorem dX7_printsNumber_10 : decode cX7_printsNumber 10 = .ok (.iload_n 2, 1) := by decide +kernel
theorem dX7_printsNumber_11 : decode cX7_printsNumber 11 = .ok (.bipush 10, 2) := by decide +kernel
theorem dX7_printsNumber_13 : decode cX7_printsNumber 13 = .ok (.imul, 1) := by decide +kernel
theorem dX7_printsNumber_14 : decode cX7_printsNumber 14 = .ok (.istore_n 2, 1) := by decide +kernel
theorem dX7_printsNumber_15 : decode cX7_printsNumber 15 = .ok (.goto (-13), 3) := by decide +kernel
theorem dX7_printsNumber_18 : decode cX7_printsNumber 18 = .ok (.iload_n 2, 1) := by decide +kernel
theorem dX7_printsNumber_19 : decode cX7_printsNumber 19 = .ok (.ifCond .le 25, 3) := by decide +kernel
theorem dX7_printsNumber_22 : decode cX7_printsNumber 22 = .ok (.aload_n 0, 1) := by decide +kernel
theorem dX7_printsNumber_23 : decode cX7_printsNumber 23 = .ok (.bipush 48, 2) := by decide +kernel
theorem dX7_printsNumber_25 : decode cX7_printsNumber 25 = .ok (.iload_n 1, 1) := by decide +kernel
theorem dX7_printsNumber_26 : decode cX7_printsNumber 26 = .ok (.iload_n 2, 1) := by decide +kernel
theorem dX7_printsNumber_27 : decode cX7_printsNumber 27 = .ok (.idiv, 1) := by decide +kernel
theorem dX7_printsNumber_28 : decode cX7_printsNumber 28 = .ok (.bipush 10, 2) := by decide +kernel
theorem dX7_printsNumber_30 : decode cX7_printsNumber 30 = .ok (.irem, 1) := by decide +kernel
theorem dX7_printsNumber_31 : decode cX7_printsNumber 31 = .ok (.iadd, 1) := by decide +kernel
theorem dX7_printsNumber_32 : decode cX7_printsNumber 32 = .ok (.i2c, 1) := by decide +kernel
theorem dX7_printsNumber_33 : decode cX7_printsNumber 33 = .ok (.invokevirtual 258, 3) := by decide +kernel
theorem dX7_printsNumber_36 : decode cX7_printsNumber 36 = .ok (.iload_n 2, 1) := by decide +kernel
theorem dX7_printsNumber_37 : decode cX7_printsNumber 37 = .ok (.bipush 10, 2) := by decide +kernel
theorem dX7_printsNumber_39 : decode cX7_printsNumber 39 = .ok (.idiv, 1) := by decide +kernel
theorem dX7_printsNumber_40 : decode cX7_printsNumber 40 = .ok (.istore_n 2, 1) := by decide +kernel
theorem dX7_printsNumber_41 : decode cX7_printsNumber 41 = .ok (.goto (-23), 3) := by decide +kernel
theorem dX7_printsNumber_44 : decode cX7_printsNumber 44 = .ok (.return_, 1) := by decide +kernel
theorem dX7_printsRule_0 : decode cX7_printsRule 0 = .ok (.aload_n 0, 1) := by decide +kernel
theorem dX7_printsRule_1 : decode cX7_printsRule 1 = .ok (.aload_n 0, 1) := by decide +kernel
theorem dX7_printsRule_2 : decode cX7_printsRule 2 = .ok (.iload_n 1, 1) := by decide +kernel
theorem dX7_printsRule_3 : decode cX7_printsRule 3 = .ok (.iload_n 2, 1) := by decide +kernel
theorem dX7_printsRule_4 : decode cX7_printsRule 4 = .ok (.iconst 0, 1) := by decide +kernel
theorem dX7_printsRule_5 : decode cX7_printsRule 5 = .ok (.invokevirtual 144, 3) := by decide +kernel
theorem dX7_printsRule_8 : decode cX7_printsRule 8 = .ok (.invokevirtual 262, 3) := by decide +kernel
theorem dX7_printsRule_11 : decode cX7_printsRule 11 = .ok (.aload_n 0, 1) := by decide +kernel
theorem dX7_printsRule_12 : decode cX7_printsRule 12 = .ok (.iload_n 1, 1) := by decide +kernel
theorem dX7_printsRule_13 : decode cX7_printsRule 13 = .ok (.iload_n 2, 1) := by decide +kernel
theorem dX7_printsRule_14 : decode cX7_printsRule 14 = .ok (.iconst 1, 1) := by decide +kernel
theorem dX7_printsRule_15 : decode cX7_printsRule 15 = .ok (.invokevirtual 144, 3) := by decide +kernel
theorem dX7_printsRule_18 : decode cX7_printsRule 18 = .ok (.aload_n 0, 1) := by decide +kernel
theorem dX7_printsRule_19 : decode cX7_printsRule 19 = .ok (.iload_n 1, 1) := by decide +kernel
theorem dX7_printsRule_20 : decode cX7_printsRule 20 = .ok (.iload_n 2, 1) := by decide +kernel
theorem dX7_printsRule_21 : decode cX7_printsRule 21 = .ok (.iconst 0, 1) := by decide +kernel
theorem dX7_printsRule_22 : decode cX7_printsRule 22 = .ok (.invokevirtual 144, 3) := by decide +kernel
theorem dX7_printsRule_25 : decode cX7_printsRule 25 = .ok (.if_icmp .le 20, 3) := by decide +kernel
theorem dX7_printsRule_28 : decode cX7_printsRule 28 = .ok (.aload_n 0, 1) := by decide +kernel
theorem dX7_printsRule_29 : decode cX7_printsRule 29 = .ok (.bipush 45, 2) := by decide +kernel
theorem dX7_printsRule_31 : decode cX7_printsRule 31 = .ok (.invokevirtual 258, 3) := by decide +kernel
theorem dX7_printsRule_34 : decode cX7_printsRule 34 = .ok (.aload_n 0, 1) := by decide +kernel
theorem dX7_printsRule_35 : decode cX7_printsRule 35 = .ok (.aload_n 0, 1) := by decide +kernel
theorem dX7_printsRule_36 : decode cX7_printsRule 36 = .ok (.iload_n 1, 1) := by decide +kernel
theorem dX7_printsRule_37 : decode cX7_printsRule 37 = .ok (.iload_n 2, 1) := by decide +kernel
theorem dX7_printsRule_38 : decode cX7_printsRule 38 = .ok (.iconst 1, 1) := by decide +kernel
theorem dX7_printsRule_39 : decode cX7_printsRule 39 = .ok (.invokevirtual 144, 3) := by decide +kernel
theorem dX7_printsRule_42 : decode cX7_printsRule 42 = .ok (.invokevirtual 262, 3) := by decide +kernel
theorem dX7_printsRule_45 : decode cX7_printsRule 45 = .ok (.iconst 0, 1) := by decide +kernel
theorem dX7_printsRule_46 : decode cX7_printsRule 46 = .ok (.istore_n 3, 1) := by decide +kernel
theorem dX7_printsRule_47 : decode cX7_printsRule 47 = .ok (.iload_n 3, 1) := by decide +kernel
theorem dX7_printsRule_48 : decode cX7_printsRule 48 = .ok (.aload_n 0, 1) := by decide +kernel
theorem dX7_printsRule_49 : decode cX7_printsRule 49 = .ok (.iload_n 1, 1) := by decide +kernel
theorem dX7_printsRule_50 : decode cX7_printsRule 50 = .ok (.iload_n 2, 1) := by decide +kernel
theorem dX7_printsRule_51 : decode cX7_printsRule 51 = .ok (.iconst 2, 1) := by decide +kernel
theorem dX7_printsRule_52 : decode cX7_printsRule 52 = .ok (.invokevirtual 144, 3) := by decide +kernel
theorem dX7_printsRule_55 : decode cX7_printsRule 55 = .ok (.if_icmp .ge 37, 3) := by decide +kernel
theorem dX7_printsRule_58 : decode cX7_printsRule 58 = .ok (.aload_n 0, 1) := by decide +kernel
theorem dX7_printsRule_59 : decode cX7_printsRule 59 = .ok (.iload_n 3, 1) := by decide +kernel
theorem dX7_printsRule_60 : decode cX7_printsRule 60 = .ok (.ifCond .ne 8, 3) := by decide +kernel
theorem dX7_printsRule_63 : decode cX7_printsRule 63 = .ok (.bipush 61, 2) := by decide +kernel
theorem dX7_printsRule_65 : decode cX7_printsRule 65 = .ok (.goto 5, 3) := by decide +kernel
theorem dX7_printsRule_68 : decode cX7_printsRule 68 = .ok (.bipush 44, 2) := by decide +kernel
theorem dX7_printsRule_70 : decode cX7_printsRule 70 = .ok (.invokevirtual 258, 3) := by decide +kernel
theorem dX7_printsRule_73 : decode cX7_printsRule 73 = .ok (.aload_n 0, 1) := by decide +kernel
theorem dX7_printsRule_74 : decode cX7_printsRule 74 = .ok (.aload_n 0, 1) := by decide +kernel
theorem dX7_printsRule_75 : decode cX7_printsRule 75 = .ok (.iload_n 1, 1) := by decide +kernel
theorem dX7_printsRule_76 : decode cX7_printsRule 76 = .ok (.iload_n 2, 1) := by decide +kernel
theorem dX7_printsRule_77 : decode cX7_printsRule 77 = .ok (.iconst 3, 1) := by decide +kernel
theorem dX7_printsRule_78 : decode cX7_printsRule 78 = .ok (.iload_n 3, 1) := by decide +kernel
theorem dX7_printsRule_79 : decode cX7_printsRule 79 = .ok (.iadd, 1) := by decide +kernel
theorem dX7_printsRule_80 : decode cX7_printsRule 80 = .ok (.invokevirtual 144, 3) := by decide +kernel
theorem dX7_printsRule_83 : decode cX7_printsRule 83 = .ok (.invokevirtual 262, 3) := by decide +kernel
theorem dX7_printsRule_86 : decode cX7_printsRule 86 = .ok (.iinc 3 1, 3) := by decide +kernel
theorem dX7_printsRule_89 : decode cX7_printsRule 89 = .ok (.goto (-42), 3) := by decide +kernel
theorem dX7_printsRule_92 : decode cX7_printsRule 92 = .ok (.return_, 1) := by decide +kernel
theorem dX7_write_0 : decode cX7_write 0 = .ok (.aload_n 0, 1) := by decide +kernel
theorem dX7_write_1 : decode cX7_write 1 = .ok (.iload_n 1, 1) := by decide +kernel
theorem dX7_write_2 : decode cX7_write 2 = .ok (.invokevirtual 148, 3) := by decide +kernel
theorem dX7_write_5 : decode cX7_write 5 = .ok (.ifCond .ne 9, 3) := by decide +kernel
theorem dX7_write_8 : decode cX7_write 8 = .ok (.aload_n 0, 1) := by decide +kernel
theorem dX7_write_9 : decode cX7_write 9 = .ok (.iconst 1, 1) := by decide +kernel
theorem dX7_write_10 : decode cX7_write 10 = .ok (.invokevirtual 79, 3) := by decide +kernel
theorem dX7_write_13 : decode cX7_write 13 = .ok (.ireturn, 1) := by decide +kernel
theorem dX7_write_14 : decode cX7_write 14 = .ok (.aload_n 0, 1) := by decide +kernel
theorem dX7_write_15 : decode cX7_write 15 = .ok (.iconst 0, 1) := by decide +kernel
theorem dX7_write_16 : decode cX7_write 16 = .ok (.putfield 54, 3) := by decide +kernel
theorem dX7_write_19 : decode cX7_write 19 = .ok (.aload_n 0, 1) := by decide +kernel
theorem dX7_write_20 : decode cX7_write 20 = .ok (.iconst 0, 1) := by decide +kernel
theorem dX7_write_21 : decode cX7_write 21 = .ok (.putfield 255, 3) := by decide +kernel
theorem dX7_write_24 : decode cX7_write 24 = .ok (.aload_n 0, 1) := by decide +kernel
theorem dX7_write_25 : decode cX7_write 25 = .ok (.bipush 64, 2) := by decide +kernel
theorem dX7_write_27 : decode cX7_write 27 = .ok (.invokevirtual 258, 3) := by decide +kernel
theorem dX7_write_30 : decode cX7_write 30 = .ok (.aload_n 0, 1) := by decide +kernel
theorem dX7_write_31 : decode cX7_write 31 = .ok (.aload_n 0, 1) := by decide +kernel
theorem dX7_write_32 : decode cX7_write 32 = .ok (.iload_n 1, 1) := by decide +kernel
theorem dX7_write_33 : decode cX7_write 33 = .ok (.iconst 0, 1) := by decide +kernel
theorem dX7_write_34 : decode cX7_write 34 = .ok (.invokevirtual 141, 3) := by decide +kernel
theorem dX7_write_37 : decode cX7_write 37 = .ok (.invokevirtual 262, 3) := by decide +kernel
theorem dX7_write_40 : decode cX7_write 40 = .ok (.iconst 0, 1) := by decide +kernel
theorem dX7_write_41 : decode cX7_write 41 = .ok (.istore_n 2, 1) := by decide +kernel
theorem dX7_write_42 : decode cX7_write 42 = .ok (.iload_n 2, 1) := by decide +kernel
theorem dX7_write_43 : decode cX7_write 43 = .ok (.aload_n 0, 1) := by decide +kernel
theorem dX7_write_44 : decode cX7_write 44 = .ok (.iload_n 1, 1) := by decide +kernel
theorem dX7_write_45 : decode cX7_write 45 = .ok (.iconst 1, 1) := by decide +kernel
theorem dX7_write_46 : decode cX7_write 46 = .ok (.invokevirtual 141, 3) := by decide +kernel
theorem dX7_write_49 : decode cX7_write 49 = .ok (.if_icmp .ge 30, 3) := by decide +kernel
theorem dX7_write_52 : decode cX7_write 52 = .ok (.aload_n 0, 1) := by decide +kernel
theorem dX7_write_53 : decode cX7_write 53 = .ok (.iload_n 2, 1) := by decide +kernel
theorem dX7_write_54 : decode cX7_write 54 = .ok (.ifCond .ne 8, 3) := by decide +kernel
theorem dX7_write_57 : decode cX7_write 57 = .ok (.bipush 58, 2) := by decide +kernel
theorem dX7_write_59 : decode cX7_write 59 = .ok (.goto 5, 3) := by decide +kernel
theorem dX7_write_62 : decode cX7_write 62 = .ok (.bipush 59, 2) := by decide +kernel
theorem dX7_write_64 : decode cX7_write 64 = .ok (.invokevirtual 258, 3) := by decide +kernel
theorem dX7_write_67 : decode cX7_write 67 = .ok (.aload_n 0, 1) := by decide +kernel
theorem dX7_write_68 : decode cX7_write 68 = .ok (.iload_n 1, 1) := by decide +kernel
theorem dX7_write_69 : decode cX7_write 69 = .ok (.iload_n 2, 1) := by decide +kernel
theorem dX7_write_70 : decode cX7_write 70 = .ok (.invokevirtual 265, 3) := by decide +kernel
theorem dX7_write_73 : decode cX7_write 73 = .ok (.iinc 2 1, 3) := by decide +kernel
theorem dX7_write_76 : decode cX7_write 76 = .ok (.goto (-34), 3) := by decide +kernel
theorem dX7_write_79 : decode cX7_write 79 = .ok (.aload_n 0, 1) := by decide +kernel
theorem dX7_write_80 : decode cX7_write 80 = .ok (.bipush 120, 2) := by decide +kernel
theorem dX7_write_82 : decode cX7_write 82 = .ok (.invokevirtual 258, 3) := by decide +kernel
theorem dX7_write_85 : decode cX7_write 85 = .ok (.aload_n 0, 1) := by decide +kernel
theorem dX7_write_86 : decode cX7_write 86 = .ok (.aload_n 0, 1) := by decide +kernel
theorem dX7_write_87 : decode cX7_write 87 = .ok (.iload_n 1, 1) := by decide +kernel
theorem dX7_write_88 : decode cX7_write 88 = .ok (.iconst 2, 1) := by decide +kernel
theorem dX7_write_89 : decode cX7_write 89 = .ok (.invokevirtual 141, 3) := by decide +kernel
theorem dX7_write_92 : decode cX7_write 92 = .ok (.invokevirtual 262, 3) := by decide +kernel
theorem dX7_write_95 : decode cX7_write 95 = .ok (.aload_n 0, 1) := by decide +kernel
theorem dX7_write_96 : decode cX7_write 96 = .ok (.iload_n 1, 1) := by decide +kernel
theorem dX7_write_97 : decode cX7_write 97 = .ok (.iconst 3, 1) := by decide +kernel
theorem dX7_write_98 : decode cX7_write 98 = .ok (.invokevirtual 141, 3) := by decide +kernel
theorem dX7_write_101 : decode cX7_write 101 = .ok (.iconst 3, 1) := by decide +kernel
theorem dX7_write_102 : decode cX7_write 102 = .ok (.if_icmp .eq 19, 3) := by decide +kernel
theorem dX7_write_105 : decode cX7_write 105 = .ok (.aload_n 0, 1) := by decide +kernel
theorem dX7_write_106 : decode cX7_write 106 = .ok (.bipush 42, 2) := by decide +kernel
theorem dX7_write_108 : decode cX7_write 108 = .ok (.invokevirtual 258, 3) := by decide +kernel
theorem dX7_write_111 : decode cX7_write 111 = .ok (.aload_n 0, 1) := by decide +kernel
theorem dX7_write_112 : decode cX7_write 112 = .ok (.aload_n 0, 1) := by decide +kernel
theorem dX7_write_113 : decode cX7_write 113 = .ok (.iload_n 1, 1) := by decide +kernel
theorem dX7_write_114 : decode cX7_write 114 = .ok (.iconst 3, 1) := by decide +kernel
theorem dX7_write_115 : decode cX7_write 115 = .ok (.invokevirtual 141, 3) := by decide +kernel
theorem dX7_write_118 : decode cX7_write 118 = .ok (.invokevirtual 262, 3) := by decide +kernel
theorem dX7_write_121 : decode cX7_write 121 = .ok (.aload_n 0, 1) := by decide +kernel
theorem dX7_write_122 : decode cX7_write 122 = .ok (.getfield 255, 3) := by decide +kernel
theorem dX7_write_125 : decode cX7_write 125 = .ok (.ireturn, 1) := by decide +kernel
theorem dX7_paper_0 : decode cX7_paper 0 = .ok (.aload_n 0, 1) := by decide +kernel
theorem dX7_paper_1 : decode cX7_paper 1 = .ok (.iload_n 1, 1) := by decide +kernel
theorem dX7_paper_2 : decode cX7_paper 2 = .ok (.iconst 0, 1) := by decide +kernel
theorem dX7_paper_3 : decode cX7_paper 3 = .ok (.aload_n 0, 1) := by decide +kernel
theorem dX7_paper_4 : decode cX7_paper 4 = .ok (.getfield 255, 3) := by decide +kernel
theorem dX7_paper_7 : decode cX7_paper 7 = .ok (.iconst 1, 1) := by decide +kernel
theorem dX7_paper_8 : decode cX7_paper 8 = .ok (.isub, 1) := by decide +kernel
theorem dX7_paper_9 : decode cX7_paper 9 = .ok (.invokestatic 75, 3) := by decide +kernel
theorem dX7_paper_12 : decode cX7_paper 12 = .ok (.ifCond .eq 7, 3) := by decide +kernel
theorem dX7_paper_15 : decode cX7_paper 15 = .ok (.iconst 0, 1) := by decide +kernel
theorem dX7_paper_16 : decode cX7_paper 16 = .ok (.goto 4, 3) := by decide +kernel
theorem dX7_paper_19 : decode cX7_paper 19 = .ok (.iconst 1, 1) := by decide +kernel
theorem dX7_paper_20 : decode cX7_paper 20 = .ok (.putfield 54, 3) := by decide +kernel
theorem dX7_paper_23 : decode cX7_paper 23 = .ok (.aload_n 0, 1) := by decide +kernel
theorem dX7_paper_24 : decode cX7_paper 24 = .ok (.getfield 54, 3) := by decide +kernel
theorem dX7_paper_27 : decode cX7_paper 27 = .ok (.ifCond .ne 13, 3) := by decide +kernel
theorem dX7_paper_30 : decode cX7_paper 30 = .ok (.aload_n 0, 1) := by decide +kernel
theorem dX7_paper_31 : decode cX7_paper 31 = .ok (.getfield 48, 3) := by decide +kernel
theorem dX7_paper_34 : decode cX7_paper 34 = .ok (.iload_n 1, 1) := by decide +kernel
theorem dX7_paper_35 : decode cX7_paper 35 = .ok (.iaload, 1) := by decide +kernel
theorem dX7_paper_36 : decode cX7_paper 36 = .ok (.i2c, 1) := by decide +kernel
theorem dX7_paper_37 : decode cX7_paper 37 = .ok (.goto 4, 3) := by decide +kernel
theorem dX7_paper_40 : decode cX7_paper 40 = .ok (.iconst 0, 1) := by decide +kernel
theorem dX7_paper_41 : decode cX7_paper 41 = .ok (.ireturn, 1) := by decide +kernel
theorem dL_build_0 : decode cL_build 0 = .ok (.aload_n 2, 1) := by decide +kernel
theorem dL_build_1 : decode cL_build 1 = .ok (.iconst 0, 1) := by decide +kernel
theorem dL_build_2 : decode cL_build 2 = .ok (.aload_n 0, 1) := by decide +kernel
theorem dL_build_3 : decode cL_build 3 = .ok (.iload_n 1, 1) := by decide +kernel
theorem dL_build_4 : decode cL_build 4 = .ok (.invokevirtual 7, 3) := by decide +kernel
theorem dL_build_7 : decode cL_build 7 = .ok (.i2l, 1) := by decide +kernel
theorem dL_build_8 : decode cL_build 8 = .ok (.lastore, 1) := by decide +kernel
theorem dL_build_9 : decode cL_build 9 = .ok (.goto 6, 3) := by decide +kernel
theorem dL_build_12 : decode cL_build 12 = .ok (.astore_n 3, 1) := by decide +kernel
theorem dL_build_13 : decode cL_build 13 = .ok (.iconst 1, 1) := by decide +kernel
theorem dL_build_14 : decode cL_build 14 = .ok (.ireturn, 1) := by decide +kernel
theorem dL_build_15 : decode cL_build 15 = .ok (.iconst 0, 1) := by decide +kernel
theorem dL_build_16 : decode cL_build 16 = .ok (.ireturn, 1) := by decide +kernel
theorem dL_addStation_0 : decode cL_addStation 0 = .ok (.aload_n 2, 1) := by decide +kernel
theorem dL_addStation_1 : decode cL_addStation 1 = .ok (.iconst 0, 1) := by decide +kernel
theorem dL_addStation_2 : decode cL_addStation 2 = .ok (.aload_n 0, 1) := by decide +kernel
theorem dL_addStation_3 : decode cL_addStation 3 = .ok (.iload_n 1, 1) := by decide +kernel
theorem dL_addStation_4 : decode cL_addStation 4 = .ok (.invokevirtual 15, 3) := by decide +kernel
theorem dL_addStation_7 : decode cL_addStation 7 = .ok (.i2l, 1) := by decide +kernel
theorem dL_addStation_8 : decode cL_addStation 8 = .ok (.lastore, 1) := by decide +kernel
theorem dL_addStation_9 : decode cL_addStation 9 = .ok (.goto 9, 3) := by decide +kernel
theorem dL_addStation_12 : decode cL_addStation 12 = .ok (.astore_n 3, 1) := by decide +kernel
theorem dL_addStation_13 : decode cL_addStation 13 = .ok (.iconst 1, 1) := by decide +kernel
theorem dL_addStation_14 : decode cL_addStation 14 = .ok (.ireturn, 1) := by decide +kernel
theorem dL_addStation_15 : decode cL_addStation 15 = .ok (.astore_n 3, 1) := by decide +kernel
theorem dL_addStation_16 : decode cL_addStation 16 = .ok (.iconst 2, 1) := by decide +kernel
theorem dL_addStation_17 : decode cL_addStation 17 = .ok (.ireturn, 1) := by decide +kernel
theorem dL_addStation_18 : decode cL_addStation 18 = .ok (.iconst 0, 1) := by decide +kernel
theorem dL_addStation_19 : decode cL_addStation 19 = .ok (.ireturn, 1) := by decide +kernel
theorem dL_addChute_0 : decode cL_addChute 0 = .ok (.aload 7, 2) := by decide +kernel
theorem dL_addChute_2 : decode cL_addChute 2 = .ok (.iconst 0, 1) := by decide +kernel
theorem dL_addChute_3 : decode cL_addChute 3 = .ok (.aload_n 0, 1) := by decide +kernel
theorem dL_addChute_4 : decode cL_addChute 4 = .ok (.iload_n 1, 1) := by decide +kernel
theorem dL_addChute_5 : decode cL_addChute 5 = .ok (.iload_n 2, 1) := by decide +kernel
theorem dL_addChute_6 : decode cL_addChute 6 = .ok (.iload_n 3, 1) := by decide +kernel
theorem dL_addChute_7 : decode cL_addChute 7 = .ok (.iload 4, 2) := by decide +kernel
theorem dL_addChute_9 : decode cL_addChute 9 = .ok (.iload 5, 2) := by decide +kernel
theorem dL_addChute_11 : decode cL_addChute 11 = .ok (.iload 6, 2) := by decide +kernel
theorem dL_addChute_13 : decode cL_addChute 13 = .ok (.invokevirtual 20, 3) := by decide +kernel
theorem dL_addChute_16 : decode cL_addChute 16 = .ok (.i2l, 1) := by decide +kernel
theorem dL_addChute_17 : decode cL_addChute 17 = .ok (.lastore, 1) := by decide +kernel
theorem dL_addChute_18 : decode cL_addChute 18 = .ok (.goto 11, 3) := by decide +kernel
theorem dL_addChute_21 : decode cL_addChute 21 = .ok (.astore 8, 2) := by decide +kernel
theorem dL_addChute_23 : decode cL_addChute 23 = .ok (.iconst 1, 1) := by decide +kernel
theorem dL_addChute_24 : decode cL_addChute 24 = .ok (.ireturn, 1) := by decide +kernel
theorem dL_addChute_25 : decode cL_addChute 25 = .ok (.astore 8, 2) := by decide +kernel
theorem dL_addChute_27 : decode cL_addChute 27 = .ok (.iconst 2, 1) := by decide +kernel
theorem dL_addChute_28 : decode cL_addChute 28 = .ok (.ireturn, 1) := by decide +kernel
theorem dL_addChute_29 : decode cL_addChute 29 = .ok (.iconst 0, 1) := by decide +kernel
theorem dL_addChute_30 : decode cL_addChute 30 = .ok (.ireturn, 1) := by decide +kernel
theorem dL_feed_0 : decode cL_feed 0 = .ok (.aload_n 2, 1) := by decide +kernel
theorem dL_feed_1 : decode cL_feed 1 = .ok (.iconst 0, 1) := by decide +kernel
theorem dL_feed_2 : decode cL_feed 2 = .ok (.aload_n 0, 1) := by decide +kernel
theorem dL_feed_3 : decode cL_feed 3 = .ok (.iload_n 1, 1) := by decide +kernel
theorem dL_feed_4 : decode cL_feed 4 = .ok (.invokevirtual 24, 3) := by decide +kernel
theorem dL_feed_7 : decode cL_feed 7 = .ok (.i2l, 1) := by decide +kernel
theorem dL_feed_8 : decode cL_feed 8 = .ok (.lastore, 1) := by decide +kernel
theorem dL_feed_9 : decode cL_feed 9 = .ok (.goto 6, 3) := by decide +kernel
theorem dL_feed_12 : decode cL_feed 12 = .ok (.astore_n 3, 1) := by decide +kernel
theorem dL_feed_13 : decode cL_feed 13 = .ok (.iconst 1, 1) := by decide +kernel
theorem dL_feed_14 : decode cL_feed 14 = .ok (.ireturn, 1) := by decide +kernel
theorem dL_feed_15 : decode cL_feed 15 = .ok (.iconst 0, 1) := by decide +kernel
theorem dL_feed_16 : decode cL_feed 16 = .ok (.ireturn, 1) := by decide +kernel
theorem dL_addPlan_0 : decode cL_addPlan 0 = .ok (.aload_n 1, 1) := by decide +kernel
theorem dL_addPlan_1 : decode cL_addPlan 1 = .ok (.iconst 0, 1) := by decide +kernel
theorem dL_addPlan_2 : decode cL_addPlan 2 = .ok (.aload_n 0, 1) := by decide +kernel
theorem dL_addPlan_3 : decode cL_addPlan 3 = .ok (.invokevirtual 28, 3) := by decide +kernel
theorem dL_addPlan_6 : decode cL_addPlan 6 = .ok (.i2l, 1) := by decide +kernel
theorem dL_addPlan_7 : decode cL_addPlan 7 = .ok (.lastore, 1) := by decide +kernel
theorem dL_addPlan_8 : decode cL_addPlan 8 = .ok (.goto 9, 3) := by decide +kernel
theorem dL_addPlan_11 : decode cL_addPlan 11 = .ok (.astore_n 2, 1) := by decide +kernel
theorem dL_addPlan_12 : decode cL_addPlan 12 = .ok (.iconst 1, 1) := by decide +kernel
theorem dL_addPlan_13 : decode cL_addPlan 13 = .ok (.ireturn, 1) := by decide +kernel
theorem dL_addPlan_14 : decode cL_addPlan 14 = .ok (.astore_n 2, 1) := by decide +kernel
theorem dL_addPlan_15 : decode cL_addPlan 15 = .ok (.iconst 2, 1) := by decide +kernel
theorem dL_addPlan_16 : decode cL_addPlan 16 = .ok (.ireturn, 1) := by decide +kernel
theorem dL_addPlan_17 : decode cL_addPlan 17 = .ok (.iconst 0, 1) := by decide +kernel
theorem dL_addPlan_18 : decode cL_addPlan 18 = .ok (.ireturn, 1) := by decide +kernel
theorem dL_plan_0 : decode cL_plan 0 = .ok (.aload_n 3, 1) := by decide +kernel
theorem dL_plan_1 : decode cL_plan 1 = .ok (.iconst 0, 1) := by decide +kernel
theorem dL_plan_2 : decode cL_plan 2 = .ok (.aload_n 0, 1) := by decide +kernel
theorem dL_plan_3 : decode cL_plan 3 = .ok (.iload_n 1, 1) := by decide +kernel
theorem dL_plan_4 : decode cL_plan 4 = .ok (.iload_n 2, 1) := by decide +kernel
theorem dL_plan_5 : decode cL_plan 5 = .ok (.invokevirtual 34, 3) := by decide +kernel
theorem dL_plan_8 : decode cL_plan 8 = .ok (.i2l, 1) := by decide +kernel
theorem dL_plan_9 : decode cL_plan 9 = .ok (.lastore, 1) := by decide +kernel
theorem dL_plan_10 : decode cL_plan 10 = .ok (.goto 11, 3) := by decide +kernel
theorem dL_plan_13 : decode cL_plan 13 = .ok (.astore 4, 2) := by decide +kernel
theorem dL_plan_15 : decode cL_plan 15 = .ok (.iconst 1, 1) := by decide +kernel
theorem dL_plan_16 : decode cL_plan 16 = .ok (.ireturn, 1) := by decide +kernel
theorem dL_plan_17 : decode cL_plan 17 = .ok (.astore 4, 2) := by decide +kernel
theorem dL_plan_19 : decode cL_plan 19 = .ok (.iconst 2, 1) := by decide +kernel
theorem dL_plan_20 : decode cL_plan 20 = .ok (.ireturn, 1) := by decide +kernel
theorem dL_plan_21 : decode cL_plan 21 = .ok (.iconst 0, 1) := by decide +kernel
theorem dL_plan_22 : decode cL_plan 22 = .ok (.ireturn, 1) := by decide +kernel
theorem dL_route_0 : decode cL_route 0 = .ok (.aload 4, 2) := by decide +kernel
theorem dL_route_2 : decode cL_route 2 = .ok (.iconst 0, 1) := by decide +kernel
theorem dL_route_3 : decode cL_route 3 = .ok (.aload_n 0, 1) := by decide +kernel
theorem dL_route_4 : decode cL_route 4 = .ok (.iload_n 1, 1) := by decide +kernel
theorem dL_route_5 : decode cL_route 5 = .ok (.iload_n 2, 1) := by decide +kernel
theorem dL_route_6 : decode cL_route 6 = .ok (.iload_n 3, 1) := by decide +kernel
theorem dL_route_7 : decode cL_route 7 = .ok (.invokevirtual 40, 3) := by decide +kernel
theorem dL_route_10 : decode cL_route 10 = .ok (.i2l, 1) := by decide +kernel
theorem dL_route_11 : decode cL_route 11 = .ok (.lastore, 1) := by decide +kernel
theorem dL_route_12 : decode cL_route 12 = .ok (.goto 15, 3) := by decide +kernel
theorem dL_route_15 : decode cL_route 15 = .ok (.astore 5, 2) := by decide +kernel
theorem dL_route_17 : decode cL_route 17 = .ok (.iconst 1, 1) := by decide +kernel
theorem dL_route_18 : decode cL_route 18 = .ok (.ireturn, 1) := by decide +kernel
theorem dL_route_19 : decode cL_route 19 = .ok (.astore 5, 2) := by decide +kernel
theorem dL_route_21 : decode cL_route 21 = .ok (.iconst 2, 1) := by decide +kernel
theorem dL_route_22 : decode cL_route 22 = .ok (.ireturn, 1) := by decide +kernel
theorem dL_route_23 : decode cL_route 23 = .ok (.astore 5, 2) := by decide +kernel
theorem dL_route_25 : decode cL_route 25 = .ok (.iconst 3, 1) := by decide +kernel
theorem dL_route_26 : decode cL_route 26 = .ok (.ireturn, 1) := by decide +kernel
theorem dL_route_27 : decode cL_route 27 = .ok (.iconst 0, 1) := by decide +kernel
theorem dL_route_28 : decode cL_route 28 = .ok (.ireturn, 1) := by decide +kernel
theorem dL_arrive_0 : decode cL_arrive 0 = .ok (.aload 5, 2) := by decide +kernel
theorem dL_arrive_2 : decode cL_arrive 2 = .ok (.iconst 0, 1) := by decide +kernel
theorem dL_arrive_3 : decode cL_arrive 3 = .ok (.aload_n 0, 1) := by decide +kernel
theorem dL_arrive_4 : decode cL_arrive 4 = .ok (.iload_n 1, 1) := by decide +kernel
theorem dL_arrive_5 : decode cL_arrive 5 = .ok (.iload_n 2, 1) := by decide +kernel
theorem dL_arrive_6 : decode cL_arrive 6 = .ok (.iload_n 3, 1) := by decide +kernel
theorem dL_arrive_7 : decode cL_arrive 7 = .ok (.iload 4, 2) := by decide +kernel
theorem dL_arrive_9 : decode cL_arrive 9 = .ok (.invokevirtual 46, 3) := by decide +kernel
theorem dL_arrive_12 : decode cL_arrive 12 = .ok (.i2l, 1) := by decide +kernel
theorem dL_arrive_13 : decode cL_arrive 13 = .ok (.lastore, 1) := by decide +kernel
theorem dL_arrive_14 : decode cL_arrive 14 = .ok (.goto 15, 3) := by decide +kernel
theorem dL_arrive_17 : decode cL_arrive 17 = .ok (.astore 6, 2) := by decide +kernel
theorem dL_arrive_19 : decode cL_arrive 19 = .ok (.iconst 1, 1) := by decide +kernel
theorem dL_arrive_20 : decode cL_arrive 20 = .ok (.ireturn, 1) := by decide +kernel
theorem dL_arrive_21 : decode cL_arrive 21 = .ok (.astore 6, 2) := by decide +kernel
theorem dL_arrive_23 : decode cL_arrive 23 = .ok (.iconst 2, 1) := by decide +kernel
theorem dL_arrive_24 : decode cL_arrive 24 = .ok (.ireturn, 1) := by decide +kernel
theorem dL_arrive_25 : decode cL_arrive 25 = .ok (.astore 6, 2) := by decide +kernel
theorem dL_arrive_27 : decode cL_arrive 27 = .ok (.iconst 3, 1) := by decide +kernel
theorem dL_arrive_28 : decode cL_arrive 28 = .ok (.ireturn, 1) := by decide +kernel
theorem dL_arrive_29 : decode cL_arrive 29 = .ok (.iconst 0, 1) := by decide +kernel
theorem dL_arrive_30 : decode cL_arrive 30 = .ok (.ireturn, 1) := by decide +kernel
theorem dL_find_0 : decode cL_find 0 = .ok (.aload_n 3, 1) := by decide +kernel
theorem dL_find_1 : decode cL_find 1 = .ok (.iconst 0, 1) := by decide +kernel
theorem dL_find_2 : decode cL_find 2 = .ok (.aload_n 0, 1) := by decide +kernel
theorem dL_find_3 : decode cL_find 3 = .ok (.iload_n 1, 1) := by decide +kernel
theorem dL_find_4 : decode cL_find 4 = .ok (.iload_n 2, 1) := by decide +kernel
theorem dL_find_5 : decode cL_find 5 = .ok (.invokevirtual 50, 3) := by decide +kernel
theorem dL_find_8 : decode cL_find 8 = .ok (.i2l, 1) := by decide +kernel
theorem dL_find_9 : decode cL_find 9 = .ok (.lastore, 1) := by decide +kernel
theorem dL_find_10 : decode cL_find 10 = .ok (.goto 7, 3) := by decide +kernel
theorem dL_find_13 : decode cL_find 13 = .ok (.astore 4, 2) := by decide +kernel
theorem dL_find_15 : decode cL_find 15 = .ok (.iconst 1, 1) := by decide +kernel
theorem dL_find_16 : decode cL_find 16 = .ok (.ireturn, 1) := by decide +kernel
theorem dL_find_17 : decode cL_find 17 = .ok (.iconst 0, 1) := by decide +kernel
theorem dL_find_18 : decode cL_find 18 = .ok (.ireturn, 1) := by decide +kernel
theorem dL_parcel_0 : decode cL_parcel 0 = .ok (.aload_n 3, 1) := by decide +kernel
theorem dL_parcel_1 : decode cL_parcel 1 = .ok (.iconst 0, 1) := by decide +kernel
theorem dL_parcel_2 : decode cL_parcel 2 = .ok (.aload_n 0, 1) := by decide +kernel
theorem dL_parcel_3 : decode cL_parcel 3 = .ok (.iload_n 1, 1) := by decide +kernel
theorem dL_parcel_4 : decode cL_parcel 4 = .ok (.iload_n 2, 1) := by decide +kernel
theorem dL_parcel_5 : decode cL_parcel 5 = .ok (.invokevirtual 53, 3) := by decide +kernel
theorem dL_parcel_8 : decode cL_parcel 8 = .ok (.i2l, 1) := by decide +kernel
theorem dL_parcel_9 : decode cL_parcel 9 = .ok (.lastore, 1) := by decide +kernel
theorem dL_parcel_10 : decode cL_parcel 10 = .ok (.goto 11, 3) := by decide +kernel
theorem dL_parcel_13 : decode cL_parcel 13 = .ok (.astore 4, 2) := by decide +kernel
theorem dL_parcel_15 : decode cL_parcel 15 = .ok (.iconst 1, 1) := by decide +kernel
theorem dL_parcel_16 : decode cL_parcel 16 = .ok (.ireturn, 1) := by decide +kernel
theorem dL_parcel_17 : decode cL_parcel 17 = .ok (.astore 4, 2) := by decide +kernel
theorem dL_parcel_19 : decode cL_parcel 19 = .ok (.iconst 2, 1) := by decide +kernel
theorem dL_parcel_20 : decode cL_parcel 20 = .ok (.ireturn, 1) := by decide +kernel
theorem dL_parcel_21 : decode cL_parcel 21 = .ok (.iconst 0, 1) := by decide +kernel
theorem dL_parcel_22 : decode cL_parcel 22 = .ok (.ireturn, 1) := by decide +kernel
theorem dL_carried_0 : decode cL_carried 0 = .ok (.aload_n 2, 1) := by decide +kernel
theorem dL_carried_1 : decode cL_carried 1 = .ok (.iconst 0, 1) := by decide +kernel
theorem dL_carried_2 : decode cL_carried 2 = .ok (.aload_n 0, 1) := by decide +kernel
theorem dL_carried_3 : decode cL_carried 3 = .ok (.iload_n 1, 1) := by decide +kernel
theorem dL_carried_4 : decode cL_carried 4 = .ok (.invokevirtual 56, 3) := by decide +kernel
theorem dL_carried_7 : decode cL_carried 7 = .ok (.i2l, 1) := by decide +kernel
theorem dL_carried_8 : decode cL_carried 8 = .ok (.lastore, 1) := by decide +kernel
theorem dL_carried_9 : decode cL_carried 9 = .ok (.goto 9, 3) := by decide +kernel
theorem dL_carried_12 : decode cL_carried 12 = .ok (.astore_n 3, 1) := by decide +kernel
theorem dL_carried_13 : decode cL_carried 13 = .ok (.iconst 1, 1) := by decide +kernel
theorem dL_carried_14 : decode cL_carried 14 = .ok (.ireturn, 1) := by decide +kernel
theorem dL_carried_15 : decode cL_carried 15 = .ok (.astore_n 3, 1) := by decide +kernel
theorem dL_carried_16 : decode cL_carried 16 = .ok (.iconst 2, 1) := by decide +kernel
theorem dL_carried_17 : decode cL_carried 17 = .ok (.ireturn, 1) := by decide +kernel
theorem dL_carried_18 : decode cL_carried 18 = .ok (.iconst 0, 1) := by decide +kernel
theorem dL_carried_19 : decode cL_carried 19 = .ok (.ireturn, 1) := by decide +kernel
theorem dL_run_0 : decode cL_run 0 = .ok (.aload_n 2, 1) := by decide +kernel
theorem dL_run_1 : decode cL_run 1 = .ok (.iconst 0, 1) := by decide +kernel
theorem dL_run_2 : decode cL_run 2 = .ok (.aload_n 0, 1) := by decide +kernel
theorem dL_run_3 : decode cL_run 3 = .ok (.iload_n 1, 1) := by decide +kernel
theorem dL_run_4 : decode cL_run 4 = .ok (.invokevirtual 59, 3) := by decide +kernel
theorem dL_run_7 : decode cL_run 7 = .ok (.i2l, 1) := by decide +kernel
theorem dL_run_8 : decode cL_run 8 = .ok (.lastore, 1) := by decide +kernel
theorem dL_run_9 : decode cL_run 9 = .ok (.goto 6, 3) := by decide +kernel
theorem dL_run_12 : decode cL_run 12 = .ok (.astore_n 3, 1) := by decide +kernel
theorem dL_run_13 : decode cL_run 13 = .ok (.iconst 1, 1) := by decide +kernel
theorem dL_run_14 : decode cL_run 14 = .ok (.ireturn, 1) := by decide +kernel
theorem dL_run_15 : decode cL_run 15 = .ok (.iconst 0, 1) := by decide +kernel
theorem dL_run_16 : decode cL_run 16 = .ok (.ireturn, 1) := by decide +kernel
theorem dL_setClosed_0 : decode cL_setClosed 0 = .ok (.aload_n 3, 1) := by decide +kernel
theorem dL_setClosed_1 : decode cL_setClosed 1 = .ok (.iconst 0, 1) := by decide +kernel
theorem dL_setClosed_2 : decode cL_setClosed 2 = .ok (.aload_n 0, 1) := by decide +kernel
theorem dL_setClosed_3 : decode cL_setClosed 3 = .ok (.iload_n 1, 1) := by decide +kernel
theorem dL_setClosed_4 : decode cL_setClosed 4 = .ok (.iload_n 2, 1) := by decide +kernel
theorem dL_setClosed_5 : decode cL_setClosed 5 = .ok (.invokevirtual 62, 3) := by decide +kernel
theorem dL_setClosed_8 : decode cL_setClosed 8 = .ok (.ifCond .eq 7, 3) := by decide +kernel
theorem dL_setClosed_11 : decode cL_setClosed 11 = .ok (.lconst 1, 1) := by decide +kernel
theorem dL_setClosed_12 : decode cL_setClosed 12 = .ok (.goto 4, 3) := by decide +kernel
theorem dL_setClosed_15 : decode cL_setClosed 15 = .ok (.lconst 0, 1) := by decide +kernel
theorem dL_setClosed_16 : decode cL_setClosed 16 = .ok (.lastore, 1) := by decide +kernel
theorem dL_setClosed_17 : decode cL_setClosed 17 = .ok (.goto 7, 3) := by decide +kernel
theorem dL_setClosed_20 : decode cL_setClosed 20 = .ok (.astore 4, 2) := by decide +kernel
theorem dL_setClosed_22 : decode cL_setClosed 22 = .ok (.iconst 1, 1) := by decide +kernel
theorem dL_setClosed_23 : decode cL_setClosed 23 = .ok (.ireturn, 1) := by decide +kernel
theorem dL_setClosed_24 : decode cL_setClosed 24 = .ok (.iconst 0, 1) := by decide +kernel
theorem dL_setClosed_25 : decode cL_setClosed 25 = .ok (.ireturn, 1) := by decide +kernel
theorem dL_clear_0 : decode cL_clear 0 = .ok (.aload_n 2, 1) := by decide +kernel
theorem dL_clear_1 : decode cL_clear 1 = .ok (.iconst 0, 1) := by decide +kernel
theorem dL_clear_2 : decode cL_clear 2 = .ok (.aload_n 0, 1) := by decide +kernel
theorem dL_clear_3 : decode cL_clear 3 = .ok (.iload_n 1, 1) := by decide +kernel
theorem dL_clear_4 : decode cL_clear 4 = .ok (.invokevirtual 66, 3) := by decide +kernel
theorem dL_clear_7 : decode cL_clear 7 = .ok (.i2l, 1) := by decide +kernel
theorem dL_clear_8 : decode cL_clear 8 = .ok (.lastore, 1) := by decide +kernel
theorem dL_clear_9 : decode cL_clear 9 = .ok (.goto 9, 3) := by decide +kernel
theorem dL_clear_12 : decode cL_clear 12 = .ok (.astore_n 3, 1) := by decide +kernel
theorem dL_clear_13 : decode cL_clear 13 = .ok (.iconst 1, 1) := by decide +kernel
theorem dL_clear_14 : decode cL_clear 14 = .ok (.ireturn, 1) := by decide +kernel
theorem dL_clear_15 : decode cL_clear 15 = .ok (.astore_n 3, 1) := by decide +kernel
theorem dL_clear_16 : decode cL_clear 16 = .ok (.iconst 2, 1) := by decide +kernel
theorem dL_clear_17 : decode cL_clear 17 = .ok (.ireturn, 1) := by decide +kernel
theorem dL_clear_18 : decode cL_clear 18 = .ok (.iconst 0, 1) := by decide +kernel
theorem dL_clear_19 : decode cL_clear 19 = .ok (.ireturn, 1) := by decide +kernel
theorem dL_chute_0 : decode cL_chute 0 = .ok (.aload_n 3, 1) := by decide +kernel
theorem dL_chute_1 : decode cL_chute 1 = .ok (.iconst 0, 1) := by decide +kernel
theorem dL_chute_2 : decode cL_chute 2 = .ok (.aload_n 0, 1) := by decide +kernel
theorem dL_chute_3 : decode cL_chute 3 = .ok (.iload_n 1, 1) := by decide +kernel
theorem dL_chute_4 : decode cL_chute 4 = .ok (.iload_n 2, 1) := by decide +kernel
theorem dL_chute_5 : decode cL_chute 5 = .ok (.invokevirtual 69, 3) := by decide +kernel
theorem dL_chute_8 : decode cL_chute 8 = .ok (.i2l, 1) := by decide +kernel
theorem dL_chute_9 : decode cL_chute 9 = .ok (.lastore, 1) := by decide +kernel
theorem dL_chute_10 : decode cL_chute 10 = .ok (.goto 11, 3) := by decide +kernel
theorem dL_chute_13 : decode cL_chute 13 = .ok (.astore 4, 2) := by decide +kernel
theorem dL_chute_15 : decode cL_chute 15 = .ok (.iconst 1, 1) := by decide +kernel
theorem dL_chute_16 : decode cL_chute 16 = .ok (.ireturn, 1) := by decide +kernel
theorem dL_chute_17 : decode cL_chute 17 = .ok (.astore 4, 2) := by decide +kernel
theorem dL_chute_19 : decode cL_chute 19 = .ok (.iconst 2, 1) := by decide +kernel
theorem dL_chute_20 : decode cL_chute 20 = .ok (.ireturn, 1) := by decide +kernel
theorem dL_chute_21 : decode cL_chute 21 = .ok (.iconst 0, 1) := by decide +kernel
theorem dL_chute_22 : decode cL_chute 22 = .ok (.ireturn, 1) := by decide +kernel
theorem dL_station_0 : decode cL_station 0 = .ok (.aload_n 3, 1) := by decide +kernel
theorem dL_station_1 : decode cL_station 1 = .ok (.iconst 0, 1) := by decide +kernel
theorem dL_station_2 : decode cL_station 2 = .ok (.aload_n 0, 1) := by decide +kernel
theorem dL_station_3 : decode cL_station 3 = .ok (.iload_n 1, 1) := by decide +kernel
theorem dL_station_4 : decode cL_station 4 = .ok (.iload_n 2, 1) := by decide +kernel
theorem dL_station_5 : decode cL_station 5 = .ok (.invokevirtual 72, 3) := by decide +kernel
theorem dL_station_8 : decode cL_station 8 = .ok (.i2l, 1) := by decide +kernel
theorem dL_station_9 : decode cL_station 9 = .ok (.lastore, 1) := by decide +kernel
theorem dL_station_10 : decode cL_station 10 = .ok (.goto 11, 3) := by decide +kernel
theorem dL_station_13 : decode cL_station 13 = .ok (.astore 4, 2) := by decide +kernel
theorem dL_station_15 : decode cL_station 15 = .ok (.iconst 1, 1) := by decide +kernel
theorem dL_station_16 : decode cL_station 16 = .ok (.ireturn, 1) := by decide +kernel
theorem dL_station_17 : decode cL_station 17 = .ok (.astore 4, 2) := by decide +kernel
theorem dL_station_19 : decode cL_station 19 = .ok (.iconst 2, 1) := by decide +kernel
theorem dL_station_20 : decode cL_station 20 = .ok (.ireturn, 1) := by decide +kernel
theorem dL_station_21 : decode cL_station 21 = .ok (.iconst 0, 1) := by decide +kernel
theorem dL_station_22 : decode cL_station 22 = .ok (.ireturn, 1) := by decide +kernel
theorem dL_count_0 : decode cL_count 0 = .ok (.aload_n 2, 1) := by decide +kernel
theorem dL_count_1 : decode cL_count 1 = .ok (.iconst 0, 1) := by decide +kernel
theorem dL_count_2 : decode cL_count 2 = .ok (.aload_n 0, 1) := by decide +kernel
theorem dL_count_3 : decode cL_count 3 = .ok (.iload_n 1, 1) := by decide +kernel
theorem dL_count_4 : decode cL_count 4 = .ok (.invokevirtual 75, 3) := by decide +kernel
theorem dL_count_7 : decode cL_count 7 = .ok (.i2l, 1) := by decide +kernel
theorem dL_count_8 : decode cL_count 8 = .ok (.lastore, 1) := by decide +kernel
theorem dL_count_9 : decode cL_count 9 = .ok (.goto 6, 3) := by decide +kernel
theorem dL_count_12 : decode cL_count 12 = .ok (.astore_n 3, 1) := by decide +kernel
theorem dL_count_13 : decode cL_count 13 = .ok (.iconst 1, 1) := by decide +kernel
theorem dL_count_14 : decode cL_count 14 = .ok (.ireturn, 1) := by decide +kernel
theorem dL_count_15 : decode cL_count 15 = .ok (.iconst 0, 1) := by decide +kernel
theorem dL_count_16 : decode cL_count 16 = .ok (.ireturn, 1) := by decide +kernel
theorem dL_meanRounds_0 : decode cL_meanRounds 0 = .ok (.aload_n 1, 1) := by decide +kernel
theorem dL_meanRounds_1 : decode cL_meanRounds 1 = .ok (.iconst 0, 1) := by decide +kernel
theorem dL_meanRounds_2 : decode cL_meanRounds 2 = .ok (.aload_n 0, 1) := by decide +kernel
theorem dL_meanRounds_3 : decode cL_meanRounds 3 = .ok (.invokevirtual 78, 3) := by decide +kernel
theorem dL_meanRounds_6 : decode cL_meanRounds 6 = .ok (.dastore, 1) := by decide +kernel
theorem dL_meanRounds_7 : decode cL_meanRounds 7 = .ok (.goto 6, 3) := by decide +kernel
theorem dL_meanRounds_10 : decode cL_meanRounds 10 = .ok (.astore_n 2, 1) := by decide +kernel
theorem dL_meanRounds_11 : decode cL_meanRounds 11 = .ok (.iconst 1, 1) := by decide +kernel
theorem dL_meanRounds_12 : decode cL_meanRounds 12 = .ok (.ireturn, 1) := by decide +kernel
theorem dL_meanRounds_13 : decode cL_meanRounds 13 = .ok (.iconst 0, 1) := by decide +kernel
theorem dL_meanRounds_14 : decode cL_meanRounds 14 = .ok (.ireturn, 1) := by decide +kernel
theorem dL_foresee_0 : decode cL_foresee 0 = .ok (.aload 4, 2) := by decide +kernel
theorem dL_foresee_2 : decode cL_foresee 2 = .ok (.iconst 0, 1) := by decide +kernel
theorem dL_foresee_3 : decode cL_foresee 3 = .ok (.aload_n 0, 1) := by decide +kernel
theorem dL_foresee_4 : decode cL_foresee 4 = .ok (.iload_n 1, 1) := by decide +kernel
theorem dL_foresee_5 : decode cL_foresee 5 = .ok (.iload_n 2, 1) := by decide +kernel
theorem dL_foresee_6 : decode cL_foresee 6 = .ok (.iload_n 3, 1) := by decide +kernel
theorem dL_foresee_7 : decode cL_foresee 7 = .ok (.invokevirtual 84, 3) := by decide +kernel
theorem dL_foresee_10 : decode cL_foresee 10 = .ok (.i2l, 1) := by decide +kernel
theorem dL_foresee_11 : decode cL_foresee 11 = .ok (.lastore, 1) := by decide +kernel
theorem dL_foresee_12 : decode cL_foresee 12 = .ok (.goto 15, 3) := by decide +kernel
theorem dL_foresee_15 : decode cL_foresee 15 = .ok (.astore 5, 2) := by decide +kernel
theorem dL_foresee_17 : decode cL_foresee 17 = .ok (.iconst 1, 1) := by decide +kernel
theorem dL_foresee_18 : decode cL_foresee 18 = .ok (.ireturn, 1) := by decide +kernel
theorem dL_foresee_19 : decode cL_foresee 19 = .ok (.astore 5, 2) := by decide +kernel
theorem dL_foresee_21 : decode cL_foresee 21 = .ok (.iconst 2, 1) := by decide +kernel
theorem dL_foresee_22 : decode cL_foresee 22 = .ok (.ireturn, 1) := by decide +kernel
theorem dL_foresee_23 : decode cL_foresee 23 = .ok (.astore 5, 2) := by decide +kernel
theorem dL_foresee_25 : decode cL_foresee 25 = .ok (.iconst 3, 1) := by decide +kernel
theorem dL_foresee_26 : decode cL_foresee 26 = .ok (.ireturn, 1) := by decide +kernel
theorem dL_foresee_27 : decode cL_foresee 27 = .ok (.iconst 0, 1) := by decide +kernel
theorem dL_foresee_28 : decode cL_foresee 28 = .ok (.ireturn, 1) := by decide +kernel
theorem dL_untilEmpty_0 : decode cL_untilEmpty 0 = .ok (.aload_n 2, 1) := by decide +kernel
theorem dL_untilEmpty_1 : decode cL_untilEmpty 1 = .ok (.iconst 0, 1) := by decide +kernel
theorem dL_untilEmpty_2 : decode cL_untilEmpty 2 = .ok (.aload_n 0, 1) := by decide +kernel
theorem dL_untilEmpty_3 : decode cL_untilEmpty 3 = .ok (.iload_n 1, 1) := by decide +kernel
theorem dL_untilEmpty_4 : decode cL_untilEmpty 4 = .ok (.invokevirtual 88, 3) := by decide +kernel
theorem dL_untilEmpty_7 : decode cL_untilEmpty 7 = .ok (.i2l, 1) := by decide +kernel
theorem dL_untilEmpty_8 : decode cL_untilEmpty 8 = .ok (.lastore, 1) := by decide +kernel
theorem dL_untilEmpty_9 : decode cL_untilEmpty 9 = .ok (.goto 9, 3) := by decide +kernel
theorem dL_untilEmpty_12 : decode cL_untilEmpty 12 = .ok (.astore_n 3, 1) := by decide +kernel
theorem dL_untilEmpty_13 : decode cL_untilEmpty 13 = .ok (.iconst 1, 1) := by decide +kernel
theorem dL_untilEmpty_14 : decode cL_untilEmpty 14 = .ok (.ireturn, 1) := by decide +kernel
theorem dL_untilEmpty_15 : decode cL_untilEmpty 15 = .ok (.astore_n 3, 1) := by decide +kernel
theorem dL_untilEmpty_16 : decode cL_untilEmpty 16 = .ok (.iconst 2, 1) := by decide +kernel
theorem dL_untilEmpty_17 : decode cL_untilEmpty 17 = .ok (.ireturn, 1) := by decide +kernel
theorem dL_untilEmpty_18 : decode cL_untilEmpty 18 = .ok (.iconst 0, 1) := by decide +kernel
theorem dL_untilEmpty_19 : decode cL_untilEmpty 19 = .ok (.ireturn, 1) := by decide +kernel
theorem dL_ledger_0 : decode cL_ledger 0 = .ok (.aload_n 3, 1) := by decide +kernel
theorem dL_ledger_1 : decode cL_ledger 1 = .ok (.iconst 0, 1) := by decide +kernel
theorem dL_ledger_2 : decode cL_ledger 2 = .ok (.aload_n 0, 1) := by decide +kernel
theorem dL_ledger_3 : decode cL_ledger 3 = .ok (.iload_n 1, 1) := by decide +kernel
theorem dL_ledger_4 : decode cL_ledger 4 = .ok (.iload_n 2, 1) := by decide +kernel
theorem dL_ledger_5 : decode cL_ledger 5 = .ok (.invokevirtual 91, 3) := by decide +kernel
theorem dL_ledger_8 : decode cL_ledger 8 = .ok (.i2l, 1) := by decide +kernel
theorem dL_ledger_9 : decode cL_ledger 9 = .ok (.lastore, 1) := by decide +kernel
theorem dL_ledger_10 : decode cL_ledger 10 = .ok (.goto 11, 3) := by decide +kernel
theorem dL_ledger_13 : decode cL_ledger 13 = .ok (.astore 4, 2) := by decide +kernel
theorem dL_ledger_15 : decode cL_ledger 15 = .ok (.iconst 1, 1) := by decide +kernel
theorem dL_ledger_16 : decode cL_ledger 16 = .ok (.ireturn, 1) := by decide +kernel
theorem dL_ledger_17 : decode cL_ledger 17 = .ok (.astore 4, 2) := by decide +kernel
theorem dL_ledger_19 : decode cL_ledger 19 = .ok (.iconst 2, 1) := by decide +kernel
theorem dL_ledger_20 : decode cL_ledger 20 = .ok (.ireturn, 1) := by decide +kernel
theorem dL_ledger_21 : decode cL_ledger 21 = .ok (.iconst 0, 1) := by decide +kernel
theorem dL_ledger_22 : decode cL_ledger 22 = .ok (.ireturn, 1) := by decide +kernel
theorem dL_undo_0 : decode cL_undo 0 = .ok (.aload_n 1, 1) := by decide +kernel
theorem dL_undo_1 : decode cL_undo 1 = .ok (.iconst 0, 1) := by decide +kernel
theorem dL_undo_2 : decode cL_undo 2 = .ok (.aload_n 0, 1) := by decide +kernel
theorem dL_undo_3 : decode cL_undo 3 = .ok (.invokevirtual 94, 3) := by decide +kernel
theorem dL_undo_6 : decode cL_undo 6 = .ok (.i2l, 1) := by decide +kernel
theorem dL_undo_7 : decode cL_undo 7 = .ok (.lastore, 1) := by decide +kernel
theorem dL_undo_8 : decode cL_undo 8 = .ok (.goto 6, 3) := by decide +kernel
theorem dL_undo_11 : decode cL_undo 11 = .ok (.astore_n 2, 1) := by decide +kernel
theorem dL_undo_12 : decode cL_undo 12 = .ok (.iconst 1, 1) := by decide +kernel
theorem dL_undo_13 : decode cL_undo 13 = .ok (.ireturn, 1) := by decide +kernel
theorem dL_undo_14 : decode cL_undo 14 = .ok (.iconst 0, 1) := by decide +kernel
theorem dL_undo_15 : decode cL_undo 15 = .ok (.ireturn, 1) := by decide +kernel
theorem dL_restoreSnapshot_0 : decode cL_restoreSnapshot 0 = .ok (.aload_n 1, 1) := by decide +kernel
theorem dL_restoreSnapshot_1 : decode cL_restoreSnapshot 1 = .ok (.iconst 0, 1) := by decide +kernel
theorem dL_restoreSnapshot_2 : decode cL_restoreSnapshot 2 = .ok (.aload_n 0, 1) := by decide +kernel
theorem dL_restoreSnapshot_3 : decode cL_restoreSnapshot 3 = .ok (.invokevirtual 97, 3) := by decide +kernel
theorem dL_restoreSnapshot_6 : decode cL_restoreSnapshot 6 = .ok (.i2l, 1) := by decide +kernel
theorem dL_restoreSnapshot_7 : decode cL_restoreSnapshot 7 = .ok (.lastore, 1) := by decide +kernel
theorem dL_restoreSnapshot_8 : decode cL_restoreSnapshot 8 = .ok (.goto 6, 3) := by decide +kernel
theorem dL_restoreSnapshot_11 : decode cL_restoreSnapshot 11 = .ok (.astore_n 2, 1) := by decide +kernel
theorem dL_restoreSnapshot_12 : decode cL_restoreSnapshot 12 = .ok (.iconst 1, 1) := by decide +kernel
theorem dL_restoreSnapshot_13 : decode cL_restoreSnapshot 13 = .ok (.ireturn, 1) := by decide +kernel
theorem dL_restoreSnapshot_14 : decode cL_restoreSnapshot 14 = .ok (.iconst 0, 1) := by decide +kernel
theorem dL_restoreSnapshot_15 : decode cL_restoreSnapshot 15 = .ok (.ireturn, 1) := by decide +kernel
theorem dL_write_0 : decode cL_write 0 = .ok (.aload_n 2, 1) := by decide +kernel
theorem dL_write_1 : decode cL_write 1 = .ok (.iconst 0, 1) := by decide +kernel
theorem dL_write_2 : decode cL_write 2 = .ok (.aload_n 0, 1) := by decide +kernel
theorem dL_write_3 : decode cL_write 3 = .ok (.iload_n 1, 1) := by decide +kernel
theorem dL_write_4 : decode cL_write 4 = .ok (.invokevirtual 100, 3) := by decide +kernel
theorem dL_write_7 : decode cL_write 7 = .ok (.i2l, 1) := by decide +kernel
theorem dL_write_8 : decode cL_write 8 = .ok (.lastore, 1) := by decide +kernel
theorem dL_write_9 : decode cL_write 9 = .ok (.goto 6, 3) := by decide +kernel
theorem dL_write_12 : decode cL_write 12 = .ok (.astore_n 3, 1) := by decide +kernel
theorem dL_write_13 : decode cL_write 13 = .ok (.iconst 1, 1) := by decide +kernel
theorem dL_write_14 : decode cL_write 14 = .ok (.ireturn, 1) := by decide +kernel
theorem dL_write_15 : decode cL_write 15 = .ok (.iconst 0, 1) := by decide +kernel
theorem dL_write_16 : decode cL_write 16 = .ok (.ireturn, 1) := by decide +kernel
theorem dL_paper_0 : decode cL_paper 0 = .ok (.aload_n 2, 1) := by decide +kernel
theorem dL_paper_1 : decode cL_paper 1 = .ok (.iconst 0, 1) := by decide +kernel
theorem dL_paper_2 : decode cL_paper 2 = .ok (.aload_n 0, 1) := by decide +kernel
theorem dL_paper_3 : decode cL_paper 3 = .ok (.iload_n 1, 1) := by decide +kernel
theorem dL_paper_4 : decode cL_paper 4 = .ok (.invokevirtual 103, 3) := by decide +kernel
theorem dL_paper_7 : decode cL_paper 7 = .ok (.i2l, 1) := by decide +kernel
theorem dL_paper_8 : decode cL_paper 8 = .ok (.lastore, 1) := by decide +kernel
theorem dL_paper_9 : decode cL_paper 9 = .ok (.goto 6, 3) := by decide +kernel
theorem dL_paper_12 : decode cL_paper 12 = .ok (.astore_n 3, 1) := by decide +kernel
theorem dL_paper_13 : decode cL_paper 13 = .ok (.iconst 1, 1) := by decide +kernel
theorem dL_paper_14 : decode cL_paper 14 = .ok (.ireturn, 1) := by decide +kernel
theorem dL_paper_15 : decode cL_paper 15 = .ok (.iconst 0, 1) := by decide +kernel
theorem dL_paper_16 : decode cL_paper 16 = .ok (.ireturn, 1) := by decide +kernel
theorem dL_law_0 : decode cL_law 0 = .ok (.new 8, 3) := by decide +kernel
theorem dL_law_3 : decode cL_law 3 = .ok (.dup, 1) := by decide +kernel
theorem dL_law_4 : decode cL_law 4 = .ok (.invokespecial 107, 3) := by decide +kernel
theorem dL_law_7 : decode cL_law 7 = .ok (.astore_n 1, 1) := by decide +kernel
theorem dL_law_8 : decode cL_law 8 = .ok (.new 108, 3) := by decide +kernel
theorem dL_law_11 : decode cL_law 11 = .ok (.dup, 1) := by decide +kernel
theorem dL_law_12 : decode cL_law 12 = .ok (.invokespecial 110, 3) := by decide +kernel
theorem dL_law_15 : decode cL_law 15 = .ok (.astore_n 2, 1) := by decide +kernel
theorem dL_law_16 : decode cL_law 16 = .ok (.iconst 1, 1) := by decide +kernel
theorem dL_law_17 : decode cL_law 17 = .ok (.newarray .long, 2) := by decide +kernel
theorem dL_law_19 : decode cL_law 19 = .ok (.astore_n 3, 1) := by decide +kernel
theorem dL_law_20 : decode cL_law 20 = .ok (.iconst 1, 1) := by decide +kernel
theorem dL_law_21 : decode cL_law 21 = .ok (.newarray .double, 2) := by decide +kernel
theorem dL_law_23 : decode cL_law 23 = .ok (.astore 4, 2) := by decide +kernel
theorem dL_law_25 : decode cL_law 25 = .ok (.iconst 0, 1) := by decide +kernel
theorem dL_law_26 : decode cL_law 26 = .ok (.istore 5, 2) := by decide +kernel
theorem dL_law_28 : decode cL_law 28 = .ok (.iload 5, 2) := by decide +kernel
theorem dL_law_30 : decode cL_law 30 = .ok (.aload_n 0, 1) := by decide +kernel
theorem dL_law_31 : decode cL_law 31 = .ok (.arraylength, 1) := by decide +kernel
theorem dL_law_32 : decode cL_law 32 = .ok (.bipush 7, 2) := by decide +kernel
theorem dL_law_34 : decode cL_law 34 = .ok (.isub, 1) := by decide +kernel
theorem dL_law_35 : decode cL_law 35 = .ok (.if_icmp .gt 1809, 3) := by decide +kernel
theorem dL_law_38 : decode cL_law 38 = .ok (.aload_n 0, 1) := by decide +kernel
theorem dL_law_39 : decode cL_law 39 = .ok (.iload 5, 2) := by decide +kernel
theorem dL_law_41 : decode cL_law 41 = .ok (.iaload, 1) := by decide +kernel
theorem dL_law_42 : decode cL_law 42 = .ok (.bipush 31, 2) := by decide +kernel
theorem dL_law_44 : decode cL_law 44 = .ok (.iand, 1) := by decide +kernel
theorem dL_law_45 : decode cL_law 45 = .ok (.tableswitch 1793 0 26 #[123, 179, 235, 353, 411, 455, 523, 603, 695, 763, 831, 887, 943, 1034, 1090, 1158, 1226, 1282, 1347, 1443, 1499, 1512, 1580, 1624, 1637, 1681, 1737], 123) := by decide +kernel
theorem dL_law_168 : decode cL_law 168 = .ok (.aload_n 1, 1) := by decide +kernel
theorem dL_law_169 : decode cL_law 169 = .ok (.aload_n 0, 1) := by decide +kernel
theorem dL_law_170 : decode cL_law 170 = .ok (.iload 5, 2) := by decide +kernel
theorem dL_law_172 : decode cL_law 172 = .ok (.iconst 1, 1) := by decide +kernel
theorem dL_law_173 : decode cL_law 173 = .ok (.iadd, 1) := by decide +kernel
theorem dL_law_174 : decode cL_law 174 = .ok (.iaload, 1) := by decide +kernel
theorem dL_law_175 : decode cL_law 175 = .ok (.aload_n 3, 1) := by decide +kernel
theorem dL_law_176 : decode cL_law 176 = .ok (.invokestatic 111, 3) := by decide +kernel
theorem dL_law_179 : decode cL_law 179 = .ok (.istore 6, 2) := by decide +kernel
theorem dL_law_181 : decode cL_law 181 = .ok (.aload_n 2, 1) := by decide +kernel
theorem dL_law_182 : decode cL_law 182 = .ok (.aload_n 0, 1) := by decide +kernel
theorem dL_law_183 : decode cL_law 183 = .ok (.iload 5, 2) := by decide +kernel
theorem dL_law_185 : decode cL_law 185 = .ok (.iconst 1, 1) := by decide +kernel
theorem dL_law_186 : decode cL_law 186 = .ok (.iadd, 1) := by decide +kernel
theorem dL_law_187 : decode cL_law 187 = .ok (.iaload, 1) := by decide +kernel
theorem dL_law_188 : decode cL_law 188 = .ok (.invokevirtual 116, 3) := by decide +kernel
theorem dL_law_191 : decode cL_law 191 = .ok (.istore 7, 2) := by decide +kernel
theorem dL_law_193 : decode cL_law 193 = .ok (.aload_n 2, 1) := by decide +kernel
theorem dL_law_194 : decode cL_law 194 = .ok (.invokevirtual 117, 3) := by decide +kernel
theorem dL_law_197 : decode cL_law 197 = .ok (.iload 6, 2) := by decide +kernel
theorem dL_law_199 : decode cL_law 199 = .ok (.if_icmp .eq 5, 3) := by decide +kernel
theorem dL_law_202 : decode cL_law 202 = .ok (.iconst 0, 1) := by decide +kernel
theorem dL_law_203 : decode cL_law 203 = .ok (.ireturn, 1) := by decide +kernel
theorem dL_law_204 : decode cL_law 204 = .ok (.iload 6, 2) := by decide +kernel
theorem dL_law_206 : decode cL_law 206 = .ok (.ifCond .ne 15, 3) := by decide +kernel
theorem dL_law_209 : decode cL_law 209 = .ok (.aload_n 3, 1) := by decide +kernel
theorem dL_law_210 : decode cL_law 210 = .ok (.iconst 0, 1) := by decide +kernel
theorem dL_law_211 : decode cL_law 211 = .ok (.laload, 1) := by decide +kernel
theorem dL_law_212 : decode cL_law 212 = .ok (.iload 7, 2) := by decide +kernel
theorem dL_law_214 : decode cL_law 214 = .ok (.i2l, 1) := by decide +kernel
theorem dL_law_215 : decode cL_law 215 = .ok (.lcmp, 1) := by decide +kernel
theorem dL_law_216 : decode cL_law 216 = .ok (.ifCond .eq 5, 3) := by decide +kernel
theorem dL_law_219 : decode cL_law 219 = .ok (.iconst 0, 1) := by decide +kernel
theorem dL_law_220 : decode cL_law 220 = .ok (.ireturn, 1) := by decide +kernel
theorem dL_law_221 : decode cL_law 221 = .ok (.goto 1617, 3) := by decide +kernel
theorem dL_law_224 : decode cL_law 224 = .ok (.aload_n 1, 1) := by decide +kernel
theorem dL_law_225 : decode cL_law 225 = .ok (.aload_n 0, 1) := by decide +kernel
theorem dL_law_226 : decode cL_law 226 = .ok (.iload 5, 2) := by decide +kernel
theorem dL_law_228 : decode cL_law 228 = .ok (.iconst 1, 1) := by decide +kernel
theorem dL_law_229 : decode cL_law 229 = .ok (.iadd, 1) := by decide +kernel
theorem dL_law_230 : decode cL_law 230 = .ok (.iaload, 1) := by decide +kernel
theorem dL_law_231 : decode cL_law 231 = .ok (.aload_n 3, 1) := by decide +kernel
theorem dL_law_232 : decode cL_law 232 = .ok (.invokestatic 120, 3) := by decide +kernel
theorem dL_law_235 : decode cL_law 235 = .ok (.istore 6, 2) := by decide +kernel
theorem dL_law_237 : decode cL_law 237 = .ok (.aload_n 2, 1) := by decide +kernel
theorem dL_law_238 : decode cL_law 238 = .ok (.aload_n 0, 1) := by decide +kernel
theorem dL_law_239 : decode cL_law 239 = .ok (.iload 5, 2) := by decide +kernel
theorem dL_law_241 : decode cL_law 241 = .ok (.iconst 1, 1) := by decide +kernel
theorem dL_law_242 : decode cL_law 242 = .ok (.iadd, 1) := by decide +kernel
theorem dL_law_243 : decode cL_law 243 = .ok (.iaload, 1) := by decide +kernel
theorem dL_law_244 : decode cL_law 244 = .ok (.invokevirtual 122, 3) := by decide +kernel
theorem dL_law_247 : decode cL_law 247 = .ok (.istore 7, 2) := by decide +kernel
theorem dL_law_249 : decode cL_law 249 = .ok (.aload_n 2, 1) := by decide +kernel
theorem dL_law_250 : decode cL_law 250 = .ok (.invokevirtual 117, 3) := by decide +kernel
theorem dL_law_253 : decode cL_law 253 = .ok (.iload 6, 2) := by decide +kernel
theorem dL_law_255 : decode cL_law 255 = .ok (.if_icmp .eq 5, 3) := by decide +kernel
theorem dL_law_258 : decode cL_law 258 = .ok (.iconst 0, 1) := by decide +kernel
theorem dL_law_259 : decode cL_law 259 = .ok (.ireturn, 1) := by decide +kernel
theorem dL_law_260 : decode cL_law 260 = .ok (.iload 6, 2) := by decide +kernel
theorem dL_law_262 : decode cL_law 262 = .ok (.ifCond .ne 15, 3) := by decide +kernel
theorem dL_law_265 : decode cL_law 265 = .ok (.aload_n 3, 1) := by decide +kernel
theorem dL_law_266 : decode cL_law 266 = .ok (.iconst 0, 1) := by decide +kernel
theorem dL_law_267 : decode cL_law 267 = .ok (.laload, 1) := by decide +kernel
theorem dL_law_268 : decode cL_law 268 = .ok (.iload 7, 2) := by decide +kernel
theorem dL_law_270 : decode cL_law 270 = .ok (.i2l, 1) := by decide +kernel
theorem dL_law_271 : decode cL_law 271 = .ok (.lcmp, 1) := by decide +kernel
theorem dL_law_272 : decode cL_law 272 = .ok (.ifCond .eq 5, 3) := by decide +kernel
theorem dL_law_275 : decode cL_law 275 = .ok (.iconst 0, 1) := by decide +kernel
theorem dL_law_276 : decode cL_law 276 = .ok (.ireturn, 1) := by decide +kernel
theorem dL_law_277 : decode cL_law 277 = .ok (.goto 1561, 3) := by decide +kernel
theorem dL_law_280 : decode cL_law 280 = .ok (.aload_n 1, 1) := by decide +kernel
theorem dL_law_281 : decode cL_law 281 = .ok (.aload_n 0, 1) := by decide +kernel
theorem dL_law_282 : decode cL_law 282 = .ok (.iload 5, 2) := by decide +kernel
theorem dL_law_284 : decode cL_law 284 = .ok (.iconst 1, 1) := by decide +kernel
theorem dL_law_285 : decode cL_law 285 = .ok (.iadd, 1) := by decide +kernel
theorem dL_law_286 : decode cL_law 286 = .ok (.iaload, 1) := by decide +kernel
theorem dL_law_287 : decode cL_law 287 = .ok (.aload_n 0, 1) := by decide +kernel
theorem dL_law_288 : decode cL_law 288 = .ok (.iload 5, 2) := by decide +kernel
theorem dL_law_290 : decode cL_law 290 = .ok (.iconst 2, 1) := by decide +kernel
theorem dL_law_291 : decode cL_law 291 = .ok (.iadd, 1) := by decide +kernel
theorem dL_law_292 : decode cL_law 292 = .ok (.iaload, 1) := by decide +kernel
theorem dL_law_293 : decode cL_law 293 = .ok (.aload_n 0, 1) := by decide +kernel
theorem dL_law_294 : decode cL_law 294 = .ok (.iload 5, 2) := by decide +kernel
theorem dL_law_296 : decode cL_law 296 = .ok (.iconst 3, 1) := by decide +kernel
theorem dL_law_297 : decode cL_law 297 = .ok (.iadd, 1) := by decide +kernel
theorem dL_law_298 : decode cL_law 298 = .ok (.iaload, 1) := by decide +kernel
theorem dL_law_299 : decode cL_law 299 = .ok (.aload_n 0, 1) := by decide +kernel
theorem dL_law_300 : decode cL_law 300 = .ok (.iload 5, 2) := by decide +kernel
theorem dL_law_302 : decode cL_law 302 = .ok (.iconst 4, 1) := by decide +kernel
theorem dL_law_303 : decode cL_law 303 = .ok (.iadd, 1) := by decide +kernel
theorem dL_law_304 : decode cL_law 304 = .ok (.iaload, 1) := by decide +kernel
theorem dL_law_305 : decode cL_law 305 = .ok (.aload_n 0, 1) := by decide +kernel
theorem dL_law_306 : decode cL_law 306 = .ok (.iload 5, 2) := by decide +kernel
theorem dL_law_308 : decode cL_law 308 = .ok (.iconst 5, 1) := by decide +kernel
theorem dL_law_309 : decode cL_law 309 = .ok (.iadd, 1) := by decide +kernel
theorem dL_law_310 : decode cL_law 310 = .ok (.iaload, 1) := by decide +kernel
theorem dL_law_311 : decode cL_law 311 = .ok (.aload_n 0, 1) := by decide +kernel
theorem dL_law_312 : decode cL_law 312 = .ok (.iload 5, 2) := by decide +kernel
theorem dL_law_314 : decode cL_law 314 = .ok (.bipush 6, 2) := by decide +kernel
theorem dL_law_316 : decode cL_law 316 = .ok (.iadd, 1) := by decide +kernel
theorem dL_law_317 : decode cL_law 317 = .ok (.iaload, 1) := by decide +kernel
theorem dL_law_318 : decode cL_law 318 = .ok (.aload_n 3, 1) := by decide +kernel
theorem dL_law_319 : decode cL_law 319 = .ok (.invokestatic 123, 3) := by decide +kernel
theorem dL_law_322 : decode cL_law 322 = .ok (.istore 6, 2) := by decide +kernel
theorem dL_law_324 : decode cL_law 324 = .ok (.aload_n 2, 1) := by decide +kernel
theorem dL_law_325 : decode cL_law 325 = .ok (.aload_n 0, 1) := by decide +kernel
theorem dL_law_326 : decode cL_law 326 = .ok (.iload 5, 2) := by decide +kernel
theorem dL_law_328 : decode cL_law 328 = .ok (.iconst 1, 1) := by decide +kernel
theorem dL_law_329 : decode cL_law 329 = .ok (.iadd, 1) := by decide +kernel
theorem dL_law_330 : decode cL_law 330 = .ok (.iaload, 1) := by decide +kernel
theorem dL_law_331 : decode cL_law 331 = .ok (.aload_n 0, 1) := by decide +kernel
theorem dL_law_332 : decode cL_law 332 = .ok (.iload 5, 2) := by decide +kernel
theorem dL_law_334 : decode cL_law 334 = .ok (.iconst 2, 1) := by decide +kernel
theorem dL_law_335 : decode cL_law 335 = .ok (.iadd, 1) := by decide +kernel
theorem dL_law_336 : decode cL_law 336 = .ok (.iaload, 1) := by decide +kernel
theorem dL_law_337 : decode cL_law 337 = .ok (.aload_n 0, 1) := by decide +kernel
theorem dL_law_338 : decode cL_law 338 = .ok (.iload 5, 2) := by decide +kernel
theorem dL_law_340 : decode cL_law 340 = .ok (.iconst 3, 1) := by decide +kernel
theorem dL_law_341 : decode cL_law 341 = .ok (.iadd, 1) := by decide +kernel
theorem dL_law_342 : decode cL_law 342 = .ok (.iaload, 1) := by decide +kernel
theorem dL_law_343 : decode cL_law 343 = .ok (.aload_n 0, 1) := by decide +kernel
theorem dL_law_344 : decode cL_law 344 = .ok (.iload 5, 2) := by decide +kernel
theorem dL_law_346 : decode cL_law 346 = .ok (.iconst 4, 1) := by decide +kernel
theorem dL_law_347 : decode cL_law 347 = .ok (.iadd, 1) := by decide +kernel
theorem dL_law_348 : decode cL_law 348 = .ok (.iaload, 1) := by decide +kernel
theorem dL_law_349 : decode cL_law 349 = .ok (.aload_n 0, 1) := by decide +kernel
theorem dL_law_350 : decode cL_law 350 = .ok (.iload 5, 2) := by decide +kernel
theorem dL_law_352 : decode cL_law 352 = .ok (.iconst 5, 1) := by decide +kernel
theorem dL_law_353 : decode cL_law 353 = .ok (.iadd, 1) := by decide +kernel
theorem dL_law_354 : decode cL_law 354 = .ok (.iaload, 1) := by decide +kernel
theorem dL_law_355 : decode cL_law 355 = .ok (.aload_n 0, 1) := by decide +kernel
theorem dL_law_356 : decode cL_law 356 = .ok (.iload 5, 2) := by decide +kernel
theorem dL_law_358 : decode cL_law 358 = .ok (.bipush 6, 2) := by decide +kernel
theorem dL_law_360 : decode cL_law 360 = .ok (.iadd, 1) := by decide +kernel
theorem dL_law_361 : decode cL_law 361 = .ok (.iaload, 1) := by decide +kernel
theorem dL_law_362 : decode cL_law 362 = .ok (.invokevirtual 126, 3) := by decide +kernel
theorem dL_law_365 : decode cL_law 365 = .ok (.istore 7, 2) := by decide +kernel
theorem dL_law_367 : decode cL_law 367 = .ok (.aload_n 2, 1) := by decide +kernel
theorem dL_law_368 : decode cL_law 368 = .ok (.invokevirtual 117, 3) := by decide +kernel
theorem dL_law_371 : decode cL_law 371 = .ok (.iload 6, 2) := by decide +kernel
theorem dL_law_373 : decode cL_law 373 = .ok (.if_icmp .eq 5, 3) := by decide +kernel
theorem dL_law_376 : decode cL_law 376 = .ok (.iconst 0, 1) := by decide +kernel
theorem dL_law_377 : decode cL_law 377 = .ok (.ireturn, 1) := by decide +kernel
theorem dL_law_378 : decode cL_law 378 = .ok (.iload 6, 2) := by decide +kernel
theorem dL_law_380 : decode cL_law 380 = .ok (.ifCond .ne 15, 3) := by decide +kernel
theorem dL_law_383 : decode cL_law 383 = .ok (.aload_n 3, 1) := by decide +kernel
theorem dL_law_384 : decode cL_law 384 = .ok (.iconst 0, 1) := by decide +kernel
theorem dL_law_385 : decode cL_law 385 = .ok (.laload, 1) := by decide +kernel
theorem dL_law_386 : decode cL_law 386 = .ok (.iload 7, 2) := by decide +kernel
theorem dL_law_388 : decode cL_law 388 = .ok (.i2l, 1) := by decide +kernel
theorem dL_law_389 : decode cL_law 389 = .ok (.lcmp, 1) := by decide +kernel
theorem dL_law_390 : decode cL_law 390 = .ok (.ifCond .eq 5, 3) := by decide +kernel
theorem dL_law_393 : decode cL_law 393 = .ok (.iconst 0, 1) := by decide +kernel
theorem dL_law_394 : decode cL_law 394 = .ok (.ireturn, 1) := by decide +kernel
theorem dL_law_395 : decode cL_law 395 = .ok (.goto 1443, 3) := by decide +kernel
theorem dL_law_398 : decode cL_law 398 = .ok (.aload_n 1, 1) := by decide +kernel
theorem dL_law_399 : decode cL_law 399 = .ok (.aload_n 0, 1) := by decide +kernel
theorem dL_law_400 : decode cL_law 400 = .ok (.iload 5, 2) := by decide +kernel
theorem dL_law_402 : decode cL_law 402 = .ok (.iconst 1, 1) := by decide +kernel
theorem dL_law_403 : decode cL_law 403 = .ok (.iadd, 1) := by decide +kernel
theorem dL_law_404 : decode cL_law 404 = .ok (.iaload, 1) := by decide +kernel
theorem dL_law_405 : decode cL_law 405 = .ok (.i2c, 1) := by decide +kernel
theorem dL_law_406 : decode cL_law 406 = .ok (.aload_n 3, 1) := by decide +kernel
theorem dL_law_407 : decode cL_law 407 = .ok (.invokestatic 127, 3) := by decide +kernel
theorem dL_law_410 : decode cL_law 410 = .ok (.istore 6, 2) := by decide +kernel
theorem dL_law_412 : decode cL_law 412 = .ok (.aload_n 2, 1) := by decide +kernel
theorem dL_law_413 : decode cL_law 413 = .ok (.aload_n 0, 1) := by decide +kernel
theorem dL_law_414 : decode cL_law 414 = .ok (.iload 5, 2) := by decide +kernel
theorem dL_law_416 : decode cL_law 416 = .ok (.iconst 1, 1) := by decide +kernel
theorem dL_law_417 : decode cL_law 417 = .ok (.iadd, 1) := by decide +kernel
theorem dL_law_418 : decode cL_law 418 = .ok (.iaload, 1) := by decide +kernel
theorem dL_law_419 : decode cL_law 419 = .ok (.i2c, 1) := by decide +kernel
theorem dL_law_420 : decode cL_law 420 = .ok (.invokevirtual 130, 3) := by decide +kernel
theorem dL_law_423 : decode cL_law 423 = .ok (.istore 7, 2) := by decide +kernel
theorem dL_law_425 : decode cL_law 425 = .ok (.aload_n 2, 1) := by decide +kernel
theorem dL_law_426 : decode cL_law 426 = .ok (.invokevirtual 117, 3) := by decide +kernel
theorem dL_law_429 : decode cL_law 429 = .ok (.iload 6, 2) := by decide +kernel
theorem dL_law_431 : decode cL_law 431 = .ok (.if_icmp .eq 5, 3) := by decide +kernel
theorem dL_law_434 : decode cL_law 434 = .ok (.iconst 0, 1) := by decide +kernel
theorem dL_law_435 : decode cL_law 435 = .ok (.ireturn, 1) := by decide +kernel
theorem dL_law_436 : decode cL_law 436 = .ok (.iload 6, 2) := by decide +kernel
theorem dL_law_438 : decode cL_law 438 = .ok (.ifCond .ne 15, 3) := by decide +kernel
theorem dL_law_441 : decode cL_law 441 = .ok (.aload_n 3, 1) := by decide +kernel
theorem dL_law_442 : decode cL_law 442 = .ok (.iconst 0, 1) := by decide +kernel
theorem dL_law_443 : decode cL_law 443 = .ok (.laload, 1) := by decide +kernel
theorem dL_law_444 : decode cL_law 444 = .ok (.iload 7, 2) := by decide +kernel
theorem dL_law_446 : decode cL_law 446 = .ok (.i2l, 1) := by decide +kernel
theorem dL_law_447 : decode cL_law 447 = .ok (.lcmp, 1) := by decide +kernel
theorem dL_law_448 : decode cL_law 448 = .ok (.ifCond .eq 5, 3) := by decide +kernel
theorem dL_law_451 : decode cL_law 451 = .ok (.iconst 0, 1) := by decide +kernel
theorem dL_law_452 : decode cL_law 452 = .ok (.ireturn, 1) := by decide +kernel
theorem dL_law_453 : decode cL_law 453 = .ok (.goto 1385, 3) := by decide +kernel
theorem dL_law_456 : decode cL_law 456 = .ok (.aload_n 1, 1) := by decide +kernel
theorem dL_law_457 : decode cL_law 457 = .ok (.aload_n 3, 1) := by decide +kernel
theorem dL_law_458 : decode cL_law 458 = .ok (.invokestatic 131, 3) := by decide +kernel
theorem dL_law_461 : decode cL_law 461 = .ok (.istore 6, 2) := by decide +kernel
theorem dL_law_463 : decode cL_law 463 = .ok (.aload_n 2, 1) := by decide +kernel
theorem dL_law_464 : decode cL_law 464 = .ok (.invokevirtual 134, 3) := by decide +kernel
theorem dL_law_467 : decode cL_law 467 = .ok (.istore 7, 2) := by decide +kernel
theorem dL_law_469 : decode cL_law 469 = .ok (.aload_n 2, 1) := by decide +kernel
theorem dL_law_470 : decode cL_law 470 = .ok (.invokevirtual 117, 3) := by decide +kernel
theorem dL_law_473 : decode cL_law 473 = .ok (.iload 6, 2) := by decide +kernel
theorem dL_law_475 : decode cL_law 475 = .ok (.if_icmp .eq 5, 3) := by decide +kernel
theorem dL_law_478 : decode cL_law 478 = .ok (.iconst 0, 1) := by decide +kernel
theorem dL_law_479 : decode cL_law 479 = .ok (.ireturn, 1) := by decide +kernel
theorem dL_law_480 : decode cL_law 480 = .ok (.iload 6, 2) := by decide +kernel
theorem dL_law_482 : decode cL_law 482 = .ok (.ifCond .ne 15, 3) := by decide +kernel
theorem dL_law_485 : decode cL_law 485 = .ok (.aload_n 3, 1) := by decide +kernel
theorem dL_law_486 : decode cL_law 486 = .ok (.iconst 0, 1) := by decide +kernel
theorem dL_law_487 : decode cL_law 487 = .ok (.laload, 1) := by decide +kernel
theorem dL_law_488 : decode cL_law 488 = .ok (.iload 7, 2) := by decide +kernel
theorem dL_law_490 : decode cL_law 490 = .ok (.i2l, 1) := by decide +kernel
theorem dL_law_491 : decode cL_law 491 = .ok (.lcmp, 1) := by decide +kernel
theorem dL_law_492 : decode cL_law 492 = .ok (.ifCond .eq 5, 3) := by decide +kernel
theorem dL_law_495 : decode cL_law 495 = .ok (.iconst 0, 1) := by decide +kernel
theorem dL_law_496 : decode cL_law 496 = .ok (.ireturn, 1) := by decide +kernel
theorem dL_law_497 : decode cL_law 497 = .ok (.goto 1341, 3) := by decide +kernel
theorem dL_law_500 : decode cL_law 500 = .ok (.aload_n 1, 1) := by decide +kernel
theorem dL_law_501 : decode cL_law 501 = .ok (.aload_n 0, 1) := by decide +kernel
theorem dL_law_502 : decode cL_law 502 = .ok (.iload 5, 2) := by decide +kernel
theorem dL_law_504 : decode cL_law 504 = .ok (.iconst 1, 1) := by decide +kernel
theorem dL_law_505 : decode cL_law 505 = .ok (.iadd, 1) := by decide +kernel
theorem dL_law_506 : decode cL_law 506 = .ok (.iaload, 1) := by decide +kernel
theorem dL_law_507 : decode cL_law 507 = .ok (.aload_n 0, 1) := by decide +kernel
theorem dL_law_508 : decode cL_law 508 = .ok (.iload 5, 2) := by decide +kernel
theorem dL_law_510 : decode cL_law 510 = .ok (.iconst 2, 1) := by decide +kernel
theorem dL_law_511 : decode cL_law 511 = .ok (.iadd, 1) := by decide +kernel
theorem dL_law_512 : decode cL_law 512 = .ok (.iaload, 1) := by decide +kernel
theorem dL_law_513 : decode cL_law 513 = .ok (.aload_n 3, 1) := by decide +kernel
theorem dL_law_514 : decode cL_law 514 = .ok (.invokestatic 135, 3) := by decide +kernel
theorem dL_law_517 : decode cL_law 517 = .ok (.istore 6, 2) := by decide +kernel
theorem dL_law_519 : decode cL_law 519 = .ok (.aload_n 2, 1) := by decide +kernel
theorem dL_law_520 : decode cL_law 520 = .ok (.aload_n 0, 1) := by decide +kernel
theorem dL_law_521 : decode cL_law 521 = .ok (.iload 5, 2) := by decide +kernel
theorem dL_law_523 : decode cL_law 523 = .ok (.iconst 1, 1) := by decide +kernel
theorem dL_law_524 : decode cL_law 524 = .ok (.iadd, 1) := by decide +kernel
theorem dL_law_525 : decode cL_law 525 = .ok (.iaload, 1) := by decide +kernel
theorem dL_law_526 : decode cL_law 526 = .ok (.aload_n 0, 1) := by decide +kernel
theorem dL_law_527 : decode cL_law 527 = .ok (.iload 5, 2) := by decide +kernel
theorem dL_law_529 : decode cL_law 529 = .ok (.iconst 2, 1) := by decide +kernel
theorem dL_law_530 : decode cL_law 530 = .ok (.iadd, 1) := by decide +kernel
theorem dL_law_531 : decode cL_law 531 = .ok (.iaload, 1) := by decide +kernel
theorem dL_law_532 : decode cL_law 532 = .ok (.invokevirtual 138, 3) := by decide +kernel
theorem dL_law_535 : decode cL_law 535 = .ok (.istore 7, 2) := by decide +kernel
theorem dL_law_537 : decode cL_law 537 = .ok (.aload_n 2, 1) := by decide +kernel
theorem dL_law_538 : decode cL_law 538 = .ok (.invokevirtual 117, 3) := by decide +kernel
theorem dL_law_541 : decode cL_law 541 = .ok (.iload 6, 2) := by decide +kernel
theorem dL_law_543 : decode cL_law 543 = .ok (.if_icmp .eq 5, 3) := by decide +kernel
theorem dL_law_546 : decode cL_law 546 = .ok (.iconst 0, 1) := by decide +kernel
theorem dL_law_547 : decode cL_law 547 = .ok (.ireturn, 1) := by decide +kernel
theorem dL_law_548 : decode cL_law 548 = .ok (.iload 6, 2) := by decide +kernel
theorem dL_law_550 : decode cL_law 550 = .ok (.ifCond .ne 15, 3) := by decide +kernel
theorem dL_law_553 : decode cL_law 553 = .ok (.aload_n 3, 1) := by decide +kernel
theorem dL_law_554 : decode cL_law 554 = .ok (.iconst 0, 1) := by decide +kernel
theorem dL_law_555 : decode cL_law 555 = .ok (.laload, 1) := by decide +kernel
theorem dL_law_556 : decode cL_law 556 = .ok (.iload 7, 2) := by decide +kernel
theorem dL_law_558 : decode cL_law 558 = .ok (.i2l, 1) := by decide +kernel
theorem dL_law_559 : decode cL_law 559 = .ok (.lcmp, 1) := by decide +kernel
theorem dL_law_560 : decode cL_law 560 = .ok (.ifCond .eq 5, 3) := by decide +kernel
theorem dL_law_563 : decode cL_law 563 = .ok (.iconst 0, 1) := by decide +kernel
theorem dL_law_564 : decode cL_law 564 = .ok (.ireturn, 1) := by decide +kernel
theorem dL_law_565 : decode cL_law 565 = .ok (.goto 1273, 3) := by decide +kernel
theorem dL_law_568 : decode cL_law 568 = .ok (.aload_n 1, 1) := by decide +kernel
theorem dL_law_569 : decode cL_law 569 = .ok (.aload_n 0, 1) := by decide +kernel
theorem dL_law_570 : decode cL_law 570 = .ok (.iload 5, 2) := by decide +kernel
theorem dL_law_572 : decode cL_law 572 = .ok (.iconst 1, 1) := by decide +kernel
theorem dL_law_573 : decode cL_law 573 = .ok (.iadd, 1) := by decide +kernel
theorem dL_law_574 : decode cL_law 574 = .ok (.iaload, 1) := by decide +kernel
theorem dL_law_575 : decode cL_law 575 = .ok (.aload_n 0, 1) := by decide +kernel
theorem dL_law_576 : decode cL_law 576 = .ok (.iload 5, 2) := by decide +kernel
theorem dL_law_578 : decode cL_law 578 = .ok (.iconst 2, 1) := by decide +kernel
theorem dL_law_579 : decode cL_law 579 = .ok (.iadd, 1) := by decide +kernel
theorem dL_law_580 : decode cL_law 580 = .ok (.iaload, 1) := by decide +kernel
theorem dL_law_581 : decode cL_law 581 = .ok (.aload_n 0, 1) := by decide +kernel
theorem dL_law_582 : decode cL_law 582 = .ok (.iload 5, 2) := by decide +kernel
theorem dL_law_584 : decode cL_law 584 = .ok (.iconst 3, 1) := by decide +kernel
theorem dL_law_585 : decode cL_law 585 = .ok (.iadd, 1) := by decide +kernel
theorem dL_law_586 : decode cL_law 586 = .ok (.iaload, 1) := by decide +kernel
theorem dL_law_587 : decode cL_law 587 = .ok (.aload_n 3, 1) := by decide +kernel
theorem dL_law_588 : decode cL_law 588 = .ok (.invokestatic 139, 3) := by decide +kernel
theorem dL_law_591 : decode cL_law 591 = .ok (.istore 6, 2) := by decide +kernel
theorem dL_law_593 : decode cL_law 593 = .ok (.aload_n 2, 1) := by decide +kernel
theorem dL_law_594 : decode cL_law 594 = .ok (.aload_n 0, 1) := by decide +kernel
theorem dL_law_595 : decode cL_law 595 = .ok (.iload 5, 2) := by decide +kernel
theorem dL_law_597 : decode cL_law 597 = .ok (.iconst 1, 1) := by decide +kernel
theorem dL_law_598 : decode cL_law 598 = .ok (.iadd, 1) := by decide +kernel
theorem dL_law_599 : decode cL_law 599 = .ok (.iaload, 1) := by decide +kernel
theorem dL_law_600 : decode cL_law 600 = .ok (.aload_n 0, 1) := by decide +kernel
theorem dL_law_601 : decode cL_law 601 = .ok (.iload 5, 2) := by decide +kernel
theorem dL_law_603 : decode cL_law 603 = .ok (.iconst 2, 1) := by decide +kernel
theorem dL_law_604 : decode cL_law 604 = .ok (.iadd, 1) := by decide +kernel
theorem dL_law_605 : decode cL_law 605 = .ok (.iaload, 1) := by decide +kernel
theorem dL_law_606 : decode cL_law 606 = .ok (.aload_n 0, 1) := by decide +kernel
theorem dL_law_607 : decode cL_law 607 = .ok (.iload 5, 2) := by decide +kernel
theorem dL_law_609 : decode cL_law 609 = .ok (.iconst 3, 1) := by decide +kernel
theorem dL_law_610 : decode cL_law 610 = .ok (.iadd, 1) := by decide +kernel
theorem dL_law_611 : decode cL_law 611 = .ok (.iaload, 1) := by decide +kernel
theorem dL_law_612 : decode cL_law 612 = .ok (.invokevirtual 142, 3) := by decide +kernel
theorem dL_law_615 : decode cL_law 615 = .ok (.istore 7, 2) := by decide +kernel
theorem dL_law_617 : decode cL_law 617 = .ok (.aload_n 2, 1) := by decide +kernel
theorem dL_law_618 : decode cL_law 618 = .ok (.invokevirtual 117, 3) := by decide +kernel
theorem dL_law_621 : decode cL_law 621 = .ok (.iload 6, 2) := by decide +kernel
theorem dL_law_623 : decode cL_law 623 = .ok (.if_icmp .eq 5, 3) := by decide +kernel
theorem dL_law_626 : decode cL_law 626 = .ok (.iconst 0, 1) := by decide +kernel
theorem dL_law_627 : decode cL_law 627 = .ok (.ireturn, 1) := by decide +kernel
theorem dL_law_628 : decode cL_law 628 = .ok (.iload 6, 2) := by decide +kernel
theorem dL_law_630 : decode cL_law 630 = .ok (.ifCond .ne 15, 3) := by decide +kernel
theorem dL_law_633 : decode cL_law 633 = .ok (.aload_n 3, 1) := by decide +kernel
theorem dL_law_634 : decode cL_law 634 = .ok (.iconst 0, 1) := by decide +kernel
theorem dL_law_635 : decode cL_law 635 = .ok (.laload, 1) := by decide +kernel
theorem dL_law_636 : decode cL_law 636 = .ok (.iload 7, 2) := by decide +kernel
theorem dL_law_638 : decode cL_law 638 = .ok (.i2l, 1) := by decide +kernel
theorem dL_law_639 : decode cL_law 639 = .ok (.lcmp, 1) := by decide +kernel
theorem dL_law_640 : decode cL_law 640 = .ok (.ifCond .eq 5, 3) := by decide +kernel
theorem dL_law_643 : decode cL_law 643 = .ok (.iconst 0, 1) := by decide +kernel
theorem dL_law_644 : decode cL_law 644 = .ok (.ireturn, 1) := by decide +kernel
theorem dL_law_645 : decode cL_law 645 = .ok (.goto 1193, 3) := by decide +kernel
theorem dL_law_648 : decode cL_law 648 = .ok (.aload_n 1, 1) := by decide +kernel
theorem dL_law_649 : decode cL_law 649 = .ok (.aload_n 0, 1) := by decide +kernel
theorem dL_law_650 : decode cL_law 650 = .ok (.iload 5, 2) := by decide +kernel
theorem dL_law_652 : decode cL_law 652 = .ok (.iconst 1, 1) := by decide +kernel
theorem dL_law_653 : decode cL_law 653 = .ok (.iadd, 1) := by decide +kernel
theorem dL_law_654 : decode cL_law 654 = .ok (.iaload, 1) := by decide +kernel
theorem dL_law_655 : decode cL_law 655 = .ok (.aload_n 0, 1) := by decide +kernel
theorem dL_law_656 : decode cL_law 656 = .ok (.iload 5, 2) := by decide +kernel
theorem dL_law_658 : decode cL_law 658 = .ok (.iconst 2, 1) := by decide +kernel
theorem dL_law_659 : decode cL_law 659 = .ok (.iadd, 1) := by decide +kernel
theorem dL_law_660 : decode cL_law 660 = .ok (.iaload, 1) := by decide +kernel
theorem dL_law_661 : decode cL_law 661 = .ok (.aload_n 0, 1) := by decide +kernel
theorem dL_law_662 : decode cL_law 662 = .ok (.iload 5, 2) := by decide +kernel
theorem dL_law_664 : decode cL_law 664 = .ok (.iconst 3, 1) := by decide +kernel
theorem dL_law_665 : decode cL_law 665 = .ok (.iadd, 1) := by decide +kernel
theorem dL_law_666 : decode cL_law 666 = .ok (.iaload, 1) := by decide +kernel
theorem dL_law_667 : decode cL_law 667 = .ok (.aload_n 0, 1) := by decide +kernel
theorem dL_law_668 : decode cL_law 668 = .ok (.iload 5, 2) := by decide +kernel
theorem dL_law_670 : decode cL_law 670 = .ok (.iconst 4, 1) := by decide +kernel
theorem dL_law_671 : decode cL_law 671 = .ok (.iadd, 1) := by decide +kernel
theorem dL_law_672 : decode cL_law 672 = .ok (.iaload, 1) := by decide +kernel
theorem dL_law_673 : decode cL_law 673 = .ok (.aload_n 3, 1) := by decide +kernel
theorem dL_law_674 : decode cL_law 674 = .ok (.invokestatic 143, 3) := by decide +kernel
theorem dL_law_677 : decode cL_law 677 = .ok (.istore 6, 2) := by decide +kernel
theorem dL_law_679 : decode cL_law 679 = .ok (.aload_n 2, 1) := by decide +kernel
theorem dL_law_680 : decode cL_law 680 = .ok (.aload_n 0, 1) := by decide +kernel
theorem dL_law_681 : decode cL_law 681 = .ok (.iload 5, 2) := by decide +kernel
theorem dL_law_683 : decode cL_law 683 = .ok (.iconst 1, 1) := by decide +kernel
theorem dL_law_684 : decode cL_law 684 = .ok (.iadd, 1) := by decide +kernel
theorem dL_law_685 : decode cL_law 685 = .ok (.iaload, 1) := by decide +kernel
theorem dL_law_686 : decode cL_law 686 = .ok (.aload_n 0, 1) := by decide +kernel
theorem dL_law_687 : decode cL_law 687 = .ok (.iload 5, 2) := by decide +kernel
theorem dL_law_689 : decode cL_law 689 = .ok (.iconst 2, 1) := by decide +kernel
theorem dL_law_690 : decode cL_law 690 = .ok (.iadd, 1) := by decide +kernel
theorem dL_law_691 : decode cL_law 691 = .ok (.iaload, 1) := by decide +kernel
theorem dL_law_692 : decode cL_law 692 = .ok (.aload_n 0, 1) := by decide +kernel
theorem dL_law_693 : decode cL_law 693 = .ok (.iload 5, 2) := by decide +kernel
theorem dL_law_695 : decode cL_law 695 = .ok (.iconst 3, 1) := by decide +kernel
theorem dL_law_696 : decode cL_law 696 = .ok (.iadd, 1) := by decide +kernel
theorem dL_law_697 : decode cL_law 697 = .ok (.iaload, 1) := by decide +kernel
theorem dL_law_698 : decode cL_law 698 = .ok (.aload_n 0, 1) := by decide +kernel
theorem dL_law_699 : decode cL_law 699 = .ok (.iload 5, 2) := by decide +kernel
theorem dL_law_701 : decode cL_law 701 = .ok (.iconst 4, 1) := by decide +kernel
theorem dL_law_702 : decode cL_law 702 = .ok (.iadd, 1) := by decide +kernel
theorem dL_law_703 : decode cL_law 703 = .ok (.iaload, 1) := by decide +kernel
theorem dL_law_704 : decode cL_law 704 = .ok (.invokevirtual 146, 3) := by decide +kernel
theorem dL_law_707 : decode cL_law 707 = .ok (.istore 7, 2) := by decide +kernel
theorem dL_law_709 : decode cL_law 709 = .ok (.aload_n 2, 1) := by decide +kernel
theorem dL_law_710 : decode cL_law 710 = .ok (.invokevirtual 117, 3) := by decide +kernel
theorem dL_law_713 : decode cL_law 713 = .ok (.iload 6, 2) := by decide +kernel
theorem dL_law_715 : decode cL_law 715 = .ok (.if_icmp .eq 5, 3) := by decide +kernel
theorem dL_law_718 : decode cL_law 718 = .ok (.iconst 0, 1) := by decide +kernel
theorem dL_law_719 : decode cL_law 719 = .ok (.ireturn, 1) := by decide +kernel
theorem dL_law_720 : decode cL_law 720 = .ok (.iload 6, 2) := by decide +kernel
theorem dL_law_722 : decode cL_law 722 = .ok (.ifCond .ne 15, 3) := by decide +kernel
theorem dL_law_725 : decode cL_law 725 = .ok (.aload_n 3, 1) := by decide +kernel
theorem dL_law_726 : decode cL_law 726 = .ok (.iconst 0, 1) := by decide +kernel
theorem dL_law_727 : decode cL_law 727 = .ok (.laload, 1) := by decide +kernel
theorem dL_law_728 : decode cL_law 728 = .ok (.iload 7, 2) := by decide +kernel
theorem dL_law_730 : decode cL_law 730 = .ok (.i2l, 1) := by decide +kernel
theorem dL_law_731 : decode cL_law 731 = .ok (.lcmp, 1) := by decide +kernel
theorem dL_law_732 : decode cL_law 732 = .ok (.ifCond .eq 5, 3) := by decide +kernel
theorem dL_law_735 : decode cL_law 735 = .ok (.iconst 0, 1) := by decide +kernel
theorem dL_law_736 : decode cL_law 736 = .ok (.ireturn, 1) := by decide +kernel
theorem dL_law_737 : decode cL_law 737 = .ok (.goto 1101, 3) := by decide +kernel
theorem dL_law_740 : decode cL_law 740 = .ok (.aload_n 1, 1) := by decide +kernel
theorem dL_law_741 : decode cL_law 741 = .ok (.aload_n 0, 1) := by decide +kernel
theorem dL_law_742 : decode cL_law 742 = .ok (.iload 5, 2) := by decide +kernel
theorem dL_law_744 : decode cL_law 744 = .ok (.iconst 1, 1) := by decide +kernel
theorem dL_law_745 : decode cL_law 745 = .ok (.iadd, 1) := by decide +kernel
theorem dL_law_746 : decode cL_law 746 = .ok (.iaload, 1) := by decide +kernel
theorem dL_law_747 : decode cL_law 747 = .ok (.aload_n 0, 1) := by decide +kernel
theorem dL_law_748 : decode cL_law 748 = .ok (.iload 5, 2) := by decide +kernel
theorem dL_law_750 : decode cL_law 750 = .ok (.iconst 2, 1) := by decide +kernel
theorem dL_law_751 : decode cL_law 751 = .ok (.iadd, 1) := by decide +kernel
theorem dL_law_752 : decode cL_law 752 = .ok (.iaload, 1) := by decide +kernel
theorem dL_law_753 : decode cL_law 753 = .ok (.aload_n 3, 1) := by decide +kernel
theorem dL_law_754 : decode cL_law 754 = .ok (.invokestatic 147, 3) := by decide +kernel
theorem dL_law_757 : decode cL_law 757 = .ok (.istore 6, 2) := by decide +kernel
theorem dL_law_759 : decode cL_law 759 = .ok (.aload_n 2, 1) := by decide +kernel
theorem dL_law_760 : decode cL_law 760 = .ok (.aload_n 0, 1) := by decide +kernel
theorem dL_law_761 : decode cL_law 761 = .ok (.iload 5, 2) := by decide +kernel
theorem dL_law_763 : decode cL_law 763 = .ok (.iconst 1, 1) := by decide +kernel
theorem dL_law_764 : decode cL_law 764 = .ok (.iadd, 1) := by decide +kernel
theorem dL_law_765 : decode cL_law 765 = .ok (.iaload, 1) := by decide +kernel
theorem dL_law_766 : decode cL_law 766 = .ok (.aload_n 0, 1) := by decide +kernel
theorem dL_law_767 : decode cL_law 767 = .ok (.iload 5, 2) := by decide +kernel
theorem dL_law_769 : decode cL_law 769 = .ok (.iconst 2, 1) := by decide +kernel
theorem dL_law_770 : decode cL_law 770 = .ok (.iadd, 1) := by decide +kernel
theorem dL_law_771 : decode cL_law 771 = .ok (.iaload, 1) := by decide +kernel
theorem dL_law_772 : decode cL_law 772 = .ok (.invokevirtual 149, 3) := by decide +kernel
theorem dL_law_775 : decode cL_law 775 = .ok (.istore 7, 2) := by decide +kernel
theorem dL_law_777 : decode cL_law 777 = .ok (.aload_n 2, 1) := by decide +kernel
theorem dL_law_778 : decode cL_law 778 = .ok (.invokevirtual 117, 3) := by decide +kernel
theorem dL_law_781 : decode cL_law 781 = .ok (.iload 6, 2) := by decide +kernel
theorem dL_law_783 : decode cL_law 783 = .ok (.if_icmp .eq 5, 3) := by decide +kernel
theorem dL_law_786 : decode cL_law 786 = .ok (.iconst 0, 1) := by decide +kernel
theorem dL_law_787 : decode cL_law 787 = .ok (.ireturn, 1) := by decide +kernel
theorem dL_law_788 : decode cL_law 788 = .ok (.iload 6, 2) := by decide +kernel
theorem dL_law_790 : decode cL_law 790 = .ok (.ifCond .ne 15, 3) := by decide +kernel
theorem dL_law_793 : decode cL_law 793 = .ok (.aload_n 3, 1) := by decide +kernel
theorem dL_law_794 : decode cL_law 794 = .ok (.iconst 0, 1) := by decide +kernel
theorem dL_law_795 : decode cL_law 795 = .ok (.laload, 1) := by decide +kernel
theorem dL_law_796 : decode cL_law 796 = .ok (.iload 7, 2) := by decide +kernel
theorem dL_law_798 : decode cL_law 798 = .ok (.i2l, 1) := by decide +kernel
theorem dL_law_799 : decode cL_law 799 = .ok (.lcmp, 1) := by decide +kernel
theorem dL_law_800 : decode cL_law 800 = .ok (.ifCond .eq 5, 3) := by decide +kernel
theorem dL_law_803 : decode cL_law 803 = .ok (.iconst 0, 1) := by decide +kernel
theorem dL_law_804 : decode cL_law 804 = .ok (.ireturn, 1) := by decide +kernel
theorem dL_law_805 : decode cL_law 805 = .ok (.goto 1033, 3) := by decide +kernel
theorem dL_law_808 : decode cL_law 808 = .ok (.aload_n 1, 1) := by decide +kernel
theorem dL_law_809 : decode cL_law 809 = .ok (.aload_n 0, 1) := by decide +kernel
theorem dL_law_810 : decode cL_law 810 = .ok (.iload 5, 2) := by decide +kernel
theorem dL_law_812 : decode cL_law 812 = .ok (.iconst 1, 1) := by decide +kernel
theorem dL_law_813 : decode cL_law 813 = .ok (.iadd, 1) := by decide +kernel
theorem dL_law_814 : decode cL_law 814 = .ok (.iaload, 1) := by decide +kernel
theorem dL_law_815 : decode cL_law 815 = .ok (.aload_n 0, 1) := by decide +kernel
theorem dL_law_816 : decode cL_law 816 = .ok (.iload 5, 2) := by decide +kernel
theorem dL_law_818 : decode cL_law 818 = .ok (.iconst 2, 1) := by decide +kernel
theorem dL_law_819 : decode cL_law 819 = .ok (.iadd, 1) := by decide +kernel
theorem dL_law_820 : decode cL_law 820 = .ok (.iaload, 1) := by decide +kernel
theorem dL_law_821 : decode cL_law 821 = .ok (.aload_n 3, 1) := by decide +kernel
theorem dL_law_822 : decode cL_law 822 = .ok (.invokestatic 150, 3) := by decide +kernel
theorem dL_law_825 : decode cL_law 825 = .ok (.istore 6, 2) := by decide +kernel
theorem dL_law_827 : decode cL_law 827 = .ok (.aload_n 2, 1) := by decide +kernel
theorem dL_law_828 : decode cL_law 828 = .ok (.aload_n 0, 1) := by decide +kernel
theorem dL_law_829 : decode cL_law 829 = .ok (.iload 5, 2) := by decide +kernel
theorem dL_law_831 : decode cL_law 831 = .ok (.iconst 1, 1) := by decide +kernel
theorem dL_law_832 : decode cL_law 832 = .ok (.iadd, 1) := by decide +kernel
theorem dL_law_833 : decode cL_law 833 = .ok (.iaload, 1) := by decide +kernel
theorem dL_law_834 : decode cL_law 834 = .ok (.aload_n 0, 1) := by decide +kernel
theorem dL_law_835 : decode cL_law 835 = .ok (.iload 5, 2) := by decide +kernel
theorem dL_law_837 : decode cL_law 837 = .ok (.iconst 2, 1) := by decide +kernel
theorem dL_law_838 : decode cL_law 838 = .ok (.iadd, 1) := by decide +kernel
theorem dL_law_839 : decode cL_law 839 = .ok (.iaload, 1) := by decide +kernel
theorem dL_law_840 : decode cL_law 840 = .ok (.invokevirtual 152, 3) := by decide +kernel
theorem dL_law_843 : decode cL_law 843 = .ok (.istore 7, 2) := by decide +kernel
theorem dL_law_845 : decode cL_law 845 = .ok (.aload_n 2, 1) := by decide +kernel
theorem dL_law_846 : decode cL_law 846 = .ok (.invokevirtual 117, 3) := by decide +kernel
theorem dL_law_849 : decode cL_law 849 = .ok (.iload 6, 2) := by decide +kernel
theorem dL_law_851 : decode cL_law 851 = .ok (.if_icmp .eq 5, 3) := by decide +kernel
theorem dL_law_854 : decode cL_law 854 = .ok (.iconst 0, 1) := by decide +kernel
theorem dL_law_855 : decode cL_law 855 = .ok (.ireturn, 1) := by decide +kernel
theorem dL_law_856 : decode cL_law 856 = .ok (.iload 6, 2) := by decide +kernel
theorem dL_law_858 : decode cL_law 858 = .ok (.ifCond .ne 15, 3) := by decide +kernel
theorem dL_law_861 : decode cL_law 861 = .ok (.aload_n 3, 1) := by decide +kernel
theorem dL_law_862 : decode cL_law 862 = .ok (.iconst 0, 1) := by decide +kernel
theorem dL_law_863 : decode cL_law 863 = .ok (.laload, 1) := by decide +kernel
theorem dL_law_864 : decode cL_law 864 = .ok (.iload 7, 2) := by decide +kernel
theorem dL_law_866 : decode cL_law 866 = .ok (.i2l, 1) := by decide +kernel
theorem dL_law_867 : decode cL_law 867 = .ok (.lcmp, 1) := by decide +kernel
theorem dL_law_868 : decode cL_law 868 = .ok (.ifCond .eq 5, 3) := by decide +kernel
theorem dL_law_871 : decode cL_law 871 = .ok (.iconst 0, 1) := by decide +kernel
theorem dL_law_872 : decode cL_law 872 = .ok (.ireturn, 1) := by decide +kernel
theorem dL_law_873 : decode cL_law 873 = .ok (.goto 965, 3) := by decide +kernel
theorem dL_law_876 : decode cL_law 876 = .ok (.aload_n 1, 1) := by decide +kernel
theorem dL_law_877 : decode cL_law 877 = .ok (.aload_n 0, 1) := by decide +kernel
theorem dL_law_878 : decode cL_law 878 = .ok (.iload 5, 2) := by decide +kernel
theorem dL_law_880 : decode cL_law 880 = .ok (.iconst 1, 1) := by decide +kernel
theorem dL_law_881 : decode cL_law 881 = .ok (.iadd, 1) := by decide +kernel
theorem dL_law_882 : decode cL_law 882 = .ok (.iaload, 1) := by decide +kernel
theorem dL_law_883 : decode cL_law 883 = .ok (.aload_n 3, 1) := by decide +kernel
theorem dL_law_884 : decode cL_law 884 = .ok (.invokestatic 153, 3) := by decide +kernel
theorem dL_law_887 : decode cL_law 887 = .ok (.istore 6, 2) := by decide +kernel
theorem dL_law_889 : decode cL_law 889 = .ok (.aload_n 2, 1) := by decide +kernel
theorem dL_law_890 : decode cL_law 890 = .ok (.aload_n 0, 1) := by decide +kernel
theorem dL_law_891 : decode cL_law 891 = .ok (.iload 5, 2) := by decide +kernel
theorem dL_law_893 : decode cL_law 893 = .ok (.iconst 1, 1) := by decide +kernel
theorem dL_law_894 : decode cL_law 894 = .ok (.iadd, 1) := by decide +kernel
theorem dL_law_895 : decode cL_law 895 = .ok (.iaload, 1) := by decide +kernel
theorem dL_law_896 : decode cL_law 896 = .ok (.invokevirtual 155, 3) := by decide +kernel
theorem dL_law_899 : decode cL_law 899 = .ok (.istore 7, 2) := by decide +kernel
theorem dL_law_901 : decode cL_law 901 = .ok (.aload_n 2, 1) := by decide +kernel
theorem dL_law_902 : decode cL_law 902 = .ok (.invokevirtual 117, 3) := by decide +kernel
theorem dL_law_905 : decode cL_law 905 = .ok (.iload 6, 2) := by decide +kernel
theorem dL_law_907 : decode cL_law 907 = .ok (.if_icmp .eq 5, 3) := by decide +kernel
theorem dL_law_910 : decode cL_law 910 = .ok (.iconst 0, 1) := by decide +kernel
theorem dL_law_911 : decode cL_law 911 = .ok (.ireturn, 1) := by decide +kernel
theorem dL_law_912 : decode cL_law 912 = .ok (.iload 6, 2) := by decide +kernel
theorem dL_law_914 : decode cL_law 914 = .ok (.ifCond .ne 15, 3) := by decide +kernel
theorem dL_law_917 : decode cL_law 917 = .ok (.aload_n 3, 1) := by decide +kernel
theorem dL_law_918 : decode cL_law 918 = .ok (.iconst 0, 1) := by decide +kernel
theorem dL_law_919 : decode cL_law 919 = .ok (.laload, 1) := by decide +kernel
theorem dL_law_920 : decode cL_law 920 = .ok (.iload 7, 2) := by decide +kernel
theorem dL_law_922 : decode cL_law 922 = .ok (.i2l, 1) := by decide +kernel
theorem dL_law_923 : decode cL_law 923 = .ok (.lcmp, 1) := by decide +kernel
theorem dL_law_924 : decode cL_law 924 = .ok (.ifCond .eq 5, 3) := by decide +kernel
theorem dL_law_927 : decode cL_law 927 = .ok (.iconst 0, 1) := by decide +kernel
theorem dL_law_928 : decode cL_law 928 = .ok (.ireturn, 1) := by decide +kernel
theorem dL_law_929 : decode cL_law 929 = .ok (.goto 909, 3) := by decide +kernel
theorem dL_law_932 : decode cL_law 932 = .ok (.aload_n 1, 1) := by decide +kernel
theorem dL_law_933 : decode cL_law 933 = .ok (.aload_n 0, 1) := by decide +kernel
theorem dL_law_934 : decode cL_law 934 = .ok (.iload 5, 2) := by decide +kernel
theorem dL_law_936 : decode cL_law 936 = .ok (.iconst 1, 1) := by decide +kernel
theorem dL_law_937 : decode cL_law 937 = .ok (.iadd, 1) := by decide +kernel
theorem dL_law_938 : decode cL_law 938 = .ok (.iaload, 1) := by decide +kernel
theorem dL_law_939 : decode cL_law 939 = .ok (.aload_n 3, 1) := by decide +kernel
theorem dL_law_940 : decode cL_law 940 = .ok (.invokestatic 156, 3) := by decide +kernel
theorem dL_law_943 : decode cL_law 943 = .ok (.istore 6, 2) := by decide +kernel
theorem dL_law_945 : decode cL_law 945 = .ok (.aload_n 2, 1) := by decide +kernel
theorem dL_law_946 : decode cL_law 946 = .ok (.aload_n 0, 1) := by decide +kernel
theorem dL_law_947 : decode cL_law 947 = .ok (.iload 5, 2) := by decide +kernel
theorem dL_law_949 : decode cL_law 949 = .ok (.iconst 1, 1) := by decide +kernel
theorem dL_law_950 : decode cL_law 950 = .ok (.iadd, 1) := by decide +kernel
theorem dL_law_951 : decode cL_law 951 = .ok (.iaload, 1) := by decide +kernel
theorem dL_law_952 : decode cL_law 952 = .ok (.invokevirtual 158, 3) := by decide +kernel
theorem dL_law_955 : decode cL_law 955 = .ok (.istore 7, 2) := by decide +kernel
theorem dL_law_957 : decode cL_law 957 = .ok (.aload_n 2, 1) := by decide +kernel
theorem dL_law_958 : decode cL_law 958 = .ok (.invokevirtual 117, 3) := by decide +kernel
theorem dL_law_961 : decode cL_law 961 = .ok (.iload 6, 2) := by decide +kernel
theorem dL_law_963 : decode cL_law 963 = .ok (.if_icmp .eq 5, 3) := by decide +kernel
theorem dL_law_966 : decode cL_law 966 = .ok (.iconst 0, 1) := by decide +kernel
theorem dL_law_967 : decode cL_law 967 = .ok (.ireturn, 1) := by decide +kernel
theorem dL_law_968 : decode cL_law 968 = .ok (.iload 6, 2) := by decide +kernel
theorem dL_law_970 : decode cL_law 970 = .ok (.ifCond .ne 15, 3) := by decide +kernel
theorem dL_law_973 : decode cL_law 973 = .ok (.aload_n 3, 1) := by decide +kernel
theorem dL_law_974 : decode cL_law 974 = .ok (.iconst 0, 1) := by decide +kernel
theorem dL_law_975 : decode cL_law 975 = .ok (.laload, 1) := by decide +kernel
theorem dL_law_976 : decode cL_law 976 = .ok (.iload 7, 2) := by decide +kernel
theorem dL_law_978 : decode cL_law 978 = .ok (.i2l, 1) := by decide +kernel
theorem dL_law_979 : decode cL_law 979 = .ok (.lcmp, 1) := by decide +kernel
theorem dL_law_980 : decode cL_law 980 = .ok (.ifCond .eq 5, 3) := by decide +kernel
theorem dL_law_983 : decode cL_law 983 = .ok (.iconst 0, 1) := by decide +kernel
theorem dL_law_984 : decode cL_law 984 = .ok (.ireturn, 1) := by decide +kernel
theorem dL_law_985 : decode cL_law 985 = .ok (.goto 853, 3) := by decide +kernel
theorem dL_law_988 : decode cL_law 988 = .ok (.aload_n 1, 1) := by decide +kernel
theorem dL_law_989 : decode cL_law 989 = .ok (.aload_n 0, 1) := by decide +kernel
theorem dL_law_990 : decode cL_law 990 = .ok (.iload 5, 2) := by decide +kernel
theorem dL_law_992 : decode cL_law 992 = .ok (.iconst 1, 1) := by decide +kernel
theorem dL_law_993 : decode cL_law 993 = .ok (.iadd, 1) := by decide +kernel
theorem dL_law_994 : decode cL_law 994 = .ok (.iaload, 1) := by decide +kernel
theorem dL_law_995 : decode cL_law 995 = .ok (.aload_n 0, 1) := by decide +kernel
theorem dL_law_996 : decode cL_law 996 = .ok (.iload 5, 2) := by decide +kernel
theorem dL_law_998 : decode cL_law 998 = .ok (.iconst 2, 1) := by decide +kernel
theorem dL_law_999 : decode cL_law 999 = .ok (.iadd, 1) := by decide +kernel
theorem dL_law_1000 : decode cL_law 1000 = .ok (.iaload, 1) := by decide +kernel
theorem dL_law_1001 : decode cL_law 1001 = .ok (.ifCond .eq 7, 3) := by decide +kernel
theorem dL_law_1004 : decode cL_law 1004 = .ok (.iconst 1, 1) := by decide +kernel
theorem dL_law_1005 : decode cL_law 1005 = .ok (.goto 4, 3) := by decide +kernel
theorem dL_law_1008 : decode cL_law 1008 = .ok (.iconst 0, 1) := by decide +kernel
theorem dL_law_1009 : decode cL_law 1009 = .ok (.aload_n 3, 1) := by decide +kernel
theorem dL_law_1010 : decode cL_law 1010 = .ok (.invokestatic 159, 3) := by decide +kernel
theorem dL_law_1013 : decode cL_law 1013 = .ok (.istore 6, 2) := by decide +kernel
theorem dL_law_1015 : decode cL_law 1015 = .ok (.aload_n 2, 1) := by decide +kernel
theorem dL_law_1016 : decode cL_law 1016 = .ok (.aload_n 0, 1) := by decide +kernel
theorem dL_law_1017 : decode cL_law 1017 = .ok (.iload 5, 2) := by decide +kernel
theorem dL_law_1019 : decode cL_law 1019 = .ok (.iconst 1, 1) := by decide +kernel
theorem dL_law_1020 : decode cL_law 1020 = .ok (.iadd, 1) := by decide +kernel
theorem dL_law_1021 : decode cL_law 1021 = .ok (.iaload, 1) := by decide +kernel
theorem dL_law_1022 : decode cL_law 1022 = .ok (.aload_n 0, 1) := by decide +kernel
theorem dL_law_1023 : decode cL_law 1023 = .ok (.iload 5, 2) := by decide +kernel
theorem dL_law_1025 : decode cL_law 1025 = .ok (.iconst 2, 1) := by decide +kernel
theorem dL_law_1026 : decode cL_law 1026 = .ok (.iadd, 1) := by decide +kernel
theorem dL_law_1027 : decode cL_law 1027 = .ok (.iaload, 1) := by decide +kernel
theorem dL_law_1028 : decode cL_law 1028 = .ok (.ifCond .eq 7, 3) := by decide +kernel
theorem dL_law_1031 : decode cL_law 1031 = .ok (.iconst 1, 1) := by decide +kernel
theorem dL_law_1032 : decode cL_law 1032 = .ok (.goto 4, 3) := by decide +kernel
theorem dL_law_1035 : decode cL_law 1035 = .ok (.iconst 0, 1) := by decide +kernel
theorem dL_law_1036 : decode cL_law 1036 = .ok (.invokevirtual 162, 3) := by decide +kernel
theorem dL_law_1039 : decode cL_law 1039 = .ok (.istore 7, 2) := by decide +kernel
theorem dL_law_1041 : decode cL_law 1041 = .ok (.aload_n 2, 1) := by decide +kernel
theorem dL_law_1042 : decode cL_law 1042 = .ok (.invokevirtual 117, 3) := by decide +kernel
theorem dL_law_1045 : decode cL_law 1045 = .ok (.iload 6, 2) := by decide +kernel
theorem dL_law_1047 : decode cL_law 1047 = .ok (.if_icmp .eq 5, 3) := by decide +kernel
theorem dL_law_1050 : decode cL_law 1050 = .ok (.iconst 0, 1) := by decide +kernel
theorem dL_law_1051 : decode cL_law 1051 = .ok (.ireturn, 1) := by decide +kernel
theorem dL_law_1052 : decode cL_law 1052 = .ok (.iload 6, 2) := by decide +kernel
theorem dL_law_1054 : decode cL_law 1054 = .ok (.ifCond .ne 22, 3) := by decide +kernel
theorem dL_law_1057 : decode cL_law 1057 = .ok (.aload_n 3, 1) := by decide +kernel
theorem dL_law_1058 : decode cL_law 1058 = .ok (.iconst 0, 1) := by decide +kernel
theorem dL_law_1059 : decode cL_law 1059 = .ok (.laload, 1) := by decide +kernel
theorem dL_law_1060 : decode cL_law 1060 = .ok (.iload 7, 2) := by decide +kernel
theorem dL_law_1062 : decode cL_law 1062 = .ok (.ifCond .eq 7, 3) := by decide +kernel
theorem dL_law_1065 : decode cL_law 1065 = .ok (.lconst 1, 1) := by decide +kernel
theorem dL_law_1066 : decode cL_law 1066 = .ok (.goto 4, 3) := by decide +kernel
theorem dL_law_1069 : decode cL_law 1069 = .ok (.lconst 0, 1) := by decide +kernel
theorem dL_law_1070 : decode cL_law 1070 = .ok (.lcmp, 1) := by decide +kernel
theorem dL_law_1071 : decode cL_law 1071 = .ok (.ifCond .eq 5, 3) := by decide +kernel
theorem dL_law_1074 : decode cL_law 1074 = .ok (.iconst 0, 1) := by decide +kernel
theorem dL_law_1075 : decode cL_law 1075 = .ok (.ireturn, 1) := by decide +kernel
theorem dL_law_1076 : decode cL_law 1076 = .ok (.goto 762, 3) := by decide +kernel
theorem dL_law_1079 : decode cL_law 1079 = .ok (.aload_n 1, 1) := by decide +kernel
theorem dL_law_1080 : decode cL_law 1080 = .ok (.aload_n 0, 1) := by decide +kernel
theorem dL_law_1081 : decode cL_law 1081 = .ok (.iload 5, 2) := by decide +kernel
theorem dL_law_1083 : decode cL_law 1083 = .ok (.iconst 1, 1) := by decide +kernel
theorem dL_law_1084 : decode cL_law 1084 = .ok (.iadd, 1) := by decide +kernel
theorem dL_law_1085 : decode cL_law 1085 = .ok (.iaload, 1) := by decide +kernel
theorem dL_law_1086 : decode cL_law 1086 = .ok (.aload_n 3, 1) := by decide +kernel
theorem dL_law_1087 : decode cL_law 1087 = .ok (.invokestatic 163, 3) := by decide +kernel
theorem dL_law_1090 : decode cL_law 1090 = .ok (.istore 6, 2) := by decide +kernel
theorem dL_law_1092 : decode cL_law 1092 = .ok (.aload_n 2, 1) := by decide +kernel
theorem dL_law_1093 : decode cL_law 1093 = .ok (.aload_n 0, 1) := by decide +kernel
theorem dL_law_1094 : decode cL_law 1094 = .ok (.iload 5, 2) := by decide +kernel
theorem dL_law_1096 : decode cL_law 1096 = .ok (.iconst 1, 1) := by decide +kernel
theorem dL_law_1097 : decode cL_law 1097 = .ok (.iadd, 1) := by decide +kernel
theorem dL_law_1098 : decode cL_law 1098 = .ok (.iaload, 1) := by decide +kernel
theorem dL_law_1099 : decode cL_law 1099 = .ok (.invokevirtual 165, 3) := by decide +kernel
theorem dL_law_1102 : decode cL_law 1102 = .ok (.istore 7, 2) := by decide +kernel
theorem dL_law_1104 : decode cL_law 1104 = .ok (.aload_n 2, 1) := by decide +kernel
theorem dL_law_1105 : decode cL_law 1105 = .ok (.invokevirtual 117, 3) := by decide +kernel
theorem dL_law_1108 : decode cL_law 1108 = .ok (.iload 6, 2) := by decide +kernel
theorem dL_law_1110 : decode cL_law 1110 = .ok (.if_icmp .eq 5, 3) := by decide +kernel
theorem dL_law_1113 : decode cL_law 1113 = .ok (.iconst 0, 1) := by decide +kernel
theorem dL_law_1114 : decode cL_law 1114 = .ok (.ireturn, 1) := by decide +kernel
theorem dL_law_1115 : decode cL_law 1115 = .ok (.iload 6, 2) := by decide +kernel
theorem dL_law_1117 : decode cL_law 1117 = .ok (.ifCond .ne 15, 3) := by decide +kernel
theorem dL_law_1120 : decode cL_law 1120 = .ok (.aload_n 3, 1) := by decide +kernel
theorem dL_law_1121 : decode cL_law 1121 = .ok (.iconst 0, 1) := by decide +kernel
theorem dL_law_1122 : decode cL_law 1122 = .ok (.laload, 1) := by decide +kernel
theorem dL_law_1123 : decode cL_law 1123 = .ok (.iload 7, 2) := by decide +kernel
theorem dL_law_1125 : decode cL_law 1125 = .ok (.i2l, 1) := by decide +kernel
theorem dL_law_1126 : decode cL_law 1126 = .ok (.lcmp, 1) := by decide +kernel
theorem dL_law_1127 : decode cL_law 1127 = .ok (.ifCond .eq 5, 3) := by decide +kernel
theorem dL_law_1130 : decode cL_law 1130 = .ok (.iconst 0, 1) := by decide +kernel
theorem dL_law_1131 : decode cL_law 1131 = .ok (.ireturn, 1) := by decide +kernel
theorem dL_law_1132 : decode cL_law 1132 = .ok (.goto 706, 3) := by decide +kernel
theorem dL_law_1135 : decode cL_law 1135 = .ok (.aload_n 1, 1) := by decide +kernel
theorem dL_law_1136 : decode cL_law 1136 = .ok (.aload_n 0, 1) := by decide +kernel
theorem dL_law_1137 : decode cL_law 1137 = .ok (.iload 5, 2) := by decide +kernel
theorem dL_law_1139 : decode cL_law 1139 = .ok (.iconst 1, 1) := by decide +kernel
theorem dL_law_1140 : decode cL_law 1140 = .ok (.iadd, 1) := by decide +kernel
theorem dL_law_1141 : decode cL_law 1141 = .ok (.iaload, 1) := by decide +kernel
theorem dL_law_1142 : decode cL_law 1142 = .ok (.aload_n 0, 1) := by decide +kernel
theorem dL_law_1143 : decode cL_law 1143 = .ok (.iload 5, 2) := by decide +kernel
theorem dL_law_1145 : decode cL_law 1145 = .ok (.iconst 2, 1) := by decide +kernel
theorem dL_law_1146 : decode cL_law 1146 = .ok (.iadd, 1) := by decide +kernel
theorem dL_law_1147 : decode cL_law 1147 = .ok (.iaload, 1) := by decide +kernel
theorem dL_law_1148 : decode cL_law 1148 = .ok (.aload_n 3, 1) := by decide +kernel
theorem dL_law_1149 : decode cL_law 1149 = .ok (.invokestatic 166, 3) := by decide +kernel
theorem dL_law_1152 : decode cL_law 1152 = .ok (.istore 6, 2) := by decide +kernel
theorem dL_law_1154 : decode cL_law 1154 = .ok (.aload_n 2, 1) := by decide +kernel
theorem dL_law_1155 : decode cL_law 1155 = .ok (.aload_n 0, 1) := by decide +kernel
theorem dL_law_1156 : decode cL_law 1156 = .ok (.iload 5, 2) := by decide +kernel
theorem dL_law_1158 : decode cL_law 1158 = .ok (.iconst 1, 1) := by decide +kernel
theorem dL_law_1159 : decode cL_law 1159 = .ok (.iadd, 1) := by decide +kernel
theorem dL_law_1160 : decode cL_law 1160 = .ok (.iaload, 1) := by decide +kernel
theorem dL_law_1161 : decode cL_law 1161 = .ok (.aload_n 0, 1) := by decide +kernel
theorem dL_law_1162 : decode cL_law 1162 = .ok (.iload 5, 2) := by decide +kernel
theorem dL_law_1164 : decode cL_law 1164 = .ok (.iconst 2, 1) := by decide +kernel
theorem dL_law_1165 : decode cL_law 1165 = .ok (.iadd, 1) := by decide +kernel
theorem dL_law_1166 : decode cL_law 1166 = .ok (.iaload, 1) := by decide +kernel
theorem dL_law_1167 : decode cL_law 1167 = .ok (.invokevirtual 168, 3) := by decide +kernel
theorem dL_law_1170 : decode cL_law 1170 = .ok (.istore 7, 2) := by decide +kernel
theorem dL_law_1172 : decode cL_law 1172 = .ok (.aload_n 2, 1) := by decide +kernel
theorem dL_law_1173 : decode cL_law 1173 = .ok (.invokevirtual 117, 3) := by decide +kernel
theorem dL_law_1176 : decode cL_law 1176 = .ok (.iload 6, 2) := by decide +kernel
theorem dL_law_1178 : decode cL_law 1178 = .ok (.if_icmp .eq 5, 3) := by decide +kernel
theorem dL_law_1181 : decode cL_law 1181 = .ok (.iconst 0, 1) := by decide +kernel
theorem dL_law_1182 : decode cL_law 1182 = .ok (.ireturn, 1) := by decide +kernel
theorem dL_law_1183 : decode cL_law 1183 = .ok (.iload 6, 2) := by decide +kernel
theorem dL_law_1185 : decode cL_law 1185 = .ok (.ifCond .ne 15, 3) := by decide +kernel
theorem dL_law_1188 : decode cL_law 1188 = .ok (.aload_n 3, 1) := by decide +kernel
theorem dL_law_1189 : decode cL_law 1189 = .ok (.iconst 0, 1) := by decide +kernel
theorem dL_law_1190 : decode cL_law 1190 = .ok (.laload, 1) := by decide +kernel
theorem dL_law_1191 : decode cL_law 1191 = .ok (.iload 7, 2) := by decide +kernel
theorem dL_law_1193 : decode cL_law 1193 = .ok (.i2l, 1) := by decide +kernel
theorem dL_law_1194 : decode cL_law 1194 = .ok (.lcmp, 1) := by decide +kernel
theorem dL_law_1195 : decode cL_law 1195 = .ok (.ifCond .eq 5, 3) := by decide +kernel
theorem dL_law_1198 : decode cL_law 1198 = .ok (.iconst 0, 1) := by decide +kernel
theorem dL_law_1199 : decode cL_law 1199 = .ok (.ireturn, 1) := by decide +kernel
theorem dL_law_1200 : decode cL_law 1200 = .ok (.goto 638, 3) := by decide +kernel
theorem dL_law_1203 : decode cL_law 1203 = .ok (.aload_n 1, 1) := by decide +kernel
theorem dL_law_1204 : decode cL_law 1204 = .ok (.aload_n 0, 1) := by decide +kernel
theorem dL_law_1205 : decode cL_law 1205 = .ok (.iload 5, 2) := by decide +kernel
theorem dL_law_1207 : decode cL_law 1207 = .ok (.iconst 1, 1) := by decide +kernel
theorem dL_law_1208 : decode cL_law 1208 = .ok (.iadd, 1) := by decide +kernel
theorem dL_law_1209 : decode cL_law 1209 = .ok (.iaload, 1) := by decide +kernel
theorem dL_law_1210 : decode cL_law 1210 = .ok (.aload_n 0, 1) := by decide +kernel
theorem dL_law_1211 : decode cL_law 1211 = .ok (.iload 5, 2) := by decide +kernel
theorem dL_law_1213 : decode cL_law 1213 = .ok (.iconst 2, 1) := by decide +kernel
theorem dL_law_1214 : decode cL_law 1214 = .ok (.iadd, 1) := by decide +kernel
theorem dL_law_1215 : decode cL_law 1215 = .ok (.iaload, 1) := by decide +kernel
theorem dL_law_1216 : decode cL_law 1216 = .ok (.aload_n 3, 1) := by decide +kernel
theorem dL_law_1217 : decode cL_law 1217 = .ok (.invokestatic 169, 3) := by decide +kernel
theorem dL_law_1220 : decode cL_law 1220 = .ok (.istore 6, 2) := by decide +kernel
theorem dL_law_1222 : decode cL_law 1222 = .ok (.aload_n 2, 1) := by decide +kernel
theorem dL_law_1223 : decode cL_law 1223 = .ok (.aload_n 0, 1) := by decide +kernel
theorem dL_law_1224 : decode cL_law 1224 = .ok (.iload 5, 2) := by decide +kernel
theorem dL_law_1226 : decode cL_law 1226 = .ok (.iconst 1, 1) := by decide +kernel
theorem dL_law_1227 : decode cL_law 1227 = .ok (.iadd, 1) := by decide +kernel
theorem dL_law_1228 : decode cL_law 1228 = .ok (.iaload, 1) := by decide +kernel
theorem dL_law_1229 : decode cL_law 1229 = .ok (.aload_n 0, 1) := by decide +kernel
theorem dL_law_1230 : decode cL_law 1230 = .ok (.iload 5, 2) := by decide +kernel
theorem dL_law_1232 : decode cL_law 1232 = .ok (.iconst 2, 1) := by decide +kernel
theorem dL_law_1233 : decode cL_law 1233 = .ok (.iadd, 1) := by decide +kernel
theorem dL_law_1234 : decode cL_law 1234 = .ok (.iaload, 1) := by decide +kernel
theorem dL_law_1235 : decode cL_law 1235 = .ok (.invokevirtual 171, 3) := by decide +kernel
theorem dL_law_1238 : decode cL_law 1238 = .ok (.istore 7, 2) := by decide +kernel
theorem dL_law_1240 : decode cL_law 1240 = .ok (.aload_n 2, 1) := by decide +kernel
theorem dL_law_1241 : decode cL_law 1241 = .ok (.invokevirtual 117, 3) := by decide +kernel
theorem dL_law_1244 : decode cL_law 1244 = .ok (.iload 6, 2) := by decide +kernel
theorem dL_law_1246 : decode cL_law 1246 = .ok (.if_icmp .eq 5, 3) := by decide +kernel
theorem dL_law_1249 : decode cL_law 1249 = .ok (.iconst 0, 1) := by decide +kernel
theorem dL_law_1250 : decode cL_law 1250 = .ok (.ireturn, 1) := by decide +kernel
theorem dL_law_1251 : decode cL_law 1251 = .ok (.iload 6, 2) := by decide +kernel
theorem dL_law_1253 : decode cL_law 1253 = .ok (.ifCond .ne 15, 3) := by decide +kernel
theorem dL_law_1256 : decode cL_law 1256 = .ok (.aload_n 3, 1) := by decide +kernel
theorem dL_law_1257 : decode cL_law 1257 = .ok (.iconst 0, 1) := by decide +kernel
theorem dL_law_1258 : decode cL_law 1258 = .ok (.laload, 1) := by decide +kernel
theorem dL_law_1259 : decode cL_law 1259 = .ok (.iload 7, 2) := by decide +kernel
theorem dL_law_1261 : decode cL_law 1261 = .ok (.i2l, 1) := by decide +kernel
theorem dL_law_1262 : decode cL_law 1262 = .ok (.lcmp, 1) := by decide +kernel
theorem dL_law_1263 : decode cL_law 1263 = .ok (.ifCond .eq 5, 3) := by decide +kernel
theorem dL_law_1266 : decode cL_law 1266 = .ok (.iconst 0, 1) := by decide +kernel
theorem dL_law_1267 : decode cL_law 1267 = .ok (.ireturn, 1) := by decide +kernel
theorem dL_law_1268 : decode cL_law 1268 = .ok (.goto 570, 3) := by decide +kernel
theorem dL_law_1271 : decode cL_law 1271 = .ok (.aload_n 1, 1) := by decide +kernel
theorem dL_law_1272 : decode cL_law 1272 = .ok (.aload_n 0, 1) := by decide +kernel
theorem dL_law_1273 : decode cL_law 1273 = .ok (.iload 5, 2) := by decide +kernel
theorem dL_law_1275 : decode cL_law 1275 = .ok (.iconst 1, 1) := by decide +kernel
theorem dL_law_1276 : decode cL_law 1276 = .ok (.iadd, 1) := by decide +kernel
theorem dL_law_1277 : decode cL_law 1277 = .ok (.iaload, 1) := by decide +kernel
theorem dL_law_1278 : decode cL_law 1278 = .ok (.aload_n 3, 1) := by decide +kernel
theorem dL_law_1279 : decode cL_law 1279 = .ok (.invokestatic 172, 3) := by decide +kernel
theorem dL_law_1282 : decode cL_law 1282 = .ok (.istore 6, 2) := by decide +kernel
theorem dL_law_1284 : decode cL_law 1284 = .ok (.aload_n 2, 1) := by decide +kernel
theorem dL_law_1285 : decode cL_law 1285 = .ok (.aload_n 0, 1) := by decide +kernel
theorem dL_law_1286 : decode cL_law 1286 = .ok (.iload 5, 2) := by decide +kernel
theorem dL_law_1288 : decode cL_law 1288 = .ok (.iconst 1, 1) := by decide +kernel
theorem dL_law_1289 : decode cL_law 1289 = .ok (.iadd, 1) := by decide +kernel
theorem dL_law_1290 : decode cL_law 1290 = .ok (.iaload, 1) := by decide +kernel
theorem dL_law_1291 : decode cL_law 1291 = .ok (.invokevirtual 174, 3) := by decide +kernel
theorem dL_law_1294 : decode cL_law 1294 = .ok (.istore 7, 2) := by decide +kernel
theorem dL_law_1296 : decode cL_law 1296 = .ok (.aload_n 2, 1) := by decide +kernel
theorem dL_law_1297 : decode cL_law 1297 = .ok (.invokevirtual 117, 3) := by decide +kernel
theorem dL_law_1300 : decode cL_law 1300 = .ok (.iload 6, 2) := by decide +kernel
theorem dL_law_1302 : decode cL_law 1302 = .ok (.if_icmp .eq 5, 3) := by decide +kernel
theorem dL_law_1305 : decode cL_law 1305 = .ok (.iconst 0, 1) := by decide +kernel
theorem dL_law_1306 : decode cL_law 1306 = .ok (.ireturn, 1) := by decide +kernel
theorem dL_law_1307 : decode cL_law 1307 = .ok (.iload 6, 2) := by decide +kernel
theorem dL_law_1309 : decode cL_law 1309 = .ok (.ifCond .ne 15, 3) := by decide +kernel
theorem dL_law_1312 : decode cL_law 1312 = .ok (.aload_n 3, 1) := by decide +kernel
theorem dL_law_1313 : decode cL_law 1313 = .ok (.iconst 0, 1) := by decide +kernel
theorem dL_law_1314 : decode cL_law 1314 = .ok (.laload, 1) := by decide +kernel
theorem dL_law_1315 : decode cL_law 1315 = .ok (.iload 7, 2) := by decide +kernel
theorem dL_law_1317 : decode cL_law 1317 = .ok (.i2l, 1) := by decide +kernel
theorem dL_law_1318 : decode cL_law 1318 = .ok (.lcmp, 1) := by decide +kernel
theorem dL_law_1319 : decode cL_law 1319 = .ok (.ifCond .eq 5, 3) := by decide +kernel
theorem dL_law_1322 : decode cL_law 1322 = .ok (.iconst 0, 1) := by decide +kernel
theorem dL_law_1323 : decode cL_law 1323 = .ok (.ireturn, 1) := by decide +kernel
theorem dL_law_1324 : decode cL_law 1324 = .ok (.goto 514, 3) := by decide +kernel
theorem dL_law_1327 : decode cL_law 1327 = .ok (.aload_n 1, 1) := by decide +kernel
theorem dL_law_1328 : decode cL_law 1328 = .ok (.aload 4, 2) := by decide +kernel
theorem dL_law_1330 : decode cL_law 1330 = .ok (.invokestatic 175, 3) := by decide +kernel
theorem dL_law_1333 : decode cL_law 1333 = .ok (.istore 6, 2) := by decide +kernel
theorem dL_law_1335 : decode cL_law 1335 = .ok (.aload_n 2, 1) := by decide +kernel
theorem dL_law_1336 : decode cL_law 1336 = .ok (.invokevirtual 178, 3) := by decide +kernel
theorem dL_law_1339 : decode cL_law 1339 = .ok (.dstore 7, 2) := by decide +kernel
theorem dL_law_1341 : decode cL_law 1341 = .ok (.aload_n 2, 1) := by decide +kernel
theorem dL_law_1342 : decode cL_law 1342 = .ok (.invokevirtual 117, 3) := by decide +kernel
theorem dL_law_1345 : decode cL_law 1345 = .ok (.iload 6, 2) := by decide +kernel
theorem dL_law_1347 : decode cL_law 1347 = .ok (.if_icmp .eq 5, 3) := by decide +kernel
theorem dL_law_1350 : decode cL_law 1350 = .ok (.iconst 0, 1) := by decide +kernel
theorem dL_law_1351 : decode cL_law 1351 = .ok (.ireturn, 1) := by decide +kernel
theorem dL_law_1352 : decode cL_law 1352 = .ok (.iload 6, 2) := by decide +kernel
theorem dL_law_1354 : decode cL_law 1354 = .ok (.ifCond .ne 35, 3) := by decide +kernel
theorem dL_law_1357 : decode cL_law 1357 = .ok (.aload 4, 2) := by decide +kernel
theorem dL_law_1359 : decode cL_law 1359 = .ok (.iconst 0, 1) := by decide +kernel
theorem dL_law_1360 : decode cL_law 1360 = .ok (.daload, 1) := by decide +kernel
theorem dL_law_1361 : decode cL_law 1361 = .ok (.dload 7, 2) := by decide +kernel
theorem dL_law_1363 : decode cL_law 1363 = .ok (.dcmp .l, 1) := by decide +kernel
theorem dL_law_1364 : decode cL_law 1364 = .ok (.ifCond .eq 25, 3) := by decide +kernel
theorem dL_law_1367 : decode cL_law 1367 = .ok (.aload 4, 2) := by decide +kernel
theorem dL_law_1369 : decode cL_law 1369 = .ok (.iconst 0, 1) := by decide +kernel
theorem dL_law_1370 : decode cL_law 1370 = .ok (.daload, 1) := by decide +kernel
theorem dL_law_1371 : decode cL_law 1371 = .ok (.aload 4, 2) := by decide +kernel
theorem dL_law_1373 : decode cL_law 1373 = .ok (.iconst 0, 1) := by decide +kernel
theorem dL_law_1374 : decode cL_law 1374 = .ok (.daload, 1) := by decide +kernel
theorem dL_law_1375 : decode cL_law 1375 = .ok (.dcmp .l, 1) := by decide +kernel
theorem dL_law_1376 : decode cL_law 1376 = .ok (.ifCond .eq 11, 3) := by decide +kernel
theorem dL_law_1379 : decode cL_law 1379 = .ok (.dload 7, 2) := by decide +kernel
theorem dL_law_1381 : decode cL_law 1381 = .ok (.dload 7, 2) := by decide +kernel
theorem dL_law_1383 : decode cL_law 1383 = .ok (.dcmp .l, 1) := by decide +kernel
theorem dL_law_1384 : decode cL_law 1384 = .ok (.ifCond .ne 5, 3) := by decide +kernel
theorem dL_law_1387 : decode cL_law 1387 = .ok (.iconst 0, 1) := by decide +kernel
theorem dL_law_1388 : decode cL_law 1388 = .ok (.ireturn, 1) := by decide +kernel
theorem dL_law_1389 : decode cL_law 1389 = .ok (.goto 449, 3) := by decide +kernel
theorem dL_law_1392 : decode cL_law 1392 = .ok (.aload_n 1, 1) := by decide +kernel
theorem dL_law_1393 : decode cL_law 1393 = .ok (.aload_n 0, 1) := by decide +kernel
theorem dL_law_1394 : decode cL_law 1394 = .ok (.iload 5, 2) := by decide +kernel
theorem dL_law_1396 : decode cL_law 1396 = .ok (.iconst 1, 1) := by decide +kernel
theorem dL_law_1397 : decode cL_law 1397 = .ok (.iadd, 1) := by decide +kernel
theorem dL_law_1398 : decode cL_law 1398 = .ok (.iaload, 1) := by decide +kernel
theorem dL_law_1399 : decode cL_law 1399 = .ok (.aload_n 0, 1) := by decide +kernel
theorem dL_law_1400 : decode cL_law 1400 = .ok (.iload 5, 2) := by decide +kernel
theorem dL_law_1402 : decode cL_law 1402 = .ok (.iconst 2, 1) := by decide +kernel
theorem dL_law_1403 : decode cL_law 1403 = .ok (.iadd, 1) := by decide +kernel
theorem dL_law_1404 : decode cL_law 1404 = .ok (.iaload, 1) := by decide +kernel
theorem dL_law_1405 : decode cL_law 1405 = .ok (.aload_n 0, 1) := by decide +kernel
theorem dL_law_1406 : decode cL_law 1406 = .ok (.iload 5, 2) := by decide +kernel
theorem dL_law_1408 : decode cL_law 1408 = .ok (.iconst 3, 1) := by decide +kernel
theorem dL_law_1409 : decode cL_law 1409 = .ok (.iadd, 1) := by decide +kernel
theorem dL_law_1410 : decode cL_law 1410 = .ok (.iaload, 1) := by decide +kernel
theorem dL_law_1411 : decode cL_law 1411 = .ok (.ifCond .eq 7, 3) := by decide +kernel
theorem dL_law_1414 : decode cL_law 1414 = .ok (.iconst 1, 1) := by decide +kernel
theorem dL_law_1415 : decode cL_law 1415 = .ok (.goto 4, 3) := by decide +kernel
theorem dL_law_1418 : decode cL_law 1418 = .ok (.iconst 0, 1) := by decide +kernel
theorem dL_law_1419 : decode cL_law 1419 = .ok (.aload_n 3, 1) := by decide +kernel
theorem dL_law_1420 : decode cL_law 1420 = .ok (.invokestatic 179, 3) := by decide +kernel
theorem dL_law_1423 : decode cL_law 1423 = .ok (.istore 6, 2) := by decide +kernel
theorem dL_law_1425 : decode cL_law 1425 = .ok (.aload_n 2, 1) := by decide +kernel
theorem dL_law_1426 : decode cL_law 1426 = .ok (.aload_n 0, 1) := by decide +kernel
theorem dL_law_1427 : decode cL_law 1427 = .ok (.iload 5, 2) := by decide +kernel
theorem dL_law_1429 : decode cL_law 1429 = .ok (.iconst 1, 1) := by decide +kernel
theorem dL_law_1430 : decode cL_law 1430 = .ok (.iadd, 1) := by decide +kernel
theorem dL_law_1431 : decode cL_law 1431 = .ok (.iaload, 1) := by decide +kernel
theorem dL_law_1432 : decode cL_law 1432 = .ok (.aload_n 0, 1) := by decide +kernel
theorem dL_law_1433 : decode cL_law 1433 = .ok (.iload 5, 2) := by decide +kernel
theorem dL_law_1435 : decode cL_law 1435 = .ok (.iconst 2, 1) := by decide +kernel
theorem dL_law_1436 : decode cL_law 1436 = .ok (.iadd, 1) := by decide +kernel
theorem dL_law_1437 : decode cL_law 1437 = .ok (.iaload, 1) := by decide +kernel
theorem dL_law_1438 : decode cL_law 1438 = .ok (.aload_n 0, 1) := by decide +kernel
theorem dL_law_1439 : decode cL_law 1439 = .ok (.iload 5, 2) := by decide +kernel
theorem dL_law_1441 : decode cL_law 1441 = .ok (.iconst 3, 1) := by decide +kernel
theorem dL_law_1442 : decode cL_law 1442 = .ok (.iadd, 1) := by decide +kernel
theorem dL_law_1443 : decode cL_law 1443 = .ok (.iaload, 1) := by decide +kernel
theorem dL_law_1444 : decode cL_law 1444 = .ok (.ifCond .eq 7, 3) := by decide +kernel
theorem dL_law_1447 : decode cL_law 1447 = .ok (.iconst 1, 1) := by decide +kernel
theorem dL_law_1448 : decode cL_law 1448 = .ok (.goto 4, 3) := by decide +kernel
theorem dL_law_1451 : decode cL_law 1451 = .ok (.iconst 0, 1) := by decide +kernel
theorem dL_law_1452 : decode cL_law 1452 = .ok (.invokevirtual 182, 3) := by decide +kernel
theorem dL_law_1455 : decode cL_law 1455 = .ok (.istore 7, 2) := by decide +kernel
theorem dL_law_1457 : decode cL_law 1457 = .ok (.aload_n 2, 1) := by decide +kernel
theorem dL_law_1458 : decode cL_law 1458 = .ok (.invokevirtual 117, 3) := by decide +kernel
theorem dL_law_1461 : decode cL_law 1461 = .ok (.iload 6, 2) := by decide +kernel
theorem dL_law_1463 : decode cL_law 1463 = .ok (.if_icmp .eq 5, 3) := by decide +kernel
theorem dL_law_1466 : decode cL_law 1466 = .ok (.iconst 0, 1) := by decide +kernel
theorem dL_law_1467 : decode cL_law 1467 = .ok (.ireturn, 1) := by decide +kernel
theorem dL_law_1468 : decode cL_law 1468 = .ok (.iload 6, 2) := by decide +kernel
theorem dL_law_1470 : decode cL_law 1470 = .ok (.ifCond .ne 15, 3) := by decide +kernel
theorem dL_law_1473 : decode cL_law 1473 = .ok (.aload_n 3, 1) := by decide +kernel
theorem dL_law_1474 : decode cL_law 1474 = .ok (.iconst 0, 1) := by decide +kernel
theorem dL_law_1475 : decode cL_law 1475 = .ok (.laload, 1) := by decide +kernel
theorem dL_law_1476 : decode cL_law 1476 = .ok (.iload 7, 2) := by decide +kernel
theorem dL_law_1478 : decode cL_law 1478 = .ok (.i2l, 1) := by decide +kernel
theorem dL_law_1479 : decode cL_law 1479 = .ok (.lcmp, 1) := by decide +kernel
theorem dL_law_1480 : decode cL_law 1480 = .ok (.ifCond .eq 5, 3) := by decide +kernel
theorem dL_law_1483 : decode cL_law 1483 = .ok (.iconst 0, 1) := by decide +kernel
theorem dL_law_1484 : decode cL_law 1484 = .ok (.ireturn, 1) := by decide +kernel
theorem dL_law_1485 : decode cL_law 1485 = .ok (.goto 353, 3) := by decide +kernel
theorem dL_law_1488 : decode cL_law 1488 = .ok (.aload_n 1, 1) := by decide +kernel
theorem dL_law_1489 : decode cL_law 1489 = .ok (.aload_n 0, 1) := by decide +kernel
theorem dL_law_1490 : decode cL_law 1490 = .ok (.iload 5, 2) := by decide +kernel
theorem dL_law_1492 : decode cL_law 1492 = .ok (.iconst 1, 1) := by decide +kernel
theorem dL_law_1493 : decode cL_law 1493 = .ok (.iadd, 1) := by decide +kernel
theorem dL_law_1494 : decode cL_law 1494 = .ok (.iaload, 1) := by decide +kernel
theorem dL_law_1495 : decode cL_law 1495 = .ok (.aload_n 3, 1) := by decide +kernel
theorem dL_law_1496 : decode cL_law 1496 = .ok (.invokestatic 183, 3) := by decide +kernel
theorem dL_law_1499 : decode cL_law 1499 = .ok (.istore 6, 2) := by decide +kernel
theorem dL_law_1501 : decode cL_law 1501 = .ok (.aload_n 2, 1) := by decide +kernel
theorem dL_law_1502 : decode cL_law 1502 = .ok (.aload_n 0, 1) := by decide +kernel
theorem dL_law_1503 : decode cL_law 1503 = .ok (.iload 5, 2) := by decide +kernel
theorem dL_law_1505 : decode cL_law 1505 = .ok (.iconst 1, 1) := by decide +kernel
theorem dL_law_1506 : decode cL_law 1506 = .ok (.iadd, 1) := by decide +kernel
theorem dL_law_1507 : decode cL_law 1507 = .ok (.iaload, 1) := by decide +kernel
theorem dL_law_1508 : decode cL_law 1508 = .ok (.invokevirtual 185, 3) := by decide +kernel
theorem dL_law_1511 : decode cL_law 1511 = .ok (.istore 7, 2) := by decide +kernel
theorem dL_law_1513 : decode cL_law 1513 = .ok (.aload_n 2, 1) := by decide +kernel
theorem dL_law_1514 : decode cL_law 1514 = .ok (.invokevirtual 117, 3) := by decide +kernel
theorem dL_law_1517 : decode cL_law 1517 = .ok (.iload 6, 2) := by decide +kernel
theorem dL_law_1519 : decode cL_law 1519 = .ok (.if_icmp .eq 5, 3) := by decide +kernel
theorem dL_law_1522 : decode cL_law 1522 = .ok (.iconst 0, 1) := by decide +kernel
theorem dL_law_1523 : decode cL_law 1523 = .ok (.ireturn, 1) := by decide +kernel
theorem dL_law_1524 : decode cL_law 1524 = .ok (.iload 6, 2) := by decide +kernel
theorem dL_law_1526 : decode cL_law 1526 = .ok (.ifCond .ne 15, 3) := by decide +kernel
theorem dL_law_1529 : decode cL_law 1529 = .ok (.aload_n 3, 1) := by decide +kernel
theorem dL_law_1530 : decode cL_law 1530 = .ok (.iconst 0, 1) := by decide +kernel
theorem dL_law_1531 : decode cL_law 1531 = .ok (.laload, 1) := by decide +kernel
theorem dL_law_1532 : decode cL_law 1532 = .ok (.iload 7, 2) := by decide +kernel
theorem dL_law_1534 : decode cL_law 1534 = .ok (.i2l, 1) := by decide +kernel
theorem dL_law_1535 : decode cL_law 1535 = .ok (.lcmp, 1) := by decide +kernel
theorem dL_law_1536 : decode cL_law 1536 = .ok (.ifCond .eq 5, 3) := by decide +kernel
theorem dL_law_1539 : decode cL_law 1539 = .ok (.iconst 0, 1) := by decide +kernel
theorem dL_law_1540 : decode cL_law 1540 = .ok (.ireturn, 1) := by decide +kernel
theorem dL_law_1541 : decode cL_law 1541 = .ok (.goto 297, 3) := by decide +kernel
theorem dL_law_1544 : decode cL_law 1544 = .ok (.aload_n 1, 1) := by decide +kernel
theorem dL_law_1545 : decode cL_law 1545 = .ok (.invokevirtual 186, 3) := by decide +kernel
theorem dL_law_1548 : decode cL_law 1548 = .ok (.aload_n 2, 1) := by decide +kernel
theorem dL_law_1549 : decode cL_law 1549 = .ok (.invokevirtual 190, 3) := by decide +kernel
theorem dL_law_1552 : decode cL_law 1552 = .ok (.if_icmp .eq 286, 3) := by decide +kernel
theorem dL_law_1555 : decode cL_law 1555 = .ok (.iconst 0, 1) := by decide +kernel
theorem dL_law_1556 : decode cL_law 1556 = .ok (.ireturn, 1) := by decide +kernel
theorem dL_law_1557 : decode cL_law 1557 = .ok (.aload_n 1, 1) := by decide +kernel
theorem dL_law_1558 : decode cL_law 1558 = .ok (.aload_n 0, 1) := by decide +kernel
theorem dL_law_1559 : decode cL_law 1559 = .ok (.iload 5, 2) := by decide +kernel
theorem dL_law_1561 : decode cL_law 1561 = .ok (.iconst 1, 1) := by decide +kernel
theorem dL_law_1562 : decode cL_law 1562 = .ok (.iadd, 1) := by decide +kernel
theorem dL_law_1563 : decode cL_law 1563 = .ok (.iaload, 1) := by decide +kernel
theorem dL_law_1564 : decode cL_law 1564 = .ok (.aload_n 0, 1) := by decide +kernel
theorem dL_law_1565 : decode cL_law 1565 = .ok (.iload 5, 2) := by decide +kernel
theorem dL_law_1567 : decode cL_law 1567 = .ok (.iconst 2, 1) := by decide +kernel
theorem dL_law_1568 : decode cL_law 1568 = .ok (.iadd, 1) := by decide +kernel
theorem dL_law_1569 : decode cL_law 1569 = .ok (.iaload, 1) := by decide +kernel
theorem dL_law_1570 : decode cL_law 1570 = .ok (.aload_n 3, 1) := by decide +kernel
theorem dL_law_1571 : decode cL_law 1571 = .ok (.invokestatic 191, 3) := by decide +kernel
theorem dL_law_1574 : decode cL_law 1574 = .ok (.istore 6, 2) := by decide +kernel
theorem dL_law_1576 : decode cL_law 1576 = .ok (.aload_n 2, 1) := by decide +kernel
theorem dL_law_1577 : decode cL_law 1577 = .ok (.aload_n 0, 1) := by decide +kernel
theorem dL_law_1578 : decode cL_law 1578 = .ok (.iload 5, 2) := by decide +kernel
theorem dL_law_1580 : decode cL_law 1580 = .ok (.iconst 1, 1) := by decide +kernel
theorem dL_law_1581 : decode cL_law 1581 = .ok (.iadd, 1) := by decide +kernel
theorem dL_law_1582 : decode cL_law 1582 = .ok (.iaload, 1) := by decide +kernel
theorem dL_law_1583 : decode cL_law 1583 = .ok (.aload_n 0, 1) := by decide +kernel
theorem dL_law_1584 : decode cL_law 1584 = .ok (.iload 5, 2) := by decide +kernel
theorem dL_law_1586 : decode cL_law 1586 = .ok (.iconst 2, 1) := by decide +kernel
theorem dL_law_1587 : decode cL_law 1587 = .ok (.iadd, 1) := by decide +kernel
theorem dL_law_1588 : decode cL_law 1588 = .ok (.iaload, 1) := by decide +kernel
theorem dL_law_1589 : decode cL_law 1589 = .ok (.invokevirtual 193, 3) := by decide +kernel
theorem dL_law_1592 : decode cL_law 1592 = .ok (.istore 7, 2) := by decide +kernel
theorem dL_law_1594 : decode cL_law 1594 = .ok (.aload_n 2, 1) := by decide +kernel
theorem dL_law_1595 : decode cL_law 1595 = .ok (.invokevirtual 117, 3) := by decide +kernel
theorem dL_law_1598 : decode cL_law 1598 = .ok (.iload 6, 2) := by decide +kernel
theorem dL_law_1600 : decode cL_law 1600 = .ok (.if_icmp .eq 5, 3) := by decide +kernel
theorem dL_law_1603 : decode cL_law 1603 = .ok (.iconst 0, 1) := by decide +kernel
theorem dL_law_1604 : decode cL_law 1604 = .ok (.ireturn, 1) := by decide +kernel
theorem dL_law_1605 : decode cL_law 1605 = .ok (.iload 6, 2) := by decide +kernel
theorem dL_law_1607 : decode cL_law 1607 = .ok (.ifCond .ne 15, 3) := by decide +kernel
theorem dL_law_1610 : decode cL_law 1610 = .ok (.aload_n 3, 1) := by decide +kernel
theorem dL_law_1611 : decode cL_law 1611 = .ok (.iconst 0, 1) := by decide +kernel
theorem dL_law_1612 : decode cL_law 1612 = .ok (.laload, 1) := by decide +kernel
theorem dL_law_1613 : decode cL_law 1613 = .ok (.iload 7, 2) := by decide +kernel
theorem dL_law_1615 : decode cL_law 1615 = .ok (.i2l, 1) := by decide +kernel
theorem dL_law_1616 : decode cL_law 1616 = .ok (.lcmp, 1) := by decide +kernel
theorem dL_law_1617 : decode cL_law 1617 = .ok (.ifCond .eq 5, 3) := by decide +kernel
theorem dL_law_1620 : decode cL_law 1620 = .ok (.iconst 0, 1) := by decide +kernel
theorem dL_law_1621 : decode cL_law 1621 = .ok (.ireturn, 1) := by decide +kernel
theorem dL_law_1622 : decode cL_law 1622 = .ok (.goto 216, 3) := by decide +kernel
theorem dL_law_1625 : decode cL_law 1625 = .ok (.aload_n 1, 1) := by decide +kernel
theorem dL_law_1626 : decode cL_law 1626 = .ok (.aload_n 3, 1) := by decide +kernel
theorem dL_law_1627 : decode cL_law 1627 = .ok (.invokestatic 194, 3) := by decide +kernel
theorem dL_law_1630 : decode cL_law 1630 = .ok (.istore 6, 2) := by decide +kernel
theorem dL_law_1632 : decode cL_law 1632 = .ok (.aload_n 2, 1) := by decide +kernel
theorem dL_law_1633 : decode cL_law 1633 = .ok (.invokevirtual 196, 3) := by decide +kernel
theorem dL_law_1636 : decode cL_law 1636 = .ok (.istore 7, 2) := by decide +kernel
theorem dL_law_1638 : decode cL_law 1638 = .ok (.aload_n 2, 1) := by decide +kernel
theorem dL_law_1639 : decode cL_law 1639 = .ok (.invokevirtual 117, 3) := by decide +kernel
theorem dL_law_1642 : decode cL_law 1642 = .ok (.iload 6, 2) := by decide +kernel
theorem dL_law_1644 : decode cL_law 1644 = .ok (.if_icmp .eq 5, 3) := by decide +kernel
theorem dL_law_1647 : decode cL_law 1647 = .ok (.iconst 0, 1) := by decide +kernel
theorem dL_law_1648 : decode cL_law 1648 = .ok (.ireturn, 1) := by decide +kernel
theorem dL_law_1649 : decode cL_law 1649 = .ok (.iload 6, 2) := by decide +kernel
theorem dL_law_1651 : decode cL_law 1651 = .ok (.ifCond .ne 15, 3) := by decide +kernel
theorem dL_law_1654 : decode cL_law 1654 = .ok (.aload_n 3, 1) := by decide +kernel
theorem dL_law_1655 : decode cL_law 1655 = .ok (.iconst 0, 1) := by decide +kernel
theorem dL_law_1656 : decode cL_law 1656 = .ok (.laload, 1) := by decide +kernel
theorem dL_law_1657 : decode cL_law 1657 = .ok (.iload 7, 2) := by decide +kernel
theorem dL_law_1659 : decode cL_law 1659 = .ok (.i2l, 1) := by decide +kernel
theorem dL_law_1660 : decode cL_law 1660 = .ok (.lcmp, 1) := by decide +kernel
theorem dL_law_1661 : decode cL_law 1661 = .ok (.ifCond .eq 5, 3) := by decide +kernel
theorem dL_law_1664 : decode cL_law 1664 = .ok (.iconst 0, 1) := by decide +kernel
theorem dL_law_1665 : decode cL_law 1665 = .ok (.ireturn, 1) := by decide +kernel
theorem dL_law_1666 : decode cL_law 1666 = .ok (.goto 172, 3) := by decide +kernel
theorem dL_law_1669 : decode cL_law 1669 = .ok (.aload_n 1, 1) := by decide +kernel
theorem dL_law_1670 : decode cL_law 1670 = .ok (.invokevirtual 197, 3) := by decide +kernel
theorem dL_law_1673 : decode cL_law 1673 = .ok (.aload_n 2, 1) := by decide +kernel
theorem dL_law_1674 : decode cL_law 1674 = .ok (.invokevirtual 200, 3) := by decide +kernel
theorem dL_law_1677 : decode cL_law 1677 = .ok (.if_icmp .eq 161, 3) := by decide +kernel
theorem dL_law_1680 : decode cL_law 1680 = .ok (.iconst 0, 1) := by decide +kernel
theorem dL_law_1681 : decode cL_law 1681 = .ok (.ireturn, 1) := by decide +kernel
theorem dL_law_1682 : decode cL_law 1682 = .ok (.aload_n 1, 1) := by decide +kernel
theorem dL_law_1683 : decode cL_law 1683 = .ok (.aload_n 3, 1) := by decide +kernel
theorem dL_law_1684 : decode cL_law 1684 = .ok (.invokestatic 201, 3) := by decide +kernel
theorem dL_law_1687 : decode cL_law 1687 = .ok (.istore 6, 2) := by decide +kernel
theorem dL_law_1689 : decode cL_law 1689 = .ok (.aload_n 2, 1) := by decide +kernel
theorem dL_law_1690 : decode cL_law 1690 = .ok (.invokevirtual 203, 3) := by decide +kernel
theorem dL_law_1693 : decode cL_law 1693 = .ok (.istore 7, 2) := by decide +kernel
theorem dL_law_1695 : decode cL_law 1695 = .ok (.aload_n 2, 1) := by decide +kernel
theorem dL_law_1696 : decode cL_law 1696 = .ok (.invokevirtual 117, 3) := by decide +kernel
theorem dL_law_1699 : decode cL_law 1699 = .ok (.iload 6, 2) := by decide +kernel
theorem dL_law_1701 : decode cL_law 1701 = .ok (.if_icmp .eq 5, 3) := by decide +kernel
theorem dL_law_1704 : decode cL_law 1704 = .ok (.iconst 0, 1) := by decide +kernel
theorem dL_law_1705 : decode cL_law 1705 = .ok (.ireturn, 1) := by decide +kernel
theorem dL_law_1706 : decode cL_law 1706 = .ok (.iload 6, 2) := by decide +kernel
theorem dL_law_1708 : decode cL_law 1708 = .ok (.ifCond .ne 15, 3) := by decide +kernel
theorem dL_law_1711 : decode cL_law 1711 = .ok (.aload_n 3, 1) := by decide +kernel
theorem dL_law_1712 : decode cL_law 1712 = .ok (.iconst 0, 1) := by decide +kernel
theorem dL_law_1713 : decode cL_law 1713 = .ok (.laload, 1) := by decide +kernel
theorem dL_law_1714 : decode cL_law 1714 = .ok (.iload 7, 2) := by decide +kernel
theorem dL_law_1716 : decode cL_law 1716 = .ok (.i2l, 1) := by decide +kernel
theorem dL_law_1717 : decode cL_law 1717 = .ok (.lcmp, 1) := by decide +kernel
theorem dL_law_1718 : decode cL_law 1718 = .ok (.ifCond .eq 5, 3) := by decide +kernel
theorem dL_law_1721 : decode cL_law 1721 = .ok (.iconst 0, 1) := by decide +kernel
theorem dL_law_1722 : decode cL_law 1722 = .ok (.ireturn, 1) := by decide +kernel
theorem dL_law_1723 : decode cL_law 1723 = .ok (.goto 115, 3) := by decide +kernel
theorem dL_law_1726 : decode cL_law 1726 = .ok (.aload_n 1, 1) := by decide +kernel
theorem dL_law_1727 : decode cL_law 1727 = .ok (.aload_n 0, 1) := by decide +kernel
theorem dL_law_1728 : decode cL_law 1728 = .ok (.iload 5, 2) := by decide +kernel
theorem dL_law_1730 : decode cL_law 1730 = .ok (.iconst 1, 1) := by decide +kernel
theorem dL_law_1731 : decode cL_law 1731 = .ok (.iadd, 1) := by decide +kernel
theorem dL_law_1732 : decode cL_law 1732 = .ok (.iaload, 1) := by decide +kernel
theorem dL_law_1733 : decode cL_law 1733 = .ok (.aload_n 3, 1) := by decide +kernel
theorem dL_law_1734 : decode cL_law 1734 = .ok (.invokestatic 204, 3) := by decide +kernel
theorem dL_law_1737 : decode cL_law 1737 = .ok (.istore 6, 2) := by decide +kernel
theorem dL_law_1739 : decode cL_law 1739 = .ok (.aload_n 2, 1) := by decide +kernel
theorem dL_law_1740 : decode cL_law 1740 = .ok (.aload_n 0, 1) := by decide +kernel
theorem dL_law_1741 : decode cL_law 1741 = .ok (.iload 5, 2) := by decide +kernel
theorem dL_law_1743 : decode cL_law 1743 = .ok (.iconst 1, 1) := by decide +kernel
theorem dL_law_1744 : decode cL_law 1744 = .ok (.iadd, 1) := by decide +kernel
theorem dL_law_1745 : decode cL_law 1745 = .ok (.iaload, 1) := by decide +kernel
theorem dL_law_1746 : decode cL_law 1746 = .ok (.invokevirtual 206, 3) := by decide +kernel
theorem dL_law_1749 : decode cL_law 1749 = .ok (.istore 7, 2) := by decide +kernel
theorem dL_law_1751 : decode cL_law 1751 = .ok (.aload_n 2, 1) := by decide +kernel
theorem dL_law_1752 : decode cL_law 1752 = .ok (.invokevirtual 117, 3) := by decide +kernel
theorem dL_law_1755 : decode cL_law 1755 = .ok (.iload 6, 2) := by decide +kernel
theorem dL_law_1757 : decode cL_law 1757 = .ok (.if_icmp .eq 5, 3) := by decide +kernel
theorem dL_law_1760 : decode cL_law 1760 = .ok (.iconst 0, 1) := by decide +kernel
theorem dL_law_1761 : decode cL_law 1761 = .ok (.ireturn, 1) := by decide +kernel
theorem dL_law_1762 : decode cL_law 1762 = .ok (.iload 6, 2) := by decide +kernel
theorem dL_law_1764 : decode cL_law 1764 = .ok (.ifCond .ne 15, 3) := by decide +kernel
theorem dL_law_1767 : decode cL_law 1767 = .ok (.aload_n 3, 1) := by decide +kernel
theorem dL_law_1768 : decode cL_law 1768 = .ok (.iconst 0, 1) := by decide +kernel
theorem dL_law_1769 : decode cL_law 1769 = .ok (.laload, 1) := by decide +kernel
theorem dL_law_1770 : decode cL_law 1770 = .ok (.iload 7, 2) := by decide +kernel
theorem dL_law_1772 : decode cL_law 1772 = .ok (.i2l, 1) := by decide +kernel
theorem dL_law_1773 : decode cL_law 1773 = .ok (.lcmp, 1) := by decide +kernel
theorem dL_law_1774 : decode cL_law 1774 = .ok (.ifCond .eq 5, 3) := by decide +kernel
theorem dL_law_1777 : decode cL_law 1777 = .ok (.iconst 0, 1) := by decide +kernel
theorem dL_law_1778 : decode cL_law 1778 = .ok (.ireturn, 1) := by decide +kernel
theorem dL_law_1779 : decode cL_law 1779 = .ok (.goto 59, 3) := by decide +kernel
theorem dL_law_1782 : decode cL_law 1782 = .ok (.aload_n 1, 1) := by decide +kernel
theorem dL_law_1783 : decode cL_law 1783 = .ok (.aload_n 0, 1) := by decide +kernel
theorem dL_law_1784 : decode cL_law 1784 = .ok (.iload 5, 2) := by decide +kernel
theorem dL_law_1786 : decode cL_law 1786 = .ok (.iconst 1, 1) := by decide +kernel
theorem dL_law_1787 : decode cL_law 1787 = .ok (.iadd, 1) := by decide +kernel
theorem dL_law_1788 : decode cL_law 1788 = .ok (.iaload, 1) := by decide +kernel
theorem dL_law_1789 : decode cL_law 1789 = .ok (.aload_n 3, 1) := by decide +kernel
theorem dL_law_1790 : decode cL_law 1790 = .ok (.invokestatic 207, 3) := by decide +kernel
theorem dL_law_1793 : decode cL_law 1793 = .ok (.istore 6, 2) := by decide +kernel
theorem dL_law_1795 : decode cL_law 1795 = .ok (.aload_n 2, 1) := by decide +kernel
theorem dL_law_1796 : decode cL_law 1796 = .ok (.aload_n 0, 1) := by decide +kernel
theorem dL_law_1797 : decode cL_law 1797 = .ok (.iload 5, 2) := by decide +kernel
theorem dL_law_1799 : decode cL_law 1799 = .ok (.iconst 1, 1) := by decide +kernel
theorem dL_law_1800 : decode cL_law 1800 = .ok (.iadd, 1) := by decide +kernel
theorem dL_law_1801 : decode cL_law 1801 = .ok (.iaload, 1) := by decide +kernel
theorem dL_law_1802 : decode cL_law 1802 = .ok (.invokevirtual 209, 3) := by decide +kernel
theorem dL_law_1805 : decode cL_law 1805 = .ok (.istore 7, 2) := by decide +kernel
theorem dL_law_1807 : decode cL_law 1807 = .ok (.aload_n 2, 1) := by decide +kernel
theorem dL_law_1808 : decode cL_law 1808 = .ok (.invokevirtual 117, 3) := by decide +kernel
theorem dL_law_1811 : decode cL_law 1811 = .ok (.iload 6, 2) := by decide +kernel
theorem dL_law_1813 : decode cL_law 1813 = .ok (.if_icmp .eq 5, 3) := by decide +kernel
theorem dL_law_1816 : decode cL_law 1816 = .ok (.iconst 0, 1) := by decide +kernel
theorem dL_law_1817 : decode cL_law 1817 = .ok (.ireturn, 1) := by decide +kernel
theorem dL_law_1818 : decode cL_law 1818 = .ok (.iload 6, 2) := by decide +kernel
theorem dL_law_1820 : decode cL_law 1820 = .ok (.ifCond .ne 15, 3) := by decide +kernel
theorem dL_law_1823 : decode cL_law 1823 = .ok (.aload_n 3, 1) := by decide +kernel
theorem dL_law_1824 : decode cL_law 1824 = .ok (.iconst 0, 1) := by decide +kernel
theorem dL_law_1825 : decode cL_law 1825 = .ok (.laload, 1) := by decide +kernel
theorem dL_law_1826 : decode cL_law 1826 = .ok (.iload 7, 2) := by decide +kernel
theorem dL_law_1828 : decode cL_law 1828 = .ok (.i2l, 1) := by decide +kernel
theorem dL_law_1829 : decode cL_law 1829 = .ok (.lcmp, 1) := by decide +kernel
theorem dL_law_1830 : decode cL_law 1830 = .ok (.ifCond .eq 5, 3) := by decide +kernel
theorem dL_law_1833 : decode cL_law 1833 = .ok (.iconst 0, 1) := by decide +kernel
theorem dL_law_1834 : decode cL_law 1834 = .ok (.ireturn, 1) := by decide +kernel
theorem dL_law_1835 : decode cL_law 1835 = .ok (.goto 3, 3) := by decide +kernel
theorem dL_law_1838 : decode cL_law 1838 = .ok (.iinc 5 7, 3) := by decide +kernel
theorem dL_law_1841 : decode cL_law 1841 = .ok (.goto (-1813), 3) := by decide +kernel
theorem dL_law_1844 : decode cL_law 1844 = .ok (.iconst 1, 1) := by decide +kernel
theorem dL_law_1845 : decode cL_law 1845 = .ok (.ireturn, 1) := by decide +kernel
