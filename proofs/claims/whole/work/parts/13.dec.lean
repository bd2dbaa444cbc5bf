theorem d8_told_8 : decode prog_10_method_51_code 8 = .ok (.iload_n 2, 1) := by decide +kernel
theorem d8_told_9 : decode prog_10_method_51_code 9 = .ok (.iconst 0, 1) := by decide +kernel
theorem d8_told_10 : decode prog_10_method_51_code 10 = .ok (.iconst 4, 1) := by decide +kernel
theorem d8_told_11 : decode prog_10_method_51_code 11 = .ok (.invokestatic 80, 3) := by decide +kernel
theorem d8_told_14 : decode prog_10_method_51_code 14 = .ok (.ifCond .eq 17, 3) := by decide +kernel
theorem d8_told_17 : decode prog_10_method_51_code 17 = .ok (.aload_n 0, 1) := by decide +kernel
theorem d8_told_18 : decode prog_10_method_51_code 18 = .ok (.aload_n 0, 1) := by decide +kernel
theorem d8_told_19 : decode prog_10_method_51_code 19 = .ok (.iload_n 1, 1) := by decide +kernel
theorem d8_told_20 : decode prog_10_method_51_code 20 = .ok (.iload_n 2, 1) := by decide +kernel
theorem d8_told_21 : decode prog_10_method_51_code 21 = .ok (.invokevirtual 175, 3) := by decide +kernel
theorem d8_told_24 : decode prog_10_method_51_code 24 = .ok (.iconst 1, 1) := by decide +kernel
theorem d8_told_25 : decode prog_10_method_51_code 25 = .ok (.invokevirtual 102, 3) := by decide +kernel
theorem d8_told_28 : decode prog_10_method_51_code 28 = .ok (.goto 4, 3) := by decide +kernel
theorem d8_told_31 : decode prog_10_method_51_code 31 = .ok (.iconst (-1), 1) := by decide +kernel
theorem d8_told_32 : decode prog_10_method_51_code 32 = .ok (.ireturn, 1) := by decide +kernel
theorem d6_is_0 : decode prog_8_method_5_code 0 = .ok (.aload_n 0, 1) := by decide +kernel
theorem d6_is_1 : decode prog_8_method_5_code 1 = .ok (.getfield 11, 3) := by decide +kernel
theorem d6_is_4 : decode prog_8_method_5_code 4 = .ok (.iload_n 1, 1) := by decide +kernel
theorem d6_is_5 : decode prog_8_method_5_code 5 = .ok (.if_icmp .eq 17, 3) := by decide +kernel
theorem d6_is_8 : decode prog_8_method_5_code 8 = .ok (.aload_n 0, 1) := by decide +kernel
theorem d6_is_9 : decode prog_8_method_5_code 9 = .ok (.getfield 11, 3) := by decide +kernel
theorem d6_is_12 : decode prog_8_method_5_code 12 = .ok (.bipush 6, 2) := by decide +kernel
theorem d6_is_14 : decode prog_8_method_5_code 14 = .ok (.if_icmp .ne 12, 3) := by decide +kernel
theorem d6_is_17 : decode prog_8_method_5_code 17 = .ok (.iload_n 1, 1) := by decide +kernel
theorem d6_is_18 : decode prog_8_method_5_code 18 = .ok (.iconst 5, 1) := by decide +kernel
theorem d6_is_19 : decode prog_8_method_5_code 19 = .ok (.if_icmp .ne 7, 3) := by decide +kernel
theorem d6_is_22 : decode prog_8_method_5_code 22 = .ok (.iconst 1, 1) := by decide +kernel
theorem d6_is_23 : decode prog_8_method_5_code 23 = .ok (.goto 4, 3) := by decide +kernel
theorem d6_is_26 : decode prog_8_method_5_code 26 = .ok (.iconst 0, 1) := by decide +kernel
theorem d6_is_27 : decode prog_8_method_5_code 27 = .ok (.ireturn, 1) := by decide +kernel
theorem d6_heardWeight_0 : decode prog_8_method_11_code 0 = .ok (.iload_n 0, 1) := by decide +kernel
theorem d6_heardWeight_1 : decode prog_8_method_11_code 1 = .ok (.iconst 5, 1) := by decide +kernel
theorem d6_heardWeight_2 : decode prog_8_method_11_code 2 = .ok (.iload_n 1, 1) := by decide +kernel
theorem d6_heardWeight_3 : decode prog_8_method_11_code 3 = .ok (.isub, 1) := by decide +kernel
theorem d6_heardWeight_4 : decode prog_8_method_11_code 4 = .ok (.iconst 0, 1) := by decide +kernel
theorem d6_heardWeight_5 : decode prog_8_method_11_code 5 = .ok (.invokestatic 71, 3) := by decide +kernel
theorem d6_heardWeight_8 : decode prog_8_method_11_code 8 = .ok (.isub, 1) := by decide +kernel
theorem d6_heardWeight_9 : decode prog_8_method_11_code 9 = .ok (.invokestatic 56, 3) := by decide +kernel
theorem d6_heardWeight_12 : decode prog_8_method_11_code 12 = .ok (.tableswitch 42 0 3 #[32, 35, 38, 40], 32) := by decide +kernel
theorem d6_heardWeight_44 : decode prog_8_method_11_code 44 = .ok (.bipush 12, 2) := by decide +kernel
theorem d6_heardWeight_46 : decode prog_8_method_11_code 46 = .ok (.ireturn, 1) := by decide +kernel
theorem d6_heardWeight_47 : decode prog_8_method_11_code 47 = .ok (.bipush 8, 2) := by decide +kernel
theorem d6_heardWeight_49 : decode prog_8_method_11_code 49 = .ok (.ireturn, 1) := by decide +kernel
theorem d6_heardWeight_50 : decode prog_8_method_11_code 50 = .ok (.iconst 4, 1) := by decide +kernel
theorem d6_heardWeight_51 : decode prog_8_method_11_code 51 = .ok (.ireturn, 1) := by decide +kernel
theorem d6_heardWeight_52 : decode prog_8_method_11_code 52 = .ok (.iconst 1, 1) := by decide +kernel
theorem d6_heardWeight_53 : decode prog_8_method_11_code 53 = .ok (.ireturn, 1) := by decide +kernel
theorem d6_heardWeight_54 : decode prog_8_method_11_code 54 = .ok (.iconst 0, 1) := by decide +kernel
theorem d6_heardWeight_55 : decode prog_8_method_11_code 55 = .ok (.ireturn, 1) := by decide +kernel
theorem d6_nearestHeard_0 : decode prog_8_method_16_code 0 = .ok (.iconst 0, 1) := by decide +kernel
theorem d6_nearestHeard_1 : decode prog_8_method_16_code 1 = .ok (.istore_n 1, 1) := by decide +kernel
theorem d6_nearestHeard_2 : decode prog_8_method_16_code 2 = .ok (.iload_n 1, 1) := by decide +kernel
theorem d6_nearestHeard_3 : decode prog_8_method_16_code 3 = .ok (.bipush 11, 2) := by decide +kernel
theorem d6_nearestHeard_5 : decode prog_8_method_16_code 5 = .ok (.if_icmp .gt 21, 3) := by decide +kernel
theorem d6_nearestHeard_8 : decode prog_8_method_16_code 8 = .ok (.iload_n 0, 1) := by decide +kernel
theorem d6_nearestHeard_9 : decode prog_8_method_16_code 9 = .ok (.iload_n 1, 1) := by decide +kernel
theorem d6_nearestHeard_10 : decode prog_8_method_16_code 10 = .ok (.invokestatic 50, 3) := by decide +kernel
theorem d6_nearestHeard_13 : decode prog_8_method_16_code 13 = .ok (.bipush 8, 2) := by decide +kernel
theorem d6_nearestHeard_15 : decode prog_8_method_16_code 15 = .ok (.if_icmp .lt 5, 3) := by decide +kernel
theorem d6_nearestHeard_18 : decode prog_8_method_16_code 18 = .ok (.iload_n 1, 1) := by decide +kernel
theorem d6_nearestHeard_19 : decode prog_8_method_16_code 19 = .ok (.ireturn, 1) := by decide +kernel
theorem d6_nearestHeard_20 : decode prog_8_method_16_code 20 = .ok (.iinc 1 1, 3) := by decide +kernel
theorem d6_nearestHeard_23 : decode prog_8_method_16_code 23 = .ok (.goto (-21), 3) := by decide +kernel
theorem d6_nearestHeard_26 : decode prog_8_method_16_code 26 = .ok (.bipush (-9), 2) := by decide +kernel
theorem d6_nearestHeard_28 : decode prog_8_method_16_code 28 = .ok (.ireturn, 1) := by decide +kernel
theorem d6_isBetween_0 : decode prog_8_method_15_code 0 = .ok (.iload_n 1, 1) := by decide +kernel
theorem d6_isBetween_1 : decode prog_8_method_15_code 1 = .ok (.iload_n 2, 1) := by decide +kernel
theorem d6_isBetween_2 : decode prog_8_method_15_code 2 = .ok (.if_icmp .gt 21, 3) := by decide +kernel
theorem d6_isBetween_5 : decode prog_8_method_15_code 5 = .ok (.iload_n 0, 1) := by decide +kernel
theorem d6_isBetween_6 : decode prog_8_method_15_code 6 = .ok (.iload_n 1, 1) := by decide +kernel
theorem d6_isBetween_7 : decode prog_8_method_15_code 7 = .ok (.if_icmp .lt 12, 3) := by decide +kernel
theorem d6_isBetween_10 : decode prog_8_method_15_code 10 = .ok (.iload_n 0, 1) := by decide +kernel
theorem d6_isBetween_11 : decode prog_8_method_15_code 11 = .ok (.iload_n 2, 1) := by decide +kernel
theorem d6_isBetween_12 : decode prog_8_method_15_code 12 = .ok (.if_icmp .gt 7, 3) := by decide +kernel
theorem d6_isBetween_15 : decode prog_8_method_15_code 15 = .ok (.iconst 1, 1) := by decide +kernel
theorem d6_isBetween_16 : decode prog_8_method_15_code 16 = .ok (.goto 22, 3) := by decide +kernel
theorem d6_isBetween_19 : decode prog_8_method_15_code 19 = .ok (.iconst 0, 1) := by decide +kernel
theorem d6_isBetween_20 : decode prog_8_method_15_code 20 = .ok (.goto 18, 3) := by decide +kernel
theorem d6_isBetween_23 : decode prog_8_method_15_code 23 = .ok (.iload_n 0, 1) := by decide +kernel
theorem d6_isBetween_24 : decode prog_8_method_15_code 24 = .ok (.iload_n 2, 1) := by decide +kernel
theorem d6_isBetween_25 : decode prog_8_method_15_code 25 = .ok (.if_icmp .lt 12, 3) := by decide +kernel
theorem d6_isBetween_28 : decode prog_8_method_15_code 28 = .ok (.iload_n 0, 1) := by decide +kernel
theorem d6_isBetween_29 : decode prog_8_method_15_code 29 = .ok (.iload_n 1, 1) := by decide +kernel
theorem d6_isBetween_30 : decode prog_8_method_15_code 30 = .ok (.if_icmp .gt 7, 3) := by decide +kernel
theorem d6_isBetween_33 : decode prog_8_method_15_code 33 = .ok (.iconst 1, 1) := by decide +kernel
theorem d6_isBetween_34 : decode prog_8_method_15_code 34 = .ok (.goto 4, 3) := by decide +kernel
theorem d6_isBetween_37 : decode prog_8_method_15_code 37 = .ok (.iconst 0, 1) := by decide +kernel
theorem d6_isBetween_38 : decode prog_8_method_15_code 38 = .ok (.ireturn, 1) := by decide +kernel
theorem d6_saw_0 : decode prog_8_method_14_code 0 = .ok (.iload_n 1, 1) := by decide +kernel
theorem d6_saw_1 : decode prog_8_method_14_code 1 = .ok (.bipush 12, 2) := by decide +kernel
theorem d6_saw_3 : decode prog_8_method_14_code 3 = .ok (.irem, 1) := by decide +kernel
theorem d6_saw_4 : decode prog_8_method_14_code 4 = .ok (.aload_n 0, 1) := by decide +kernel
theorem d6_saw_5 : decode prog_8_method_14_code 5 = .ok (.getfield 15, 3) := by decide +kernel
theorem d6_saw_8 : decode prog_8_method_14_code 8 = .ok (.bipush 12, 2) := by decide +kernel
theorem d6_saw_10 : decode prog_8_method_14_code 10 = .ok (.irem, 1) := by decide +kernel
theorem d6_saw_11 : decode prog_8_method_14_code 11 = .ok (.aload_n 0, 1) := by decide +kernel
theorem d6_saw_12 : decode prog_8_method_14_code 12 = .ok (.getfield 18, 3) := by decide +kernel
theorem d6_saw_15 : decode prog_8_method_14_code 15 = .ok (.bipush 12, 2) := by decide +kernel
theorem d6_saw_17 : decode prog_8_method_14_code 17 = .ok (.irem, 1) := by decide +kernel
theorem d6_saw_18 : decode prog_8_method_14_code 18 = .ok (.invokestatic 74, 3) := by decide +kernel
theorem d6_saw_21 : decode prog_8_method_14_code 21 = .ok (.ifCond .eq 31, 3) := by decide +kernel
theorem d6_saw_24 : decode prog_8_method_14_code 24 = .ok (.iload_n 1, 1) := by decide +kernel
theorem d6_saw_25 : decode prog_8_method_14_code 25 = .ok (.bipush 12, 2) := by decide +kernel
theorem d6_saw_27 : decode prog_8_method_14_code 27 = .ok (.idiv, 1) := by decide +kernel
theorem d6_saw_28 : decode prog_8_method_14_code 28 = .ok (.aload_n 0, 1) := by decide +kernel
theorem d6_saw_29 : decode prog_8_method_14_code 29 = .ok (.getfield 15, 3) := by decide +kernel
theorem d6_saw_32 : decode prog_8_method_14_code 32 = .ok (.bipush 12, 2) := by decide +kernel
theorem d6_saw_34 : decode prog_8_method_14_code 34 = .ok (.idiv, 1) := by decide +kernel
theorem d6_saw_35 : decode prog_8_method_14_code 35 = .ok (.aload_n 0, 1) := by decide +kernel
theorem d6_saw_36 : decode prog_8_method_14_code 36 = .ok (.getfield 18, 3) := by decide +kernel
theorem d6_saw_39 : decode prog_8_method_14_code 39 = .ok (.bipush 12, 2) := by decide +kernel
theorem d6_saw_41 : decode prog_8_method_14_code 41 = .ok (.idiv, 1) := by decide +kernel
theorem d6_saw_42 : decode prog_8_method_14_code 42 = .ok (.invokestatic 74, 3) := by decide +kernel
theorem d6_saw_45 : decode prog_8_method_14_code 45 = .ok (.ifCond .eq 7, 3) := by decide +kernel
theorem d6_saw_48 : decode prog_8_method_14_code 48 = .ok (.iconst 1, 1) := by decide +kernel
theorem d6_saw_49 : decode prog_8_method_14_code 49 = .ok (.goto 4, 3) := by decide +kernel
theorem d6_saw_52 : decode prog_8_method_14_code 52 = .ok (.iconst 0, 1) := by decide +kernel
theorem d6_saw_53 : decode prog_8_method_14_code 53 = .ok (.ireturn, 1) := by decide +kernel
theorem d6_cellsSeen_0 : decode prog_8_method_19_code 0 = .ok (.iconst 0, 1) := by decide +kernel
theorem d6_cellsSeen_1 : decode prog_8_method_19_code 1 = .ok (.istore_n 1, 1) := by decide +kernel
theorem d6_cellsSeen_2 : decode prog_8_method_19_code 2 = .ok (.iconst 0, 1) := by decide +kernel
theorem d6_cellsSeen_3 : decode prog_8_method_19_code 3 = .ok (.istore_n 2, 1) := by decide +kernel
theorem d6_cellsSeen_4 : decode prog_8_method_19_code 4 = .ok (.iload_n 2, 1) := by decide +kernel
theorem d6_cellsSeen_5 : decode prog_8_method_19_code 5 = .ok (.bipush 120, 2) := by decide +kernel
theorem d6_cellsSeen_7 : decode prog_8_method_19_code 7 = .ok (.if_icmp .ge 25, 3) := by decide +kernel
theorem d6_cellsSeen_10 : decode prog_8_method_19_code 10 = .ok (.iload_n 1, 1) := by decide +kernel
theorem d6_cellsSeen_11 : decode prog_8_method_19_code 11 = .ok (.aload_n 0, 1) := by decide +kernel
theorem d6_cellsSeen_12 : decode prog_8_method_19_code 12 = .ok (.iload_n 2, 1) := by decide +kernel
theorem d6_cellsSeen_13 : decode prog_8_method_19_code 13 = .ok (.invokevirtual 65, 3) := by decide +kernel
theorem d6_cellsSeen_16 : decode prog_8_method_19_code 16 = .ok (.ifCond .eq 7, 3) := by decide +kernel
theorem d6_cellsSeen_19 : decode prog_8_method_19_code 19 = .ok (.iconst 1, 1) := by decide +kernel
theorem d6_cellsSeen_20 : decode prog_8_method_19_code 20 = .ok (.goto 4, 3) := by decide +kernel
theorem d6_cellsSeen_23 : decode prog_8_method_19_code 23 = .ok (.iconst 0, 1) := by decide +kernel
theorem d6_cellsSeen_24 : decode prog_8_method_19_code 24 = .ok (.iadd, 1) := by decide +kernel
theorem d6_cellsSeen_25 : decode prog_8_method_19_code 25 = .ok (.istore_n 1, 1) := by decide +kernel
theorem d6_cellsSeen_26 : decode prog_8_method_19_code 26 = .ok (.iinc 2 1, 3) := by decide +kernel
theorem d6_cellsSeen_29 : decode prog_8_method_19_code 29 = .ok (.goto (-25), 3) := by decide +kernel
theorem d6_cellsSeen_32 : decode prog_8_method_19_code 32 = .ok (.iload_n 1, 1) := by decide +kernel
theorem d6_cellsSeen_33 : decode prog_8_method_19_code 33 = .ok (.ireturn, 1) := by decide +kernel
theorem d6_fixedWeight_0 : decode prog_8_method_12_code 0 = .ok (.iload_n 1, 1) := by decide +kernel
theorem d6_fixedWeight_1 : decode prog_8_method_12_code 1 = .ok (.iload_n 0, 1) := by decide +kernel
theorem d6_fixedWeight_2 : decode prog_8_method_12_code 2 = .ok (.if_icmp .gt 6, 3) := by decide +kernel
theorem d6_fixedWeight_5 : decode prog_8_method_12_code 5 = .ok (.bipush 12, 2) := by decide +kernel
theorem d6_fixedWeight_7 : decode prog_8_method_12_code 7 = .ok (.ireturn, 1) := by decide +kernel
theorem d6_fixedWeight_8 : decode prog_8_method_12_code 8 = .ok (.iload_n 1, 1) := by decide +kernel
theorem d6_fixedWeight_9 : decode prog_8_method_12_code 9 = .ok (.iconst 2, 1) := by decide +kernel
theorem d6_fixedWeight_10 : decode prog_8_method_12_code 10 = .ok (.iload_n 0, 1) := by decide +kernel
theorem d6_fixedWeight_11 : decode prog_8_method_12_code 11 = .ok (.imul, 1) := by decide +kernel
theorem d6_fixedWeight_12 : decode prog_8_method_12_code 12 = .ok (.iconst 1, 1) := by decide +kernel
theorem d6_fixedWeight_13 : decode prog_8_method_12_code 13 = .ok (.iadd, 1) := by decide +kernel
theorem d6_fixedWeight_14 : decode prog_8_method_12_code 14 = .ok (.if_icmp .gt 7, 3) := by decide +kernel
theorem d6_fixedWeight_17 : decode prog_8_method_12_code 17 = .ok (.iconst 4, 1) := by decide +kernel
theorem d6_fixedWeight_18 : decode prog_8_method_12_code 18 = .ok (.goto 4, 3) := by decide +kernel
theorem d6_fixedWeight_21 : decode prog_8_method_12_code 21 = .ok (.iconst 1, 1) := by decide +kernel
theorem d6_fixedWeight_22 : decode prog_8_method_12_code 22 = .ok (.ireturn, 1) := by decide +kernel
theorem d6_burntWeight_0 : decode prog_8_method_13_code 0 = .ok (.iload_n 0, 1) := by decide +kernel
theorem d6_burntWeight_1 : decode prog_8_method_13_code 1 = .ok (.tableswitch 35 0 2 #[27, 30, 33], 27) := by decide +kernel
theorem d6_burntWeight_28 : decode prog_8_method_13_code 28 = .ok (.bipush 12, 2) := by decide +kernel
theorem d6_burntWeight_30 : decode prog_8_method_13_code 30 = .ok (.ireturn, 1) := by decide +kernel
theorem d6_burntWeight_31 : decode prog_8_method_13_code 31 = .ok (.bipush 6, 2) := by decide +kernel
theorem d6_burntWeight_33 : decode prog_8_method_13_code 33 = .ok (.ireturn, 1) := by decide +kernel
theorem d6_burntWeight_34 : decode prog_8_method_13_code 34 = .ok (.iconst 2, 1) := by decide +kernel
theorem d6_burntWeight_35 : decode prog_8_method_13_code 35 = .ok (.ireturn, 1) := by decide +kernel
theorem d6_burntWeight_36 : decode prog_8_method_13_code 36 = .ok (.iconst 0, 1) := by decide +kernel
theorem d6_burntWeight_37 : decode prog_8_method_13_code 37 = .ok (.ireturn, 1) := by decide +kernel
theorem d6_isFrom_0 : decode prog_8_method_9_code 0 = .ok (.aload_n 0, 1) := by decide +kernel
theorem d6_isFrom_1 : decode prog_8_method_9_code 1 = .ok (.getfield 15, 3) := by decide +kernel
theorem d6_isFrom_4 : decode prog_8_method_9_code 4 = .ok (.iload_n 1, 1) := by decide +kernel
theorem d6_isFrom_5 : decode prog_8_method_9_code 5 = .ok (.invokestatic 43, 3) := by decide +kernel
theorem d6_isFrom_8 : decode prog_8_method_9_code 8 = .ok (.aload_n 0, 1) := by decide +kernel
theorem d6_isFrom_9 : decode prog_8_method_9_code 9 = .ok (.getfield 18, 3) := by decide +kernel
theorem d6_isFrom_12 : decode prog_8_method_9_code 12 = .ok (.if_icmp .ne 7, 3) := by decide +kernel
theorem d6_isFrom_15 : decode prog_8_method_9_code 15 = .ok (.iconst 1, 1) := by decide +kernel
theorem d6_isFrom_16 : decode prog_8_method_9_code 16 = .ok (.goto 4, 3) := by decide +kernel
theorem d6_isFrom_19 : decode prog_8_method_9_code 19 = .ok (.iconst 0, 1) := by decide +kernel
theorem d6_isFrom_20 : decode prog_8_method_9_code 20 = .ok (.ireturn, 1) := by decide +kernel
theorem d6_weight_0 : decode prog_8_method_10_code 0 = .ok (.aload_n 0, 1) := by decide +kernel
theorem d6_weight_1 : decode prog_8_method_10_code 1 = .ok (.getfield 11, 3) := by decide +kernel
theorem d6_weight_4 : decode prog_8_method_10_code 4 = .ok (.tableswitch 159 1 7 #[44, 60, 76, 89, 110, 159, 131], 44) := by decide +kernel
theorem d6_weight_48 : decode prog_8_method_10_code 48 = .ok (.aload_n 0, 1) := by decide +kernel
theorem d6_weight_49 : decode prog_8_method_10_code 49 = .ok (.getfield 21, 3) := by decide +kernel
theorem d6_weight_52 : decode prog_8_method_10_code 52 = .ok (.aload_n 0, 1) := by decide +kernel
theorem d6_weight_53 : decode prog_8_method_10_code 53 = .ok (.getfield 18, 3) := by decide +kernel
theorem d6_weight_56 : decode prog_8_method_10_code 56 = .ok (.iload_n 1, 1) := by decide +kernel
theorem d6_weight_57 : decode prog_8_method_10_code 57 = .ok (.invokestatic 47, 3) := by decide +kernel
theorem d6_weight_60 : decode prog_8_method_10_code 60 = .ok (.invokestatic 50, 3) := by decide +kernel
theorem d6_weight_63 : decode prog_8_method_10_code 63 = .ok (.ireturn, 1) := by decide +kernel
theorem d6_weight_64 : decode prog_8_method_10_code 64 = .ok (.aload_n 0, 1) := by decide +kernel
theorem d6_weight_65 : decode prog_8_method_10_code 65 = .ok (.getfield 21, 3) := by decide +kernel
theorem d6_weight_68 : decode prog_8_method_10_code 68 = .ok (.aload_n 0, 1) := by decide +kernel
theorem d6_weight_69 : decode prog_8_method_10_code 69 = .ok (.getfield 18, 3) := by decide +kernel
theorem d6_weight_72 : decode prog_8_method_10_code 72 = .ok (.iload_n 1, 1) := by decide +kernel
theorem d6_weight_73 : decode prog_8_method_10_code 73 = .ok (.invokestatic 47, 3) := by decide +kernel
theorem d6_weight_76 : decode prog_8_method_10_code 76 = .ok (.invokestatic 53, 3) := by decide +kernel
theorem d6_weight_79 : decode prog_8_method_10_code 79 = .ok (.ireturn, 1) := by decide +kernel
theorem d6_weight_80 : decode prog_8_method_10_code 80 = .ok (.aload_n 0, 1) := by decide +kernel
theorem d6_weight_81 : decode prog_8_method_10_code 81 = .ok (.getfield 15, 3) := by decide +kernel
theorem d6_weight_84 : decode prog_8_method_10_code 84 = .ok (.iload_n 1, 1) := by decide +kernel
theorem d6_weight_85 : decode prog_8_method_10_code 85 = .ok (.isub, 1) := by decide +kernel
theorem d6_weight_86 : decode prog_8_method_10_code 86 = .ok (.invokestatic 56, 3) := by decide +kernel
theorem d6_weight_89 : decode prog_8_method_10_code 89 = .ok (.invokestatic 62, 3) := by decide +kernel
theorem d6_weight_92 : decode prog_8_method_10_code 92 = .ok (.ireturn, 1) := by decide +kernel
theorem d6_weight_93 : decode prog_8_method_10_code 93 = .ok (.aload_n 0, 1) := by decide +kernel
theorem d6_weight_94 : decode prog_8_method_10_code 94 = .ok (.iload_n 1, 1) := by decide +kernel
theorem d6_weight_95 : decode prog_8_method_10_code 95 = .ok (.invokevirtual 65, 3) := by decide +kernel
theorem d6_weight_98 : decode prog_8_method_10_code 98 = .ok (.ifCond .eq 13, 3) := by decide +kernel
theorem d6_weight_101 : decode prog_8_method_10_code 101 = .ok (.bipush 12, 2) := by decide +kernel
theorem d6_weight_103 : decode prog_8_method_10_code 103 = .ok (.aload_n 0, 1) := by decide +kernel
theorem d6_weight_104 : decode prog_8_method_10_code 104 = .ok (.getfield 21, 3) := by decide +kernel
theorem d6_weight_107 : decode prog_8_method_10_code 107 = .ok (.isub, 1) := by decide +kernel
theorem d6_weight_108 : decode prog_8_method_10_code 108 = .ok (.goto 5, 3) := by decide +kernel
theorem d6_weight_111 : decode prog_8_method_10_code 111 = .ok (.bipush 12, 2) := by decide +kernel
theorem d6_weight_113 : decode prog_8_method_10_code 113 = .ok (.ireturn, 1) := by decide +kernel
theorem d6_weight_114 : decode prog_8_method_10_code 114 = .ok (.aload_n 0, 1) := by decide +kernel
theorem d6_weight_115 : decode prog_8_method_10_code 115 = .ok (.iload_n 1, 1) := by decide +kernel
theorem d6_weight_116 : decode prog_8_method_10_code 116 = .ok (.invokevirtual 68, 3) := by decide +kernel
theorem d6_weight_119 : decode prog_8_method_10_code 119 = .ok (.ifCond .eq 8, 3) := by decide +kernel
theorem d6_weight_122 : decode prog_8_method_10_code 122 = .ok (.bipush 12, 2) := by decide +kernel
theorem d6_weight_124 : decode prog_8_method_10_code 124 = .ok (.goto 10, 3) := by decide +kernel
theorem d6_weight_127 : decode prog_8_method_10_code 127 = .ok (.bipush 12, 2) := by decide +kernel
theorem d6_weight_129 : decode prog_8_method_10_code 129 = .ok (.aload_n 0, 1) := by decide +kernel
theorem d6_weight_130 : decode prog_8_method_10_code 130 = .ok (.getfield 21, 3) := by decide +kernel
theorem d6_weight_133 : decode prog_8_method_10_code 133 = .ok (.isub, 1) := by decide +kernel
theorem d6_weight_134 : decode prog_8_method_10_code 134 = .ok (.ireturn, 1) := by decide +kernel
theorem d6_weight_135 : decode prog_8_method_10_code 135 = .ok (.aload_n 0, 1) := by decide +kernel
theorem d6_weight_136 : decode prog_8_method_10_code 136 = .ok (.getfield 15, 3) := by decide +kernel
theorem d6_weight_139 : decode prog_8_method_10_code 139 = .ok (.iload_n 1, 1) := by decide +kernel
theorem d6_weight_140 : decode prog_8_method_10_code 140 = .ok (.invokestatic 47, 3) := by decide +kernel
theorem d6_weight_143 : decode prog_8_method_10_code 143 = .ok (.aload_n 0, 1) := by decide +kernel
theorem d6_weight_144 : decode prog_8_method_10_code 144 = .ok (.getfield 18, 3) := by decide +kernel
theorem d6_weight_147 : decode prog_8_method_10_code 147 = .ok (.if_icmp .gt 8, 3) := by decide +kernel
theorem d6_weight_150 : decode prog_8_method_10_code 150 = .ok (.bipush 12, 2) := by decide +kernel
theorem d6_weight_152 : decode prog_8_method_10_code 152 = .ok (.goto 10, 3) := by decide +kernel
theorem d6_weight_155 : decode prog_8_method_10_code 155 = .ok (.bipush 12, 2) := by decide +kernel
theorem d6_weight_157 : decode prog_8_method_10_code 157 = .ok (.aload_n 0, 1) := by decide +kernel
theorem d6_weight_158 : decode prog_8_method_10_code 158 = .ok (.getfield 21, 3) := by decide +kernel
theorem d6_weight_161 : decode prog_8_method_10_code 161 = .ok (.isub, 1) := by decide +kernel
theorem d6_weight_162 : decode prog_8_method_10_code 162 = .ok (.ireturn, 1) := by decide +kernel
theorem d6_weight_163 : decode prog_8_method_10_code 163 = .ok (.bipush 12, 2) := by decide +kernel
theorem d6_weight_165 : decode prog_8_method_10_code 165 = .ok (.ireturn, 1) := by decide +kernel
theorem d6_cellsOfFullWeight_0 : decode prog_8_method_20_code 0 = .ok (.iconst 0, 1) := by decide +kernel
theorem d6_cellsOfFullWeight_1 : decode prog_8_method_20_code 1 = .ok (.istore_n 1, 1) := by decide +kernel
theorem d6_cellsOfFullWeight_2 : decode prog_8_method_20_code 2 = .ok (.iconst 0, 1) := by decide +kernel
theorem d6_cellsOfFullWeight_3 : decode prog_8_method_20_code 3 = .ok (.istore_n 2, 1) := by decide +kernel
theorem d6_cellsOfFullWeight_4 : decode prog_8_method_20_code 4 = .ok (.iload_n 2, 1) := by decide +kernel
theorem d6_cellsOfFullWeight_5 : decode prog_8_method_20_code 5 = .ok (.bipush 120, 2) := by decide +kernel
theorem d6_cellsOfFullWeight_7 : decode prog_8_method_20_code 7 = .ok (.if_icmp .ge 27, 3) := by decide +kernel
theorem d6_cellsOfFullWeight_10 : decode prog_8_method_20_code 10 = .ok (.iload_n 1, 1) := by decide +kernel
theorem d6_cellsOfFullWeight_11 : decode prog_8_method_20_code 11 = .ok (.aload_n 0, 1) := by decide +kernel
theorem d6_cellsOfFullWeight_12 : decode prog_8_method_20_code 12 = .ok (.iload_n 2, 1) := by decide +kernel
theorem d6_cellsOfFullWeight_13 : decode prog_8_method_20_code 13 = .ok (.invokevirtual 88, 3) := by decide +kernel
theorem d6_cellsOfFullWeight_16 : decode prog_8_method_20_code 16 = .ok (.bipush 12, 2) := by decide +kernel
theorem d6_cellsOfFullWeight_18 : decode prog_8_method_20_code 18 = .ok (.if_icmp .ne 7, 3) := by decide +kernel
theorem d6_cellsOfFullWeight_21 : decode prog_8_method_20_code 21 = .ok (.iconst 1, 1) := by decide +kernel
theorem d6_cellsOfFullWeight_22 : decode prog_8_method_20_code 22 = .ok (.goto 4, 3) := by decide +kernel
theorem d6_cellsOfFullWeight_25 : decode prog_8_method_20_code 25 = .ok (.iconst 0, 1) := by decide +kernel
theorem d6_cellsOfFullWeight_26 : decode prog_8_method_20_code 26 = .ok (.iadd, 1) := by decide +kernel
theorem d6_cellsOfFullWeight_27 : decode prog_8_method_20_code 27 = .ok (.istore_n 1, 1) := by decide +kernel
theorem d6_cellsOfFullWeight_28 : decode prog_8_method_20_code 28 = .ok (.iinc 2 1, 3) := by decide +kernel
theorem d6_cellsOfFullWeight_31 : decode prog_8_method_20_code 31 = .ok (.goto (-27), 3) := by decide +kernel
theorem d6_cellsOfFullWeight_34 : decode prog_8_method_20_code 34 = .ok (.iload_n 1, 1) := by decide +kernel
theorem d6_cellsOfFullWeight_35 : decode prog_8_method_20_code 35 = .ok (.ireturn, 1) := by decide +kernel
theorem d6_tells_0 : decode prog_8_method_18_code 0 = .ok (.iload_n 1, 1) := by decide +kernel
theorem d6_tells_1 : decode prog_8_method_18_code 1 = .ok (.tableswitch 67 1 6 #[39, 67, 47, 52, 57, 62], 39) := by decide +kernel
theorem d6_tells_40 : decode prog_8_method_18_code 40 = .ok (.aload_n 0, 1) := by decide +kernel
theorem d6_tells_41 : decode prog_8_method_18_code 41 = .ok (.getfield 21, 3) := by decide +kernel
theorem d6_tells_44 : decode prog_8_method_18_code 44 = .ok (.invokestatic 78, 3) := by decide +kernel
theorem d6_tells_47 : decode prog_8_method_18_code 47 = .ok (.ireturn, 1) := by decide +kernel
theorem d6_tells_48 : decode prog_8_method_18_code 48 = .ok (.aload_n 0, 1) := by decide +kernel
theorem d6_tells_49 : decode prog_8_method_18_code 49 = .ok (.getfield 15, 3) := by decide +kernel
theorem d6_tells_52 : decode prog_8_method_18_code 52 = .ok (.ireturn, 1) := by decide +kernel
theorem d6_tells_53 : decode prog_8_method_18_code 53 = .ok (.aload_n 0, 1) := by decide +kernel
theorem d6_tells_54 : decode prog_8_method_18_code 54 = .ok (.invokevirtual 81, 3) := by decide +kernel
theorem d6_tells_57 : decode prog_8_method_18_code 57 = .ok (.ireturn, 1) := by decide +kernel
theorem d6_tells_58 : decode prog_8_method_18_code 58 = .ok (.aload_n 0, 1) := by decide +kernel
theorem d6_tells_59 : decode prog_8_method_18_code 59 = .ok (.getfield 18, 3) := by decide +kernel
theorem d6_tells_62 : decode prog_8_method_18_code 62 = .ok (.ireturn, 1) := by decide +kernel
theorem d6_tells_63 : decode prog_8_method_18_code 63 = .ok (.aload_n 0, 1) := by decide +kernel
theorem d6_tells_64 : decode prog_8_method_18_code 64 = .ok (.getfield 21, 3) := by decide +kernel
theorem d6_tells_67 : decode prog_8_method_18_code 67 = .ok (.ireturn, 1) := by decide +kernel
theorem d6_tells_68 : decode prog_8_method_18_code 68 = .ok (.aload_n 0, 1) := by decide +kernel
theorem d6_tells_69 : decode prog_8_method_18_code 69 = .ok (.invokevirtual 85, 3) := by decide +kernel
theorem d6_tells_72 : decode prog_8_method_18_code 72 = .ok (.ireturn, 1) := by decide +kernel
theorem d7_mark_0 : decode prog_1_method_22_code 0 = .ok (.aload_n 0, 1) := by decide +kernel
theorem d7_mark_1 : decode prog_1_method_22_code 1 = .ok (.getfield 42, 3) := by decide +kernel
theorem d7_mark_4 : decode prog_1_method_22_code 4 = .ok (.iload_n 1, 1) := by decide +kernel
theorem d7_mark_5 : decode prog_1_method_22_code 5 = .ok (.invokevirtual 184, 3) := by decide +kernel
theorem d7_mark_8 : decode prog_1_method_22_code 8 = .ok (.ifCond .eq 14, 3) := by decide +kernel
theorem d7_mark_11 : decode prog_1_method_22_code 11 = .ok (.iload_n 2, 1) := by decide +kernel
theorem d7_mark_12 : decode prog_1_method_22_code 12 = .ok (.iconst 1, 1) := by decide +kernel
theorem d7_mark_13 : decode prog_1_method_22_code 13 = .ok (.if_icmp .lt 9, 3) := by decide +kernel
theorem d7_mark_16 : decode prog_1_method_22_code 16 = .ok (.iload_n 2, 1) := by decide +kernel
theorem d7_mark_17 : decode prog_1_method_22_code 17 = .ok (.bipush 7, 2) := by decide +kernel
theorem d7_mark_19 : decode prog_1_method_22_code 19 = .ok (.if_icmp .le 5, 3) := by decide +kernel
theorem d7_mark_22 : decode prog_1_method_22_code 22 = .ok (.iconst (-1), 1) := by decide +kernel
theorem d7_mark_23 : decode prog_1_method_22_code 23 = .ok (.ireturn, 1) := by decide +kernel
theorem d7_mark_24 : decode prog_1_method_22_code 24 = .ok (.aload_n 0, 1) := by decide +kernel
theorem d7_mark_25 : decode prog_1_method_22_code 25 = .ok (.getfield 42, 3) := by decide +kernel
theorem d7_mark_28 : decode prog_1_method_22_code 28 = .ok (.getfield 187, 3) := by decide +kernel
theorem d7_mark_31 : decode prog_1_method_22_code 31 = .ok (.iload_n 1, 1) := by decide +kernel
theorem d7_mark_32 : decode prog_1_method_22_code 32 = .ok (.aaload, 1) := by decide +kernel
theorem d7_mark_33 : decode prog_1_method_22_code 33 = .ok (.iload_n 2, 1) := by decide +kernel
theorem d7_mark_34 : decode prog_1_method_22_code 34 = .ok (.invokevirtual 196, 3) := by decide +kernel
theorem d7_mark_37 : decode prog_1_method_22_code 37 = .ok (.ifCond .ne 9, 3) := by decide +kernel
theorem d7_mark_40 : decode prog_1_method_22_code 40 = .ok (.aload_n 0, 1) := by decide +kernel
theorem d7_mark_41 : decode prog_1_method_22_code 41 = .ok (.iconst 3, 1) := by decide +kernel
theorem d7_mark_42 : decode prog_1_method_22_code 42 = .ok (.invokevirtual 92, 3) := by decide +kernel
theorem d7_mark_45 : decode prog_1_method_22_code 45 = .ok (.ireturn, 1) := by decide +kernel
theorem d7_mark_46 : decode prog_1_method_22_code 46 = .ok (.aload_n 0, 1) := by decide +kernel
theorem d7_mark_47 : decode prog_1_method_22_code 47 = .ok (.getfield 42, 3) := by decide +kernel
theorem d7_mark_50 : decode prog_1_method_22_code 50 = .ok (.getfield 187, 3) := by decide +kernel
theorem d7_mark_53 : decode prog_1_method_22_code 53 = .ok (.iload_n 1, 1) := by decide +kernel
theorem d7_mark_54 : decode prog_1_method_22_code 54 = .ok (.aaload, 1) := by decide +kernel
theorem d7_mark_55 : decode prog_1_method_22_code 55 = .ok (.iload_n 2, 1) := by decide +kernel
theorem d7_mark_56 : decode prog_1_method_22_code 56 = .ok (.invokevirtual 199, 3) := by decide +kernel
theorem d7_mark_59 : decode prog_1_method_22_code 59 = .ok (.ireturn, 1) := by decide +kernel
theorem d8_heardBy_0 : decode prog_10_method_52_code 0 = .ok (.iload_n 0, 1) := by decide +kernel
theorem d8_heardBy_1 : decode prog_10_method_52_code 1 = .ok (.iload_n 1, 1) := by decide +kernel
theorem d8_heardBy_2 : decode prog_10_method_52_code 2 = .ok (.iconst 5, 1) := by decide +kernel
theorem d8_heardBy_3 : decode prog_10_method_52_code 3 = .ok (.if_icmp .le 7, 3) := by decide +kernel
theorem d8_heardBy_6 : decode prog_10_method_52_code 6 = .ok (.iconst 0, 1) := by decide +kernel
theorem d8_heardBy_7 : decode prog_10_method_52_code 7 = .ok (.goto 6, 3) := by decide +kernel
theorem d8_heardBy_10 : decode prog_10_method_52_code 10 = .ok (.iconst 5, 1) := by decide +kernel
theorem d8_heardBy_11 : decode prog_10_method_52_code 11 = .ok (.iload_n 1, 1) := by decide +kernel
theorem d8_heardBy_12 : decode prog_10_method_52_code 12 = .ok (.isub, 1) := by decide +kernel
theorem d8_heardBy_13 : decode prog_10_method_52_code 13 = .ok (.isub, 1) := by decide +kernel
theorem d8_heardBy_14 : decode prog_10_method_52_code 14 = .ok (.invokestatic 111, 3) := by decide +kernel
theorem d8_heardBy_17 : decode prog_10_method_52_code 17 = .ok (.istore_n 2, 1) := by decide +kernel
theorem d8_heardBy_18 : decode prog_10_method_52_code 18 = .ok (.iload_n 2, 1) := by decide +kernel
theorem d8_heardBy_19 : decode prog_10_method_52_code 19 = .ok (.ifCond .ne 8, 3) := by decide +kernel
theorem d8_heardBy_22 : decode prog_10_method_52_code 22 = .ok (.bipush 12, 2) := by decide +kernel
theorem d8_heardBy_24 : decode prog_10_method_52_code 24 = .ok (.goto 32, 3) := by decide +kernel
theorem d8_heardBy_27 : decode prog_10_method_52_code 27 = .ok (.iload_n 2, 1) := by decide +kernel
theorem d8_heardBy_28 : decode prog_10_method_52_code 28 = .ok (.iconst 1, 1) := by decide +kernel
theorem d8_heardBy_29 : decode prog_10_method_52_code 29 = .ok (.if_icmp .ne 8, 3) := by decide +kernel
theorem d8_heardBy_32 : decode prog_10_method_52_code 32 = .ok (.bipush 8, 2) := by decide +kernel
theorem d8_heardBy_34 : decode prog_10_method_52_code 34 = .ok (.goto 22, 3) := by decide +kernel
theorem d8_heardBy_37 : decode prog_10_method_52_code 37 = .ok (.iload_n 2, 1) := by decide +kernel
theorem d8_heardBy_38 : decode prog_10_method_52_code 38 = .ok (.iconst 2, 1) := by decide +kernel
theorem d8_heardBy_39 : decode prog_10_method_52_code 39 = .ok (.if_icmp .ne 7, 3) := by decide +kernel
theorem d8_heardBy_42 : decode prog_10_method_52_code 42 = .ok (.iconst 4, 1) := by decide +kernel
theorem d8_heardBy_43 : decode prog_10_method_52_code 43 = .ok (.goto 13, 3) := by decide +kernel
theorem d8_heardBy_46 : decode prog_10_method_52_code 46 = .ok (.iload_n 2, 1) := by decide +kernel
theorem d8_heardBy_47 : decode prog_10_method_52_code 47 = .ok (.iconst 3, 1) := by decide +kernel
theorem d8_heardBy_48 : decode prog_10_method_52_code 48 = .ok (.if_icmp .ne 7, 3) := by decide +kernel
theorem d8_heardBy_51 : decode prog_10_method_52_code 51 = .ok (.iconst 1, 1) := by decide +kernel
theorem d8_heardBy_52 : decode prog_10_method_52_code 52 = .ok (.goto 4, 3) := by decide +kernel
theorem d8_heardBy_55 : decode prog_10_method_52_code 55 = .ok (.iconst 0, 1) := by decide +kernel
theorem d8_heardBy_56 : decode prog_10_method_52_code 56 = .ok (.ireturn, 1) := by decide +kernel
theorem d8_leastFar_0 : decode prog_10_method_57_code 0 = .ok (.iconst 0, 1) := by decide +kernel
theorem d8_leastFar_1 : decode prog_10_method_57_code 1 = .ok (.istore_n 1, 1) := by decide +kernel
theorem d8_leastFar_2 : decode prog_10_method_57_code 2 = .ok (.iload_n 0, 1) := by decide +kernel
theorem d8_leastFar_3 : decode prog_10_method_57_code 3 = .ok (.iload_n 1, 1) := by decide +kernel
theorem d8_leastFar_4 : decode prog_10_method_57_code 4 = .ok (.invokestatic 181, 3) := by decide +kernel
theorem d8_leastFar_7 : decode prog_10_method_57_code 7 = .ok (.bipush 8, 2) := by decide +kernel
theorem d8_leastFar_9 : decode prog_10_method_57_code 9 = .ok (.if_icmp .ge 9, 3) := by decide +kernel
theorem d8_leastFar_12 : decode prog_10_method_57_code 12 = .ok (.iinc 1 1, 3) := by decide +kernel
theorem d8_leastFar_15 : decode prog_10_method_57_code 15 = .ok (.goto (-13), 3) := by decide +kernel
theorem d8_leastFar_18 : decode prog_10_method_57_code 18 = .ok (.iload_n 1, 1) := by decide +kernel
theorem d8_leastFar_19 : decode prog_10_method_57_code 19 = .ok (.ireturn, 1) := by decide +kernel
theorem d8_isBetween_0 : decode prog_10_method_53_code 0 = .ok (.iload_n 1, 1) := by decide +kernel
theorem d8_isBetween_1 : decode prog_10_method_53_code 1 = .ok (.iload_n 2, 1) := by decide +kernel
theorem d8_isBetween_2 : decode prog_10_method_53_code 2 = .ok (.if_icmp .ge 12, 3) := by decide +kernel
theorem d8_isBetween_5 : decode prog_10_method_53_code 5 = .ok (.iload_n 0, 1) := by decide +kernel
theorem d8_isBetween_6 : decode prog_10_method_53_code 6 = .ok (.iload_n 1, 1) := by decide +kernel
theorem d8_isBetween_7 : decode prog_10_method_53_code 7 = .ok (.iload_n 2, 1) := by decide +kernel
theorem d8_isBetween_8 : decode prog_10_method_53_code 8 = .ok (.invokestatic 80, 3) := by decide +kernel
theorem d8_isBetween_11 : decode prog_10_method_53_code 11 = .ok (.goto 9, 3) := by decide +kernel
theorem d8_isBetween_14 : decode prog_10_method_53_code 14 = .ok (.iload_n 0, 1) := by decide +kernel
theorem d8_isBetween_15 : decode prog_10_method_53_code 15 = .ok (.iload_n 2, 1) := by decide +kernel
theorem d8_isBetween_16 : decode prog_10_method_53_code 16 = .ok (.iload_n 1, 1) := by decide +kernel
theorem d8_isBetween_17 : decode prog_10_method_53_code 17 = .ok (.invokestatic 80, 3) := by decide +kernel
theorem d8_isBetween_20 : decode prog_10_method_53_code 20 = .ok (.ireturn, 1) := by decide +kernel
theorem d8_isSeen_0 : decode prog_10_method_54_code 0 = .ok (.iload_n 0, 1) := by decide +kernel
theorem d8_isSeen_1 : decode prog_10_method_54_code 1 = .ok (.bipush 12, 2) := by decide +kernel
theorem d8_isSeen_3 : decode prog_10_method_54_code 3 = .ok (.irem, 1) := by decide +kernel
theorem d8_isSeen_4 : decode prog_10_method_54_code 4 = .ok (.iload_n 1, 1) := by decide +kernel
theorem d8_isSeen_5 : decode prog_10_method_54_code 5 = .ok (.bipush 12, 2) := by decide +kernel
theorem d8_isSeen_7 : decode prog_10_method_54_code 7 = .ok (.irem, 1) := by decide +kernel
theorem d8_isSeen_8 : decode prog_10_method_54_code 8 = .ok (.iload_n 2, 1) := by decide +kernel
theorem d8_isSeen_9 : decode prog_10_method_54_code 9 = .ok (.bipush 12, 2) := by decide +kernel
theorem d8_isSeen_11 : decode prog_10_method_54_code 11 = .ok (.irem, 1) := by decide +kernel
theorem d8_isSeen_12 : decode prog_10_method_54_code 12 = .ok (.invokestatic 178, 3) := by decide +kernel
theorem d8_isSeen_15 : decode prog_10_method_54_code 15 = .ok (.ifCond .eq 25, 3) := by decide +kernel
theorem d8_isSeen_18 : decode prog_10_method_54_code 18 = .ok (.iload_n 0, 1) := by decide +kernel
theorem d8_isSeen_19 : decode prog_10_method_54_code 19 = .ok (.bipush 12, 2) := by decide +kernel
theorem d8_isSeen_21 : decode prog_10_method_54_code 21 = .ok (.idiv, 1) := by decide +kernel
theorem d8_isSeen_22 : decode prog_10_method_54_code 22 = .ok (.iload_n 1, 1) := by decide +kernel
theorem d8_isSeen_23 : decode prog_10_method_54_code 23 = .ok (.bipush 12, 2) := by decide +kernel
theorem d8_isSeen_25 : decode prog_10_method_54_code 25 = .ok (.idiv, 1) := by decide +kernel
theorem d8_isSeen_26 : decode prog_10_method_54_code 26 = .ok (.iload_n 2, 1) := by decide +kernel
theorem d8_isSeen_27 : decode prog_10_method_54_code 27 = .ok (.bipush 12, 2) := by decide +kernel
theorem d8_isSeen_29 : decode prog_10_method_54_code 29 = .ok (.idiv, 1) := by decide +kernel
theorem d8_isSeen_30 : decode prog_10_method_54_code 30 = .ok (.invokestatic 178, 3) := by decide +kernel
theorem d8_isSeen_33 : decode prog_10_method_54_code 33 = .ok (.ifCond .eq 7, 3) := by decide +kernel
theorem d8_isSeen_36 : decode prog_10_method_54_code 36 = .ok (.iconst 1, 1) := by decide +kernel
theorem d8_isSeen_37 : decode prog_10_method_54_code 37 = .ok (.goto 4, 3) := by decide +kernel
theorem d8_isSeen_40 : decode prog_10_method_54_code 40 = .ok (.iconst 0, 1) := by decide +kernel
theorem d8_isSeen_41 : decode prog_10_method_54_code 41 = .ok (.ireturn, 1) := by decide +kernel
theorem d8_weight_0 : decode prog_10_method_55_code 0 = .ok (.aload_n 0, 1) := by decide +kernel
theorem d8_weight_1 : decode prog_10_method_55_code 1 = .ok (.iload_n 1, 1) := by decide +kernel
theorem d8_weight_2 : decode prog_10_method_55_code 2 = .ok (.iconst 1, 1) := by decide +kernel
theorem d8_weight_3 : decode prog_10_method_55_code 3 = .ok (.invokevirtual 175, 3) := by decide +kernel
theorem d8_weight_6 : decode prog_10_method_55_code 6 = .ok (.istore_n 3, 1) := by decide +kernel
theorem d8_weight_7 : decode prog_10_method_55_code 7 = .ok (.aload_n 0, 1) := by decide +kernel
theorem d8_weight_8 : decode prog_10_method_55_code 8 = .ok (.iload_n 1, 1) := by decide +kernel
theorem d8_weight_9 : decode prog_10_method_55_code 9 = .ok (.iconst 2, 1) := by decide +kernel
theorem d8_weight_10 : decode prog_10_method_55_code 10 = .ok (.invokevirtual 175, 3) := by decide +kernel
theorem d8_weight_13 : decode prog_10_method_55_code 13 = .ok (.istore 4, 2) := by decide +kernel
theorem d8_weight_15 : decode prog_10_method_55_code 15 = .ok (.aload_n 0, 1) := by decide +kernel
theorem d8_weight_16 : decode prog_10_method_55_code 16 = .ok (.iload_n 1, 1) := by decide +kernel
theorem d8_weight_17 : decode prog_10_method_55_code 17 = .ok (.iconst 3, 1) := by decide +kernel
theorem d8_weight_18 : decode prog_10_method_55_code 18 = .ok (.invokevirtual 175, 3) := by decide +kernel
theorem d8_weight_21 : decode prog_10_method_55_code 21 = .ok (.istore 5, 2) := by decide +kernel
theorem d8_weight_23 : decode prog_10_method_55_code 23 = .ok (.aload_n 0, 1) := by decide +kernel
theorem d8_weight_24 : decode prog_10_method_55_code 24 = .ok (.iload_n 1, 1) := by decide +kernel
theorem d8_weight_25 : decode prog_10_method_55_code 25 = .ok (.iconst 0, 1) := by decide +kernel
theorem d8_weight_26 : decode prog_10_method_55_code 26 = .ok (.invokevirtual 175, 3) := by decide +kernel
theorem d8_weight_29 : decode prog_10_method_55_code 29 = .ok (.tableswitch 196 1 7 #[43, 55, 92, 133, 154, 196, 175], 43) := by decide +kernel
theorem d8_weight_72 : decode prog_10_method_55_code 72 = .ok (.iload 5, 2) := by decide +kernel
theorem d8_weight_74 : decode prog_10_method_55_code 74 = .ok (.iload 4, 2) := by decide +kernel
theorem d8_weight_76 : decode prog_10_method_55_code 76 = .ok (.iload_n 2, 1) := by decide +kernel
theorem d8_weight_77 : decode prog_10_method_55_code 77 = .ok (.invokestatic 123, 3) := by decide +kernel
theorem d8_weight_80 : decode prog_10_method_55_code 80 = .ok (.invokestatic 181, 3) := by decide +kernel
theorem d8_weight_83 : decode prog_10_method_55_code 83 = .ok (.ireturn, 1) := by decide +kernel
theorem d8_weight_84 : decode prog_10_method_55_code 84 = .ok (.iload 4, 2) := by decide +kernel
theorem d8_weight_86 : decode prog_10_method_55_code 86 = .ok (.iload_n 2, 1) := by decide +kernel
theorem d8_weight_87 : decode prog_10_method_55_code 87 = .ok (.invokestatic 123, 3) := by decide +kernel
theorem d8_weight_90 : decode prog_10_method_55_code 90 = .ok (.iload 5, 2) := by decide +kernel
theorem d8_weight_92 : decode prog_10_method_55_code 92 = .ok (.if_icmp .gt 8, 3) := by decide +kernel
theorem d8_weight_95 : decode prog_10_method_55_code 95 = .ok (.bipush 12, 2) := by decide +kernel
theorem d8_weight_97 : decode prog_10_method_55_code 97 = .ok (.goto 23, 3) := by decide +kernel
theorem d8_weight_100 : decode prog_10_method_55_code 100 = .ok (.iload 4, 2) := by decide +kernel
theorem d8_weight_102 : decode prog_10_method_55_code 102 = .ok (.iload_n 2, 1) := by decide +kernel
theorem d8_weight_103 : decode prog_10_method_55_code 103 = .ok (.invokestatic 123, 3) := by decide +kernel
theorem d8_weight_106 : decode prog_10_method_55_code 106 = .ok (.iconst 2, 1) := by decide +kernel
theorem d8_weight_107 : decode prog_10_method_55_code 107 = .ok (.iload 5, 2) := by decide +kernel
theorem d8_weight_109 : decode prog_10_method_55_code 109 = .ok (.imul, 1) := by decide +kernel
theorem d8_weight_110 : decode prog_10_method_55_code 110 = .ok (.iconst 1, 1) := by decide +kernel
theorem d8_weight_111 : decode prog_10_method_55_code 111 = .ok (.iadd, 1) := by decide +kernel
theorem d8_weight_112 : decode prog_10_method_55_code 112 = .ok (.if_icmp .gt 7, 3) := by decide +kernel
theorem d8_weight_115 : decode prog_10_method_55_code 115 = .ok (.iconst 4, 1) := by decide +kernel
theorem d8_weight_116 : decode prog_10_method_55_code 116 = .ok (.goto 4, 3) := by decide +kernel
theorem d8_weight_119 : decode prog_10_method_55_code 119 = .ok (.iconst 1, 1) := by decide +kernel
theorem d8_weight_120 : decode prog_10_method_55_code 120 = .ok (.ireturn, 1) := by decide +kernel
theorem d8_weight_121 : decode prog_10_method_55_code 121 = .ok (.iload_n 3, 1) := by decide +kernel
theorem d8_weight_122 : decode prog_10_method_55_code 122 = .ok (.iload_n 2, 1) := by decide +kernel
theorem d8_weight_123 : decode prog_10_method_55_code 123 = .ok (.if_icmp .ne 8, 3) := by decide +kernel
theorem d8_weight_126 : decode prog_10_method_55_code 126 = .ok (.bipush 12, 2) := by decide +kernel
theorem d8_weight_128 : decode prog_10_method_55_code 128 = .ok (.goto 33, 3) := by decide +kernel
theorem d8_weight_131 : decode prog_10_method_55_code 131 = .ok (.iload_n 3, 1) := by decide +kernel
theorem d8_weight_132 : decode prog_10_method_55_code 132 = .ok (.iload_n 2, 1) := by decide +kernel
theorem d8_weight_133 : decode prog_10_method_55_code 133 = .ok (.isub, 1) := by decide +kernel
theorem d8_weight_134 : decode prog_10_method_55_code 134 = .ok (.invokestatic 111, 3) := by decide +kernel
theorem d8_weight_137 : decode prog_10_method_55_code 137 = .ok (.iconst 1, 1) := by decide +kernel
theorem d8_weight_138 : decode prog_10_method_55_code 138 = .ok (.if_icmp .ne 8, 3) := by decide +kernel
theorem d8_weight_141 : decode prog_10_method_55_code 141 = .ok (.bipush 6, 2) := by decide +kernel
theorem d8_weight_143 : decode prog_10_method_55_code 143 = .ok (.goto 18, 3) := by decide +kernel
theorem d8_weight_146 : decode prog_10_method_55_code 146 = .ok (.iload_n 3, 1) := by decide +kernel
theorem d8_weight_147 : decode prog_10_method_55_code 147 = .ok (.iload_n 2, 1) := by decide +kernel
theorem d8_weight_148 : decode prog_10_method_55_code 148 = .ok (.isub, 1) := by decide +kernel
theorem d8_weight_149 : decode prog_10_method_55_code 149 = .ok (.invokestatic 111, 3) := by decide +kernel
theorem d8_weight_152 : decode prog_10_method_55_code 152 = .ok (.iconst 2, 1) := by decide +kernel
theorem d8_weight_153 : decode prog_10_method_55_code 153 = .ok (.if_icmp .ne 7, 3) := by decide +kernel
theorem d8_weight_156 : decode prog_10_method_55_code 156 = .ok (.iconst 2, 1) := by decide +kernel
theorem d8_weight_157 : decode prog_10_method_55_code 157 = .ok (.goto 4, 3) := by decide +kernel
theorem d8_weight_160 : decode prog_10_method_55_code 160 = .ok (.iconst 0, 1) := by decide +kernel
theorem d8_weight_161 : decode prog_10_method_55_code 161 = .ok (.ireturn, 1) := by decide +kernel
theorem d8_weight_162 : decode prog_10_method_55_code 162 = .ok (.iload_n 2, 1) := by decide +kernel
theorem d8_weight_163 : decode prog_10_method_55_code 163 = .ok (.iload_n 3, 1) := by decide +kernel
theorem d8_weight_164 : decode prog_10_method_55_code 164 = .ok (.iload 4, 2) := by decide +kernel
theorem d8_weight_166 : decode prog_10_method_55_code 166 = .ok (.invokestatic 184, 3) := by decide +kernel
theorem d8_weight_169 : decode prog_10_method_55_code 169 = .ok (.ifCond .eq 11, 3) := by decide +kernel
theorem d8_weight_172 : decode prog_10_method_55_code 172 = .ok (.bipush 12, 2) := by decide +kernel
theorem d8_weight_174 : decode prog_10_method_55_code 174 = .ok (.iload 5, 2) := by decide +kernel
theorem d8_weight_176 : decode prog_10_method_55_code 176 = .ok (.isub, 1) := by decide +kernel
theorem d8_weight_177 : decode prog_10_method_55_code 177 = .ok (.goto 5, 3) := by decide +kernel
theorem d8_weight_180 : decode prog_10_method_55_code 180 = .ok (.bipush 12, 2) := by decide +kernel
theorem d8_weight_182 : decode prog_10_method_55_code 182 = .ok (.ireturn, 1) := by decide +kernel
theorem d8_weight_183 : decode prog_10_method_55_code 183 = .ok (.iload_n 3, 1) := by decide +kernel
theorem d8_weight_184 : decode prog_10_method_55_code 184 = .ok (.iload_n 2, 1) := by decide +kernel
theorem d8_weight_185 : decode prog_10_method_55_code 185 = .ok (.invokestatic 120, 3) := by decide +kernel
theorem d8_weight_188 : decode prog_10_method_55_code 188 = .ok (.iload 4, 2) := by decide +kernel
theorem d8_weight_190 : decode prog_10_method_55_code 190 = .ok (.if_icmp .ne 8, 3) := by decide +kernel
theorem d8_weight_193 : decode prog_10_method_55_code 193 = .ok (.bipush 12, 2) := by decide +kernel
theorem d8_weight_195 : decode prog_10_method_55_code 195 = .ok (.goto 8, 3) := by decide +kernel
theorem d8_weight_198 : decode prog_10_method_55_code 198 = .ok (.bipush 12, 2) := by decide +kernel
theorem d8_weight_200 : decode prog_10_method_55_code 200 = .ok (.iload 5, 2) := by decide +kernel
theorem d8_weight_202 : decode prog_10_method_55_code 202 = .ok (.isub, 1) := by decide +kernel
theorem d8_weight_203 : decode prog_10_method_55_code 203 = .ok (.ireturn, 1) := by decide +kernel
theorem d8_weight_204 : decode prog_10_method_55_code 204 = .ok (.iload_n 3, 1) := by decide +kernel
theorem d8_weight_205 : decode prog_10_method_55_code 205 = .ok (.iload_n 2, 1) := by decide +kernel
theorem d8_weight_206 : decode prog_10_method_55_code 206 = .ok (.invokestatic 123, 3) := by decide +kernel
theorem d8_weight_209 : decode prog_10_method_55_code 209 = .ok (.iload 4, 2) := by decide +kernel
theorem d8_weight_211 : decode prog_10_method_55_code 211 = .ok (.if_icmp .gt 8, 3) := by decide +kernel
theorem d8_weight_214 : decode prog_10_method_55_code 214 = .ok (.bipush 12, 2) := by decide +kernel
theorem d8_weight_216 : decode prog_10_method_55_code 216 = .ok (.goto 8, 3) := by decide +kernel
theorem d8_weight_219 : decode prog_10_method_55_code 219 = .ok (.bipush 12, 2) := by decide +kernel
theorem d8_weight_221 : decode prog_10_method_55_code 221 = .ok (.iload 5, 2) := by decide +kernel
theorem d8_weight_223 : decode prog_10_method_55_code 223 = .ok (.isub, 1) := by decide +kernel
theorem d8_weight_224 : decode prog_10_method_55_code 224 = .ok (.ireturn, 1) := by decide +kernel
theorem d8_weight_225 : decode prog_10_method_55_code 225 = .ok (.bipush 12, 2) := by decide +kernel
theorem d8_weight_227 : decode prog_10_method_55_code 227 = .ok (.ireturn, 1) := by decide +kernel
theorem d8_fullCells_0 : decode prog_10_method_60_code 0 = .ok (.iconst 0, 1) := by decide +kernel
theorem d8_fullCells_1 : decode prog_10_method_60_code 1 = .ok (.istore_n 2, 1) := by decide +kernel
theorem d8_fullCells_2 : decode prog_10_method_60_code 2 = .ok (.iconst 0, 1) := by decide +kernel
theorem d8_fullCells_3 : decode prog_10_method_60_code 3 = .ok (.istore_n 3, 1) := by decide +kernel
theorem d8_fullCells_4 : decode prog_10_method_60_code 4 = .ok (.iload_n 3, 1) := by decide +kernel
theorem d8_fullCells_5 : decode prog_10_method_60_code 5 = .ok (.bipush 120, 2) := by decide +kernel
theorem d8_fullCells_7 : decode prog_10_method_60_code 7 = .ok (.if_icmp .ge 65, 3) := by decide +kernel
theorem d8_fullCells_10 : decode prog_10_method_60_code 10 = .ok (.iload_n 2, 1) := by decide +kernel
theorem d8_fullCells_11 : decode prog_10_method_60_code 11 = .ok (.aload_n 0, 1) := by decide +kernel
theorem d8_fullCells_12 : decode prog_10_method_60_code 12 = .ok (.iload_n 1, 1) := by decide +kernel
theorem d8_fullCells_13 : decode prog_10_method_60_code 13 = .ok (.iconst 0, 1) := by decide +kernel
theorem d8_fullCells_14 : decode prog_10_method_60_code 14 = .ok (.invokevirtual 175, 3) := by decide +kernel
theorem d8_fullCells_17 : decode prog_10_method_60_code 17 = .ok (.iconst 4, 1) := by decide +kernel
theorem d8_fullCells_18 : decode prog_10_method_60_code 18 = .ok (.if_icmp .ne 30, 3) := by decide +kernel
theorem d8_fullCells_21 : decode prog_10_method_60_code 21 = .ok (.iload_n 3, 1) := by decide +kernel
theorem d8_fullCells_22 : decode prog_10_method_60_code 22 = .ok (.aload_n 0, 1) := by decide +kernel
theorem d8_fullCells_23 : decode prog_10_method_60_code 23 = .ok (.iload_n 1, 1) := by decide +kernel
theorem d8_fullCells_24 : decode prog_10_method_60_code 24 = .ok (.iconst 1, 1) := by decide +kernel
theorem d8_fullCells_25 : decode prog_10_method_60_code 25 = .ok (.invokevirtual 175, 3) := by decide +kernel
theorem d8_fullCells_28 : decode prog_10_method_60_code 28 = .ok (.aload_n 0, 1) := by decide +kernel
theorem d8_fullCells_29 : decode prog_10_method_60_code 29 = .ok (.iload_n 1, 1) := by decide +kernel
theorem d8_fullCells_30 : decode prog_10_method_60_code 30 = .ok (.iconst 2, 1) := by decide +kernel
theorem d8_fullCells_31 : decode prog_10_method_60_code 31 = .ok (.invokevirtual 175, 3) := by decide +kernel
theorem d8_fullCells_34 : decode prog_10_method_60_code 34 = .ok (.invokestatic 184, 3) := by decide +kernel
theorem d8_fullCells_37 : decode prog_10_method_60_code 37 = .ok (.ifCond .eq 7, 3) := by decide +kernel
theorem d8_fullCells_40 : decode prog_10_method_60_code 40 = .ok (.iconst 1, 1) := by decide +kernel
theorem d8_fullCells_41 : decode prog_10_method_60_code 41 = .ok (.goto 23, 3) := by decide +kernel
theorem d8_fullCells_44 : decode prog_10_method_60_code 44 = .ok (.iconst 0, 1) := by decide +kernel
theorem d8_fullCells_45 : decode prog_10_method_60_code 45 = .ok (.goto 19, 3) := by decide +kernel
theorem d8_fullCells_48 : decode prog_10_method_60_code 48 = .ok (.aload_n 0, 1) := by decide +kernel
theorem d8_fullCells_49 : decode prog_10_method_60_code 49 = .ok (.iload_n 1, 1) := by decide +kernel
theorem d8_fullCells_50 : decode prog_10_method_60_code 50 = .ok (.iload_n 3, 1) := by decide +kernel
theorem d8_fullCells_51 : decode prog_10_method_60_code 51 = .ok (.invokevirtual 187, 3) := by decide +kernel
theorem d8_fullCells_54 : decode prog_10_method_60_code 54 = .ok (.bipush 12, 2) := by decide +kernel
theorem d8_fullCells_56 : decode prog_10_method_60_code 56 = .ok (.if_icmp .ne 7, 3) := by decide +kernel
theorem d8_fullCells_59 : decode prog_10_method_60_code 59 = .ok (.iconst 1, 1) := by decide +kernel
theorem d8_fullCells_60 : decode prog_10_method_60_code 60 = .ok (.goto 4, 3) := by decide +kernel
theorem d8_fullCells_63 : decode prog_10_method_60_code 63 = .ok (.iconst 0, 1) := by decide +kernel
theorem d8_fullCells_64 : decode prog_10_method_60_code 64 = .ok (.iadd, 1) := by decide +kernel
theorem d8_fullCells_65 : decode prog_10_method_60_code 65 = .ok (.istore_n 2, 1) := by decide +kernel
theorem d8_fullCells_66 : decode prog_10_method_60_code 66 = .ok (.iinc 3 1, 3) := by decide +kernel
theorem d8_fullCells_69 : decode prog_10_method_60_code 69 = .ok (.goto (-65), 3) := by decide +kernel
theorem d8_fullCells_72 : decode prog_10_method_60_code 72 = .ok (.iload_n 2, 1) := by decide +kernel
theorem d8_fullCells_73 : decode prog_10_method_60_code 73 = .ok (.ireturn, 1) := by decide +kernel
theorem d8_mark_0 : decode prog_10_method_59_code 0 = .ok (.aload_n 0, 1) := by decide +kernel
theorem d8_mark_1 : decode prog_10_method_59_code 1 = .ok (.iload_n 1, 1) := by decide +kernel
theorem d8_mark_2 : decode prog_10_method_59_code 2 = .ok (.invokevirtual 172, 3) := by decide +kernel
theorem d8_mark_5 : decode prog_10_method_59_code 5 = .ok (.ifCond .eq 13, 3) := by decide +kernel
theorem d8_mark_8 : decode prog_10_method_59_code 8 = .ok (.iload_n 2, 1) := by decide +kernel
theorem d8_mark_9 : decode prog_10_method_59_code 9 = .ok (.iconst 1, 1) := by decide +kernel
theorem d8_mark_10 : decode prog_10_method_59_code 10 = .ok (.bipush 7, 2) := by decide +kernel
theorem d8_mark_12 : decode prog_10_method_59_code 12 = .ok (.invokestatic 80, 3) := by decide +kernel
theorem d8_mark_15 : decode prog_10_method_59_code 15 = .ok (.ifCond .ne 5, 3) := by decide +kernel
theorem d8_mark_18 : decode prog_10_method_59_code 18 = .ok (.iconst (-1), 1) := by decide +kernel
theorem d8_mark_19 : decode prog_10_method_59_code 19 = .ok (.ireturn, 1) := by decide +kernel
theorem d8_mark_20 : decode prog_10_method_59_code 20 = .ok (.aload_n 0, 1) := by decide +kernel
theorem d8_mark_21 : decode prog_10_method_59_code 21 = .ok (.iload_n 1, 1) := by decide +kernel
theorem d8_mark_22 : decode prog_10_method_59_code 22 = .ok (.iconst 0, 1) := by decide +kernel
theorem d8_mark_23 : decode prog_10_method_59_code 23 = .ok (.invokevirtual 175, 3) := by decide +kernel
theorem d8_mark_26 : decode prog_10_method_59_code 26 = .ok (.istore_n 3, 1) := by decide +kernel
theorem d8_mark_27 : decode prog_10_method_59_code 27 = .ok (.iload_n 3, 1) := by decide +kernel
theorem d8_mark_28 : decode prog_10_method_59_code 28 = .ok (.iload_n 2, 1) := by decide +kernel
theorem d8_mark_29 : decode prog_10_method_59_code 29 = .ok (.if_icmp .eq 20, 3) := by decide +kernel
theorem d8_mark_32 : decode prog_10_method_59_code 32 = .ok (.iload_n 2, 1) := by decide +kernel
theorem d8_mark_33 : decode prog_10_method_59_code 33 = .ok (.iconst 5, 1) := by decide +kernel
theorem d8_mark_34 : decode prog_10_method_59_code 34 = .ok (.if_icmp .ne 9, 3) := by decide +kernel
theorem d8_mark_37 : decode prog_10_method_59_code 37 = .ok (.iload_n 3, 1) := by decide +kernel
theorem d8_mark_38 : decode prog_10_method_59_code 38 = .ok (.bipush 6, 2) := by decide +kernel
theorem d8_mark_40 : decode prog_10_method_59_code 40 = .ok (.if_icmp .eq 9, 3) := by decide +kernel
theorem d8_mark_43 : decode prog_10_method_59_code 43 = .ok (.aload_n 0, 1) := by decide +kernel
theorem d8_mark_44 : decode prog_10_method_59_code 44 = .ok (.iconst 3, 1) := by decide +kernel
theorem d8_mark_45 : decode prog_10_method_59_code 45 = .ok (.invokevirtual 88, 3) := by decide +kernel
theorem d8_mark_48 : decode prog_10_method_59_code 48 = .ok (.ireturn, 1) := by decide +kernel
theorem d8_mark_49 : decode prog_10_method_59_code 49 = .ok (.iload_n 2, 1) := by decide +kernel
theorem d8_mark_50 : decode prog_10_method_59_code 50 = .ok (.tableswitch 69 1 6 #[38, 69, 48, 69, 55, 62], 38) := by decide +kernel
theorem d8_mark_88 : decode prog_10_method_59_code 88 = .ok (.aload_n 0, 1) := by decide +kernel
theorem d8_mark_89 : decode prog_10_method_59_code 89 = .ok (.iload_n 1, 1) := by decide +kernel
theorem d8_mark_90 : decode prog_10_method_59_code 90 = .ok (.iconst 3, 1) := by decide +kernel
theorem d8_mark_91 : decode prog_10_method_59_code 91 = .ok (.invokevirtual 175, 3) := by decide +kernel
theorem d8_mark_94 : decode prog_10_method_59_code 94 = .ok (.invokestatic 190, 3) := by decide +kernel
theorem d8_mark_97 : decode prog_10_method_59_code 97 = .ok (.ireturn, 1) := by decide +kernel
theorem d8_mark_98 : decode prog_10_method_59_code 98 = .ok (.aload_n 0, 1) := by decide +kernel
theorem d8_mark_99 : decode prog_10_method_59_code 99 = .ok (.iload_n 1, 1) := by decide +kernel
theorem d8_mark_100 : decode prog_10_method_59_code 100 = .ok (.iconst 1, 1) := by decide +kernel
theorem d8_mark_101 : decode prog_10_method_59_code 101 = .ok (.invokevirtual 175, 3) := by decide +kernel
theorem d8_mark_104 : decode prog_10_method_59_code 104 = .ok (.ireturn, 1) := by decide +kernel
theorem d8_mark_105 : decode prog_10_method_59_code 105 = .ok (.aload_n 0, 1) := by decide +kernel
theorem d8_mark_106 : decode prog_10_method_59_code 106 = .ok (.iload_n 1, 1) := by decide +kernel
theorem d8_mark_107 : decode prog_10_method_59_code 107 = .ok (.iconst 2, 1) := by decide +kernel
theorem d8_mark_108 : decode prog_10_method_59_code 108 = .ok (.invokevirtual 175, 3) := by decide +kernel
theorem d8_mark_111 : decode prog_10_method_59_code 111 = .ok (.ireturn, 1) := by decide +kernel
theorem d8_mark_112 : decode prog_10_method_59_code 112 = .ok (.aload_n 0, 1) := by decide +kernel
theorem d8_mark_113 : decode prog_10_method_59_code 113 = .ok (.iload_n 1, 1) := by decide +kernel
theorem d8_mark_114 : decode prog_10_method_59_code 114 = .ok (.iconst 3, 1) := by decide +kernel
theorem d8_mark_115 : decode prog_10_method_59_code 115 = .ok (.invokevirtual 175, 3) := by decide +kernel
theorem d8_mark_118 : decode prog_10_method_59_code 118 = .ok (.ireturn, 1) := by decide +kernel
theorem d8_mark_119 : decode prog_10_method_59_code 119 = .ok (.aload_n 0, 1) := by decide +kernel
theorem d8_mark_120 : decode prog_10_method_59_code 120 = .ok (.iload_n 1, 1) := by decide +kernel
theorem d8_mark_121 : decode prog_10_method_59_code 121 = .ok (.invokevirtual 193, 3) := by decide +kernel
theorem d8_mark_124 : decode prog_10_method_59_code 124 = .ok (.ireturn, 1) := by decide +kernel
theorem d7_weighs_0 : decode prog_1_method_23_code 0 = .ok (.aload_n 0, 1) := by decide +kernel
theorem d7_weighs_1 : decode prog_1_method_23_code 1 = .ok (.getfield 42, 3) := by decide +kernel
theorem d7_weighs_4 : decode prog_1_method_23_code 4 = .ok (.iload_n 1, 1) := by decide +kernel
theorem d7_weighs_5 : decode prog_1_method_23_code 5 = .ok (.invokevirtual 184, 3) := by decide +kernel
theorem d7_weighs_8 : decode prog_1_method_23_code 8 = .ok (.ifCond .ne 5, 3) := by decide +kernel
theorem d7_weighs_11 : decode prog_1_method_23_code 11 = .ok (.iconst (-1), 1) := by decide +kernel
theorem d7_weighs_12 : decode prog_1_method_23_code 12 = .ok (.ireturn, 1) := by decide +kernel
theorem d7_weighs_13 : decode prog_1_method_23_code 13 = .ok (.aload_n 0, 1) := by decide +kernel
theorem d7_weighs_14 : decode prog_1_method_23_code 14 = .ok (.getfield 42, 3) := by decide +kernel
theorem d7_weighs_17 : decode prog_1_method_23_code 17 = .ok (.getfield 187, 3) := by decide +kernel
theorem d7_weighs_20 : decode prog_1_method_23_code 20 = .ok (.iload_n 1, 1) := by decide +kernel
theorem d7_weighs_21 : decode prog_1_method_23_code 21 = .ok (.aaload, 1) := by decide +kernel
theorem d7_weighs_22 : decode prog_1_method_23_code 22 = .ok (.astore_n 3, 1) := by decide +kernel
theorem d7_weighs_23 : decode prog_1_method_23_code 23 = .ok (.aload_n 3, 1) := by decide +kernel
theorem d7_weighs_24 : decode prog_1_method_23_code 24 = .ok (.getfield 202, 3) := by decide +kernel
theorem d7_weighs_27 : decode prog_1_method_23_code 27 = .ok (.iconst 3, 1) := by decide +kernel
theorem d7_weighs_28 : decode prog_1_method_23_code 28 = .ok (.if_icmp .ne 12, 3) := by decide +kernel
theorem d7_weighs_31 : decode prog_1_method_23_code 31 = .ok (.iload_n 2, 1) := by decide +kernel
theorem d7_weighs_32 : decode prog_1_method_23_code 32 = .ok (.bipush 6, 2) := by decide +kernel
theorem d7_weighs_34 : decode prog_1_method_23_code 34 = .ok (.invokestatic 137, 3) := by decide +kernel
theorem d7_weighs_37 : decode prog_1_method_23_code 37 = .ok (.goto 7, 3) := by decide +kernel
theorem d7_weighs_40 : decode prog_1_method_23_code 40 = .ok (.iload_n 2, 1) := by decide +kernel
theorem d7_weighs_41 : decode prog_1_method_23_code 41 = .ok (.invokestatic 120, 3) := by decide +kernel
theorem d7_weighs_44 : decode prog_1_method_23_code 44 = .ok (.istore 4, 2) := by decide +kernel
theorem d7_weighs_46 : decode prog_1_method_23_code 46 = .ok (.iload 4, 2) := by decide +kernel
theorem d7_weighs_48 : decode prog_1_method_23_code 48 = .ok (.ifCond .eq 11, 3) := by decide +kernel
theorem d7_weighs_51 : decode prog_1_method_23_code 51 = .ok (.aload_n 3, 1) := by decide +kernel
theorem d7_weighs_52 : decode prog_1_method_23_code 52 = .ok (.iload_n 2, 1) := by decide +kernel
theorem d7_weighs_53 : decode prog_1_method_23_code 53 = .ok (.invokevirtual 205, 3) := by decide +kernel
theorem d7_weighs_56 : decode prog_1_method_23_code 56 = .ok (.goto 4, 3) := by decide +kernel
theorem d7_weighs_59 : decode prog_1_method_23_code 59 = .ok (.iconst (-1), 1) := by decide +kernel
theorem d7_weighs_60 : decode prog_1_method_23_code 60 = .ok (.ireturn, 1) := by decide +kernel
theorem d8_weighs_0 : decode prog_10_method_56_code 0 = .ok (.aload_n 0, 1) := by decide +kernel
theorem d8_weighs_1 : decode prog_10_method_56_code 1 = .ok (.iload_n 1, 1) := by decide +kernel
theorem d8_weighs_2 : decode prog_10_method_56_code 2 = .ok (.invokevirtual 172, 3) := by decide +kernel
theorem d8_weighs_5 : decode prog_10_method_56_code 5 = .ok (.ifCond .eq 33, 3) := by decide +kernel
theorem d8_weighs_8 : decode prog_10_method_56_code 8 = .ok (.aload_n 0, 1) := by decide +kernel
theorem d8_weighs_9 : decode prog_10_method_56_code 9 = .ok (.iload_n 1, 1) := by decide +kernel
theorem d8_weighs_10 : decode prog_10_method_56_code 10 = .ok (.iconst 0, 1) := by decide +kernel
theorem d8_weighs_11 : decode prog_10_method_56_code 11 = .ok (.invokevirtual 175, 3) := by decide +kernel
theorem d8_weighs_14 : decode prog_10_method_56_code 14 = .ok (.iconst 3, 1) := by decide +kernel
theorem d8_weighs_15 : decode prog_10_method_56_code 15 = .ok (.if_icmp .ne 16, 3) := by decide +kernel
theorem d8_weighs_18 : decode prog_10_method_56_code 18 = .ok (.iload_n 2, 1) := by decide +kernel
theorem d8_weighs_19 : decode prog_10_method_56_code 19 = .ok (.iconst 0, 1) := by decide +kernel
theorem d8_weighs_20 : decode prog_10_method_56_code 20 = .ok (.bipush 6, 2) := by decide +kernel
theorem d8_weighs_22 : decode prog_10_method_56_code 22 = .ok (.invokestatic 80, 3) := by decide +kernel
theorem d8_weighs_25 : decode prog_10_method_56_code 25 = .ok (.ifCond .eq 13, 3) := by decide +kernel
theorem d8_weighs_28 : decode prog_10_method_56_code 28 = .ok (.goto 12, 3) := by decide +kernel
theorem d8_weighs_31 : decode prog_10_method_56_code 31 = .ok (.iload_n 2, 1) := by decide +kernel
theorem d8_weighs_32 : decode prog_10_method_56_code 32 = .ok (.invokestatic 117, 3) := by decide +kernel
theorem d8_weighs_35 : decode prog_10_method_56_code 35 = .ok (.ifCond .ne 5, 3) := by decide +kernel
theorem d8_weighs_38 : decode prog_10_method_56_code 38 = .ok (.iconst (-1), 1) := by decide +kernel
theorem d8_weighs_39 : decode prog_10_method_56_code 39 = .ok (.ireturn, 1) := by decide +kernel
theorem d8_weighs_40 : decode prog_10_method_56_code 40 = .ok (.aload_n 0, 1) := by decide +kernel
theorem d8_weighs_41 : decode prog_10_method_56_code 41 = .ok (.iload_n 1, 1) := by decide +kernel
theorem d8_weighs_42 : decode prog_10_method_56_code 42 = .ok (.iload_n 2, 1) := by decide +kernel
theorem d8_weighs_43 : decode prog_10_method_56_code 43 = .ok (.invokevirtual 187, 3) := by decide +kernel
theorem d8_weighs_46 : decode prog_10_method_56_code 46 = .ok (.ireturn, 1) := by decide +kernel
theorem d6_farthestHeard_0 : decode prog_8_method_17_code 0 = .ok (.bipush 11, 2) := by decide +kernel
theorem d6_farthestHeard_2 : decode prog_8_method_17_code 2 = .ok (.istore_n 1, 1) := by decide +kernel
theorem d6_farthestHeard_3 : decode prog_8_method_17_code 3 = .ok (.iload_n 1, 1) := by decide +kernel
theorem d6_farthestHeard_4 : decode prog_8_method_17_code 4 = .ok (.ifCond .lt 21, 3) := by decide +kernel
theorem d6_farthestHeard_7 : decode prog_8_method_17_code 7 = .ok (.iload_n 0, 1) := by decide +kernel
theorem d6_farthestHeard_8 : decode prog_8_method_17_code 8 = .ok (.iload_n 1, 1) := by decide +kernel
theorem d6_farthestHeard_9 : decode prog_8_method_17_code 9 = .ok (.invokestatic 50, 3) := by decide +kernel
theorem d6_farthestHeard_12 : decode prog_8_method_17_code 12 = .ok (.bipush 8, 2) := by decide +kernel
theorem d6_farthestHeard_14 : decode prog_8_method_17_code 14 = .ok (.if_icmp .lt 5, 3) := by decide +kernel
theorem d6_farthestHeard_17 : decode prog_8_method_17_code 17 = .ok (.iload_n 1, 1) := by decide +kernel
theorem d6_farthestHeard_18 : decode prog_8_method_17_code 18 = .ok (.ireturn, 1) := by decide +kernel
theorem d6_farthestHeard_19 : decode prog_8_method_17_code 19 = .ok (.iinc 1 (-1), 3) := by decide +kernel
theorem d6_farthestHeard_22 : decode prog_8_method_17_code 22 = .ok (.goto (-19), 3) := by decide +kernel
theorem d6_farthestHeard_25 : decode prog_8_method_17_code 25 = .ok (.bipush (-9), 2) := by decide +kernel
theorem d6_farthestHeard_27 : decode prog_8_method_17_code 27 = .ok (.ireturn, 1) := by decide +kernel
theorem d7_near_0 : decode prog_1_method_24_code 0 = .ok (.iload_n 1, 1) := by decide +kernel
theorem d7_near_1 : decode prog_1_method_24_code 1 = .ok (.iconst 5, 1) := by decide +kernel
theorem d7_near_2 : decode prog_1_method_24_code 2 = .ok (.invokestatic 137, 3) := by decide +kernel
theorem d7_near_5 : decode prog_1_method_24_code 5 = .ok (.ifCond .ne 5, 3) := by decide +kernel
theorem d7_near_8 : decode prog_1_method_24_code 8 = .ok (.iconst (-1), 1) := by decide +kernel
theorem d7_near_9 : decode prog_1_method_24_code 9 = .ok (.ireturn, 1) := by decide +kernel
theorem d7_near_10 : decode prog_1_method_24_code 10 = .ok (.aload_n 0, 1) := by decide +kernel
theorem d7_near_11 : decode prog_1_method_24_code 11 = .ok (.iload_n 1, 1) := by decide +kernel
theorem d7_near_12 : decode prog_1_method_24_code 12 = .ok (.invokestatic 208, 3) := by decide +kernel
theorem d7_near_15 : decode prog_1_method_24_code 15 = .ok (.putfield 65, 3) := by decide +kernel
theorem d7_near_18 : decode prog_1_method_24_code 18 = .ok (.iload_n 1, 1) := by decide +kernel
theorem d7_near_19 : decode prog_1_method_24_code 19 = .ok (.invokestatic 211, 3) := by decide +kernel
theorem d7_near_22 : decode prog_1_method_24_code 22 = .ok (.ireturn, 1) := by decide +kernel
theorem d8_near_0 : decode prog_10_method_58_code 0 = .ok (.iload_n 1, 1) := by decide +kernel
theorem d8_near_1 : decode prog_10_method_58_code 1 = .ok (.iconst 0, 1) := by decide +kernel
theorem d8_near_2 : decode prog_10_method_58_code 2 = .ok (.iconst 5, 1) := by decide +kernel
theorem d8_near_3 : decode prog_10_method_58_code 3 = .ok (.invokestatic 80, 3) := by decide +kernel
theorem d8_near_6 : decode prog_10_method_58_code 6 = .ok (.ifCond .ne 5, 3) := by decide +kernel
theorem d8_near_9 : decode prog_10_method_58_code 9 = .ok (.iconst (-1), 1) := by decide +kernel
theorem d8_near_10 : decode prog_10_method_58_code 10 = .ok (.ireturn, 1) := by decide +kernel
theorem d8_near_11 : decode prog_10_method_58_code 11 = .ok (.bipush 11, 2) := by decide +kernel
theorem d8_near_13 : decode prog_10_method_58_code 13 = .ok (.istore_n 2, 1) := by decide +kernel
theorem d8_near_14 : decode prog_10_method_58_code 14 = .ok (.iload_n 1, 1) := by decide +kernel
theorem d8_near_15 : decode prog_10_method_58_code 15 = .ok (.iload_n 2, 1) := by decide +kernel
theorem d8_near_16 : decode prog_10_method_58_code 16 = .ok (.invokestatic 181, 3) := by decide +kernel
theorem d8_near_19 : decode prog_10_method_58_code 19 = .ok (.bipush 8, 2) := by decide +kernel
theorem d8_near_21 : decode prog_10_method_58_code 21 = .ok (.if_icmp .ge 9, 3) := by decide +kernel
theorem d8_near_24 : decode prog_10_method_58_code 24 = .ok (.iinc 2 (-1), 3) := by decide +kernel
theorem d8_near_27 : decode prog_10_method_58_code 27 = .ok (.goto (-13), 3) := by decide +kernel
theorem d8_near_30 : decode prog_10_method_58_code 30 = .ok (.aload_n 0, 1) := by decide +kernel
theorem d8_near_31 : decode prog_10_method_58_code 31 = .ok (.iload_n 2, 1) := by decide +kernel
theorem d8_near_32 : decode prog_10_method_58_code 32 = .ok (.iload_n 1, 1) := by decide +kernel
theorem d8_near_33 : decode prog_10_method_58_code 33 = .ok (.invokestatic 190, 3) := by decide +kernel
theorem d8_near_36 : decode prog_10_method_58_code 36 = .ok (.invokevirtual 102, 3) := by decide +kernel
theorem d8_near_39 : decode prog_10_method_58_code 39 = .ok (.ireturn, 1) := by decide +kernel
theorem d7_isStory_0 : decode prog_1_method_52_code 0 = .ok (.iload_n 0, 1) := by decide +kernel
theorem d7_isStory_1 : decode prog_1_method_52_code 1 = .ok (.ifCond .lt 12, 3) := by decide +kernel
theorem d7_isStory_4 : decode prog_1_method_52_code 4 = .ok (.iload_n 0, 1) := by decide +kernel
theorem d7_isStory_5 : decode prog_1_method_52_code 5 = .ok (.iconst 3, 1) := by decide +kernel
theorem d7_isStory_6 : decode prog_1_method_52_code 6 = .ok (.if_icmp .gt 7, 3) := by decide +kernel
theorem d7_isStory_9 : decode prog_1_method_52_code 9 = .ok (.iconst 1, 1) := by decide +kernel
theorem d7_isStory_10 : decode prog_1_method_52_code 10 = .ok (.goto 4, 3) := by decide +kernel
theorem d7_isStory_13 : decode prog_1_method_52_code 13 = .ok (.iconst 0, 1) := by decide +kernel
theorem d7_isStory_14 : decode prog_1_method_52_code 14 = .ok (.ireturn, 1) := by decide +kernel
theorem d6_counts_0 : decode prog_8_method_6_code 0 = .ok (.aload_n 0, 1) := by decide +kernel
theorem d6_counts_1 : decode prog_8_method_6_code 1 = .ok (.getfield 24, 3) := by decide +kernel
theorem d6_counts_4 : decode prog_8_method_6_code 4 = .ok (.ifCond .ne 14, 3) := by decide +kernel
theorem d6_counts_7 : decode prog_8_method_6_code 7 = .ok (.aload_n 0, 1) := by decide +kernel
theorem d6_counts_8 : decode prog_8_method_6_code 8 = .ok (.getfield 11, 3) := by decide +kernel
theorem d6_counts_11 : decode prog_8_method_6_code 11 = .ok (.ifCond .eq 7, 3) := by decide +kernel
theorem d6_counts_14 : decode prog_8_method_6_code 14 = .ok (.iconst 1, 1) := by decide +kernel
theorem d6_counts_15 : decode prog_8_method_6_code 15 = .ok (.goto 4, 3) := by decide +kernel
theorem d6_counts_18 : decode prog_8_method_6_code 18 = .ok (.iconst 0, 1) := by decide +kernel
theorem d6_counts_19 : decode prog_8_method_6_code 19 = .ok (.ireturn, 1) := by decide +kernel
theorem d0_busy_0 : decode prog_2_method_4_code 0 = .ok (.iconst 0, 1) := by decide +kernel
theorem d0_busy_1 : decode prog_2_method_4_code 1 = .ok (.istore_n 1, 1) := by decide +kernel
theorem d0_busy_2 : decode prog_2_method_4_code 2 = .ok (.iconst 0, 1) := by decide +kernel
theorem d0_busy_3 : decode prog_2_method_4_code 3 = .ok (.istore_n 2, 1) := by decide +kernel
theorem d0_busy_4 : decode prog_2_method_4_code 4 = .ok (.iload_n 2, 1) := by decide +kernel
theorem d0_busy_5 : decode prog_2_method_4_code 5 = .ok (.aload_n 0, 1) := by decide +kernel
theorem d0_busy_6 : decode prog_2_method_4_code 6 = .ok (.getfield 17, 3) := by decide +kernel
theorem d0_busy_9 : decode prog_2_method_4_code 9 = .ok (.if_icmp .ge 29, 3) := by decide +kernel
theorem d0_busy_12 : decode prog_2_method_4_code 12 = .ok (.iload_n 1, 1) := by decide +kernel
theorem d0_busy_13 : decode prog_2_method_4_code 13 = .ok (.aload_n 0, 1) := by decide +kernel
theorem d0_busy_14 : decode prog_2_method_4_code 14 = .ok (.getfield 13, 3) := by decide +kernel
theorem d0_busy_17 : decode prog_2_method_4_code 17 = .ok (.iload_n 2, 1) := by decide +kernel
theorem d0_busy_18 : decode prog_2_method_4_code 18 = .ok (.aaload, 1) := by decide +kernel
theorem d0_busy_19 : decode prog_2_method_4_code 19 = .ok (.invokevirtual 26, 3) := by decide +kernel
theorem d0_busy_22 : decode prog_2_method_4_code 22 = .ok (.ifCond .eq 7, 3) := by decide +kernel
theorem d0_busy_25 : decode prog_2_method_4_code 25 = .ok (.iconst 1, 1) := by decide +kernel
theorem d0_busy_26 : decode prog_2_method_4_code 26 = .ok (.goto 4, 3) := by decide +kernel
theorem d0_busy_29 : decode prog_2_method_4_code 29 = .ok (.iconst 0, 1) := by decide +kernel
theorem d0_busy_30 : decode prog_2_method_4_code 30 = .ok (.iadd, 1) := by decide +kernel
theorem d0_busy_31 : decode prog_2_method_4_code 31 = .ok (.istore_n 1, 1) := by decide +kernel
theorem d0_busy_32 : decode prog_2_method_4_code 32 = .ok (.iinc 2 1, 3) := by decide +kernel
theorem d0_busy_35 : decode prog_2_method_4_code 35 = .ok (.goto (-31), 3) := by decide +kernel
theorem d0_busy_38 : decode prog_2_method_4_code 38 = .ok (.iload_n 1, 1) := by decide +kernel
theorem d0_busy_39 : decode prog_2_method_4_code 39 = .ok (.ireturn, 1) := by decide +kernel
theorem d7_barred_0 : decode prog_1_method_58_code 0 = .ok (.aload_n 0, 1) := by decide +kernel
theorem d7_barred_1 : decode prog_1_method_58_code 1 = .ok (.iload_n 1, 1) := by decide +kernel
theorem d7_barred_2 : decode prog_1_method_58_code 2 = .ok (.invokevirtual 160, 3) := by decide +kernel
theorem d7_barred_5 : decode prog_1_method_58_code 5 = .ok (.ifCond .eq 9, 3) := by decide +kernel
theorem d7_barred_8 : decode prog_1_method_58_code 8 = .ok (.aload_n 0, 1) := by decide +kernel
theorem d7_barred_9 : decode prog_1_method_58_code 9 = .ok (.iconst 1, 1) := by decide +kernel
theorem d7_barred_10 : decode prog_1_method_58_code 10 = .ok (.invokevirtual 92, 3) := by decide +kernel
theorem d7_barred_13 : decode prog_1_method_58_code 13 = .ok (.ireturn, 1) := by decide +kernel
theorem d7_barred_14 : decode prog_1_method_58_code 14 = .ok (.aload_n 0, 1) := by decide +kernel
theorem d7_barred_15 : decode prog_1_method_58_code 15 = .ok (.getfield 42, 3) := by decide +kernel
theorem d7_barred_18 : decode prog_1_method_58_code 18 = .ok (.invokevirtual 260, 3) := by decide +kernel
theorem d7_barred_21 : decode prog_1_method_58_code 21 = .ok (.iload_n 2, 1) := by decide +kernel
theorem d7_barred_22 : decode prog_1_method_58_code 22 = .ok (.if_icmp .le 8, 3) := by decide +kernel
theorem d7_barred_25 : decode prog_1_method_58_code 25 = .ok (.bipush (-6), 2) := by decide +kernel
theorem d7_barred_27 : decode prog_1_method_58_code 27 = .ok (.goto 4, 3) := by decide +kernel
theorem d7_barred_30 : decode prog_1_method_58_code 30 = .ok (.iconst 0, 1) := by decide +kernel
theorem d7_barred_31 : decode prog_1_method_58_code 31 = .ok (.ireturn, 1) := by decide +kernel
theorem dA_fillJ_0 : decode prog_14_method_101_code 0 = .ok (.iconst 0, 1) := by decide +kernel
theorem dA_fillJ_1 : decode prog_14_method_101_code 1 = .ok (.istore_n 3, 1) := by decide +kernel
theorem dA_fillJ_2 : decode prog_14_method_101_code 2 = .ok (.aload_n 0, 1) := by decide +kernel
theorem dA_fillJ_3 : decode prog_14_method_101_code 3 = .ok (.arraylength, 1) := by decide +kernel
theorem dA_fillJ_4 : decode prog_14_method_101_code 4 = .ok (.istore 4, 2) := by decide +kernel
theorem dA_fillJ_6 : decode prog_14_method_101_code 6 = .ok (.iload_n 3, 1) := by decide +kernel
theorem dA_fillJ_7 : decode prog_14_method_101_code 7 = .ok (.iload 4, 2) := by decide +kernel
theorem dA_fillJ_9 : decode prog_14_method_101_code 9 = .ok (.if_icmp .ge 13, 3) := by decide +kernel
theorem dA_fillJ_12 : decode prog_14_method_101_code 12 = .ok (.aload_n 0, 1) := by decide +kernel
theorem dA_fillJ_13 : decode prog_14_method_101_code 13 = .ok (.iload_n 3, 1) := by decide +kernel
theorem dA_fillJ_14 : decode prog_14_method_101_code 14 = .ok (.lload_n 1, 1) := by decide +kernel
theorem dA_fillJ_15 : decode prog_14_method_101_code 15 = .ok (.lastore, 1) := by decide +kernel
theorem dA_fillJ_16 : decode prog_14_method_101_code 16 = .ok (.iinc 3 1, 3) := by decide +kernel
theorem dA_fillJ_19 : decode prog_14_method_101_code 19 = .ok (.goto (-13), 3) := by decide +kernel
theorem dA_fillJ_22 : decode prog_14_method_101_code 22 = .ok (.return_, 1) := by decide +kernel
theorem d2_weighsIn_0 : decode prog_4_method_7_code 0 = .ok (.iload_n 1, 1) := by decide +kernel
theorem d2_weighsIn_1 : decode prog_4_method_7_code 1 = .ok (.iload_n 2, 1) := by decide +kernel
theorem d2_weighsIn_2 : decode prog_4_method_7_code 2 = .ok (.if_icmp .eq 22, 3) := by decide +kernel
theorem d2_weighsIn_5 : decode prog_4_method_7_code 5 = .ok (.aload_n 0, 1) := by decide +kernel
theorem d2_weighsIn_6 : decode prog_4_method_7_code 6 = .ok (.getfield 21, 3) := by decide +kernel
theorem d2_weighsIn_9 : decode prog_4_method_7_code 9 = .ok (.getfield 72, 3) := by decide +kernel
theorem d2_weighsIn_12 : decode prog_4_method_7_code 12 = .ok (.iload_n 1, 1) := by decide +kernel
theorem d2_weighsIn_13 : decode prog_4_method_7_code 13 = .ok (.aaload, 1) := by decide +kernel
theorem d2_weighsIn_14 : decode prog_4_method_7_code 14 = .ok (.invokevirtual 76, 3) := by decide +kernel
theorem d2_weighsIn_17 : decode prog_4_method_7_code 17 = .ok (.ifCond .eq 7, 3) := by decide +kernel
theorem d2_weighsIn_20 : decode prog_4_method_7_code 20 = .ok (.iconst 1, 1) := by decide +kernel
theorem d2_weighsIn_21 : decode prog_4_method_7_code 21 = .ok (.goto 4, 3) := by decide +kernel
theorem d2_weighsIn_24 : decode prog_4_method_7_code 24 = .ok (.iconst 0, 1) := by decide +kernel
theorem d2_weighsIn_25 : decode prog_4_method_7_code 25 = .ok (.ireturn, 1) := by decide +kernel
theorem d6_isByHour_0 : decode prog_8_method_7_code 0 = .ok (.aload_n 0, 1) := by decide +kernel
theorem d6_isByHour_1 : decode prog_8_method_7_code 1 = .ok (.getfield 11, 3) := by decide +kernel
theorem d6_isByHour_4 : decode prog_8_method_7_code 4 = .ok (.iconst 1, 1) := by decide +kernel
theorem d6_isByHour_5 : decode prog_8_method_7_code 5 = .ok (.if_icmp .eq 11, 3) := by decide +kernel
theorem d6_isByHour_8 : decode prog_8_method_7_code 8 = .ok (.aload_n 0, 1) := by decide +kernel
theorem d6_isByHour_9 : decode prog_8_method_7_code 9 = .ok (.getfield 11, 3) := by decide +kernel
theorem d6_isByHour_12 : decode prog_8_method_7_code 12 = .ok (.iconst 2, 1) := by decide +kernel
theorem d6_isByHour_13 : decode prog_8_method_7_code 13 = .ok (.if_icmp .ne 7, 3) := by decide +kernel
theorem d6_isByHour_16 : decode prog_8_method_7_code 16 = .ok (.iconst 1, 1) := by decide +kernel
theorem d6_isByHour_17 : decode prog_8_method_7_code 17 = .ok (.goto 4, 3) := by decide +kernel
theorem d6_isByHour_20 : decode prog_8_method_7_code 20 = .ok (.iconst 0, 1) := by decide +kernel
theorem d6_isByHour_21 : decode prog_8_method_7_code 21 = .ok (.ireturn, 1) := by decide +kernel
theorem d2_weighAtLast_0 : decode prog_4_method_14_code 0 = .ok (.aload_n 0, 1) := by decide +kernel
theorem d2_weighAtLast_1 : decode prog_4_method_14_code 1 = .ok (.getfield 49, 3) := by decide +kernel
theorem d2_weighAtLast_4 : decode prog_4_method_14_code 4 = .ok (.lconst 1, 1) := by decide +kernel
theorem d2_weighAtLast_5 : decode prog_4_method_14_code 5 = .ok (.invokestatic 97, 3) := by decide +kernel
theorem d2_weighAtLast_8 : decode prog_4_method_14_code 8 = .ok (.iconst 0, 1) := by decide +kernel
theorem d2_weighAtLast_9 : decode prog_4_method_14_code 9 = .ok (.istore_n 2, 1) := by decide +kernel
theorem d2_weighAtLast_10 : decode prog_4_method_14_code 10 = .ok (.iload_n 2, 1) := by decide +kernel
theorem d2_weighAtLast_11 : decode prog_4_method_14_code 11 = .ok (.aload_n 0, 1) := by decide +kernel
theorem d2_weighAtLast_12 : decode prog_4_method_14_code 12 = .ok (.getfield 21, 3) := by decide +kernel
theorem d2_weighAtLast_15 : decode prog_4_method_14_code 15 = .ok (.getfield 82, 3) := by decide +kernel
theorem d2_weighAtLast_18 : decode prog_4_method_14_code 18 = .ok (.if_icmp .ge 76, 3) := by decide +kernel
theorem d2_weighAtLast_21 : decode prog_4_method_14_code 21 = .ok (.aload_n 0, 1) := by decide +kernel
theorem d2_weighAtLast_22 : decode prog_4_method_14_code 22 = .ok (.getfield 21, 3) := by decide +kernel
theorem d2_weighAtLast_25 : decode prog_4_method_14_code 25 = .ok (.getfield 72, 3) := by decide +kernel
theorem d2_weighAtLast_28 : decode prog_4_method_14_code 28 = .ok (.iload_n 2, 1) := by decide +kernel
theorem d2_weighAtLast_29 : decode prog_4_method_14_code 29 = .ok (.aaload, 1) := by decide +kernel
theorem d2_weighAtLast_30 : decode prog_4_method_14_code 30 = .ok (.astore_n 3, 1) := by decide +kernel
theorem d2_weighAtLast_31 : decode prog_4_method_14_code 31 = .ok (.aload_n 0, 1) := by decide +kernel
theorem d2_weighAtLast_32 : decode prog_4_method_14_code 32 = .ok (.iload_n 2, 1) := by decide +kernel
theorem d2_weighAtLast_33 : decode prog_4_method_14_code 33 = .ok (.iload_n 1, 1) := by decide +kernel
theorem d2_weighAtLast_34 : decode prog_4_method_14_code 34 = .ok (.invokevirtual 85, 3) := by decide +kernel
theorem d2_weighAtLast_37 : decode prog_4_method_14_code 37 = .ok (.ifCond .eq 51, 3) := by decide +kernel
theorem d2_weighAtLast_40 : decode prog_4_method_14_code 40 = .ok (.aload_n 3, 1) := by decide +kernel
theorem d2_weighAtLast_41 : decode prog_4_method_14_code 41 = .ok (.getfield 89, 3) := by decide +kernel
theorem d2_weighAtLast_44 : decode prog_4_method_14_code 44 = .ok (.iconst 3, 1) := by decide +kernel
theorem d2_weighAtLast_45 : decode prog_4_method_14_code 45 = .ok (.if_icmp .eq 43, 3) := by decide +kernel
theorem d2_weighAtLast_48 : decode prog_4_method_14_code 48 = .ok (.aload_n 3, 1) := by decide +kernel
theorem d2_weighAtLast_49 : decode prog_4_method_14_code 49 = .ok (.invokevirtual 127, 3) := by decide +kernel
theorem d2_weighAtLast_52 : decode prog_4_method_14_code 52 = .ok (.ifCond .ne 36, 3) := by decide +kernel
theorem d2_weighAtLast_55 : decode prog_4_method_14_code 55 = .ok (.iconst 0, 1) := by decide +kernel
theorem d2_weighAtLast_56 : decode prog_4_method_14_code 56 = .ok (.istore 4, 2) := by decide +kernel
theorem d2_weighAtLast_58 : decode prog_4_method_14_code 58 = .ok (.iload 4, 2) := by decide +kernel
theorem d2_weighAtLast_60 : decode prog_4_method_14_code 60 = .ok (.bipush 120, 2) := by decide +kernel
theorem d2_weighAtLast_62 : decode prog_4_method_14_code 62 = .ok (.if_icmp .ge 26, 3) := by decide +kernel
theorem d2_weighAtLast_65 : decode prog_4_method_14_code 65 = .ok (.aload_n 0, 1) := by decide +kernel
theorem d2_weighAtLast_66 : decode prog_4_method_14_code 66 = .ok (.getfield 49, 3) := by decide +kernel
theorem d2_weighAtLast_69 : decode prog_4_method_14_code 69 = .ok (.iload 4, 2) := by decide +kernel
theorem d2_weighAtLast_71 : decode prog_4_method_14_code 71 = .ok (.dup2, 1) := by decide +kernel
theorem d2_weighAtLast_72 : decode prog_4_method_14_code 72 = .ok (.laload, 1) := by decide +kernel
theorem d2_weighAtLast_73 : decode prog_4_method_14_code 73 = .ok (.aload_n 3, 1) := by decide +kernel
theorem d2_weighAtLast_74 : decode prog_4_method_14_code 74 = .ok (.iload 4, 2) := by decide +kernel
theorem d2_weighAtLast_76 : decode prog_4_method_14_code 76 = .ok (.invokevirtual 94, 3) := by decide +kernel
theorem d2_weighAtLast_79 : decode prog_4_method_14_code 79 = .ok (.i2l, 1) := by decide +kernel
theorem d2_weighAtLast_80 : decode prog_4_method_14_code 80 = .ok (.lmul, 1) := by decide +kernel
theorem d2_weighAtLast_81 : decode prog_4_method_14_code 81 = .ok (.lastore, 1) := by decide +kernel
theorem d2_weighAtLast_82 : decode prog_4_method_14_code 82 = .ok (.iinc 4 1, 3) := by decide +kernel
theorem d2_weighAtLast_85 : decode prog_4_method_14_code 85 = .ok (.goto (-27), 3) := by decide +kernel
theorem d2_weighAtLast_88 : decode prog_4_method_14_code 88 = .ok (.iinc 2 1, 3) := by decide +kernel
theorem d2_weighAtLast_91 : decode prog_4_method_14_code 91 = .ok (.goto (-81), 3) := by decide +kernel
theorem d2_weighAtLast_94 : decode prog_4_method_14_code 94 = .ok (.return_, 1) := by decide +kernel
theorem d2_weighByHour_0 : decode prog_4_method_10_code 0 = .ok (.iconst 0, 1) := by decide +kernel
theorem d2_weighByHour_1 : decode prog_4_method_10_code 1 = .ok (.istore_n 3, 1) := by decide +kernel
theorem d2_weighByHour_2 : decode prog_4_method_10_code 2 = .ok (.iload_n 3, 1) := by decide +kernel
theorem d2_weighByHour_3 : decode prog_4_method_10_code 3 = .ok (.aload_n 0, 1) := by decide +kernel
theorem d2_weighByHour_4 : decode prog_4_method_10_code 4 = .ok (.getfield 21, 3) := by decide +kernel
theorem d2_weighByHour_7 : decode prog_4_method_10_code 7 = .ok (.getfield 82, 3) := by decide +kernel
theorem d2_weighByHour_10 : decode prog_4_method_10_code 10 = .ok (.if_icmp .ge 92, 3) := by decide +kernel
theorem d2_weighByHour_13 : decode prog_4_method_10_code 13 = .ok (.aload_n 0, 1) := by decide +kernel
theorem d2_weighByHour_14 : decode prog_4_method_10_code 14 = .ok (.getfield 21, 3) := by decide +kernel
theorem d2_weighByHour_17 : decode prog_4_method_10_code 17 = .ok (.getfield 72, 3) := by decide +kernel
theorem d2_weighByHour_20 : decode prog_4_method_10_code 20 = .ok (.iload_n 3, 1) := by decide +kernel
theorem d2_weighByHour_21 : decode prog_4_method_10_code 21 = .ok (.aaload, 1) := by decide +kernel
theorem d2_weighByHour_22 : decode prog_4_method_10_code 22 = .ok (.astore 4, 2) := by decide +kernel
theorem d2_weighByHour_24 : decode prog_4_method_10_code 24 = .ok (.aload_n 0, 1) := by decide +kernel
theorem d2_weighByHour_25 : decode prog_4_method_10_code 25 = .ok (.iload_n 3, 1) := by decide +kernel
theorem d2_weighByHour_26 : decode prog_4_method_10_code 26 = .ok (.iload_n 2, 1) := by decide +kernel
theorem d2_weighByHour_27 : decode prog_4_method_10_code 27 = .ok (.invokevirtual 85, 3) := by decide +kernel
theorem d2_weighByHour_30 : decode prog_4_method_10_code 30 = .ok (.ifCond .eq 66, 3) := by decide +kernel
theorem d2_weighByHour_33 : decode prog_4_method_10_code 33 = .ok (.aload 4, 2) := by decide +kernel
theorem d2_weighByHour_35 : decode prog_4_method_10_code 35 = .ok (.invokevirtual 127, 3) := by decide +kernel
theorem d2_weighByHour_38 : decode prog_4_method_10_code 38 = .ok (.ifCond .eq 58, 3) := by decide +kernel
theorem d2_weighByHour_41 : decode prog_4_method_10_code 41 = .ok (.aload 4, 2) := by decide +kernel
theorem d2_weighByHour_43 : decode prog_4_method_10_code 43 = .ok (.getfield 130, 3) := by decide +kernel
theorem d2_weighByHour_46 : decode prog_4_method_10_code 46 = .ok (.iload_n 1, 1) := by decide +kernel
theorem d2_weighByHour_47 : decode prog_4_method_10_code 47 = .ok (.if_icmp .ne 49, 3) := by decide +kernel
theorem d2_weighByHour_50 : decode prog_4_method_10_code 50 = .ok (.iconst 0, 1) := by decide +kernel
theorem d2_weighByHour_51 : decode prog_4_method_10_code 51 = .ok (.istore 5, 2) := by decide +kernel
theorem d2_weighByHour_53 : decode prog_4_method_10_code 53 = .ok (.iload 5, 2) := by decide +kernel
theorem d2_weighByHour_55 : decode prog_4_method_10_code 55 = .ok (.bipush 120, 2) := by decide +kernel
theorem d2_weighByHour_57 : decode prog_4_method_10_code 57 = .ok (.if_icmp .ge 39, 3) := by decide +kernel
theorem d2_weighByHour_60 : decode prog_4_method_10_code 60 = .ok (.aload_n 0, 1) := by decide +kernel
theorem d2_weighByHour_61 : decode prog_4_method_10_code 61 = .ok (.getfield 43, 3) := by decide +kernel
theorem d2_weighByHour_64 : decode prog_4_method_10_code 64 = .ok (.iload 5, 2) := by decide +kernel
theorem d2_weighByHour_66 : decode prog_4_method_10_code 66 = .ok (.laload, 1) := by decide +kernel
theorem d2_weighByHour_67 : decode prog_4_method_10_code 67 = .ok (.lconst 0, 1) := by decide +kernel
theorem d2_weighByHour_68 : decode prog_4_method_10_code 68 = .ok (.lcmp, 1) := by decide +kernel
theorem d2_weighByHour_69 : decode prog_4_method_10_code 69 = .ok (.ifCond .eq 21, 3) := by decide +kernel
theorem d2_weighByHour_72 : decode prog_4_method_10_code 72 = .ok (.aload_n 0, 1) := by decide +kernel
theorem d2_weighByHour_73 : decode prog_4_method_10_code 73 = .ok (.getfield 43, 3) := by decide +kernel
theorem d2_weighByHour_76 : decode prog_4_method_10_code 76 = .ok (.iload 5, 2) := by decide +kernel
theorem d2_weighByHour_78 : decode prog_4_method_10_code 78 = .ok (.dup2, 1) := by decide +kernel
theorem d2_weighByHour_79 : decode prog_4_method_10_code 79 = .ok (.laload, 1) := by decide +kernel
theorem d2_weighByHour_80 : decode prog_4_method_10_code 80 = .ok (.aload 4, 2) := by decide +kernel
theorem d2_weighByHour_82 : decode prog_4_method_10_code 82 = .ok (.iload 5, 2) := by decide +kernel
theorem d2_weighByHour_84 : decode prog_4_method_10_code 84 = .ok (.invokevirtual 94, 3) := by decide +kernel
theorem d2_weighByHour_87 : decode prog_4_method_10_code 87 = .ok (.i2l, 1) := by decide +kernel
theorem d2_weighByHour_88 : decode prog_4_method_10_code 88 = .ok (.lmul, 1) := by decide +kernel
theorem d2_weighByHour_89 : decode prog_4_method_10_code 89 = .ok (.lastore, 1) := by decide +kernel
theorem d2_weighByHour_90 : decode prog_4_method_10_code 90 = .ok (.iinc 5 1, 3) := by decide +kernel
theorem d2_weighByHour_93 : decode prog_4_method_10_code 93 = .ok (.goto (-40), 3) := by decide +kernel
theorem d2_weighByHour_96 : decode prog_4_method_10_code 96 = .ok (.iinc 3 1, 3) := by decide +kernel
theorem d2_weighByHour_99 : decode prog_4_method_10_code 99 = .ok (.goto (-97), 3) := by decide +kernel
theorem d2_weighByHour_102 : decode prog_4_method_10_code 102 = .ok (.return_, 1) := by decide +kernel
theorem d2_keepOnly_0 : decode prog_4_method_11_code 0 = .ok (.aload_n 0, 1) := by decide +kernel
theorem d2_keepOnly_1 : decode prog_4_method_11_code 1 = .ok (.getfield 43, 3) := by decide +kernel
theorem d2_keepOnly_4 : decode prog_4_method_11_code 4 = .ok (.iload_n 1, 1) := by decide +kernel
theorem d2_keepOnly_5 : decode prog_4_method_11_code 5 = .ok (.laload, 1) := by decide +kernel
theorem d2_keepOnly_6 : decode prog_4_method_11_code 6 = .ok (.lstore_n 2, 1) := by decide +kernel
theorem d2_keepOnly_7 : decode prog_4_method_11_code 7 = .ok (.aload_n 0, 1) := by decide +kernel
theorem d2_keepOnly_8 : decode prog_4_method_11_code 8 = .ok (.getfield 43, 3) := by decide +kernel
theorem d2_keepOnly_11 : decode prog_4_method_11_code 11 = .ok (.lconst 0, 1) := by decide +kernel
theorem d2_keepOnly_12 : decode prog_4_method_11_code 12 = .ok (.invokestatic 97, 3) := by decide +kernel
theorem d2_keepOnly_15 : decode prog_4_method_11_code 15 = .ok (.aload_n 0, 1) := by decide +kernel
theorem d2_keepOnly_16 : decode prog_4_method_11_code 16 = .ok (.getfield 43, 3) := by decide +kernel
theorem d2_keepOnly_19 : decode prog_4_method_11_code 19 = .ok (.iload_n 1, 1) := by decide +kernel
theorem d2_keepOnly_20 : decode prog_4_method_11_code 20 = .ok (.lload_n 2, 1) := by decide +kernel
theorem d2_keepOnly_21 : decode prog_4_method_11_code 21 = .ok (.lastore, 1) := by decide +kernel
theorem d2_keepOnly_22 : decode prog_4_method_11_code 22 = .ok (.return_, 1) := by decide +kernel
theorem d2_weightByEnd_0 : decode prog_4_method_13_code 0 = .ok (.aload_n 0, 1) := by decide +kernel
theorem d2_weightByEnd_1 : decode prog_4_method_13_code 1 = .ok (.getfield 12, 3) := by decide +kernel
theorem d2_weightByEnd_4 : decode prog_4_method_13_code 4 = .ok (.getfield 64, 3) := by decide +kernel
theorem d2_weightByEnd_7 : decode prog_4_method_13_code 7 = .ok (.iload_n 1, 1) := by decide +kernel
theorem d2_weightByEnd_8 : decode prog_4_method_13_code 8 = .ok (.iaload, 1) := by decide +kernel
theorem d2_weightByEnd_9 : decode prog_4_method_13_code 9 = .ok (.i2l, 1) := by decide +kernel
theorem d2_weightByEnd_10 : decode prog_4_method_13_code 10 = .ok (.iconst 2, 1) := by decide +kernel
theorem d2_weightByEnd_11 : decode prog_4_method_13_code 11 = .ok (.aload_n 0, 1) := by decide +kernel
theorem d2_weightByEnd_12 : decode prog_4_method_13_code 12 = .ok (.getfield 12, 3) := by decide +kernel
theorem d2_weightByEnd_15 : decode prog_4_method_13_code 15 = .ok (.getfield 60, 3) := by decide +kernel
theorem d2_weightByEnd_18 : decode prog_4_method_13_code 18 = .ok (.iload_n 1, 1) := by decide +kernel
theorem d2_weightByEnd_19 : decode prog_4_method_13_code 19 = .ok (.isub, 1) := by decide +kernel
theorem d2_weightByEnd_20 : decode prog_4_method_13_code 20 = .ok (.imul, 1) := by decide +kernel
theorem d2_weightByEnd_21 : decode prog_4_method_13_code 21 = .ok (.lshl, 1) := by decide +kernel
theorem d2_weightByEnd_22 : decode prog_4_method_13_code 22 = .ok (.lstore_n 3, 1) := by decide +kernel
theorem d2_weightByEnd_23 : decode prog_4_method_13_code 23 = .ok (.iconst 0, 1) := by decide +kernel
theorem d2_weightByEnd_24 : decode prog_4_method_13_code 24 = .ok (.istore 5, 2) := by decide +kernel
theorem d2_weightByEnd_26 : decode prog_4_method_13_code 26 = .ok (.iload 5, 2) := by decide +kernel
theorem d2_weightByEnd_28 : decode prog_4_method_13_code 28 = .ok (.aload_n 0, 1) := by decide +kernel
theorem d2_weightByEnd_29 : decode prog_4_method_13_code 29 = .ok (.getfield 21, 3) := by decide +kernel
theorem d2_weightByEnd_32 : decode prog_4_method_13_code 32 = .ok (.getfield 82, 3) := by decide +kernel
theorem d2_weightByEnd_35 : decode prog_4_method_13_code 35 = .ok (.if_icmp .ge 83, 3) := by decide +kernel
theorem d2_weightByEnd_38 : decode prog_4_method_13_code 38 = .ok (.aload_n 0, 1) := by decide +kernel
theorem d2_weightByEnd_39 : decode prog_4_method_13_code 39 = .ok (.getfield 21, 3) := by decide +kernel
theorem d2_weightByEnd_42 : decode prog_4_method_13_code 42 = .ok (.getfield 72, 3) := by decide +kernel
theorem d2_weightByEnd_45 : decode prog_4_method_13_code 45 = .ok (.iload 5, 2) := by decide +kernel
theorem d2_weightByEnd_47 : decode prog_4_method_13_code 47 = .ok (.aaload, 1) := by decide +kernel
theorem d2_weightByEnd_48 : decode prog_4_method_13_code 48 = .ok (.astore 6, 2) := by decide +kernel
theorem d2_weightByEnd_50 : decode prog_4_method_13_code 50 = .ok (.aload_n 0, 1) := by decide +kernel
theorem d2_weightByEnd_51 : decode prog_4_method_13_code 51 = .ok (.iload 5, 2) := by decide +kernel
theorem d2_weightByEnd_53 : decode prog_4_method_13_code 53 = .ok (.iload_n 2, 1) := by decide +kernel
theorem d2_weightByEnd_54 : decode prog_4_method_13_code 54 = .ok (.invokevirtual 85, 3) := by decide +kernel
theorem d2_weightByEnd_57 : decode prog_4_method_13_code 57 = .ok (.ifCond .eq 55, 3) := by decide +kernel
theorem d2_weightByEnd_60 : decode prog_4_method_13_code 60 = .ok (.aload 6, 2) := by decide +kernel
theorem d2_weightByEnd_62 : decode prog_4_method_13_code 62 = .ok (.getfield 89, 3) := by decide +kernel
theorem d2_weightByEnd_65 : decode prog_4_method_13_code 65 = .ok (.iconst 3, 1) := by decide +kernel
theorem d2_weightByEnd_66 : decode prog_4_method_13_code 66 = .ok (.if_icmp .ne 23, 3) := by decide +kernel
theorem d2_weightByEnd_69 : decode prog_4_method_13_code 69 = .ok (.lload_n 3, 1) := by decide +kernel
theorem d2_weightByEnd_70 : decode prog_4_method_13_code 70 = .ok (.aload 6, 2) := by decide +kernel
theorem d2_weightByEnd_72 : decode prog_4_method_13_code 72 = .ok (.getfield 130, 3) := by decide +kernel
theorem d2_weightByEnd_75 : decode prog_4_method_13_code 75 = .ok (.iload_n 1, 1) := by decide +kernel
theorem d2_weightByEnd_76 : decode prog_4_method_13_code 76 = .ok (.isub, 1) := by decide +kernel
theorem d2_weightByEnd_77 : decode prog_4_method_13_code 77 = .ok (.invokestatic 136, 3) := by decide +kernel
theorem d2_weightByEnd_80 : decode prog_4_method_13_code 80 = .ok (.invokestatic 141, 3) := by decide +kernel
theorem d2_weightByEnd_83 : decode prog_4_method_13_code 83 = .ok (.i2l, 1) := by decide +kernel
theorem d2_weightByEnd_84 : decode prog_4_method_13_code 84 = .ok (.lmul, 1) := by decide +kernel
theorem d2_weightByEnd_85 : decode prog_4_method_13_code 85 = .ok (.lstore_n 3, 1) := by decide +kernel
theorem d2_weightByEnd_86 : decode prog_4_method_13_code 86 = .ok (.goto 26, 3) := by decide +kernel
theorem d2_weightByEnd_89 : decode prog_4_method_13_code 89 = .ok (.aload 6, 2) := by decide +kernel
theorem d2_weightByEnd_91 : decode prog_4_method_13_code 91 = .ok (.invokevirtual 127, 3) := by decide +kernel
theorem d2_weightByEnd_94 : decode prog_4_method_13_code 94 = .ok (.ifCond .eq 18, 3) := by decide +kernel
theorem d2_weightByEnd_97 : decode prog_4_method_13_code 97 = .ok (.aload 6, 2) := by decide +kernel
theorem d2_weightByEnd_99 : decode prog_4_method_13_code 99 = .ok (.getfield 130, 3) := by decide +kernel
theorem d2_weightByEnd_102 : decode prog_4_method_13_code 102 = .ok (.iload_n 1, 1) := by decide +kernel
theorem d2_weightByEnd_103 : decode prog_4_method_13_code 103 = .ok (.if_icmp .le 9, 3) := by decide +kernel
theorem d2_weightByEnd_106 : decode prog_4_method_13_code 106 = .ok (.lload_n 3, 1) := by decide +kernel
theorem d2_weightByEnd_107 : decode prog_4_method_13_code 107 = .ok (.ldc2_w 92, 3) := by decide +kernel
theorem d2_weightByEnd_110 : decode prog_4_method_13_code 110 = .ok (.lmul, 1) := by decide +kernel
theorem d2_weightByEnd_111 : decode prog_4_method_13_code 111 = .ok (.lstore_n 3, 1) := by decide +kernel
theorem d2_weightByEnd_112 : decode prog_4_method_13_code 112 = .ok (.iinc 5 1, 3) := by decide +kernel
theorem d2_weightByEnd_115 : decode prog_4_method_13_code 115 = .ok (.goto (-89), 3) := by decide +kernel
theorem d2_weightByEnd_118 : decode prog_4_method_13_code 118 = .ok (.lload_n 3, 1) := by decide +kernel
theorem d2_weightByEnd_119 : decode prog_4_method_13_code 119 = .ok (.lreturn, 1) := by decide +kernel
theorem d2_land_0 : decode prog_4_method_12_code 0 = .ok (.aload_n 0, 1) := by decide +kernel
theorem d2_land_1 : decode prog_4_method_12_code 1 = .ok (.iload_n 1, 1) := by decide +kernel
theorem d2_land_2 : decode prog_4_method_12_code 2 = .ok (.iload_n 2, 1) := by decide +kernel
theorem d2_land_3 : decode prog_4_method_12_code 3 = .ok (.invokevirtual 133, 3) := by decide +kernel
theorem d2_land_6 : decode prog_4_method_12_code 6 = .ok (.lstore_n 3, 1) := by decide +kernel
theorem d2_land_7 : decode prog_4_method_12_code 7 = .ok (.lconst 0, 1) := by decide +kernel
theorem d2_land_8 : decode prog_4_method_12_code 8 = .ok (.lstore 5, 2) := by decide +kernel
theorem d2_land_10 : decode prog_4_method_12_code 10 = .ok (.iconst 0, 1) := by decide +kernel
theorem d2_land_11 : decode prog_4_method_12_code 11 = .ok (.istore 7, 2) := by decide +kernel
theorem d2_land_13 : decode prog_4_method_12_code 13 = .ok (.iload 7, 2) := by decide +kernel
theorem d2_land_15 : decode prog_4_method_12_code 15 = .ok (.bipush 120, 2) := by decide +kernel
theorem d2_land_17 : decode prog_4_method_12_code 17 = .ok (.if_icmp .ge 65, 3) := by decide +kernel
theorem d2_land_20 : decode prog_4_method_12_code 20 = .ok (.lload_n 3, 1) := by decide +kernel
theorem d2_land_21 : decode prog_4_method_12_code 21 = .ok (.lconst 0, 1) := by decide +kernel
theorem d2_land_22 : decode prog_4_method_12_code 22 = .ok (.lcmp, 1) := by decide +kernel
theorem d2_land_23 : decode prog_4_method_12_code 23 = .ok (.ifCond .eq 59, 3) := by decide +kernel
theorem d2_land_26 : decode prog_4_method_12_code 26 = .ok (.aload_n 0, 1) := by decide +kernel
theorem d2_land_27 : decode prog_4_method_12_code 27 = .ok (.getfield 43, 3) := by decide +kernel
theorem d2_land_30 : decode prog_4_method_12_code 30 = .ok (.iload 7, 2) := by decide +kernel
theorem d2_land_32 : decode prog_4_method_12_code 32 = .ok (.laload, 1) := by decide +kernel
theorem d2_land_33 : decode prog_4_method_12_code 33 = .ok (.lconst 0, 1) := by decide +kernel
theorem d2_land_34 : decode prog_4_method_12_code 34 = .ok (.lcmp, 1) := by decide +kernel
theorem d2_land_35 : decode prog_4_method_12_code 35 = .ok (.ifCond .eq 41, 3) := by decide +kernel
theorem d2_land_38 : decode prog_4_method_12_code 38 = .ok (.aload_n 0, 1) := by decide +kernel
theorem d2_land_39 : decode prog_4_method_12_code 39 = .ok (.getfield 43, 3) := by decide +kernel
theorem d2_land_42 : decode prog_4_method_12_code 42 = .ok (.iload 7, 2) := by decide +kernel
theorem d2_land_44 : decode prog_4_method_12_code 44 = .ok (.laload, 1) := by decide +kernel
theorem d2_land_45 : decode prog_4_method_12_code 45 = .ok (.lload_n 3, 1) := by decide +kernel
theorem d2_land_46 : decode prog_4_method_12_code 46 = .ok (.lmul, 1) := by decide +kernel
theorem d2_land_47 : decode prog_4_method_12_code 47 = .ok (.aload_n 0, 1) := by decide +kernel
theorem d2_land_48 : decode prog_4_method_12_code 48 = .ok (.getfield 49, 3) := by decide +kernel
theorem d2_land_51 : decode prog_4_method_12_code 51 = .ok (.iload 7, 2) := by decide +kernel
theorem d2_land_53 : decode prog_4_method_12_code 53 = .ok (.laload, 1) := by decide +kernel
theorem d2_land_54 : decode prog_4_method_12_code 54 = .ok (.lmul, 1) := by decide +kernel
theorem d2_land_55 : decode prog_4_method_12_code 55 = .ok (.lstore 8, 2) := by decide +kernel
theorem d2_land_57 : decode prog_4_method_12_code 57 = .ok (.aload_n 0, 1) := by decide +kernel
theorem d2_land_58 : decode prog_4_method_12_code 58 = .ok (.getfield 32, 3) := by decide +kernel
theorem d2_land_61 : decode prog_4_method_12_code 61 = .ok (.iload 7, 2) := by decide +kernel
theorem d2_land_63 : decode prog_4_method_12_code 63 = .ok (.dup2, 1) := by decide +kernel
theorem d2_land_64 : decode prog_4_method_12_code 64 = .ok (.laload, 1) := by decide +kernel
theorem d2_land_65 : decode prog_4_method_12_code 65 = .ok (.lload 8, 2) := by decide +kernel
theorem d2_land_67 : decode prog_4_method_12_code 67 = .ok (.ladd, 1) := by decide +kernel
theorem d2_land_68 : decode prog_4_method_12_code 68 = .ok (.lastore, 1) := by decide +kernel
theorem d2_land_69 : decode prog_4_method_12_code 69 = .ok (.lload 5, 2) := by decide +kernel
theorem d2_land_71 : decode prog_4_method_12_code 71 = .ok (.lload 8, 2) := by decide +kernel
theorem d2_land_73 : decode prog_4_method_12_code 73 = .ok (.ladd, 1) := by decide +kernel
theorem d2_land_74 : decode prog_4_method_12_code 74 = .ok (.lstore 5, 2) := by decide +kernel
theorem d2_land_76 : decode prog_4_method_12_code 76 = .ok (.iinc 7 1, 3) := by decide +kernel
theorem d2_land_79 : decode prog_4_method_12_code 79 = .ok (.goto (-66), 3) := by decide +kernel
theorem d2_land_82 : decode prog_4_method_12_code 82 = .ok (.lload 5, 2) := by decide +kernel
theorem d2_land_84 : decode prog_4_method_12_code 84 = .ok (.lreturn, 1) := by decide +kernel
theorem d1_gone_0 : decode prog_3_method_8_code 0 = .ok (.iload_n 0, 1) := by decide +kernel
theorem d1_gone_1 : decode prog_3_method_8_code 1 = .ok (.iload_n 1, 1) := by decide +kernel
theorem d1_gone_2 : decode prog_3_method_8_code 2 = .ok (.invokestatic 28, 3) := by decide +kernel
theorem d1_gone_5 : decode prog_3_method_8_code 5 = .ok (.istore_n 2, 1) := by decide +kernel
theorem d1_gone_6 : decode prog_3_method_8_code 6 = .ok (.iload_n 2, 1) := by decide +kernel
theorem d1_gone_7 : decode prog_3_method_8_code 7 = .ok (.bipush (-9), 2) := by decide +kernel
theorem d1_gone_9 : decode prog_3_method_8_code 9 = .ok (.if_icmp .ne 7, 3) := by decide +kernel
theorem d1_gone_12 : decode prog_3_method_8_code 12 = .ok (.iload_n 0, 1) := by decide +kernel
theorem d1_gone_13 : decode prog_3_method_8_code 13 = .ok (.goto 4, 3) := by decide +kernel
theorem d1_gone_16 : decode prog_3_method_8_code 16 = .ok (.iload_n 2, 1) := by decide +kernel
theorem d1_gone_17 : decode prog_3_method_8_code 17 = .ok (.ireturn, 1) := by decide +kernel
theorem d1_turned_0 : decode prog_3_method_6_code 0 = .ok (.iload_n 0, 1) := by decide +kernel
theorem d1_turned_1 : decode prog_3_method_6_code 1 = .ok (.iload_n 1, 1) := by decide +kernel
theorem d1_turned_2 : decode prog_3_method_6_code 2 = .ok (.iadd, 1) := by decide +kernel
theorem d1_turned_3 : decode prog_3_method_6_code 3 = .ok (.bipush 7, 2) := by decide +kernel
theorem d1_turned_5 : decode prog_3_method_6_code 5 = .ok (.iand, 1) := by decide +kernel
theorem d1_turned_6 : decode prog_3_method_6_code 6 = .ok (.ireturn, 1) := by decide +kernel
theorem d2_spread_0 : decode prog_4_method_15_code 0 = .ok (.aload_n 0, 1) := by decide +kernel
theorem d2_spread_1 : decode prog_4_method_15_code 1 = .ok (.getfield 46, 3) := by decide +kernel
theorem d2_spread_4 : decode prog_4_method_15_code 4 = .ok (.lconst 0, 1) := by decide +kernel
theorem d2_spread_5 : decode prog_4_method_15_code 5 = .ok (.invokestatic 97, 3) := by decide +kernel
theorem d2_spread_8 : decode prog_4_method_15_code 8 = .ok (.iconst 0, 1) := by decide +kernel
theorem d2_spread_9 : decode prog_4_method_15_code 9 = .ok (.istore_n 2, 1) := by decide +kernel
theorem d2_spread_10 : decode prog_4_method_15_code 10 = .ok (.iload_n 2, 1) := by decide +kernel
theorem d2_spread_11 : decode prog_4_method_15_code 11 = .ok (.bipush 120, 2) := by decide +kernel
theorem d2_spread_13 : decode prog_4_method_15_code 13 = .ok (.if_icmp .ge 89, 3) := by decide +kernel
theorem d2_spread_16 : decode prog_4_method_15_code 16 = .ok (.aload_n 0, 1) := by decide +kernel
theorem d2_spread_17 : decode prog_4_method_15_code 17 = .ok (.getfield 43, 3) := by decide +kernel
theorem d2_spread_20 : decode prog_4_method_15_code 20 = .ok (.iload_n 2, 1) := by decide +kernel
theorem d2_spread_21 : decode prog_4_method_15_code 21 = .ok (.laload, 1) := by decide +kernel
theorem d2_spread_22 : decode prog_4_method_15_code 22 = .ok (.lconst 0, 1) := by decide +kernel
theorem d2_spread_23 : decode prog_4_method_15_code 23 = .ok (.lcmp, 1) := by decide +kernel
theorem d2_spread_24 : decode prog_4_method_15_code 24 = .ok (.ifCond .eq 72, 3) := by decide +kernel
theorem d2_spread_27 : decode prog_4_method_15_code 27 = .ok (.aload_n 0, 1) := by decide +kernel
theorem d2_spread_28 : decode prog_4_method_15_code 28 = .ok (.getfield 46, 3) := by decide +kernel
theorem d2_spread_31 : decode prog_4_method_15_code 31 = .ok (.iload_n 2, 1) := by decide +kernel
theorem d2_spread_32 : decode prog_4_method_15_code 32 = .ok (.iload_n 1, 1) := by decide +kernel
theorem d2_spread_33 : decode prog_4_method_15_code 33 = .ok (.invokestatic 144, 3) := by decide +kernel
theorem d2_spread_36 : decode prog_4_method_15_code 36 = .ok (.dup2, 1) := by decide +kernel
theorem d2_spread_37 : decode prog_4_method_15_code 37 = .ok (.laload, 1) := by decide +kernel
theorem d2_spread_38 : decode prog_4_method_15_code 38 = .ok (.ldc2_w 147, 3) := by decide +kernel
theorem d2_spread_41 : decode prog_4_method_15_code 41 = .ok (.aload_n 0, 1) := by decide +kernel
theorem d2_spread_42 : decode prog_4_method_15_code 42 = .ok (.getfield 43, 3) := by decide +kernel
theorem d2_spread_45 : decode prog_4_method_15_code 45 = .ok (.iload_n 2, 1) := by decide +kernel
theorem d2_spread_46 : decode prog_4_method_15_code 46 = .ok (.laload, 1) := by decide +kernel
theorem d2_spread_47 : decode prog_4_method_15_code 47 = .ok (.lmul, 1) := by decide +kernel
theorem d2_spread_48 : decode prog_4_method_15_code 48 = .ok (.ladd, 1) := by decide +kernel
theorem d2_spread_49 : decode prog_4_method_15_code 49 = .ok (.lastore, 1) := by decide +kernel
theorem d2_spread_50 : decode prog_4_method_15_code 50 = .ok (.aload_n 0, 1) := by decide +kernel
theorem d2_spread_51 : decode prog_4_method_15_code 51 = .ok (.getfield 46, 3) := by decide +kernel
theorem d2_spread_54 : decode prog_4_method_15_code 54 = .ok (.iload_n 2, 1) := by decide +kernel
theorem d2_spread_55 : decode prog_4_method_15_code 55 = .ok (.iload_n 1, 1) := by decide +kernel
theorem d2_spread_56 : decode prog_4_method_15_code 56 = .ok (.iconst (-1), 1) := by decide +kernel
theorem d2_spread_57 : decode prog_4_method_15_code 57 = .ok (.invokestatic 149, 3) := by decide +kernel
theorem d2_spread_60 : decode prog_4_method_15_code 60 = .ok (.invokestatic 144, 3) := by decide +kernel
theorem d2_spread_63 : decode prog_4_method_15_code 63 = .ok (.dup2, 1) := by decide +kernel
theorem d2_spread_64 : decode prog_4_method_15_code 64 = .ok (.laload, 1) := by decide +kernel
theorem d2_spread_65 : decode prog_4_method_15_code 65 = .ok (.aload_n 0, 1) := by decide +kernel
theorem d2_spread_66 : decode prog_4_method_15_code 66 = .ok (.getfield 43, 3) := by decide +kernel
theorem d2_spread_69 : decode prog_4_method_15_code 69 = .ok (.iload_n 2, 1) := by decide +kernel
theorem d2_spread_70 : decode prog_4_method_15_code 70 = .ok (.laload, 1) := by decide +kernel
theorem d2_spread_71 : decode prog_4_method_15_code 71 = .ok (.ladd, 1) := by decide +kernel
theorem d2_spread_72 : decode prog_4_method_15_code 72 = .ok (.lastore, 1) := by decide +kernel
theorem d2_spread_73 : decode prog_4_method_15_code 73 = .ok (.aload_n 0, 1) := by decide +kernel
theorem d2_spread_74 : decode prog_4_method_15_code 74 = .ok (.getfield 46, 3) := by decide +kernel
theorem d2_spread_77 : decode prog_4_method_15_code 77 = .ok (.iload_n 2, 1) := by decide +kernel
theorem d2_spread_78 : decode prog_4_method_15_code 78 = .ok (.iload_n 1, 1) := by decide +kernel
theorem d2_spread_79 : decode prog_4_method_15_code 79 = .ok (.iconst 1, 1) := by decide +kernel
theorem d2_spread_80 : decode prog_4_method_15_code 80 = .ok (.invokestatic 149, 3) := by decide +kernel
theorem d2_spread_83 : decode prog_4_method_15_code 83 = .ok (.invokestatic 144, 3) := by decide +kernel
theorem d2_spread_86 : decode prog_4_method_15_code 86 = .ok (.dup2, 1) := by decide +kernel
theorem d2_spread_87 : decode prog_4_method_15_code 87 = .ok (.laload, 1) := by decide +kernel
theorem d2_spread_88 : decode prog_4_method_15_code 88 = .ok (.aload_n 0, 1) := by decide +kernel
theorem d2_spread_89 : decode prog_4_method_15_code 89 = .ok (.getfield 43, 3) := by decide +kernel
theorem d2_spread_92 : decode prog_4_method_15_code 92 = .ok (.iload_n 2, 1) := by decide +kernel
theorem d2_spread_93 : decode prog_4_method_15_code 93 = .ok (.laload, 1) := by decide +kernel
theorem d2_spread_94 : decode prog_4_method_15_code 94 = .ok (.ladd, 1) := by decide +kernel
theorem d2_spread_95 : decode prog_4_method_15_code 95 = .ok (.lastore, 1) := by decide +kernel
theorem d2_spread_96 : decode prog_4_method_15_code 96 = .ok (.iinc 2 1, 3) := by decide +kernel
theorem d2_spread_99 : decode prog_4_method_15_code 99 = .ok (.goto (-89), 3) := by decide +kernel
theorem d2_spread_102 : decode prog_4_method_15_code 102 = .ok (.aload_n 0, 1) := by decide +kernel
theorem d2_spread_103 : decode prog_4_method_15_code 103 = .ok (.getfield 43, 3) := by decide +kernel
theorem d2_spread_106 : decode prog_4_method_15_code 106 = .ok (.astore_n 2, 1) := by decide +kernel
theorem d2_spread_107 : decode prog_4_method_15_code 107 = .ok (.aload_n 0, 1) := by decide +kernel
theorem d2_spread_108 : decode prog_4_method_15_code 108 = .ok (.aload_n 0, 1) := by decide +kernel
theorem d2_spread_109 : decode prog_4_method_15_code 109 = .ok (.getfield 46, 3) := by decide +kernel
theorem d2_spread_112 : decode prog_4_method_15_code 112 = .ok (.putfield 43, 3) := by decide +kernel
theorem d2_spread_115 : decode prog_4_method_15_code 115 = .ok (.aload_n 0, 1) := by decide +kernel
theorem d2_spread_116 : decode prog_4_method_15_code 116 = .ok (.aload_n 2, 1) := by decide +kernel
theorem d2_spread_117 : decode prog_4_method_15_code 117 = .ok (.putfield 46, 3) := by decide +kernel
theorem d2_spread_120 : decode prog_4_method_15_code 120 = .ok (.return_, 1) := by decide +kernel
theorem d2_weighFlight_0 : decode prog_4_method_9_code 0 = .ok (.aload_n 0, 1) := by decide +kernel
theorem d2_weighFlight_1 : decode prog_4_method_9_code 1 = .ok (.getfield 32, 3) := by decide +kernel
theorem d2_weighFlight_4 : decode prog_4_method_9_code 4 = .ok (.lconst 0, 1) := by decide +kernel
theorem d2_weighFlight_5 : decode prog_4_method_9_code 5 = .ok (.invokestatic 97, 3) := by decide +kernel
theorem d2_weighFlight_8 : decode prog_4_method_9_code 8 = .ok (.aload_n 0, 1) := by decide +kernel
theorem d2_weighFlight_9 : decode prog_4_method_9_code 9 = .ok (.getfield 36, 3) := by decide +kernel
theorem d2_weighFlight_12 : decode prog_4_method_9_code 12 = .ok (.lconst 0, 1) := by decide +kernel
theorem d2_weighFlight_13 : decode prog_4_method_9_code 13 = .ok (.invokestatic 97, 3) := by decide +kernel
theorem d2_weighFlight_16 : decode prog_4_method_9_code 16 = .ok (.aload_n 0, 1) := by decide +kernel
theorem d2_weighFlight_17 : decode prog_4_method_9_code 17 = .ok (.getfield 43, 3) := by decide +kernel
theorem d2_weighFlight_20 : decode prog_4_method_9_code 20 = .ok (.lconst 0, 1) := by decide +kernel
theorem d2_weighFlight_21 : decode prog_4_method_9_code 21 = .ok (.invokestatic 97, 3) := by decide +kernel
theorem d2_weighFlight_24 : decode prog_4_method_9_code 24 = .ok (.aload_n 0, 1) := by decide +kernel
theorem d2_weighFlight_25 : decode prog_4_method_9_code 25 = .ok (.getfield 43, 3) := by decide +kernel
theorem d2_weighFlight_28 : decode prog_4_method_9_code 28 = .ok (.aload_n 0, 1) := by decide +kernel
theorem d2_weighFlight_29 : decode prog_4_method_9_code 29 = .ok (.getfield 12, 3) := by decide +kernel
theorem d2_weighFlight_32 : decode prog_4_method_9_code 32 = .ok (.getfield 103, 3) := by decide +kernel
theorem d2_weighFlight_35 : decode prog_4_method_9_code 35 = .ok (.lconst 1, 1) := by decide +kernel
theorem d2_weighFlight_36 : decode prog_4_method_9_code 36 = .ok (.lastore, 1) := by decide +kernel
theorem d2_weighFlight_37 : decode prog_4_method_9_code 37 = .ok (.aload_n 0, 1) := by decide +kernel
theorem d2_weighFlight_38 : decode prog_4_method_9_code 38 = .ok (.iload_n 1, 1) := by decide +kernel
theorem d2_weighFlight_39 : decode prog_4_method_9_code 39 = .ok (.invokevirtual 106, 3) := by decide +kernel
theorem d2_weighFlight_42 : decode prog_4_method_9_code 42 = .ok (.lconst 0, 1) := by decide +kernel
theorem d2_weighFlight_43 : decode prog_4_method_9_code 43 = .ok (.lstore 4, 2) := by decide +kernel
theorem d2_weighFlight_45 : decode prog_4_method_9_code 45 = .ok (.iconst 0, 1) := by decide +kernel
theorem d2_weighFlight_46 : decode prog_4_method_9_code 46 = .ok (.istore 6, 2) := by decide +kernel
theorem d2_weighFlight_48 : decode prog_4_method_9_code 48 = .ok (.iload 6, 2) := by decide +kernel
theorem d2_weighFlight_50 : decode prog_4_method_9_code 50 = .ok (.aload_n 0, 1) := by decide +kernel
theorem d2_weighFlight_51 : decode prog_4_method_9_code 51 = .ok (.getfield 12, 3) := by decide +kernel
theorem d2_weighFlight_54 : decode prog_4_method_9_code 54 = .ok (.getfield 60, 3) := by decide +kernel
theorem d2_weighFlight_57 : decode prog_4_method_9_code 57 = .ok (.if_icmp .gt 85, 3) := by decide +kernel
theorem d2_weighFlight_60 : decode prog_4_method_9_code 60 = .ok (.aload_n 0, 1) := by decide +kernel
theorem d2_weighFlight_61 : decode prog_4_method_9_code 61 = .ok (.iload 6, 2) := by decide +kernel
theorem d2_weighFlight_63 : decode prog_4_method_9_code 63 = .ok (.iload_n 1, 1) := by decide +kernel
theorem d2_weighFlight_64 : decode prog_4_method_9_code 64 = .ok (.invokevirtual 110, 3) := by decide +kernel
theorem d2_weighFlight_67 : decode prog_4_method_9_code 67 = .ok (.iload 6, 2) := by decide +kernel
theorem d2_weighFlight_69 : decode prog_4_method_9_code 69 = .ok (.iload_n 2, 1) := by decide +kernel
theorem d2_weighFlight_70 : decode prog_4_method_9_code 70 = .ok (.if_icmp .ne 8, 3) := by decide +kernel
theorem d2_weighFlight_73 : decode prog_4_method_9_code 73 = .ok (.aload_n 0, 1) := by decide +kernel
theorem d2_weighFlight_74 : decode prog_4_method_9_code 74 = .ok (.iload_n 3, 1) := by decide +kernel
theorem d2_weighFlight_75 : decode prog_4_method_9_code 75 = .ok (.invokevirtual 114, 3) := by decide +kernel
theorem d2_weighFlight_78 : decode prog_4_method_9_code 78 = .ok (.iload 6, 2) := by decide +kernel
theorem d2_weighFlight_80 : decode prog_4_method_9_code 80 = .ok (.iload_n 2, 1) := by decide +kernel
theorem d2_weighFlight_81 : decode prog_4_method_9_code 81 = .ok (.if_icmp .lt 29, 3) := by decide +kernel
theorem d2_weighFlight_84 : decode prog_4_method_9_code 84 = .ok (.aload_n 0, 1) := by decide +kernel
theorem d2_weighFlight_85 : decode prog_4_method_9_code 85 = .ok (.getfield 36, 3) := by decide +kernel
theorem d2_weighFlight_88 : decode prog_4_method_9_code 88 = .ok (.iload 6, 2) := by decide +kernel
theorem d2_weighFlight_90 : decode prog_4_method_9_code 90 = .ok (.aload_n 0, 1) := by decide +kernel
theorem d2_weighFlight_91 : decode prog_4_method_9_code 91 = .ok (.iload 6, 2) := by decide +kernel
theorem d2_weighFlight_93 : decode prog_4_method_9_code 93 = .ok (.iload_n 1, 1) := by decide +kernel
theorem d2_weighFlight_94 : decode prog_4_method_9_code 94 = .ok (.invokevirtual 117, 3) := by decide +kernel
theorem d2_weighFlight_97 : decode prog_4_method_9_code 97 = .ok (.lastore, 1) := by decide +kernel
theorem d2_weighFlight_98 : decode prog_4_method_9_code 98 = .ok (.lload 4, 2) := by decide +kernel
theorem d2_weighFlight_100 : decode prog_4_method_9_code 100 = .ok (.aload_n 0, 1) := by decide +kernel
theorem d2_weighFlight_101 : decode prog_4_method_9_code 101 = .ok (.getfield 36, 3) := by decide +kernel
theorem d2_weighFlight_104 : decode prog_4_method_9_code 104 = .ok (.iload 6, 2) := by decide +kernel
theorem d2_weighFlight_106 : decode prog_4_method_9_code 106 = .ok (.laload, 1) := by decide +kernel
theorem d2_weighFlight_107 : decode prog_4_method_9_code 107 = .ok (.ladd, 1) := by decide +kernel
theorem d2_weighFlight_108 : decode prog_4_method_9_code 108 = .ok (.lstore 4, 2) := by decide +kernel
theorem d2_weighFlight_110 : decode prog_4_method_9_code 110 = .ok (.iload 6, 2) := by decide +kernel
theorem d2_weighFlight_112 : decode prog_4_method_9_code 112 = .ok (.aload_n 0, 1) := by decide +kernel
theorem d2_weighFlight_113 : decode prog_4_method_9_code 113 = .ok (.getfield 12, 3) := by decide +kernel
theorem d2_weighFlight_116 : decode prog_4_method_9_code 116 = .ok (.getfield 60, 3) := by decide +kernel
theorem d2_weighFlight_119 : decode prog_4_method_9_code 119 = .ok (.if_icmp .ge 17, 3) := by decide +kernel
theorem d2_weighFlight_122 : decode prog_4_method_9_code 122 = .ok (.aload_n 0, 1) := by decide +kernel
theorem d2_weighFlight_123 : decode prog_4_method_9_code 123 = .ok (.aload_n 0, 1) := by decide +kernel
theorem d2_weighFlight_124 : decode prog_4_method_9_code 124 = .ok (.getfield 12, 3) := by decide +kernel
theorem d2_weighFlight_127 : decode prog_4_method_9_code 127 = .ok (.getfield 121, 3) := by decide +kernel
theorem d2_weighFlight_130 : decode prog_4_method_9_code 130 = .ok (.iload 6, 2) := by decide +kernel
theorem d2_weighFlight_132 : decode prog_4_method_9_code 132 = .ok (.iaload, 1) := by decide +kernel
theorem d2_weighFlight_133 : decode prog_4_method_9_code 133 = .ok (.invokevirtual 124, 3) := by decide +kernel
theorem d2_weighFlight_136 : decode prog_4_method_9_code 136 = .ok (.iinc 6 1, 3) := by decide +kernel
theorem d2_weighFlight_139 : decode prog_4_method_9_code 139 = .ok (.goto (-91), 3) := by decide +kernel
theorem d2_weighFlight_142 : decode prog_4_method_9_code 142 = .ok (.lload 4, 2) := by decide +kernel
theorem d2_weighFlight_144 : decode prog_4_method_9_code 144 = .ok (.lreturn, 1) := by decide +kernel
theorem d2_weighText_0 : decode prog_4_method_8_code 0 = .ok (.lconst 0, 1) := by decide +kernel
theorem d2_weighText_1 : decode prog_4_method_8_code 1 = .ok (.lstore_n 3, 1) := by decide +kernel
theorem d2_weighText_2 : decode prog_4_method_8_code 2 = .ok (.iconst 0, 1) := by decide +kernel
theorem d2_weighText_3 : decode prog_4_method_8_code 3 = .ok (.istore 5, 2) := by decide +kernel
theorem d2_weighText_5 : decode prog_4_method_8_code 5 = .ok (.iload 5, 2) := by decide +kernel
theorem d2_weighText_7 : decode prog_4_method_8_code 7 = .ok (.bipush 120, 2) := by decide +kernel
theorem d2_weighText_9 : decode prog_4_method_8_code 9 = .ok (.if_icmp .ge 108, 3) := by decide +kernel
theorem d2_weighText_12 : decode prog_4_method_8_code 12 = .ok (.aload_n 1, 1) := by decide +kernel
theorem d2_weighText_13 : decode prog_4_method_8_code 13 = .ok (.iload 5, 2) := by decide +kernel
theorem d2_weighText_15 : decode prog_4_method_8_code 15 = .ok (.iaload, 1) := by decide +kernel
theorem d2_weighText_16 : decode prog_4_method_8_code 16 = .ok (.i2l, 1) := by decide +kernel
theorem d2_weighText_17 : decode prog_4_method_8_code 17 = .ok (.lstore 6, 2) := by decide +kernel
theorem d2_weighText_19 : decode prog_4_method_8_code 19 = .ok (.iconst 0, 1) := by decide +kernel
theorem d2_weighText_20 : decode prog_4_method_8_code 20 = .ok (.istore 8, 2) := by decide +kernel
theorem d2_weighText_22 : decode prog_4_method_8_code 22 = .ok (.iload 8, 2) := by decide +kernel
theorem d2_weighText_24 : decode prog_4_method_8_code 24 = .ok (.aload_n 0, 1) := by decide +kernel
theorem d2_weighText_25 : decode prog_4_method_8_code 25 = .ok (.getfield 21, 3) := by decide +kernel
theorem d2_weighText_28 : decode prog_4_method_8_code 28 = .ok (.getfield 82, 3) := by decide +kernel
theorem d2_weighText_31 : decode prog_4_method_8_code 31 = .ok (.if_icmp .ge 66, 3) := by decide +kernel
theorem d2_weighText_34 : decode prog_4_method_8_code 34 = .ok (.lload 6, 2) := by decide +kernel
theorem d2_weighText_36 : decode prog_4_method_8_code 36 = .ok (.lconst 0, 1) := by decide +kernel
theorem d2_weighText_37 : decode prog_4_method_8_code 37 = .ok (.lcmp, 1) := by decide +kernel
theorem d2_weighText_38 : decode prog_4_method_8_code 38 = .ok (.ifCond .eq 59, 3) := by decide +kernel
theorem d2_weighText_41 : decode prog_4_method_8_code 41 = .ok (.aload_n 0, 1) := by decide +kernel
theorem d2_weighText_42 : decode prog_4_method_8_code 42 = .ok (.iload 8, 2) := by decide +kernel
theorem d2_weighText_44 : decode prog_4_method_8_code 44 = .ok (.iload_n 2, 1) := by decide +kernel
theorem d2_weighText_45 : decode prog_4_method_8_code 45 = .ok (.invokevirtual 85, 3) := by decide +kernel
theorem d2_weighText_48 : decode prog_4_method_8_code 48 = .ok (.ifCond .eq 43, 3) := by decide +kernel
theorem d2_weighText_51 : decode prog_4_method_8_code 51 = .ok (.aload_n 0, 1) := by decide +kernel
theorem d2_weighText_52 : decode prog_4_method_8_code 52 = .ok (.getfield 21, 3) := by decide +kernel
theorem d2_weighText_55 : decode prog_4_method_8_code 55 = .ok (.getfield 72, 3) := by decide +kernel
theorem d2_weighText_58 : decode prog_4_method_8_code 58 = .ok (.iload 8, 2) := by decide +kernel
theorem d2_weighText_60 : decode prog_4_method_8_code 60 = .ok (.aaload, 1) := by decide +kernel
theorem d2_weighText_61 : decode prog_4_method_8_code 61 = .ok (.astore 9, 2) := by decide +kernel
theorem d2_weighText_63 : decode prog_4_method_8_code 63 = .ok (.lload 6, 2) := by decide +kernel
theorem d2_weighText_65 : decode prog_4_method_8_code 65 = .ok (.aload 9, 2) := by decide +kernel
theorem d2_weighText_67 : decode prog_4_method_8_code 67 = .ok (.getfield 89, 3) := by decide +kernel
theorem d2_weighText_70 : decode prog_4_method_8_code 70 = .ok (.iconst 3, 1) := by decide +kernel
theorem d2_weighText_71 : decode prog_4_method_8_code 71 = .ok (.if_icmp .ne 9, 3) := by decide +kernel
theorem d2_weighText_74 : decode prog_4_method_8_code 74 = .ok (.ldc2_w 92, 3) := by decide +kernel
theorem d2_weighText_77 : decode prog_4_method_8_code 77 = .ok (.goto 11, 3) := by decide +kernel
theorem d2_weighText_80 : decode prog_4_method_8_code 80 = .ok (.aload 9, 2) := by decide +kernel
theorem d2_weighText_82 : decode prog_4_method_8_code 82 = .ok (.iload 5, 2) := by decide +kernel
theorem d2_weighText_84 : decode prog_4_method_8_code 84 = .ok (.invokevirtual 94, 3) := by decide +kernel
theorem d2_weighText_87 : decode prog_4_method_8_code 87 = .ok (.i2l, 1) := by decide +kernel
theorem d2_weighText_88 : decode prog_4_method_8_code 88 = .ok (.lmul, 1) := by decide +kernel
theorem d2_weighText_89 : decode prog_4_method_8_code 89 = .ok (.lstore 6, 2) := by decide +kernel
theorem d2_weighText_91 : decode prog_4_method_8_code 91 = .ok (.iinc 8 1, 3) := by decide +kernel
theorem d2_weighText_94 : decode prog_4_method_8_code 94 = .ok (.goto (-72), 3) := by decide +kernel
theorem d2_weighText_97 : decode prog_4_method_8_code 97 = .ok (.aload_n 0, 1) := by decide +kernel
theorem d2_weighText_98 : decode prog_4_method_8_code 98 = .ok (.getfield 32, 3) := by decide +kernel
theorem d2_weighText_101 : decode prog_4_method_8_code 101 = .ok (.iload 5, 2) := by decide +kernel
theorem d2_weighText_103 : decode prog_4_method_8_code 103 = .ok (.lload 6, 2) := by decide +kernel
theorem d2_weighText_105 : decode prog_4_method_8_code 105 = .ok (.lastore, 1) := by decide +kernel
theorem d2_weighText_106 : decode prog_4_method_8_code 106 = .ok (.lload_n 3, 1) := by decide +kernel
theorem d2_weighText_107 : decode prog_4_method_8_code 107 = .ok (.lload 6, 2) := by decide +kernel
theorem d2_weighText_109 : decode prog_4_method_8_code 109 = .ok (.ladd, 1) := by decide +kernel
theorem d2_weighText_110 : decode prog_4_method_8_code 110 = .ok (.lstore_n 3, 1) := by decide +kernel
theorem d2_weighText_111 : decode prog_4_method_8_code 111 = .ok (.iinc 5 1, 3) := by decide +kernel
theorem d2_weighText_114 : decode prog_4_method_8_code 114 = .ok (.goto (-109), 3) := by decide +kernel
theorem d2_weighText_117 : decode prog_4_method_8_code 117 = .ok (.lload_n 3, 1) := by decide +kernel
theorem d2_weighText_118 : decode prog_4_method_8_code 118 = .ok (.lreturn, 1) := by decide +kernel
theorem d2_weigh_0 : decode prog_4_method_2_code 0 = .ok (.aload_n 0, 1) := by decide +kernel
theorem d2_weigh_1 : decode prog_4_method_2_code 1 = .ok (.iload_n 1, 1) := by decide +kernel
theorem d2_weigh_2 : decode prog_4_method_2_code 2 = .ok (.ifCond .ne 15, 3) := by decide +kernel
theorem d2_weigh_5 : decode prog_4_method_2_code 5 = .ok (.aload_n 0, 1) := by decide +kernel
theorem d2_weigh_6 : decode prog_4_method_2_code 6 = .ok (.iload_n 2, 1) := by decide +kernel
theorem d2_weigh_7 : decode prog_4_method_2_code 7 = .ok (.bipush (-9), 2) := by decide +kernel
theorem d2_weigh_9 : decode prog_4_method_2_code 9 = .ok (.bipush (-9), 2) := by decide +kernel
theorem d2_weigh_11 : decode prog_4_method_2_code 11 = .ok (.invokevirtual 52, 3) := by decide +kernel
theorem d2_weigh_14 : decode prog_4_method_2_code 14 = .ok (.goto 16, 3) := by decide +kernel
theorem d2_weigh_17 : decode prog_4_method_2_code 17 = .ok (.aload_n 0, 1) := by decide +kernel
theorem d2_weigh_18 : decode prog_4_method_2_code 18 = .ok (.aload_n 0, 1) := by decide +kernel
theorem d2_weigh_19 : decode prog_4_method_2_code 19 = .ok (.getfield 29, 3) := by decide +kernel
theorem d2_weigh_22 : decode prog_4_method_2_code 22 = .ok (.iload_n 1, 1) := by decide +kernel
theorem d2_weigh_23 : decode prog_4_method_2_code 23 = .ok (.iconst 1, 1) := by decide +kernel
theorem d2_weigh_24 : decode prog_4_method_2_code 24 = .ok (.isub, 1) := by decide +kernel
theorem d2_weigh_25 : decode prog_4_method_2_code 25 = .ok (.aaload, 1) := by decide +kernel
theorem d2_weigh_26 : decode prog_4_method_2_code 26 = .ok (.iload_n 2, 1) := by decide +kernel
theorem d2_weigh_27 : decode prog_4_method_2_code 27 = .ok (.invokevirtual 56, 3) := by decide +kernel
theorem d2_weigh_30 : decode prog_4_method_2_code 30 = .ok (.putfield 39, 3) := by decide +kernel
theorem d2_weigh_33 : decode prog_4_method_2_code 33 = .ok (.aload_n 0, 1) := by decide +kernel
theorem d2_weigh_34 : decode prog_4_method_2_code 34 = .ok (.getfield 39, 3) := by decide +kernel
theorem d2_weigh_37 : decode prog_4_method_2_code 37 = .ok (.lreturn, 1) := by decide +kernel
theorem d7_weighed_0 : decode prog_1_method_59_code 0 = .ok (.aload_n 0, 1) := by decide +kernel
theorem d7_weighed_1 : decode prog_1_method_59_code 1 = .ok (.iload_n 1, 1) := by decide +kernel
theorem d7_weighed_2 : decode prog_1_method_59_code 2 = .ok (.bipush 6, 2) := by decide +kernel
theorem d7_weighed_4 : decode prog_1_method_59_code 4 = .ok (.invokevirtual 241, 3) := by decide +kernel
theorem d7_weighed_7 : decode prog_1_method_59_code 7 = .ok (.istore_n 2, 1) := by decide +kernel
theorem d7_weighed_8 : decode prog_1_method_59_code 8 = .ok (.iload_n 2, 1) := by decide +kernel
theorem d7_weighed_9 : decode prog_1_method_59_code 9 = .ok (.ifCond .eq 5, 3) := by decide +kernel
theorem d7_weighed_12 : decode prog_1_method_59_code 12 = .ok (.iload_n 2, 1) := by decide +kernel
theorem d7_weighed_13 : decode prog_1_method_59_code 13 = .ok (.ireturn, 1) := by decide +kernel
theorem d7_weighed_14 : decode prog_1_method_59_code 14 = .ok (.aload_n 0, 1) := by decide +kernel
theorem d7_weighed_15 : decode prog_1_method_59_code 15 = .ok (.getfield 29, 3) := by decide +kernel
theorem d7_weighed_18 : decode prog_1_method_59_code 18 = .ok (.iload_n 1, 1) := by decide +kernel
theorem d7_weighed_19 : decode prog_1_method_59_code 19 = .ok (.bipush (-9), 2) := by decide +kernel
theorem d7_weighed_21 : decode prog_1_method_59_code 21 = .ok (.invokevirtual 244, 3) := by decide +kernel
theorem d7_weighed_24 : decode prog_1_method_59_code 24 = .ok (.lconst 0, 1) := by decide +kernel
theorem d7_weighed_25 : decode prog_1_method_59_code 25 = .ok (.lcmp, 1) := by decide +kernel
theorem d7_weighed_26 : decode prog_1_method_59_code 26 = .ok (.ifCond .le 7, 3) := by decide +kernel
theorem d7_weighed_29 : decode prog_1_method_59_code 29 = .ok (.iconst 0, 1) := by decide +kernel
theorem d7_weighed_30 : decode prog_1_method_59_code 30 = .ok (.goto 8, 3) := by decide +kernel
theorem d7_weighed_33 : decode prog_1_method_59_code 33 = .ok (.aload_n 0, 1) := by decide +kernel
theorem d7_weighed_34 : decode prog_1_method_59_code 34 = .ok (.iconst 4, 1) := by decide +kernel
theorem d7_weighed_35 : decode prog_1_method_59_code 35 = .ok (.invokevirtual 92, 3) := by decide +kernel
theorem d7_weighed_38 : decode prog_1_method_59_code 38 = .ok (.ireturn, 1) := by decide +kernel
theorem d7_greatestDivisor_0 : decode prog_1_method_61_code 0 = .ok (.lload_n 0, 1) := by decide +kernel
theorem d7_greatestDivisor_1 : decode prog_1_method_61_code 1 = .ok (.lstore 4, 2) := by decide +kernel
theorem d7_greatestDivisor_3 : decode prog_1_method_61_code 3 = .ok (.lload_n 2, 1) := by decide +kernel
theorem d7_greatestDivisor_4 : decode prog_1_method_61_code 4 = .ok (.lstore 6, 2) := by decide +kernel
theorem d7_greatestDivisor_6 : decode prog_1_method_61_code 6 = .ok (.iconst 0, 1) := by decide +kernel
theorem d7_greatestDivisor_7 : decode prog_1_method_61_code 7 = .ok (.istore 8, 2) := by decide +kernel
theorem d7_greatestDivisor_9 : decode prog_1_method_61_code 9 = .ok (.iload 8, 2) := by decide +kernel
theorem d7_greatestDivisor_11 : decode prog_1_method_61_code 11 = .ok (.bipush 100, 2) := by decide +kernel
theorem d7_greatestDivisor_13 : decode prog_1_method_61_code 13 = .ok (.if_icmp .ge 31, 3) := by decide +kernel
theorem d7_greatestDivisor_16 : decode prog_1_method_61_code 16 = .ok (.lload 6, 2) := by decide +kernel
theorem d7_greatestDivisor_18 : decode prog_1_method_61_code 18 = .ok (.lconst 0, 1) := by decide +kernel
theorem d7_greatestDivisor_19 : decode prog_1_method_61_code 19 = .ok (.lcmp, 1) := by decide +kernel
theorem d7_greatestDivisor_20 : decode prog_1_method_61_code 20 = .ok (.ifCond .eq 24, 3) := by decide +kernel
theorem d7_greatestDivisor_23 : decode prog_1_method_61_code 23 = .ok (.lload 4, 2) := by decide +kernel
theorem d7_greatestDivisor_25 : decode prog_1_method_61_code 25 = .ok (.lload 6, 2) := by decide +kernel
theorem d7_greatestDivisor_27 : decode prog_1_method_61_code 27 = .ok (.lrem, 1) := by decide +kernel
theorem d7_greatestDivisor_28 : decode prog_1_method_61_code 28 = .ok (.lstore 9, 2) := by decide +kernel
theorem d7_greatestDivisor_30 : decode prog_1_method_61_code 30 = .ok (.lload 6, 2) := by decide +kernel
theorem d7_greatestDivisor_32 : decode prog_1_method_61_code 32 = .ok (.lstore 4, 2) := by decide +kernel
theorem d7_greatestDivisor_34 : decode prog_1_method_61_code 34 = .ok (.lload 9, 2) := by decide +kernel
theorem d7_greatestDivisor_36 : decode prog_1_method_61_code 36 = .ok (.lstore 6, 2) := by decide +kernel
theorem d7_greatestDivisor_38 : decode prog_1_method_61_code 38 = .ok (.iinc 8 1, 3) := by decide +kernel
theorem d7_greatestDivisor_41 : decode prog_1_method_61_code 41 = .ok (.goto (-32), 3) := by decide +kernel
theorem d7_greatestDivisor_44 : decode prog_1_method_61_code 44 = .ok (.lload 4, 2) := by decide +kernel
theorem d7_greatestDivisor_46 : decode prog_1_method_61_code 46 = .ok (.lreturn, 1) := by decide +kernel
theorem d7_fraction_0 : decode prog_1_method_60_code 0 = .ok (.lload_n 1, 1) := by decide +kernel
theorem d7_fraction_1 : decode prog_1_method_60_code 1 = .ok (.invokestatic 351, 3) := by decide +kernel
theorem d7_fraction_4 : decode prog_1_method_60_code 4 = .ok (.lload_n 3, 1) := by decide +kernel
theorem d7_fraction_5 : decode prog_1_method_60_code 5 = .ok (.invokestatic 357, 3) := by decide +kernel
theorem d7_fraction_8 : decode prog_1_method_60_code 8 = .ok (.lstore 5, 2) := by decide +kernel
theorem d7_fraction_10 : decode prog_1_method_60_code 10 = .ok (.lload 5, 2) := by decide +kernel
theorem d7_fraction_12 : decode prog_1_method_60_code 12 = .ok (.lconst 0, 1) := by decide +kernel
theorem d7_fraction_13 : decode prog_1_method_60_code 13 = .ok (.lcmp, 1) := by decide +kernel
theorem d7_fraction_14 : decode prog_1_method_60_code 14 = .ok (.ifCond .le 19, 3) := by decide +kernel
theorem d7_fraction_17 : decode prog_1_method_60_code 17 = .ok (.aload_n 0, 1) := by decide +kernel
theorem d7_fraction_18 : decode prog_1_method_60_code 18 = .ok (.lload_n 1, 1) := by decide +kernel
theorem d7_fraction_19 : decode prog_1_method_60_code 19 = .ok (.lload 5, 2) := by decide +kernel
theorem d7_fraction_21 : decode prog_1_method_60_code 21 = .ok (.ldiv, 1) := by decide +kernel
theorem d7_fraction_22 : decode prog_1_method_60_code 22 = .ok (.putfield 69, 3) := by decide +kernel
theorem d7_fraction_25 : decode prog_1_method_60_code 25 = .ok (.aload_n 0, 1) := by decide +kernel
theorem d7_fraction_26 : decode prog_1_method_60_code 26 = .ok (.lload_n 3, 1) := by decide +kernel
theorem d7_fraction_27 : decode prog_1_method_60_code 27 = .ok (.lload 5, 2) := by decide +kernel
theorem d7_fraction_29 : decode prog_1_method_60_code 29 = .ok (.ldiv, 1) := by decide +kernel
theorem d7_fraction_30 : decode prog_1_method_60_code 30 = .ok (.putfield 73, 3) := by decide +kernel
theorem d7_fraction_33 : decode prog_1_method_60_code 33 = .ok (.return_, 1) := by decide +kernel
theorem d7_where_0 : decode prog_1_method_25_code 0 = .ok (.iload_n 1, 1) := by decide +kernel
theorem d7_where_1 : decode prog_1_method_25_code 1 = .ok (.invokestatic 214, 3) := by decide +kernel
theorem d7_where_4 : decode prog_1_method_25_code 4 = .ok (.ifCond .eq 10, 3) := by decide +kernel
theorem d7_where_7 : decode prog_1_method_25_code 7 = .ok (.iload_n 2, 1) := by decide +kernel
theorem d7_where_8 : decode prog_1_method_25_code 8 = .ok (.invokestatic 120, 3) := by decide +kernel
theorem d7_where_11 : decode prog_1_method_25_code 11 = .ok (.ifCond .ne 5, 3) := by decide +kernel
theorem d7_where_14 : decode prog_1_method_25_code 14 = .ok (.iconst (-1), 1) := by decide +kernel
theorem d7_where_15 : decode prog_1_method_25_code 15 = .ok (.ireturn, 1) := by decide +kernel
theorem d7_where_16 : decode prog_1_method_25_code 16 = .ok (.aload_n 0, 1) := by decide +kernel
theorem d7_where_17 : decode prog_1_method_25_code 17 = .ok (.iload_n 1, 1) := by decide +kernel
theorem d7_where_18 : decode prog_1_method_25_code 18 = .ok (.invokevirtual 217, 3) := by decide +kernel
theorem d7_where_21 : decode prog_1_method_25_code 21 = .ok (.istore_n 3, 1) := by decide +kernel
theorem d7_where_22 : decode prog_1_method_25_code 22 = .ok (.iload_n 3, 1) := by decide +kernel
theorem d7_where_23 : decode prog_1_method_25_code 23 = .ok (.ifCond .eq 5, 3) := by decide +kernel
theorem d7_where_26 : decode prog_1_method_25_code 26 = .ok (.iload_n 3, 1) := by decide +kernel
theorem d7_where_27 : decode prog_1_method_25_code 27 = .ok (.ireturn, 1) := by decide +kernel
theorem d7_where_28 : decode prog_1_method_25_code 28 = .ok (.aload_n 0, 1) := by decide +kernel
theorem d7_where_29 : decode prog_1_method_25_code 29 = .ok (.aload_n 0, 1) := by decide +kernel
theorem d7_where_30 : decode prog_1_method_25_code 30 = .ok (.getfield 29, 3) := by decide +kernel
theorem d7_where_33 : decode prog_1_method_25_code 33 = .ok (.getfield 220, 3) := by decide +kernel
theorem d7_where_36 : decode prog_1_method_25_code 36 = .ok (.iload_n 2, 1) := by decide +kernel
theorem d7_where_37 : decode prog_1_method_25_code 37 = .ok (.laload, 1) := by decide +kernel
theorem d7_where_38 : decode prog_1_method_25_code 38 = .ok (.aload_n 0, 1) := by decide +kernel
theorem d7_where_39 : decode prog_1_method_25_code 39 = .ok (.getfield 29, 3) := by decide +kernel
theorem d7_where_42 : decode prog_1_method_25_code 42 = .ok (.getfield 223, 3) := by decide +kernel
theorem d7_where_45 : decode prog_1_method_25_code 45 = .ok (.invokevirtual 226, 3) := by decide +kernel
theorem d7_where_48 : decode prog_1_method_25_code 48 = .ok (.iconst 1, 1) := by decide +kernel
theorem d7_where_49 : decode prog_1_method_25_code 49 = .ok (.ireturn, 1) := by decide +kernel
theorem d8_askedStory_0 : decode prog_10_method_71_code 0 = .ok (.iload_n 1, 1) := by decide +kernel
theorem d8_askedStory_1 : decode prog_10_method_71_code 1 = .ok (.iconst 0, 1) := by decide +kernel
theorem d8_askedStory_2 : decode prog_10_method_71_code 2 = .ok (.iconst 3, 1) := by decide +kernel
theorem d8_askedStory_3 : decode prog_10_method_71_code 3 = .ok (.invokestatic 80, 3) := by decide +kernel
theorem d8_askedStory_6 : decode prog_10_method_71_code 6 = .ok (.ifCond .ne 7, 3) := by decide +kernel
theorem d8_askedStory_9 : decode prog_10_method_71_code 9 = .ok (.iconst (-1), 1) := by decide +kernel
theorem d8_askedStory_10 : decode prog_10_method_71_code 10 = .ok (.goto 25, 3) := by decide +kernel
theorem d8_askedStory_13 : decode prog_10_method_71_code 13 = .ok (.iload_n 1, 1) := by decide +kernel
theorem d8_askedStory_14 : decode prog_10_method_71_code 14 = .ok (.ifCond .le 20, 3) := by decide +kernel
theorem d8_askedStory_17 : decode prog_10_method_71_code 17 = .ok (.aload_n 0, 1) := by decide +kernel
theorem d8_askedStory_18 : decode prog_10_method_71_code 18 = .ok (.getfield 35, 3) := by decide +kernel
theorem d8_askedStory_21 : decode prog_10_method_71_code 21 = .ok (.iload_n 1, 1) := by decide +kernel
theorem d8_askedStory_22 : decode prog_10_method_71_code 22 = .ok (.baload, 1) := by decide +kernel
theorem d8_askedStory_23 : decode prog_10_method_71_code 23 = .ok (.ifCond .ne 11, 3) := by decide +kernel
theorem d8_askedStory_26 : decode prog_10_method_71_code 26 = .ok (.aload_n 0, 1) := by decide +kernel
theorem d8_askedStory_27 : decode prog_10_method_71_code 27 = .ok (.iconst 1, 1) := by decide +kernel
theorem d8_askedStory_28 : decode prog_10_method_71_code 28 = .ok (.invokevirtual 88, 3) := by decide +kernel
theorem d8_askedStory_31 : decode prog_10_method_71_code 31 = .ok (.goto 4, 3) := by decide +kernel
theorem d8_askedStory_34 : decode prog_10_method_71_code 34 = .ok (.iconst 0, 1) := by decide +kernel
theorem d8_askedStory_35 : decode prog_10_method_71_code 35 = .ok (.ireturn, 1) := by decide +kernel
theorem d8_counts_0 : decode prog_10_method_61_code 0 = .ok (.iload_n 1, 1) := by decide +kernel
theorem d8_counts_1 : decode prog_10_method_61_code 1 = .ok (.aload_n 0, 1) := by decide +kernel
theorem d8_counts_2 : decode prog_10_method_61_code 2 = .ok (.getfield 48, 3) := by decide +kernel
theorem d8_counts_5 : decode prog_10_method_61_code 5 = .ok (.if_icmp .eq 25, 3) := by decide +kernel
theorem d8_counts_8 : decode prog_10_method_61_code 8 = .ok (.aload_n 0, 1) := by decide +kernel
theorem d8_counts_9 : decode prog_10_method_61_code 9 = .ok (.iload_n 1, 1) := by decide +kernel
theorem d8_counts_10 : decode prog_10_method_61_code 10 = .ok (.iconst 4, 1) := by decide +kernel
theorem d8_counts_11 : decode prog_10_method_61_code 11 = .ok (.invokevirtual 175, 3) := by decide +kernel
theorem d8_counts_14 : decode prog_10_method_61_code 14 = .ok (.ifCond .ne 16, 3) := by decide +kernel
theorem d8_counts_17 : decode prog_10_method_61_code 17 = .ok (.aload_n 0, 1) := by decide +kernel
theorem d8_counts_18 : decode prog_10_method_61_code 18 = .ok (.iload_n 1, 1) := by decide +kernel
theorem d8_counts_19 : decode prog_10_method_61_code 19 = .ok (.iconst 0, 1) := by decide +kernel
theorem d8_counts_20 : decode prog_10_method_61_code 20 = .ok (.invokevirtual 175, 3) := by decide +kernel
theorem d8_counts_23 : decode prog_10_method_61_code 23 = .ok (.ifCond .eq 7, 3) := by decide +kernel
theorem d8_counts_26 : decode prog_10_method_61_code 26 = .ok (.iconst 1, 1) := by decide +kernel
theorem d8_counts_27 : decode prog_10_method_61_code 27 = .ok (.goto 4, 3) := by decide +kernel
theorem d8_counts_30 : decode prog_10_method_61_code 30 = .ok (.iconst 0, 1) := by decide +kernel
theorem d8_counts_31 : decode prog_10_method_61_code 31 = .ok (.ireturn, 1) := by decide +kernel
theorem d8_counted_0 : decode prog_10_method_62_code 0 = .ok (.iconst 0, 1) := by decide +kernel
theorem d8_counted_1 : decode prog_10_method_62_code 1 = .ok (.istore_n 1, 1) := by decide +kernel
theorem d8_counted_2 : decode prog_10_method_62_code 2 = .ok (.iconst 0, 1) := by decide +kernel
theorem d8_counted_3 : decode prog_10_method_62_code 3 = .ok (.istore_n 2, 1) := by decide +kernel
theorem d8_counted_4 : decode prog_10_method_62_code 4 = .ok (.iload_n 2, 1) := by decide +kernel
theorem d8_counted_5 : decode prog_10_method_62_code 5 = .ok (.aload_n 0, 1) := by decide +kernel
theorem d8_counted_6 : decode prog_10_method_62_code 6 = .ok (.getfield 161, 3) := by decide +kernel
theorem d8_counted_9 : decode prog_10_method_62_code 9 = .ok (.if_icmp .ge 25, 3) := by decide +kernel
theorem d8_counted_12 : decode prog_10_method_62_code 12 = .ok (.iload_n 1, 1) := by decide +kernel
theorem d8_counted_13 : decode prog_10_method_62_code 13 = .ok (.aload_n 0, 1) := by decide +kernel
theorem d8_counted_14 : decode prog_10_method_62_code 14 = .ok (.iload_n 2, 1) := by decide +kernel
theorem d8_counted_15 : decode prog_10_method_62_code 15 = .ok (.invokevirtual 196, 3) := by decide +kernel
theorem d8_counted_18 : decode prog_10_method_62_code 18 = .ok (.ifCond .eq 7, 3) := by decide +kernel
theorem d8_counted_21 : decode prog_10_method_62_code 21 = .ok (.iconst 1, 1) := by decide +kernel
theorem d8_counted_22 : decode prog_10_method_62_code 22 = .ok (.goto 4, 3) := by decide +kernel
theorem d8_counted_25 : decode prog_10_method_62_code 25 = .ok (.iconst 0, 1) := by decide +kernel
theorem d8_counted_26 : decode prog_10_method_62_code 26 = .ok (.iadd, 1) := by decide +kernel
theorem d8_counted_27 : decode prog_10_method_62_code 27 = .ok (.istore_n 1, 1) := by decide +kernel
theorem d8_counted_28 : decode prog_10_method_62_code 28 = .ok (.iinc 2 1, 3) := by decide +kernel
theorem d8_counted_31 : decode prog_10_method_62_code 31 = .ok (.goto (-27), 3) := by decide +kernel
theorem d8_counted_34 : decode prog_10_method_62_code 34 = .ok (.iload_n 1, 1) := by decide +kernel
theorem d8_counted_35 : decode prog_10_method_62_code 35 = .ok (.ireturn, 1) := by decide +kernel
theorem d8_isByHour_0 : decode prog_10_method_63_code 0 = .ok (.iload_n 0, 1) := by decide +kernel
theorem d8_isByHour_1 : decode prog_10_method_63_code 1 = .ok (.iconst 1, 1) := by decide +kernel
theorem d8_isByHour_2 : decode prog_10_method_63_code 2 = .ok (.if_icmp .eq 8, 3) := by decide +kernel
theorem d8_isByHour_5 : decode prog_10_method_63_code 5 = .ok (.iload_n 0, 1) := by decide +kernel
theorem d8_isByHour_6 : decode prog_10_method_63_code 6 = .ok (.iconst 2, 1) := by decide +kernel
theorem d8_isByHour_7 : decode prog_10_method_63_code 7 = .ok (.if_icmp .ne 7, 3) := by decide +kernel
theorem d8_isByHour_10 : decode prog_10_method_63_code 10 = .ok (.iconst 1, 1) := by decide +kernel
theorem d8_isByHour_11 : decode prog_10_method_63_code 11 = .ok (.goto 4, 3) := by decide +kernel
theorem d8_isByHour_14 : decode prog_10_method_63_code 14 = .ok (.iconst 0, 1) := by decide +kernel
theorem d8_isByHour_15 : decode prog_10_method_63_code 15 = .ok (.ireturn, 1) := by decide +kernel
theorem d8_hourWeight_0 : decode prog_10_method_64_code 0 = .ok (.lconst 1, 1) := by decide +kernel
theorem d8_hourWeight_1 : decode prog_10_method_64_code 1 = .ok (.lstore_n 3, 1) := by decide +kernel
theorem d8_hourWeight_2 : decode prog_10_method_64_code 2 = .ok (.iconst 0, 1) := by decide +kernel
theorem d8_hourWeight_3 : decode prog_10_method_64_code 3 = .ok (.istore 5, 2) := by decide +kernel
theorem d8_hourWeight_5 : decode prog_10_method_64_code 5 = .ok (.iload 5, 2) := by decide +kernel
theorem d8_hourWeight_7 : decode prog_10_method_64_code 7 = .ok (.aload_n 0, 1) := by decide +kernel
theorem d8_hourWeight_8 : decode prog_10_method_64_code 8 = .ok (.getfield 161, 3) := by decide +kernel
theorem d8_hourWeight_11 : decode prog_10_method_64_code 11 = .ok (.if_icmp .ge 57, 3) := by decide +kernel
theorem d8_hourWeight_14 : decode prog_10_method_64_code 14 = .ok (.lload_n 3, 1) := by decide +kernel
theorem d8_hourWeight_15 : decode prog_10_method_64_code 15 = .ok (.aload_n 0, 1) := by decide +kernel
theorem d8_hourWeight_16 : decode prog_10_method_64_code 16 = .ok (.iload 5, 2) := by decide +kernel
theorem d8_hourWeight_18 : decode prog_10_method_64_code 18 = .ok (.invokevirtual 196, 3) := by decide +kernel
theorem d8_hourWeight_21 : decode prog_10_method_64_code 21 = .ok (.ifCond .eq 38, 3) := by decide +kernel
theorem d8_hourWeight_24 : decode prog_10_method_64_code 24 = .ok (.aload_n 0, 1) := by decide +kernel
theorem d8_hourWeight_25 : decode prog_10_method_64_code 25 = .ok (.iload 5, 2) := by decide +kernel
theorem d8_hourWeight_27 : decode prog_10_method_64_code 27 = .ok (.iconst 0, 1) := by decide +kernel
theorem d8_hourWeight_28 : decode prog_10_method_64_code 28 = .ok (.invokevirtual 175, 3) := by decide +kernel
theorem d8_hourWeight_31 : decode prog_10_method_64_code 31 = .ok (.invokestatic 199, 3) := by decide +kernel
theorem d8_hourWeight_34 : decode prog_10_method_64_code 34 = .ok (.ifCond .eq 25, 3) := by decide +kernel
theorem d8_hourWeight_37 : decode prog_10_method_64_code 37 = .ok (.aload_n 0, 1) := by decide +kernel
theorem d8_hourWeight_38 : decode prog_10_method_64_code 38 = .ok (.iload 5, 2) := by decide +kernel
theorem d8_hourWeight_40 : decode prog_10_method_64_code 40 = .ok (.iconst 1, 1) := by decide +kernel
theorem d8_hourWeight_41 : decode prog_10_method_64_code 41 = .ok (.invokevirtual 175, 3) := by decide +kernel
theorem d8_hourWeight_44 : decode prog_10_method_64_code 44 = .ok (.iload_n 1, 1) := by decide +kernel
theorem d8_hourWeight_45 : decode prog_10_method_64_code 45 = .ok (.if_icmp .ne 14, 3) := by decide +kernel
theorem d8_hourWeight_48 : decode prog_10_method_64_code 48 = .ok (.aload_n 0, 1) := by decide +kernel
theorem d8_hourWeight_49 : decode prog_10_method_64_code 49 = .ok (.iload 5, 2) := by decide +kernel
theorem d8_hourWeight_51 : decode prog_10_method_64_code 51 = .ok (.iload_n 2, 1) := by decide +kernel
theorem d8_hourWeight_52 : decode prog_10_method_64_code 52 = .ok (.invokevirtual 187, 3) := by decide +kernel
theorem d8_hourWeight_55 : decode prog_10_method_64_code 55 = .ok (.i2l, 1) := by decide +kernel
theorem d8_hourWeight_56 : decode prog_10_method_64_code 56 = .ok (.goto 4, 3) := by decide +kernel
theorem d8_hourWeight_59 : decode prog_10_method_64_code 59 = .ok (.lconst 1, 1) := by decide +kernel
theorem d8_hourWeight_60 : decode prog_10_method_64_code 60 = .ok (.lmul, 1) := by decide +kernel
theorem d8_hourWeight_61 : decode prog_10_method_64_code 61 = .ok (.lstore_n 3, 1) := by decide +kernel
theorem d8_hourWeight_62 : decode prog_10_method_64_code 62 = .ok (.iinc 5 1, 3) := by decide +kernel
theorem d8_hourWeight_65 : decode prog_10_method_64_code 65 = .ok (.goto (-60), 3) := by decide +kernel
theorem d8_hourWeight_68 : decode prog_10_method_64_code 68 = .ok (.lload_n 3, 1) := by decide +kernel
theorem d8_hourWeight_69 : decode prog_10_method_64_code 69 = .ok (.lreturn, 1) := by decide +kernel
theorem d8_turned_0 : decode prog_10_method_66_code 0 = .ok (.iload_n 0, 1) := by decide +kernel
theorem d8_turned_1 : decode prog_10_method_66_code 1 = .ok (.iload_n 1, 1) := by decide +kernel
theorem d8_turned_2 : decode prog_10_method_66_code 2 = .ok (.iadd, 1) := by decide +kernel
theorem d8_turned_3 : decode prog_10_method_66_code 3 = .ok (.bipush 8, 2) := by decide +kernel
theorem d8_turned_5 : decode prog_10_method_66_code 5 = .ok (.iadd, 1) := by decide +kernel
theorem d8_turned_6 : decode prog_10_method_66_code 6 = .ok (.bipush 8, 2) := by decide +kernel
theorem d8_turned_8 : decode prog_10_method_66_code 8 = .ok (.irem, 1) := by decide +kernel
theorem d8_turned_9 : decode prog_10_method_66_code 9 = .ok (.ireturn, 1) := by decide +kernel
theorem d8_goesTo_0 : decode prog_10_method_26_code 0 = .ok (.iload_n 0, 1) := by decide +kernel
theorem d8_goesTo_1 : decode prog_10_method_26_code 1 = .ok (.iload_n 1, 1) := by decide +kernel
theorem d8_goesTo_2 : decode prog_10_method_26_code 2 = .ok (.invokestatic 114, 3) := by decide +kernel
theorem d8_goesTo_5 : decode prog_10_method_26_code 5 = .ok (.istore_n 2, 1) := by decide +kernel
theorem d8_goesTo_6 : decode prog_10_method_26_code 6 = .ok (.iload_n 2, 1) := by decide +kernel
theorem d8_goesTo_7 : decode prog_10_method_26_code 7 = .ok (.ifCond .ge 7, 3) := by decide +kernel
theorem d8_goesTo_10 : decode prog_10_method_26_code 10 = .ok (.iload_n 0, 1) := by decide +kernel
theorem d8_goesTo_11 : decode prog_10_method_26_code 11 = .ok (.goto 4, 3) := by decide +kernel
theorem d8_goesTo_14 : decode prog_10_method_26_code 14 = .ok (.iload_n 2, 1) := by decide +kernel
theorem d8_goesTo_15 : decode prog_10_method_26_code 15 = .ok (.ireturn, 1) := by decide +kernel
theorem d8_setCome_0 : decode prog_10_method_67_code 0 = .ok (.iconst 0, 1) := by decide +kernel
theorem d8_setCome_1 : decode prog_10_method_67_code 1 = .ok (.istore_n 1, 1) := by decide +kernel
theorem d8_setCome_2 : decode prog_10_method_67_code 2 = .ok (.iload_n 1, 1) := by decide +kernel
theorem d8_setCome_3 : decode prog_10_method_67_code 3 = .ok (.sipush 840, 3) := by decide +kernel
theorem d8_setCome_6 : decode prog_10_method_67_code 6 = .ok (.if_icmp .ge 16, 3) := by decide +kernel
theorem d8_setCome_9 : decode prog_10_method_67_code 9 = .ok (.aload_n 0, 1) := by decide +kernel
theorem d8_setCome_10 : decode prog_10_method_67_code 10 = .ok (.getfield 52, 3) := by decide +kernel
theorem d8_setCome_13 : decode prog_10_method_67_code 13 = .ok (.iload_n 1, 1) := by decide +kernel
theorem d8_setCome_14 : decode prog_10_method_67_code 14 = .ok (.lconst 0, 1) := by decide +kernel
theorem d8_setCome_15 : decode prog_10_method_67_code 15 = .ok (.lastore, 1) := by decide +kernel
theorem d8_setCome_16 : decode prog_10_method_67_code 16 = .ok (.iinc 1 1, 3) := by decide +kernel
theorem d8_setCome_19 : decode prog_10_method_67_code 19 = .ok (.goto (-17), 3) := by decide +kernel
theorem d8_setCome_22 : decode prog_10_method_67_code 22 = .ok (.aload_n 0, 1) := by decide +kernel
theorem d8_setCome_23 : decode prog_10_method_67_code 23 = .ok (.getfield 52, 3) := by decide +kernel
theorem d8_setCome_26 : decode prog_10_method_67_code 26 = .ok (.aload_n 0, 1) := by decide +kernel
theorem d8_setCome_27 : decode prog_10_method_67_code 27 = .ok (.getfield 32, 3) := by decide +kernel
theorem d8_setCome_30 : decode prog_10_method_67_code 30 = .ok (.iconst 0, 1) := by decide +kernel
theorem d8_setCome_31 : decode prog_10_method_67_code 31 = .ok (.iaload, 1) := by decide +kernel
theorem d8_setCome_32 : decode prog_10_method_67_code 32 = .ok (.aload_n 0, 1) := by decide +kernel
theorem d8_setCome_33 : decode prog_10_method_67_code 33 = .ok (.iconst 0, 1) := by decide +kernel
theorem d8_setCome_34 : decode prog_10_method_67_code 34 = .ok (.aload_n 0, 1) := by decide +kernel
theorem d8_setCome_35 : decode prog_10_method_67_code 35 = .ok (.getfield 32, 3) := by decide +kernel
theorem d8_setCome_38 : decode prog_10_method_67_code 38 = .ok (.iconst 0, 1) := by decide +kernel
theorem d8_setCome_39 : decode prog_10_method_67_code 39 = .ok (.iaload, 1) := by decide +kernel
theorem d8_setCome_40 : decode prog_10_method_67_code 40 = .ok (.invokevirtual 207, 3) := by decide +kernel
theorem d8_setCome_43 : decode prog_10_method_67_code 43 = .ok (.lastore, 1) := by decide +kernel
theorem d8_setCome_44 : decode prog_10_method_67_code 44 = .ok (.iconst 0, 1) := by decide +kernel
theorem d8_setCome_45 : decode prog_10_method_67_code 45 = .ok (.istore_n 1, 1) := by decide +kernel
theorem d8_setCome_46 : decode prog_10_method_67_code 46 = .ok (.iload_n 1, 1) := by decide +kernel
theorem d8_setCome_47 : decode prog_10_method_67_code 47 = .ok (.aload_n 0, 1) := by decide +kernel
theorem d8_setCome_48 : decode prog_10_method_67_code 48 = .ok (.invokevirtual 129, 3) := by decide +kernel
theorem d8_setCome_51 : decode prog_10_method_67_code 51 = .ok (.if_icmp .ge 113, 3) := by decide +kernel
theorem d8_setCome_54 : decode prog_10_method_67_code 54 = .ok (.iconst 0, 1) := by decide +kernel
theorem d8_setCome_55 : decode prog_10_method_67_code 55 = .ok (.istore_n 2, 1) := by decide +kernel
theorem d8_setCome_56 : decode prog_10_method_67_code 56 = .ok (.iload_n 2, 1) := by decide +kernel
theorem d8_setCome_57 : decode prog_10_method_67_code 57 = .ok (.bipush 120, 2) := by decide +kernel
theorem d8_setCome_59 : decode prog_10_method_67_code 59 = .ok (.if_icmp .ge 99, 3) := by decide +kernel
theorem d8_setCome_62 : decode prog_10_method_67_code 62 = .ok (.aload_n 0, 1) := by decide +kernel
theorem d8_setCome_63 : decode prog_10_method_67_code 63 = .ok (.getfield 52, 3) := by decide +kernel
theorem d8_setCome_66 : decode prog_10_method_67_code 66 = .ok (.bipush 120, 2) := by decide +kernel
theorem d8_setCome_68 : decode prog_10_method_67_code 68 = .ok (.iload_n 1, 1) := by decide +kernel
theorem d8_setCome_69 : decode prog_10_method_67_code 69 = .ok (.imul, 1) := by decide +kernel
theorem d8_setCome_70 : decode prog_10_method_67_code 70 = .ok (.iload_n 2, 1) := by decide +kernel
theorem d8_setCome_71 : decode prog_10_method_67_code 71 = .ok (.iadd, 1) := by decide +kernel
theorem d8_setCome_72 : decode prog_10_method_67_code 72 = .ok (.laload, 1) := by decide +kernel
theorem d8_setCome_73 : decode prog_10_method_67_code 73 = .ok (.lstore_n 3, 1) := by decide +kernel
theorem d8_setCome_74 : decode prog_10_method_67_code 74 = .ok (.iconst (-1), 1) := by decide +kernel
theorem d8_setCome_75 : decode prog_10_method_67_code 75 = .ok (.istore 5, 2) := by decide +kernel
theorem d8_setCome_77 : decode prog_10_method_67_code 77 = .ok (.iload 5, 2) := by decide +kernel
theorem d8_setCome_79 : decode prog_10_method_67_code 79 = .ok (.iconst 2, 1) := by decide +kernel
theorem d8_setCome_80 : decode prog_10_method_67_code 80 = .ok (.if_icmp .ge 72, 3) := by decide +kernel
theorem d8_setCome_83 : decode prog_10_method_67_code 83 = .ok (.lload_n 3, 1) := by decide +kernel
theorem d8_setCome_84 : decode prog_10_method_67_code 84 = .ok (.lconst 0, 1) := by decide +kernel
theorem d8_setCome_85 : decode prog_10_method_67_code 85 = .ok (.lcmp, 1) := by decide +kernel
theorem d8_setCome_86 : decode prog_10_method_67_code 86 = .ok (.ifCond .le 66, 3) := by decide +kernel
theorem d8_setCome_89 : decode prog_10_method_67_code 89 = .ok (.iload_n 2, 1) := by decide +kernel
theorem d8_setCome_90 : decode prog_10_method_67_code 90 = .ok (.aload_n 0, 1) := by decide +kernel
theorem d8_setCome_91 : decode prog_10_method_67_code 91 = .ok (.iload_n 1, 1) := by decide +kernel
theorem d8_setCome_92 : decode prog_10_method_67_code 92 = .ok (.invokevirtual 133, 3) := by decide +kernel
theorem d8_setCome_95 : decode prog_10_method_67_code 95 = .ok (.iload 5, 2) := by decide +kernel
theorem d8_setCome_97 : decode prog_10_method_67_code 97 = .ok (.invokestatic 211, 3) := by decide +kernel
theorem d8_setCome_100 : decode prog_10_method_67_code 100 = .ok (.invokestatic 214, 3) := by decide +kernel
theorem d8_setCome_103 : decode prog_10_method_67_code 103 = .ok (.istore 6, 2) := by decide +kernel
theorem d8_setCome_105 : decode prog_10_method_67_code 105 = .ok (.aload_n 0, 1) := by decide +kernel
theorem d8_setCome_106 : decode prog_10_method_67_code 106 = .ok (.getfield 52, 3) := by decide +kernel
theorem d8_setCome_109 : decode prog_10_method_67_code 109 = .ok (.bipush 120, 2) := by decide +kernel
theorem d8_setCome_111 : decode prog_10_method_67_code 111 = .ok (.iload_n 1, 1) := by decide +kernel
theorem d8_setCome_112 : decode prog_10_method_67_code 112 = .ok (.iconst 1, 1) := by decide +kernel
theorem d8_setCome_113 : decode prog_10_method_67_code 113 = .ok (.iadd, 1) := by decide +kernel
theorem d8_setCome_114 : decode prog_10_method_67_code 114 = .ok (.imul, 1) := by decide +kernel
theorem d8_setCome_115 : decode prog_10_method_67_code 115 = .ok (.iload 6, 2) := by decide +kernel
theorem d8_setCome_117 : decode prog_10_method_67_code 117 = .ok (.iadd, 1) := by decide +kernel
theorem d8_setCome_118 : decode prog_10_method_67_code 118 = .ok (.dup2, 1) := by decide +kernel
theorem d8_setCome_119 : decode prog_10_method_67_code 119 = .ok (.laload, 1) := by decide +kernel
theorem d8_setCome_120 : decode prog_10_method_67_code 120 = .ok (.lload_n 3, 1) := by decide +kernel
theorem d8_setCome_121 : decode prog_10_method_67_code 121 = .ok (.iload 5, 2) := by decide +kernel
theorem d8_setCome_123 : decode prog_10_method_67_code 123 = .ok (.ifCond .ne 9, 3) := by decide +kernel
theorem d8_setCome_126 : decode prog_10_method_67_code 126 = .ok (.ldc2_w 217, 3) := by decide +kernel
theorem d8_setCome_129 : decode prog_10_method_67_code 129 = .ok (.goto 4, 3) := by decide +kernel
theorem d8_setCome_132 : decode prog_10_method_67_code 132 = .ok (.lconst 1, 1) := by decide +kernel
theorem d8_setCome_133 : decode prog_10_method_67_code 133 = .ok (.lmul, 1) := by decide +kernel
theorem d8_setCome_134 : decode prog_10_method_67_code 134 = .ok (.aload_n 0, 1) := by decide +kernel
theorem d8_setCome_135 : decode prog_10_method_67_code 135 = .ok (.iload_n 1, 1) := by decide +kernel
theorem d8_setCome_136 : decode prog_10_method_67_code 136 = .ok (.iconst 1, 1) := by decide +kernel
