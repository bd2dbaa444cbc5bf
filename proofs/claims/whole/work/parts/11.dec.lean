theorem d7_isRow_0 : decode prog_1_method_50_code 0 = .ok (.iload_n 0, 1) := by decide +kernel
theorem d7_isRow_1 : decode prog_1_method_50_code 1 = .ok (.ifCond .lt 13, 3) := by decide +kernel
theorem d7_isRow_4 : decode prog_1_method_50_code 4 = .ok (.iload_n 0, 1) := by decide +kernel
theorem d7_isRow_5 : decode prog_1_method_50_code 5 = .ok (.bipush 6, 2) := by decide +kernel
theorem d7_isRow_7 : decode prog_1_method_50_code 7 = .ok (.if_icmp .ge 7, 3) := by decide +kernel
theorem d7_isRow_10 : decode prog_1_method_50_code 10 = .ok (.iconst 1, 1) := by decide +kernel
theorem d7_isRow_11 : decode prog_1_method_50_code 11 = .ok (.goto 4, 3) := by decide +kernel
theorem d7_isRow_14 : decode prog_1_method_50_code 14 = .ok (.iconst 0, 1) := by decide +kernel
theorem d7_isRow_15 : decode prog_1_method_50_code 15 = .ok (.ireturn, 1) := by decide +kernel
theorem d7_found_0 : decode prog_1_method_57_code 0 = .ok (.aload_n 0, 1) := by decide +kernel
theorem d7_found_1 : decode prog_1_method_57_code 1 = .ok (.iload_n 1, 1) := by decide +kernel
theorem d7_found_2 : decode prog_1_method_57_code 2 = .ok (.putfield 76, 3) := by decide +kernel
theorem d7_found_5 : decode prog_1_method_57_code 5 = .ok (.aload_n 0, 1) := by decide +kernel
theorem d7_found_6 : decode prog_1_method_57_code 6 = .ok (.getfield 79, 3) := by decide +kernel
theorem d7_found_9 : decode prog_1_method_57_code 9 = .ok (.iload_n 1, 1) := by decide +kernel
theorem d7_found_10 : decode prog_1_method_57_code 10 = .ok (.dup2, 1) := by decide +kernel
theorem d7_found_11 : decode prog_1_method_57_code 11 = .ok (.iaload, 1) := by decide +kernel
theorem d7_found_12 : decode prog_1_method_57_code 12 = .ok (.iconst 1, 1) := by decide +kernel
theorem d7_found_13 : decode prog_1_method_57_code 13 = .ok (.iadd, 1) := by decide +kernel
theorem d7_found_14 : decode prog_1_method_57_code 14 = .ok (.iastore, 1) := by decide +kernel
theorem d7_found_15 : decode prog_1_method_57_code 15 = .ok (.bipush (-3), 2) := by decide +kernel
theorem d7_found_17 : decode prog_1_method_57_code 17 = .ok (.ireturn, 1) := by decide +kernel
theorem dA_fillI_0 : decode prog_14_method_103_code 0 = .ok (.iconst 0, 1) := by decide +kernel
theorem dA_fillI_1 : decode prog_14_method_103_code 1 = .ok (.istore_n 2, 1) := by decide +kernel
theorem dA_fillI_2 : decode prog_14_method_103_code 2 = .ok (.aload_n 0, 1) := by decide +kernel
theorem dA_fillI_3 : decode prog_14_method_103_code 3 = .ok (.arraylength, 1) := by decide +kernel
theorem dA_fillI_4 : decode prog_14_method_103_code 4 = .ok (.istore_n 3, 1) := by decide +kernel
theorem dA_fillI_5 : decode prog_14_method_103_code 5 = .ok (.iload_n 2, 1) := by decide +kernel
theorem dA_fillI_6 : decode prog_14_method_103_code 6 = .ok (.iload_n 3, 1) := by decide +kernel
theorem dA_fillI_7 : decode prog_14_method_103_code 7 = .ok (.if_icmp .ge 13, 3) := by decide +kernel
theorem dA_fillI_10 : decode prog_14_method_103_code 10 = .ok (.aload_n 0, 1) := by decide +kernel
theorem dA_fillI_11 : decode prog_14_method_103_code 11 = .ok (.iload_n 2, 1) := by decide +kernel
theorem dA_fillI_12 : decode prog_14_method_103_code 12 = .ok (.iload_n 1, 1) := by decide +kernel
theorem dA_fillI_13 : decode prog_14_method_103_code 13 = .ok (.iastore, 1) := by decide +kernel
theorem dA_fillI_14 : decode prog_14_method_103_code 14 = .ok (.iinc 2 1, 3) := by decide +kernel
theorem dA_fillI_17 : decode prog_14_method_103_code 17 = .ok (.goto (-12), 3) := by decide +kernel
theorem dA_fillI_20 : decode prog_14_method_103_code 20 = .ok (.return_, 1) := by decide +kernel
theorem d7_renew_0 : decode prog_1_method_56_code 0 = .ok (.aload_n 0, 1) := by decide +kernel
theorem d7_renew_1 : decode prog_1_method_56_code 1 = .ok (.getfield 14, 3) := by decide +kernel
theorem d7_renew_4 : decode prog_1_method_56_code 4 = .ok (.iload_n 1, 1) := by decide +kernel
theorem d7_renew_5 : decode prog_1_method_56_code 5 = .ok (.iload_n 2, 1) := by decide +kernel
theorem d7_renew_6 : decode prog_1_method_56_code 6 = .ok (.iastore, 1) := by decide +kernel
theorem d7_renew_7 : decode prog_1_method_56_code 7 = .ok (.aload_n 0, 1) := by decide +kernel
theorem d7_renew_8 : decode prog_1_method_56_code 8 = .ok (.getfield 11, 3) := by decide +kernel
theorem d7_renew_11 : decode prog_1_method_56_code 11 = .ok (.iload_n 1, 1) := by decide +kernel
theorem d7_renew_12 : decode prog_1_method_56_code 12 = .ok (.aaload, 1) := by decide +kernel
theorem d7_renew_13 : decode prog_1_method_56_code 13 = .ok (.iconst 0, 1) := by decide +kernel
theorem d7_renew_14 : decode prog_1_method_56_code 14 = .ok (.invokestatic 82, 3) := by decide +kernel
theorem d7_renew_17 : decode prog_1_method_56_code 17 = .ok (.return_, 1) := by decide +kernel
theorem d7_row_0 : decode prog_1_method_2_code 0 = .ok (.iload_n 1, 1) := by decide +kernel
theorem d7_row_1 : decode prog_1_method_2_code 1 = .ok (.invokestatic 88, 3) := by decide +kernel
theorem d7_row_4 : decode prog_1_method_2_code 4 = .ok (.ifCond .eq 9, 3) := by decide +kernel
theorem d7_row_7 : decode prog_1_method_2_code 7 = .ok (.iload_n 2, 1) := by decide +kernel
theorem d7_row_8 : decode prog_1_method_2_code 8 = .ok (.bipush 40, 2) := by decide +kernel
theorem d7_row_10 : decode prog_1_method_2_code 10 = .ok (.if_icmp .le 5, 3) := by decide +kernel
theorem d7_row_13 : decode prog_1_method_2_code 13 = .ok (.iconst (-1), 1) := by decide +kernel
theorem d7_row_14 : decode prog_1_method_2_code 14 = .ok (.ireturn, 1) := by decide +kernel
theorem d7_row_15 : decode prog_1_method_2_code 15 = .ok (.iload_n 2, 1) := by decide +kernel
theorem d7_row_16 : decode prog_1_method_2_code 16 = .ok (.ifCond .ge 9, 3) := by decide +kernel
theorem d7_row_19 : decode prog_1_method_2_code 19 = .ok (.aload_n 0, 1) := by decide +kernel
theorem d7_row_20 : decode prog_1_method_2_code 20 = .ok (.iconst 5, 1) := by decide +kernel
theorem d7_row_21 : decode prog_1_method_2_code 21 = .ok (.invokevirtual 92, 3) := by decide +kernel
theorem d7_row_24 : decode prog_1_method_2_code 24 = .ok (.ireturn, 1) := by decide +kernel
theorem d7_row_25 : decode prog_1_method_2_code 25 = .ok (.aload_n 0, 1) := by decide +kernel
theorem d7_row_26 : decode prog_1_method_2_code 26 = .ok (.iload_n 1, 1) := by decide +kernel
theorem d7_row_27 : decode prog_1_method_2_code 27 = .ok (.iload_n 2, 1) := by decide +kernel
theorem d7_row_28 : decode prog_1_method_2_code 28 = .ok (.invokevirtual 96, 3) := by decide +kernel
theorem d7_row_31 : decode prog_1_method_2_code 31 = .ok (.iload_n 2, 1) := by decide +kernel
theorem d7_row_32 : decode prog_1_method_2_code 32 = .ok (.ireturn, 1) := by decide +kernel
theorem d8_in_0 : decode prog_10_method_3_code 0 = .ok (.iload_n 0, 1) := by decide +kernel
theorem d8_in_1 : decode prog_10_method_3_code 1 = .ok (.iload_n 1, 1) := by decide +kernel
theorem d8_in_2 : decode prog_10_method_3_code 2 = .ok (.if_icmp .lt 12, 3) := by decide +kernel
theorem d8_in_5 : decode prog_10_method_3_code 5 = .ok (.iload_n 0, 1) := by decide +kernel
theorem d8_in_6 : decode prog_10_method_3_code 6 = .ok (.iload_n 2, 1) := by decide +kernel
theorem d8_in_7 : decode prog_10_method_3_code 7 = .ok (.if_icmp .gt 7, 3) := by decide +kernel
theorem d8_in_10 : decode prog_10_method_3_code 10 = .ok (.iconst 1, 1) := by decide +kernel
theorem d8_in_11 : decode prog_10_method_3_code 11 = .ok (.goto 4, 3) := by decide +kernel
theorem d8_in_14 : decode prog_10_method_3_code 14 = .ok (.iconst 0, 1) := by decide +kernel
theorem d8_in_15 : decode prog_10_method_3_code 15 = .ok (.ireturn, 1) := by decide +kernel
theorem d8_isRow_0 : decode prog_10_method_8_code 0 = .ok (.iload_n 0, 1) := by decide +kernel
theorem d8_isRow_1 : decode prog_10_method_8_code 1 = .ok (.iconst 0, 1) := by decide +kernel
theorem d8_isRow_2 : decode prog_10_method_8_code 2 = .ok (.iconst 5, 1) := by decide +kernel
theorem d8_isRow_3 : decode prog_10_method_8_code 3 = .ok (.invokestatic 80, 3) := by decide +kernel
theorem d8_isRow_6 : decode prog_10_method_8_code 6 = .ok (.ireturn, 1) := by decide +kernel
theorem d8_meets_0 : decode prog_10_method_4_code 0 = .ok (.aload_n 0, 1) := by decide +kernel
theorem d8_meets_1 : decode prog_10_method_4_code 1 = .ok (.iload_n 1, 1) := by decide +kernel
theorem d8_meets_2 : decode prog_10_method_4_code 2 = .ok (.putfield 71, 3) := by decide +kernel
theorem d8_meets_5 : decode prog_10_method_4_code 5 = .ok (.aload_n 0, 1) := by decide +kernel
theorem d8_meets_6 : decode prog_10_method_4_code 6 = .ok (.getfield 7, 3) := by decide +kernel
theorem d8_meets_9 : decode prog_10_method_4_code 9 = .ok (.iload_n 1, 1) := by decide +kernel
theorem d8_meets_10 : decode prog_10_method_4_code 10 = .ok (.dup2, 1) := by decide +kernel
theorem d8_meets_11 : decode prog_10_method_4_code 11 = .ok (.iaload, 1) := by decide +kernel
theorem d8_meets_12 : decode prog_10_method_4_code 12 = .ok (.iconst 1, 1) := by decide +kernel
theorem d8_meets_13 : decode prog_10_method_4_code 13 = .ok (.iadd, 1) := by decide +kernel
theorem d8_meets_14 : decode prog_10_method_4_code 14 = .ok (.iastore, 1) := by decide +kernel
theorem d8_meets_15 : decode prog_10_method_4_code 15 = .ok (.bipush (-3), 2) := by decide +kernel
theorem d8_meets_17 : decode prog_10_method_4_code 17 = .ok (.ireturn, 1) := by decide +kernel
theorem d8_row_0 : decode prog_10_method_13_code 0 = .ok (.iload_n 1, 1) := by decide +kernel
theorem d8_row_1 : decode prog_10_method_13_code 1 = .ok (.invokestatic 84, 3) := by decide +kernel
theorem d8_row_4 : decode prog_10_method_13_code 4 = .ok (.ifCond .eq 9, 3) := by decide +kernel
theorem d8_row_7 : decode prog_10_method_13_code 7 = .ok (.iload_n 2, 1) := by decide +kernel
theorem d8_row_8 : decode prog_10_method_13_code 8 = .ok (.bipush 40, 2) := by decide +kernel
theorem d8_row_10 : decode prog_10_method_13_code 10 = .ok (.if_icmp .le 5, 3) := by decide +kernel
theorem d8_row_13 : decode prog_10_method_13_code 13 = .ok (.iconst (-1), 1) := by decide +kernel
theorem d8_row_14 : decode prog_10_method_13_code 14 = .ok (.ireturn, 1) := by decide +kernel
theorem d8_row_15 : decode prog_10_method_13_code 15 = .ok (.iload_n 2, 1) := by decide +kernel
theorem d8_row_16 : decode prog_10_method_13_code 16 = .ok (.ifCond .ge 9, 3) := by decide +kernel
theorem d8_row_19 : decode prog_10_method_13_code 19 = .ok (.aload_n 0, 1) := by decide +kernel
theorem d8_row_20 : decode prog_10_method_13_code 20 = .ok (.iconst 5, 1) := by decide +kernel
theorem d8_row_21 : decode prog_10_method_13_code 21 = .ok (.invokevirtual 88, 3) := by decide +kernel
theorem d8_row_24 : decode prog_10_method_13_code 24 = .ok (.ireturn, 1) := by decide +kernel
theorem d8_row_25 : decode prog_10_method_13_code 25 = .ok (.aload_n 0, 1) := by decide +kernel
theorem d8_row_26 : decode prog_10_method_13_code 26 = .ok (.getfield 17, 3) := by decide +kernel
theorem d8_row_29 : decode prog_10_method_13_code 29 = .ok (.iload_n 1, 1) := by decide +kernel
theorem d8_row_30 : decode prog_10_method_13_code 30 = .ok (.iload_n 2, 1) := by decide +kernel
theorem d8_row_31 : decode prog_10_method_13_code 31 = .ok (.iastore, 1) := by decide +kernel
theorem d8_row_32 : decode prog_10_method_13_code 32 = .ok (.iconst 0, 1) := by decide +kernel
theorem d8_row_33 : decode prog_10_method_13_code 33 = .ok (.istore_n 3, 1) := by decide +kernel
theorem d8_row_34 : decode prog_10_method_13_code 34 = .ok (.iload_n 3, 1) := by decide +kernel
theorem d8_row_35 : decode prog_10_method_13_code 35 = .ok (.bipush 40, 2) := by decide +kernel
theorem d8_row_37 : decode prog_10_method_13_code 37 = .ok (.if_icmp .ge 21, 3) := by decide +kernel
theorem d8_row_40 : decode prog_10_method_13_code 40 = .ok (.aload_n 0, 1) := by decide +kernel
theorem d8_row_41 : decode prog_10_method_13_code 41 = .ok (.getfield 20, 3) := by decide +kernel
theorem d8_row_44 : decode prog_10_method_13_code 44 = .ok (.bipush 40, 2) := by decide +kernel
theorem d8_row_46 : decode prog_10_method_13_code 46 = .ok (.iload_n 1, 1) := by decide +kernel
theorem d8_row_47 : decode prog_10_method_13_code 47 = .ok (.imul, 1) := by decide +kernel
theorem d8_row_48 : decode prog_10_method_13_code 48 = .ok (.iload_n 3, 1) := by decide +kernel
theorem d8_row_49 : decode prog_10_method_13_code 49 = .ok (.iadd, 1) := by decide +kernel
theorem d8_row_50 : decode prog_10_method_13_code 50 = .ok (.iconst 0, 1) := by decide +kernel
theorem d8_row_51 : decode prog_10_method_13_code 51 = .ok (.iastore, 1) := by decide +kernel
theorem d8_row_52 : decode prog_10_method_13_code 52 = .ok (.iinc 3 1, 3) := by decide +kernel
theorem d8_row_55 : decode prog_10_method_13_code 55 = .ok (.goto (-21), 3) := by decide +kernel
theorem d8_row_58 : decode prog_10_method_13_code 58 = .ok (.iload_n 2, 1) := by decide +kernel
theorem d8_row_59 : decode prog_10_method_13_code 59 = .ok (.ireturn, 1) := by decide +kernel
theorem d7_barredPlace_0 : decode prog_1_method_55_code 0 = .ok (.iload_n 1, 1) := by decide +kernel
theorem d7_barredPlace_1 : decode prog_1_method_55_code 1 = .ok (.invokestatic 88, 3) := by decide +kernel
theorem d7_barredPlace_4 : decode prog_1_method_55_code 4 = .ok (.ifCond .ne 5, 3) := by decide +kernel
theorem d7_barredPlace_7 : decode prog_1_method_55_code 7 = .ok (.iconst (-1), 1) := by decide +kernel
theorem d7_barredPlace_8 : decode prog_1_method_55_code 8 = .ok (.ireturn, 1) := by decide +kernel
theorem d7_barredPlace_9 : decode prog_1_method_55_code 9 = .ok (.aload_n 0, 1) := by decide +kernel
theorem d7_barredPlace_10 : decode prog_1_method_55_code 10 = .ok (.getfield 14, 3) := by decide +kernel
theorem d7_barredPlace_13 : decode prog_1_method_55_code 13 = .ok (.iload_n 1, 1) := by decide +kernel
theorem d7_barredPlace_14 : decode prog_1_method_55_code 14 = .ok (.iaload, 1) := by decide +kernel
theorem d7_barredPlace_15 : decode prog_1_method_55_code 15 = .ok (.iconst (-1), 1) := by decide +kernel
theorem d7_barredPlace_16 : decode prog_1_method_55_code 16 = .ok (.if_icmp .ne 9, 3) := by decide +kernel
theorem d7_barredPlace_19 : decode prog_1_method_55_code 19 = .ok (.aload_n 0, 1) := by decide +kernel
theorem d7_barredPlace_20 : decode prog_1_method_55_code 20 = .ok (.iconst 1, 1) := by decide +kernel
theorem d7_barredPlace_21 : decode prog_1_method_55_code 21 = .ok (.invokevirtual 92, 3) := by decide +kernel
theorem d7_barredPlace_24 : decode prog_1_method_55_code 24 = .ok (.ireturn, 1) := by decide +kernel
theorem d7_barredPlace_25 : decode prog_1_method_55_code 25 = .ok (.iload_n 2, 1) := by decide +kernel
theorem d7_barredPlace_26 : decode prog_1_method_55_code 26 = .ok (.ifCond .lt 13, 3) := by decide +kernel
theorem d7_barredPlace_29 : decode prog_1_method_55_code 29 = .ok (.iload_n 2, 1) := by decide +kernel
theorem d7_barredPlace_30 : decode prog_1_method_55_code 30 = .ok (.aload_n 0, 1) := by decide +kernel
theorem d7_barredPlace_31 : decode prog_1_method_55_code 31 = .ok (.getfield 14, 3) := by decide +kernel
theorem d7_barredPlace_34 : decode prog_1_method_55_code 34 = .ok (.iload_n 1, 1) := by decide +kernel
theorem d7_barredPlace_35 : decode prog_1_method_55_code 35 = .ok (.iaload, 1) := by decide +kernel
theorem d7_barredPlace_36 : decode prog_1_method_55_code 36 = .ok (.if_icmp .lt 11, 3) := by decide +kernel
theorem d7_barredPlace_39 : decode prog_1_method_55_code 39 = .ok (.aload_n 0, 1) := by decide +kernel
theorem d7_barredPlace_40 : decode prog_1_method_55_code 40 = .ok (.iconst 2, 1) := by decide +kernel
theorem d7_barredPlace_41 : decode prog_1_method_55_code 41 = .ok (.invokevirtual 92, 3) := by decide +kernel
theorem d7_barredPlace_44 : decode prog_1_method_55_code 44 = .ok (.goto 4, 3) := by decide +kernel
theorem d7_barredPlace_47 : decode prog_1_method_55_code 47 = .ok (.iconst 0, 1) := by decide +kernel
theorem d7_barredPlace_48 : decode prog_1_method_55_code 48 = .ok (.ireturn, 1) := by decide +kernel
theorem d7_lay_0 : decode prog_1_method_3_code 0 = .ok (.aload_n 0, 1) := by decide +kernel
theorem d7_lay_1 : decode prog_1_method_3_code 1 = .ok (.iload_n 1, 1) := by decide +kernel
theorem d7_lay_2 : decode prog_1_method_3_code 2 = .ok (.iload_n 2, 1) := by decide +kernel
theorem d7_lay_3 : decode prog_1_method_3_code 3 = .ok (.invokevirtual 100, 3) := by decide +kernel
theorem d7_lay_6 : decode prog_1_method_3_code 6 = .ok (.istore 4, 2) := by decide +kernel
theorem d7_lay_8 : decode prog_1_method_3_code 8 = .ok (.iload 4, 2) := by decide +kernel
theorem d7_lay_10 : decode prog_1_method_3_code 10 = .ok (.ifCond .eq 6, 3) := by decide +kernel
theorem d7_lay_13 : decode prog_1_method_3_code 13 = .ok (.iload 4, 2) := by decide +kernel
theorem d7_lay_15 : decode prog_1_method_3_code 15 = .ok (.ireturn, 1) := by decide +kernel
theorem d7_lay_16 : decode prog_1_method_3_code 16 = .ok (.aload_n 0, 1) := by decide +kernel
theorem d7_lay_17 : decode prog_1_method_3_code 17 = .ok (.aload_n 0, 1) := by decide +kernel
theorem d7_lay_18 : decode prog_1_method_3_code 18 = .ok (.getfield 11, 3) := by decide +kernel
theorem d7_lay_21 : decode prog_1_method_3_code 21 = .ok (.iload_n 1, 1) := by decide +kernel
theorem d7_lay_22 : decode prog_1_method_3_code 22 = .ok (.aaload, 1) := by decide +kernel
theorem d7_lay_23 : decode prog_1_method_3_code 23 = .ok (.iload_n 2, 1) := by decide +kernel
theorem d7_lay_24 : decode prog_1_method_3_code 24 = .ok (.iaload, 1) := by decide +kernel
theorem d7_lay_25 : decode prog_1_method_3_code 25 = .ok (.putfield 65, 3) := by decide +kernel
theorem d7_lay_28 : decode prog_1_method_3_code 28 = .ok (.aload_n 0, 1) := by decide +kernel
theorem d7_lay_29 : decode prog_1_method_3_code 29 = .ok (.getfield 11, 3) := by decide +kernel
theorem d7_lay_32 : decode prog_1_method_3_code 32 = .ok (.iload_n 1, 1) := by decide +kernel
theorem d7_lay_33 : decode prog_1_method_3_code 33 = .ok (.aaload, 1) := by decide +kernel
theorem d7_lay_34 : decode prog_1_method_3_code 34 = .ok (.iload_n 2, 1) := by decide +kernel
theorem d7_lay_35 : decode prog_1_method_3_code 35 = .ok (.iload_n 3, 1) := by decide +kernel
theorem d7_lay_36 : decode prog_1_method_3_code 36 = .ok (.iastore, 1) := by decide +kernel
theorem d7_lay_37 : decode prog_1_method_3_code 37 = .ok (.iconst 1, 1) := by decide +kernel
theorem d7_lay_38 : decode prog_1_method_3_code 38 = .ok (.ireturn, 1) := by decide +kernel
theorem d8_askedRow_0 : decode prog_10_method_10_code 0 = .ok (.iload_n 1, 1) := by decide +kernel
theorem d8_askedRow_1 : decode prog_10_method_10_code 1 = .ok (.invokestatic 84, 3) := by decide +kernel
theorem d8_askedRow_4 : decode prog_10_method_10_code 4 = .ok (.ifCond .ne 7, 3) := by decide +kernel
theorem d8_askedRow_7 : decode prog_10_method_10_code 7 = .ok (.iconst (-1), 1) := by decide +kernel
theorem d8_askedRow_8 : decode prog_10_method_10_code 8 = .ok (.goto 21, 3) := by decide +kernel
theorem d8_askedRow_11 : decode prog_10_method_10_code 11 = .ok (.aload_n 0, 1) := by decide +kernel
theorem d8_askedRow_12 : decode prog_10_method_10_code 12 = .ok (.getfield 17, 3) := by decide +kernel
theorem d8_askedRow_15 : decode prog_10_method_10_code 15 = .ok (.iload_n 1, 1) := by decide +kernel
theorem d8_askedRow_16 : decode prog_10_method_10_code 16 = .ok (.iaload, 1) := by decide +kernel
theorem d8_askedRow_17 : decode prog_10_method_10_code 17 = .ok (.ifCond .ge 11, 3) := by decide +kernel
theorem d8_askedRow_20 : decode prog_10_method_10_code 20 = .ok (.aload_n 0, 1) := by decide +kernel
theorem d8_askedRow_21 : decode prog_10_method_10_code 21 = .ok (.iconst 1, 1) := by decide +kernel
theorem d8_askedRow_22 : decode prog_10_method_10_code 22 = .ok (.invokevirtual 88, 3) := by decide +kernel
theorem d8_askedRow_25 : decode prog_10_method_10_code 25 = .ok (.goto 4, 3) := by decide +kernel
theorem d8_askedRow_28 : decode prog_10_method_10_code 28 = .ok (.iconst 0, 1) := by decide +kernel
theorem d8_askedRow_29 : decode prog_10_method_10_code 29 = .ok (.ireturn, 1) := by decide +kernel
theorem d8_rowAt_0 : decode prog_10_method_12_code 0 = .ok (.aload_n 0, 1) := by decide +kernel
theorem d8_rowAt_1 : decode prog_10_method_12_code 1 = .ok (.getfield 20, 3) := by decide +kernel
theorem d8_rowAt_4 : decode prog_10_method_12_code 4 = .ok (.bipush 40, 2) := by decide +kernel
theorem d8_rowAt_6 : decode prog_10_method_12_code 6 = .ok (.iload_n 1, 1) := by decide +kernel
theorem d8_rowAt_7 : decode prog_10_method_12_code 7 = .ok (.imul, 1) := by decide +kernel
theorem d8_rowAt_8 : decode prog_10_method_12_code 8 = .ok (.iload_n 2, 1) := by decide +kernel
theorem d8_rowAt_9 : decode prog_10_method_12_code 9 = .ok (.iadd, 1) := by decide +kernel
theorem d8_rowAt_10 : decode prog_10_method_12_code 10 = .ok (.iaload, 1) := by decide +kernel
theorem d8_rowAt_11 : decode prog_10_method_12_code 11 = .ok (.ireturn, 1) := by decide +kernel
theorem d8_ask_0 : decode prog_10_method_5_code 0 = .ok (.aload_n 0, 1) := by decide +kernel
theorem d8_ask_1 : decode prog_10_method_5_code 1 = .ok (.iload_n 1, 1) := by decide +kernel
theorem d8_ask_2 : decode prog_10_method_5_code 2 = .ok (.putfield 74, 3) := by decide +kernel
theorem d8_ask_5 : decode prog_10_method_5_code 5 = .ok (.iload_n 2, 1) := by decide +kernel
theorem d8_ask_6 : decode prog_10_method_5_code 6 = .ok (.ireturn, 1) := by decide +kernel
theorem d8_at_0 : decode prog_10_method_14_code 0 = .ok (.aload_n 0, 1) := by decide +kernel
theorem d8_at_1 : decode prog_10_method_14_code 1 = .ok (.iload_n 1, 1) := by decide +kernel
theorem d8_at_2 : decode prog_10_method_14_code 2 = .ok (.invokevirtual 95, 3) := by decide +kernel
theorem d8_at_5 : decode prog_10_method_14_code 5 = .ok (.istore_n 3, 1) := by decide +kernel
theorem d8_at_6 : decode prog_10_method_14_code 6 = .ok (.iload_n 3, 1) := by decide +kernel
theorem d8_at_7 : decode prog_10_method_14_code 7 = .ok (.ifCond .ge 5, 3) := by decide +kernel
theorem d8_at_10 : decode prog_10_method_14_code 10 = .ok (.iload_n 3, 1) := by decide +kernel
theorem d8_at_11 : decode prog_10_method_14_code 11 = .ok (.ireturn, 1) := by decide +kernel
theorem d8_at_12 : decode prog_10_method_14_code 12 = .ok (.iload_n 2, 1) := by decide +kernel
theorem d8_at_13 : decode prog_10_method_14_code 13 = .ok (.iconst 0, 1) := by decide +kernel
theorem d8_at_14 : decode prog_10_method_14_code 14 = .ok (.aload_n 0, 1) := by decide +kernel
theorem d8_at_15 : decode prog_10_method_14_code 15 = .ok (.getfield 17, 3) := by decide +kernel
theorem d8_at_18 : decode prog_10_method_14_code 18 = .ok (.iload_n 1, 1) := by decide +kernel
theorem d8_at_19 : decode prog_10_method_14_code 19 = .ok (.iaload, 1) := by decide +kernel
theorem d8_at_20 : decode prog_10_method_14_code 20 = .ok (.iconst 1, 1) := by decide +kernel
theorem d8_at_21 : decode prog_10_method_14_code 21 = .ok (.isub, 1) := by decide +kernel
theorem d8_at_22 : decode prog_10_method_14_code 22 = .ok (.invokestatic 80, 3) := by decide +kernel
theorem d8_at_25 : decode prog_10_method_14_code 25 = .ok (.ifCond .eq 17, 3) := by decide +kernel
theorem d8_at_28 : decode prog_10_method_14_code 28 = .ok (.aload_n 0, 1) := by decide +kernel
theorem d8_at_29 : decode prog_10_method_14_code 29 = .ok (.aload_n 0, 1) := by decide +kernel
theorem d8_at_30 : decode prog_10_method_14_code 30 = .ok (.iload_n 1, 1) := by decide +kernel
theorem d8_at_31 : decode prog_10_method_14_code 31 = .ok (.iload_n 2, 1) := by decide +kernel
theorem d8_at_32 : decode prog_10_method_14_code 32 = .ok (.invokevirtual 98, 3) := by decide +kernel
theorem d8_at_35 : decode prog_10_method_14_code 35 = .ok (.iconst 1, 1) := by decide +kernel
theorem d8_at_36 : decode prog_10_method_14_code 36 = .ok (.invokevirtual 102, 3) := by decide +kernel
theorem d8_at_39 : decode prog_10_method_14_code 39 = .ok (.goto 8, 3) := by decide +kernel
theorem d8_at_42 : decode prog_10_method_14_code 42 = .ok (.aload_n 0, 1) := by decide +kernel
theorem d8_at_43 : decode prog_10_method_14_code 43 = .ok (.iconst 2, 1) := by decide +kernel
theorem d8_at_44 : decode prog_10_method_14_code 44 = .ok (.invokevirtual 88, 3) := by decide +kernel
theorem d8_at_47 : decode prog_10_method_14_code 47 = .ok (.ireturn, 1) := by decide +kernel
theorem d8_lay_0 : decode prog_10_method_15_code 0 = .ok (.aload_n 0, 1) := by decide +kernel
theorem d8_lay_1 : decode prog_10_method_15_code 1 = .ok (.iload_n 1, 1) := by decide +kernel
theorem d8_lay_2 : decode prog_10_method_15_code 2 = .ok (.iload_n 2, 1) := by decide +kernel
theorem d8_lay_3 : decode prog_10_method_15_code 3 = .ok (.invokevirtual 105, 3) := by decide +kernel
theorem d8_lay_6 : decode prog_10_method_15_code 6 = .ok (.istore 4, 2) := by decide +kernel
theorem d8_lay_8 : decode prog_10_method_15_code 8 = .ok (.iload 4, 2) := by decide +kernel
theorem d8_lay_10 : decode prog_10_method_15_code 10 = .ok (.ifCond .ge 6, 3) := by decide +kernel
theorem d8_lay_13 : decode prog_10_method_15_code 13 = .ok (.iload 4, 2) := by decide +kernel
theorem d8_lay_15 : decode prog_10_method_15_code 15 = .ok (.ireturn, 1) := by decide +kernel
theorem d8_lay_16 : decode prog_10_method_15_code 16 = .ok (.aload_n 0, 1) := by decide +kernel
theorem d8_lay_17 : decode prog_10_method_15_code 17 = .ok (.getfield 20, 3) := by decide +kernel
theorem d8_lay_20 : decode prog_10_method_15_code 20 = .ok (.bipush 40, 2) := by decide +kernel
theorem d8_lay_22 : decode prog_10_method_15_code 22 = .ok (.iload_n 1, 1) := by decide +kernel
theorem d8_lay_23 : decode prog_10_method_15_code 23 = .ok (.imul, 1) := by decide +kernel
theorem d8_lay_24 : decode prog_10_method_15_code 24 = .ok (.iload_n 2, 1) := by decide +kernel
theorem d8_lay_25 : decode prog_10_method_15_code 25 = .ok (.iadd, 1) := by decide +kernel
theorem d8_lay_26 : decode prog_10_method_15_code 26 = .ok (.iload_n 3, 1) := by decide +kernel
theorem d8_lay_27 : decode prog_10_method_15_code 27 = .ok (.iastore, 1) := by decide +kernel
theorem d8_lay_28 : decode prog_10_method_15_code 28 = .ok (.iconst 1, 1) := by decide +kernel
theorem d8_lay_29 : decode prog_10_method_15_code 29 = .ok (.ireturn, 1) := by decide +kernel
theorem d7_at_0 : decode prog_1_method_4_code 0 = .ok (.aload_n 0, 1) := by decide +kernel
theorem d7_at_1 : decode prog_1_method_4_code 1 = .ok (.iload_n 1, 1) := by decide +kernel
theorem d7_at_2 : decode prog_1_method_4_code 2 = .ok (.iload_n 2, 1) := by decide +kernel
theorem d7_at_3 : decode prog_1_method_4_code 3 = .ok (.invokevirtual 100, 3) := by decide +kernel
theorem d7_at_6 : decode prog_1_method_4_code 6 = .ok (.istore_n 3, 1) := by decide +kernel
theorem d7_at_7 : decode prog_1_method_4_code 7 = .ok (.iload_n 3, 1) := by decide +kernel
theorem d7_at_8 : decode prog_1_method_4_code 8 = .ok (.ifCond .eq 5, 3) := by decide +kernel
theorem d7_at_11 : decode prog_1_method_4_code 11 = .ok (.iload_n 3, 1) := by decide +kernel
theorem d7_at_12 : decode prog_1_method_4_code 12 = .ok (.ireturn, 1) := by decide +kernel
theorem d7_at_13 : decode prog_1_method_4_code 13 = .ok (.aload_n 0, 1) := by decide +kernel
theorem d7_at_14 : decode prog_1_method_4_code 14 = .ok (.aload_n 0, 1) := by decide +kernel
theorem d7_at_15 : decode prog_1_method_4_code 15 = .ok (.getfield 11, 3) := by decide +kernel
theorem d7_at_18 : decode prog_1_method_4_code 18 = .ok (.iload_n 1, 1) := by decide +kernel
theorem d7_at_19 : decode prog_1_method_4_code 19 = .ok (.aaload, 1) := by decide +kernel
theorem d7_at_20 : decode prog_1_method_4_code 20 = .ok (.iload_n 2, 1) := by decide +kernel
theorem d7_at_21 : decode prog_1_method_4_code 21 = .ok (.iaload, 1) := by decide +kernel
theorem d7_at_22 : decode prog_1_method_4_code 22 = .ok (.putfield 65, 3) := by decide +kernel
theorem d7_at_25 : decode prog_1_method_4_code 25 = .ok (.iconst 1, 1) := by decide +kernel
theorem d7_at_26 : decode prog_1_method_4_code 26 = .ok (.ireturn, 1) := by decide +kernel
theorem d7_tear_0 : decode prog_1_method_5_code 0 = .ok (.iload_n 1, 1) := by decide +kernel
theorem d7_tear_1 : decode prog_1_method_5_code 1 = .ok (.invokestatic 88, 3) := by decide +kernel
theorem d7_tear_4 : decode prog_1_method_5_code 4 = .ok (.ifCond .ne 5, 3) := by decide +kernel
theorem d7_tear_7 : decode prog_1_method_5_code 7 = .ok (.iconst (-1), 1) := by decide +kernel
theorem d7_tear_8 : decode prog_1_method_5_code 8 = .ok (.ireturn, 1) := by decide +kernel
theorem d7_tear_9 : decode prog_1_method_5_code 9 = .ok (.aload_n 0, 1) := by decide +kernel
theorem d7_tear_10 : decode prog_1_method_5_code 10 = .ok (.getfield 14, 3) := by decide +kernel
theorem d7_tear_13 : decode prog_1_method_5_code 13 = .ok (.iload_n 1, 1) := by decide +kernel
theorem d7_tear_14 : decode prog_1_method_5_code 14 = .ok (.iaload, 1) := by decide +kernel
theorem d7_tear_15 : decode prog_1_method_5_code 15 = .ok (.iconst (-1), 1) := by decide +kernel
theorem d7_tear_16 : decode prog_1_method_5_code 16 = .ok (.if_icmp .ne 9, 3) := by decide +kernel
theorem d7_tear_19 : decode prog_1_method_5_code 19 = .ok (.aload_n 0, 1) := by decide +kernel
theorem d7_tear_20 : decode prog_1_method_5_code 20 = .ok (.iconst 1, 1) := by decide +kernel
theorem d7_tear_21 : decode prog_1_method_5_code 21 = .ok (.invokevirtual 92, 3) := by decide +kernel
theorem d7_tear_24 : decode prog_1_method_5_code 24 = .ok (.ireturn, 1) := by decide +kernel
theorem d7_tear_25 : decode prog_1_method_5_code 25 = .ok (.aload_n 0, 1) := by decide +kernel
theorem d7_tear_26 : decode prog_1_method_5_code 26 = .ok (.getfield 14, 3) := by decide +kernel
theorem d7_tear_29 : decode prog_1_method_5_code 29 = .ok (.iload_n 1, 1) := by decide +kernel
theorem d7_tear_30 : decode prog_1_method_5_code 30 = .ok (.iconst (-1), 1) := by decide +kernel
theorem d7_tear_31 : decode prog_1_method_5_code 31 = .ok (.iastore, 1) := by decide +kernel
theorem d7_tear_32 : decode prog_1_method_5_code 32 = .ok (.iconst 1, 1) := by decide +kernel
theorem d7_tear_33 : decode prog_1_method_5_code 33 = .ok (.ireturn, 1) := by decide +kernel
theorem d8_tear_0 : decode prog_10_method_16_code 0 = .ok (.aload_n 0, 1) := by decide +kernel
theorem d8_tear_1 : decode prog_10_method_16_code 1 = .ok (.iload_n 1, 1) := by decide +kernel
theorem d8_tear_2 : decode prog_10_method_16_code 2 = .ok (.invokevirtual 95, 3) := by decide +kernel
theorem d8_tear_5 : decode prog_10_method_16_code 5 = .ok (.istore_n 2, 1) := by decide +kernel
theorem d8_tear_6 : decode prog_10_method_16_code 6 = .ok (.iload_n 2, 1) := by decide +kernel
theorem d8_tear_7 : decode prog_10_method_16_code 7 = .ok (.ifCond .ge 5, 3) := by decide +kernel
theorem d8_tear_10 : decode prog_10_method_16_code 10 = .ok (.iload_n 2, 1) := by decide +kernel
theorem d8_tear_11 : decode prog_10_method_16_code 11 = .ok (.ireturn, 1) := by decide +kernel
theorem d8_tear_12 : decode prog_10_method_16_code 12 = .ok (.aload_n 0, 1) := by decide +kernel
theorem d8_tear_13 : decode prog_10_method_16_code 13 = .ok (.getfield 17, 3) := by decide +kernel
theorem d8_tear_16 : decode prog_10_method_16_code 16 = .ok (.iload_n 1, 1) := by decide +kernel
theorem d8_tear_17 : decode prog_10_method_16_code 17 = .ok (.bipush (-9), 2) := by decide +kernel
theorem d8_tear_19 : decode prog_10_method_16_code 19 = .ok (.iastore, 1) := by decide +kernel
theorem d8_tear_20 : decode prog_10_method_16_code 20 = .ok (.iconst 1, 1) := by decide +kernel
theorem d8_tear_21 : decode prog_10_method_16_code 21 = .ok (.ireturn, 1) := by decide +kernel
theorem d7_holds_0 : decode prog_1_method_54_code 0 = .ok (.iload_n 1, 1) := by decide +kernel
theorem d7_holds_1 : decode prog_1_method_54_code 1 = .ok (.ifCond .lt 19, 3) := by decide +kernel
theorem d7_holds_4 : decode prog_1_method_54_code 4 = .ok (.iload_n 1, 1) := by decide +kernel
theorem d7_holds_5 : decode prog_1_method_54_code 5 = .ok (.iload_n 0, 1) := by decide +kernel
theorem d7_holds_6 : decode prog_1_method_54_code 6 = .ok (.if_icmp .gt 14, 3) := by decide +kernel
theorem d7_holds_9 : decode prog_1_method_54_code 9 = .ok (.iload_n 2, 1) := by decide +kernel
theorem d7_holds_10 : decode prog_1_method_54_code 10 = .ok (.iload_n 0, 1) := by decide +kernel
theorem d7_holds_11 : decode prog_1_method_54_code 11 = .ok (.iload_n 1, 1) := by decide +kernel
theorem d7_holds_12 : decode prog_1_method_54_code 12 = .ok (.isub, 1) := by decide +kernel
theorem d7_holds_13 : decode prog_1_method_54_code 13 = .ok (.if_icmp .gt 7, 3) := by decide +kernel
theorem d7_holds_16 : decode prog_1_method_54_code 16 = .ok (.iconst 1, 1) := by decide +kernel
theorem d7_holds_17 : decode prog_1_method_54_code 17 = .ok (.goto 4, 3) := by decide +kernel
theorem d7_holds_20 : decode prog_1_method_54_code 20 = .ok (.iconst 0, 1) := by decide +kernel
theorem d7_holds_21 : decode prog_1_method_54_code 21 = .ok (.ireturn, 1) := by decide +kernel
theorem d7_copy_0 : decode prog_1_method_6_code 0 = .ok (.iload_n 1, 1) := by decide +kernel
theorem d7_copy_1 : decode prog_1_method_6_code 1 = .ok (.invokestatic 88, 3) := by decide +kernel
theorem d7_copy_4 : decode prog_1_method_6_code 4 = .ok (.ifCond .eq 10, 3) := by decide +kernel
theorem d7_copy_7 : decode prog_1_method_6_code 7 = .ok (.iload_n 3, 1) := by decide +kernel
theorem d7_copy_8 : decode prog_1_method_6_code 8 = .ok (.invokestatic 88, 3) := by decide +kernel
theorem d7_copy_11 : decode prog_1_method_6_code 11 = .ok (.ifCond .ne 5, 3) := by decide +kernel
theorem d7_copy_14 : decode prog_1_method_6_code 14 = .ok (.iconst (-1), 1) := by decide +kernel
theorem d7_copy_15 : decode prog_1_method_6_code 15 = .ok (.ireturn, 1) := by decide +kernel
theorem d7_copy_16 : decode prog_1_method_6_code 16 = .ok (.iload 5, 2) := by decide +kernel
theorem d7_copy_18 : decode prog_1_method_6_code 18 = .ok (.ifCond .ge 9, 3) := by decide +kernel
theorem d7_copy_21 : decode prog_1_method_6_code 21 = .ok (.aload_n 0, 1) := by decide +kernel
theorem d7_copy_22 : decode prog_1_method_6_code 22 = .ok (.iconst 5, 1) := by decide +kernel
theorem d7_copy_23 : decode prog_1_method_6_code 23 = .ok (.invokevirtual 92, 3) := by decide +kernel
theorem d7_copy_26 : decode prog_1_method_6_code 26 = .ok (.ireturn, 1) := by decide +kernel
theorem d7_copy_27 : decode prog_1_method_6_code 27 = .ok (.aload_n 0, 1) := by decide +kernel
theorem d7_copy_28 : decode prog_1_method_6_code 28 = .ok (.getfield 14, 3) := by decide +kernel
theorem d7_copy_31 : decode prog_1_method_6_code 31 = .ok (.iload_n 1, 1) := by decide +kernel
theorem d7_copy_32 : decode prog_1_method_6_code 32 = .ok (.iaload, 1) := by decide +kernel
theorem d7_copy_33 : decode prog_1_method_6_code 33 = .ok (.iconst (-1), 1) := by decide +kernel
theorem d7_copy_34 : decode prog_1_method_6_code 34 = .ok (.if_icmp .eq 13, 3) := by decide +kernel
theorem d7_copy_37 : decode prog_1_method_6_code 37 = .ok (.aload_n 0, 1) := by decide +kernel
theorem d7_copy_38 : decode prog_1_method_6_code 38 = .ok (.getfield 14, 3) := by decide +kernel
theorem d7_copy_41 : decode prog_1_method_6_code 41 = .ok (.iload_n 3, 1) := by decide +kernel
theorem d7_copy_42 : decode prog_1_method_6_code 42 = .ok (.iaload, 1) := by decide +kernel
theorem d7_copy_43 : decode prog_1_method_6_code 43 = .ok (.iconst (-1), 1) := by decide +kernel
theorem d7_copy_44 : decode prog_1_method_6_code 44 = .ok (.if_icmp .ne 9, 3) := by decide +kernel
theorem d7_copy_47 : decode prog_1_method_6_code 47 = .ok (.aload_n 0, 1) := by decide +kernel
theorem d7_copy_48 : decode prog_1_method_6_code 48 = .ok (.iconst 1, 1) := by decide +kernel
theorem d7_copy_49 : decode prog_1_method_6_code 49 = .ok (.invokevirtual 92, 3) := by decide +kernel
theorem d7_copy_52 : decode prog_1_method_6_code 52 = .ok (.ireturn, 1) := by decide +kernel
theorem d7_copy_53 : decode prog_1_method_6_code 53 = .ok (.aload_n 0, 1) := by decide +kernel
theorem d7_copy_54 : decode prog_1_method_6_code 54 = .ok (.getfield 14, 3) := by decide +kernel
theorem d7_copy_57 : decode prog_1_method_6_code 57 = .ok (.iload_n 1, 1) := by decide +kernel
theorem d7_copy_58 : decode prog_1_method_6_code 58 = .ok (.iaload, 1) := by decide +kernel
theorem d7_copy_59 : decode prog_1_method_6_code 59 = .ok (.iload_n 2, 1) := by decide +kernel
theorem d7_copy_60 : decode prog_1_method_6_code 60 = .ok (.iload 5, 2) := by decide +kernel
theorem d7_copy_62 : decode prog_1_method_6_code 62 = .ok (.invokestatic 104, 3) := by decide +kernel
theorem d7_copy_65 : decode prog_1_method_6_code 65 = .ok (.ifCond .eq 19, 3) := by decide +kernel
theorem d7_copy_68 : decode prog_1_method_6_code 68 = .ok (.aload_n 0, 1) := by decide +kernel
theorem d7_copy_69 : decode prog_1_method_6_code 69 = .ok (.getfield 14, 3) := by decide +kernel
theorem d7_copy_72 : decode prog_1_method_6_code 72 = .ok (.iload_n 3, 1) := by decide +kernel
theorem d7_copy_73 : decode prog_1_method_6_code 73 = .ok (.iaload, 1) := by decide +kernel
theorem d7_copy_74 : decode prog_1_method_6_code 74 = .ok (.iload 4, 2) := by decide +kernel
theorem d7_copy_76 : decode prog_1_method_6_code 76 = .ok (.iload 5, 2) := by decide +kernel
theorem d7_copy_78 : decode prog_1_method_6_code 78 = .ok (.invokestatic 104, 3) := by decide +kernel
theorem d7_copy_81 : decode prog_1_method_6_code 81 = .ok (.ifCond .ne 9, 3) := by decide +kernel
theorem d7_copy_84 : decode prog_1_method_6_code 84 = .ok (.aload_n 0, 1) := by decide +kernel
theorem d7_copy_85 : decode prog_1_method_6_code 85 = .ok (.iconst 2, 1) := by decide +kernel
theorem d7_copy_86 : decode prog_1_method_6_code 86 = .ok (.invokevirtual 92, 3) := by decide +kernel
theorem d7_copy_89 : decode prog_1_method_6_code 89 = .ok (.ireturn, 1) := by decide +kernel
theorem d7_copy_90 : decode prog_1_method_6_code 90 = .ok (.aload_n 0, 1) := by decide +kernel
theorem d7_copy_91 : decode prog_1_method_6_code 91 = .ok (.getfield 11, 3) := by decide +kernel
theorem d7_copy_94 : decode prog_1_method_6_code 94 = .ok (.iload_n 1, 1) := by decide +kernel
theorem d7_copy_95 : decode prog_1_method_6_code 95 = .ok (.aaload, 1) := by decide +kernel
theorem d7_copy_96 : decode prog_1_method_6_code 96 = .ok (.iload_n 2, 1) := by decide +kernel
theorem d7_copy_97 : decode prog_1_method_6_code 97 = .ok (.aload_n 0, 1) := by decide +kernel
theorem d7_copy_98 : decode prog_1_method_6_code 98 = .ok (.getfield 11, 3) := by decide +kernel
theorem d7_copy_101 : decode prog_1_method_6_code 101 = .ok (.iload_n 3, 1) := by decide +kernel
theorem d7_copy_102 : decode prog_1_method_6_code 102 = .ok (.aaload, 1) := by decide +kernel
theorem d7_copy_103 : decode prog_1_method_6_code 103 = .ok (.iload 4, 2) := by decide +kernel
theorem d7_copy_105 : decode prog_1_method_6_code 105 = .ok (.iload 5, 2) := by decide +kernel
theorem d7_copy_107 : decode prog_1_method_6_code 107 = .ok (.invokestatic 108, 3) := by decide +kernel
theorem d7_copy_110 : decode prog_1_method_6_code 110 = .ok (.iconst 1, 1) := by decide +kernel
theorem d7_copy_111 : decode prog_1_method_6_code 111 = .ok (.ireturn, 1) := by decide +kernel
theorem d8_copy_0 : decode prog_10_method_17_code 0 = .ok (.iload_n 1, 1) := by decide +kernel
theorem d8_copy_1 : decode prog_10_method_17_code 1 = .ok (.invokestatic 84, 3) := by decide +kernel
theorem d8_copy_4 : decode prog_10_method_17_code 4 = .ok (.ifCond .eq 10, 3) := by decide +kernel
theorem d8_copy_7 : decode prog_10_method_17_code 7 = .ok (.iload_n 3, 1) := by decide +kernel
theorem d8_copy_8 : decode prog_10_method_17_code 8 = .ok (.invokestatic 84, 3) := by decide +kernel
theorem d8_copy_11 : decode prog_10_method_17_code 11 = .ok (.ifCond .ne 5, 3) := by decide +kernel
theorem d8_copy_14 : decode prog_10_method_17_code 14 = .ok (.iconst (-1), 1) := by decide +kernel
theorem d8_copy_15 : decode prog_10_method_17_code 15 = .ok (.ireturn, 1) := by decide +kernel
theorem d8_copy_16 : decode prog_10_method_17_code 16 = .ok (.iload 5, 2) := by decide +kernel
theorem d8_copy_18 : decode prog_10_method_17_code 18 = .ok (.ifCond .ge 9, 3) := by decide +kernel
theorem d8_copy_21 : decode prog_10_method_17_code 21 = .ok (.aload_n 0, 1) := by decide +kernel
theorem d8_copy_22 : decode prog_10_method_17_code 22 = .ok (.iconst 5, 1) := by decide +kernel
theorem d8_copy_23 : decode prog_10_method_17_code 23 = .ok (.invokevirtual 88, 3) := by decide +kernel
theorem d8_copy_26 : decode prog_10_method_17_code 26 = .ok (.ireturn, 1) := by decide +kernel
theorem d8_copy_27 : decode prog_10_method_17_code 27 = .ok (.aload_n 0, 1) := by decide +kernel
theorem d8_copy_28 : decode prog_10_method_17_code 28 = .ok (.getfield 17, 3) := by decide +kernel
theorem d8_copy_31 : decode prog_10_method_17_code 31 = .ok (.iload_n 1, 1) := by decide +kernel
theorem d8_copy_32 : decode prog_10_method_17_code 32 = .ok (.iaload, 1) := by decide +kernel
theorem d8_copy_33 : decode prog_10_method_17_code 33 = .ok (.ifCond .lt 12, 3) := by decide +kernel
theorem d8_copy_36 : decode prog_10_method_17_code 36 = .ok (.aload_n 0, 1) := by decide +kernel
theorem d8_copy_37 : decode prog_10_method_17_code 37 = .ok (.getfield 17, 3) := by decide +kernel
theorem d8_copy_40 : decode prog_10_method_17_code 40 = .ok (.iload_n 3, 1) := by decide +kernel
theorem d8_copy_41 : decode prog_10_method_17_code 41 = .ok (.iaload, 1) := by decide +kernel
theorem d8_copy_42 : decode prog_10_method_17_code 42 = .ok (.ifCond .ge 9, 3) := by decide +kernel
theorem d8_copy_45 : decode prog_10_method_17_code 45 = .ok (.aload_n 0, 1) := by decide +kernel
theorem d8_copy_46 : decode prog_10_method_17_code 46 = .ok (.iconst 1, 1) := by decide +kernel
theorem d8_copy_47 : decode prog_10_method_17_code 47 = .ok (.invokevirtual 88, 3) := by decide +kernel
theorem d8_copy_50 : decode prog_10_method_17_code 50 = .ok (.ireturn, 1) := by decide +kernel
theorem d8_copy_51 : decode prog_10_method_17_code 51 = .ok (.iload_n 2, 1) := by decide +kernel
theorem d8_copy_52 : decode prog_10_method_17_code 52 = .ok (.ifCond .lt 43, 3) := by decide +kernel
theorem d8_copy_55 : decode prog_10_method_17_code 55 = .ok (.iload 4, 2) := by decide +kernel
theorem d8_copy_57 : decode prog_10_method_17_code 57 = .ok (.ifCond .lt 38, 3) := by decide +kernel
theorem d8_copy_60 : decode prog_10_method_17_code 60 = .ok (.iload_n 2, 1) := by decide +kernel
theorem d8_copy_61 : decode prog_10_method_17_code 61 = .ok (.i2l, 1) := by decide +kernel
theorem d8_copy_62 : decode prog_10_method_17_code 62 = .ok (.iload 5, 2) := by decide +kernel
theorem d8_copy_64 : decode prog_10_method_17_code 64 = .ok (.i2l, 1) := by decide +kernel
theorem d8_copy_65 : decode prog_10_method_17_code 65 = .ok (.ladd, 1) := by decide +kernel
theorem d8_copy_66 : decode prog_10_method_17_code 66 = .ok (.aload_n 0, 1) := by decide +kernel
theorem d8_copy_67 : decode prog_10_method_17_code 67 = .ok (.getfield 17, 3) := by decide +kernel
theorem d8_copy_70 : decode prog_10_method_17_code 70 = .ok (.iload_n 1, 1) := by decide +kernel
theorem d8_copy_71 : decode prog_10_method_17_code 71 = .ok (.iaload, 1) := by decide +kernel
theorem d8_copy_72 : decode prog_10_method_17_code 72 = .ok (.i2l, 1) := by decide +kernel
theorem d8_copy_73 : decode prog_10_method_17_code 73 = .ok (.lcmp, 1) := by decide +kernel
theorem d8_copy_74 : decode prog_10_method_17_code 74 = .ok (.ifCond .gt 21, 3) := by decide +kernel
theorem d8_copy_77 : decode prog_10_method_17_code 77 = .ok (.iload 4, 2) := by decide +kernel
theorem d8_copy_79 : decode prog_10_method_17_code 79 = .ok (.i2l, 1) := by decide +kernel
theorem d8_copy_80 : decode prog_10_method_17_code 80 = .ok (.iload 5, 2) := by decide +kernel
theorem d8_copy_82 : decode prog_10_method_17_code 82 = .ok (.i2l, 1) := by decide +kernel
theorem d8_copy_83 : decode prog_10_method_17_code 83 = .ok (.ladd, 1) := by decide +kernel
theorem d8_copy_84 : decode prog_10_method_17_code 84 = .ok (.aload_n 0, 1) := by decide +kernel
theorem d8_copy_85 : decode prog_10_method_17_code 85 = .ok (.getfield 17, 3) := by decide +kernel
theorem d8_copy_88 : decode prog_10_method_17_code 88 = .ok (.iload_n 3, 1) := by decide +kernel
theorem d8_copy_89 : decode prog_10_method_17_code 89 = .ok (.iaload, 1) := by decide +kernel
theorem d8_copy_90 : decode prog_10_method_17_code 90 = .ok (.i2l, 1) := by decide +kernel
theorem d8_copy_91 : decode prog_10_method_17_code 91 = .ok (.lcmp, 1) := by decide +kernel
theorem d8_copy_92 : decode prog_10_method_17_code 92 = .ok (.ifCond .le 9, 3) := by decide +kernel
theorem d8_copy_95 : decode prog_10_method_17_code 95 = .ok (.aload_n 0, 1) := by decide +kernel
theorem d8_copy_96 : decode prog_10_method_17_code 96 = .ok (.iconst 2, 1) := by decide +kernel
theorem d8_copy_97 : decode prog_10_method_17_code 97 = .ok (.invokevirtual 88, 3) := by decide +kernel
theorem d8_copy_100 : decode prog_10_method_17_code 100 = .ok (.ireturn, 1) := by decide +kernel
theorem d8_copy_101 : decode prog_10_method_17_code 101 = .ok (.iconst 0, 1) := by decide +kernel
theorem d8_copy_102 : decode prog_10_method_17_code 102 = .ok (.istore 6, 2) := by decide +kernel
theorem d8_copy_104 : decode prog_10_method_17_code 104 = .ok (.iload 6, 2) := by decide +kernel
theorem d8_copy_106 : decode prog_10_method_17_code 106 = .ok (.iload 5, 2) := by decide +kernel
theorem d8_copy_108 : decode prog_10_method_17_code 108 = .ok (.if_icmp .ge 25, 3) := by decide +kernel
theorem d8_copy_111 : decode prog_10_method_17_code 111 = .ok (.aload_n 0, 1) := by decide +kernel
theorem d8_copy_112 : decode prog_10_method_17_code 112 = .ok (.getfield 23, 3) := by decide +kernel
theorem d8_copy_115 : decode prog_10_method_17_code 115 = .ok (.iload 6, 2) := by decide +kernel
theorem d8_copy_117 : decode prog_10_method_17_code 117 = .ok (.aload_n 0, 1) := by decide +kernel
theorem d8_copy_118 : decode prog_10_method_17_code 118 = .ok (.iload_n 1, 1) := by decide +kernel
theorem d8_copy_119 : decode prog_10_method_17_code 119 = .ok (.iload_n 2, 1) := by decide +kernel
theorem d8_copy_120 : decode prog_10_method_17_code 120 = .ok (.iload 6, 2) := by decide +kernel
theorem d8_copy_122 : decode prog_10_method_17_code 122 = .ok (.iadd, 1) := by decide +kernel
theorem d8_copy_123 : decode prog_10_method_17_code 123 = .ok (.invokevirtual 98, 3) := by decide +kernel
theorem d8_copy_126 : decode prog_10_method_17_code 126 = .ok (.iastore, 1) := by decide +kernel
theorem d8_copy_127 : decode prog_10_method_17_code 127 = .ok (.iinc 6 1, 3) := by decide +kernel
theorem d8_copy_130 : decode prog_10_method_17_code 130 = .ok (.goto (-26), 3) := by decide +kernel
theorem d8_copy_133 : decode prog_10_method_17_code 133 = .ok (.iconst 0, 1) := by decide +kernel
theorem d8_copy_134 : decode prog_10_method_17_code 134 = .ok (.istore 6, 2) := by decide +kernel
theorem d8_copy_136 : decode prog_10_method_17_code 136 = .ok (.iload 6, 2) := by decide +kernel
theorem d8_copy_138 : decode prog_10_method_17_code 138 = .ok (.iload 5, 2) := by decide +kernel
theorem d8_copy_140 : decode prog_10_method_17_code 140 = .ok (.if_icmp .ge 31, 3) := by decide +kernel
theorem d8_copy_143 : decode prog_10_method_17_code 143 = .ok (.aload_n 0, 1) := by decide +kernel
theorem d8_copy_144 : decode prog_10_method_17_code 144 = .ok (.getfield 20, 3) := by decide +kernel
theorem d8_copy_147 : decode prog_10_method_17_code 147 = .ok (.bipush 40, 2) := by decide +kernel
theorem d8_copy_149 : decode prog_10_method_17_code 149 = .ok (.iload_n 3, 1) := by decide +kernel
theorem d8_copy_150 : decode prog_10_method_17_code 150 = .ok (.imul, 1) := by decide +kernel
theorem d8_copy_151 : decode prog_10_method_17_code 151 = .ok (.iload 4, 2) := by decide +kernel
theorem d8_copy_153 : decode prog_10_method_17_code 153 = .ok (.iadd, 1) := by decide +kernel
theorem d8_copy_154 : decode prog_10_method_17_code 154 = .ok (.iload 6, 2) := by decide +kernel
theorem d8_copy_156 : decode prog_10_method_17_code 156 = .ok (.iadd, 1) := by decide +kernel
theorem d8_copy_157 : decode prog_10_method_17_code 157 = .ok (.aload_n 0, 1) := by decide +kernel
theorem d8_copy_158 : decode prog_10_method_17_code 158 = .ok (.getfield 23, 3) := by decide +kernel
theorem d8_copy_161 : decode prog_10_method_17_code 161 = .ok (.iload 6, 2) := by decide +kernel
theorem d8_copy_163 : decode prog_10_method_17_code 163 = .ok (.iaload, 1) := by decide +kernel
theorem d8_copy_164 : decode prog_10_method_17_code 164 = .ok (.iastore, 1) := by decide +kernel
theorem d8_copy_165 : decode prog_10_method_17_code 165 = .ok (.iinc 6 1, 3) := by decide +kernel
theorem d8_copy_168 : decode prog_10_method_17_code 168 = .ok (.goto (-32), 3) := by decide +kernel
theorem d8_copy_171 : decode prog_10_method_17_code 171 = .ok (.iconst 1, 1) := by decide +kernel
theorem d8_copy_172 : decode prog_10_method_17_code 172 = .ok (.ireturn, 1) := by decide +kernel
theorem d7_mean_0 : decode prog_1_method_7_code 0 = .ok (.iload_n 1, 1) := by decide +kernel
theorem d7_mean_1 : decode prog_1_method_7_code 1 = .ok (.invokestatic 88, 3) := by decide +kernel
theorem d7_mean_4 : decode prog_1_method_7_code 4 = .ok (.ifCond .ne 5, 3) := by decide +kernel
theorem d7_mean_7 : decode prog_1_method_7_code 7 = .ok (.iconst (-1), 1) := by decide +kernel
theorem d7_mean_8 : decode prog_1_method_7_code 8 = .ok (.ireturn, 1) := by decide +kernel
theorem d7_mean_9 : decode prog_1_method_7_code 9 = .ok (.aload_n 0, 1) := by decide +kernel
theorem d7_mean_10 : decode prog_1_method_7_code 10 = .ok (.getfield 14, 3) := by decide +kernel
theorem d7_mean_13 : decode prog_1_method_7_code 13 = .ok (.iload_n 1, 1) := by decide +kernel
theorem d7_mean_14 : decode prog_1_method_7_code 14 = .ok (.iaload, 1) := by decide +kernel
theorem d7_mean_15 : decode prog_1_method_7_code 15 = .ok (.istore_n 2, 1) := by decide +kernel
theorem d7_mean_16 : decode prog_1_method_7_code 16 = .ok (.iload_n 2, 1) := by decide +kernel
theorem d7_mean_17 : decode prog_1_method_7_code 17 = .ok (.iconst (-1), 1) := by decide +kernel
theorem d7_mean_18 : decode prog_1_method_7_code 18 = .ok (.if_icmp .ne 9, 3) := by decide +kernel
theorem d7_mean_21 : decode prog_1_method_7_code 21 = .ok (.aload_n 0, 1) := by decide +kernel
theorem d7_mean_22 : decode prog_1_method_7_code 22 = .ok (.iconst 1, 1) := by decide +kernel
theorem d7_mean_23 : decode prog_1_method_7_code 23 = .ok (.invokevirtual 92, 3) := by decide +kernel
theorem d7_mean_26 : decode prog_1_method_7_code 26 = .ok (.ireturn, 1) := by decide +kernel
theorem d7_mean_27 : decode prog_1_method_7_code 27 = .ok (.iload_n 2, 1) := by decide +kernel
theorem d7_mean_28 : decode prog_1_method_7_code 28 = .ok (.ifCond .gt 9, 3) := by decide +kernel
theorem d7_mean_31 : decode prog_1_method_7_code 31 = .ok (.aload_n 0, 1) := by decide +kernel
theorem d7_mean_32 : decode prog_1_method_7_code 32 = .ok (.iconst 4, 1) := by decide +kernel
theorem d7_mean_33 : decode prog_1_method_7_code 33 = .ok (.invokevirtual 92, 3) := by decide +kernel
theorem d7_mean_36 : decode prog_1_method_7_code 36 = .ok (.ireturn, 1) := by decide +kernel
theorem d7_mean_37 : decode prog_1_method_7_code 37 = .ok (.lconst 0, 1) := by decide +kernel
theorem d7_mean_38 : decode prog_1_method_7_code 38 = .ok (.lstore_n 3, 1) := by decide +kernel
theorem d7_mean_39 : decode prog_1_method_7_code 39 = .ok (.iconst 0, 1) := by decide +kernel
theorem d7_mean_40 : decode prog_1_method_7_code 40 = .ok (.istore 5, 2) := by decide +kernel
theorem d7_mean_42 : decode prog_1_method_7_code 42 = .ok (.iload 5, 2) := by decide +kernel
theorem d7_mean_44 : decode prog_1_method_7_code 44 = .ok (.iload_n 2, 1) := by decide +kernel
theorem d7_mean_45 : decode prog_1_method_7_code 45 = .ok (.if_icmp .ge 22, 3) := by decide +kernel
theorem d7_mean_48 : decode prog_1_method_7_code 48 = .ok (.lload_n 3, 1) := by decide +kernel
theorem d7_mean_49 : decode prog_1_method_7_code 49 = .ok (.aload_n 0, 1) := by decide +kernel
theorem d7_mean_50 : decode prog_1_method_7_code 50 = .ok (.getfield 11, 3) := by decide +kernel
theorem d7_mean_53 : decode prog_1_method_7_code 53 = .ok (.iload_n 1, 1) := by decide +kernel
theorem d7_mean_54 : decode prog_1_method_7_code 54 = .ok (.aaload, 1) := by decide +kernel
theorem d7_mean_55 : decode prog_1_method_7_code 55 = .ok (.iload 5, 2) := by decide +kernel
theorem d7_mean_57 : decode prog_1_method_7_code 57 = .ok (.iaload, 1) := by decide +kernel
theorem d7_mean_58 : decode prog_1_method_7_code 58 = .ok (.i2l, 1) := by decide +kernel
theorem d7_mean_59 : decode prog_1_method_7_code 59 = .ok (.ladd, 1) := by decide +kernel
theorem d7_mean_60 : decode prog_1_method_7_code 60 = .ok (.lstore_n 3, 1) := by decide +kernel
theorem d7_mean_61 : decode prog_1_method_7_code 61 = .ok (.iinc 5 1, 3) := by decide +kernel
theorem d7_mean_64 : decode prog_1_method_7_code 64 = .ok (.goto (-22), 3) := by decide +kernel
theorem d7_mean_67 : decode prog_1_method_7_code 67 = .ok (.aload_n 0, 1) := by decide +kernel
theorem d7_mean_68 : decode prog_1_method_7_code 68 = .ok (.lload_n 3, 1) := by decide +kernel
theorem d7_mean_69 : decode prog_1_method_7_code 69 = .ok (.iload_n 2, 1) := by decide +kernel
theorem d7_mean_70 : decode prog_1_method_7_code 70 = .ok (.i2l, 1) := by decide +kernel
theorem d7_mean_71 : decode prog_1_method_7_code 71 = .ok (.ldiv, 1) := by decide +kernel
theorem d7_mean_72 : decode prog_1_method_7_code 72 = .ok (.l2i, 1) := by decide +kernel
theorem d7_mean_73 : decode prog_1_method_7_code 73 = .ok (.putfield 65, 3) := by decide +kernel
theorem d7_mean_76 : decode prog_1_method_7_code 76 = .ok (.iconst 1, 1) := by decide +kernel
theorem d7_mean_77 : decode prog_1_method_7_code 77 = .ok (.ireturn, 1) := by decide +kernel
theorem d8_mean_0 : decode prog_10_method_18_code 0 = .ok (.aload_n 0, 1) := by decide +kernel
theorem d8_mean_1 : decode prog_10_method_18_code 1 = .ok (.iload_n 1, 1) := by decide +kernel
theorem d8_mean_2 : decode prog_10_method_18_code 2 = .ok (.invokevirtual 95, 3) := by decide +kernel
theorem d8_mean_5 : decode prog_10_method_18_code 5 = .ok (.istore_n 2, 1) := by decide +kernel
theorem d8_mean_6 : decode prog_10_method_18_code 6 = .ok (.iload_n 2, 1) := by decide +kernel
theorem d8_mean_7 : decode prog_10_method_18_code 7 = .ok (.ifCond .ge 5, 3) := by decide +kernel
theorem d8_mean_10 : decode prog_10_method_18_code 10 = .ok (.iload_n 2, 1) := by decide +kernel
theorem d8_mean_11 : decode prog_10_method_18_code 11 = .ok (.ireturn, 1) := by decide +kernel
theorem d8_mean_12 : decode prog_10_method_18_code 12 = .ok (.lconst 0, 1) := by decide +kernel
theorem d8_mean_13 : decode prog_10_method_18_code 13 = .ok (.lstore_n 3, 1) := by decide +kernel
theorem d8_mean_14 : decode prog_10_method_18_code 14 = .ok (.iconst 0, 1) := by decide +kernel
theorem d8_mean_15 : decode prog_10_method_18_code 15 = .ok (.istore 5, 2) := by decide +kernel
theorem d8_mean_17 : decode prog_10_method_18_code 17 = .ok (.iload 5, 2) := by decide +kernel
theorem d8_mean_19 : decode prog_10_method_18_code 19 = .ok (.aload_n 0, 1) := by decide +kernel
theorem d8_mean_20 : decode prog_10_method_18_code 20 = .ok (.getfield 17, 3) := by decide +kernel
theorem d8_mean_23 : decode prog_10_method_18_code 23 = .ok (.iload_n 1, 1) := by decide +kernel
theorem d8_mean_24 : decode prog_10_method_18_code 24 = .ok (.iaload, 1) := by decide +kernel
theorem d8_mean_25 : decode prog_10_method_18_code 25 = .ok (.if_icmp .ge 20, 3) := by decide +kernel
theorem d8_mean_28 : decode prog_10_method_18_code 28 = .ok (.lload_n 3, 1) := by decide +kernel
theorem d8_mean_29 : decode prog_10_method_18_code 29 = .ok (.aload_n 0, 1) := by decide +kernel
theorem d8_mean_30 : decode prog_10_method_18_code 30 = .ok (.iload_n 1, 1) := by decide +kernel
theorem d8_mean_31 : decode prog_10_method_18_code 31 = .ok (.iload 5, 2) := by decide +kernel
theorem d8_mean_33 : decode prog_10_method_18_code 33 = .ok (.invokevirtual 98, 3) := by decide +kernel
theorem d8_mean_36 : decode prog_10_method_18_code 36 = .ok (.i2l, 1) := by decide +kernel
theorem d8_mean_37 : decode prog_10_method_18_code 37 = .ok (.ladd, 1) := by decide +kernel
theorem d8_mean_38 : decode prog_10_method_18_code 38 = .ok (.lstore_n 3, 1) := by decide +kernel
theorem d8_mean_39 : decode prog_10_method_18_code 39 = .ok (.iinc 5 1, 3) := by decide +kernel
theorem d8_mean_42 : decode prog_10_method_18_code 42 = .ok (.goto (-25), 3) := by decide +kernel
theorem d8_mean_45 : decode prog_10_method_18_code 45 = .ok (.aload_n 0, 1) := by decide +kernel
theorem d8_mean_46 : decode prog_10_method_18_code 46 = .ok (.getfield 17, 3) := by decide +kernel
theorem d8_mean_49 : decode prog_10_method_18_code 49 = .ok (.iload_n 1, 1) := by decide +kernel
theorem d8_mean_50 : decode prog_10_method_18_code 50 = .ok (.iaload, 1) := by decide +kernel
theorem d8_mean_51 : decode prog_10_method_18_code 51 = .ok (.ifCond .ne 11, 3) := by decide +kernel
theorem d8_mean_54 : decode prog_10_method_18_code 54 = .ok (.aload_n 0, 1) := by decide +kernel
theorem d8_mean_55 : decode prog_10_method_18_code 55 = .ok (.iconst 4, 1) := by decide +kernel
theorem d8_mean_56 : decode prog_10_method_18_code 56 = .ok (.invokevirtual 88, 3) := by decide +kernel
theorem d8_mean_59 : decode prog_10_method_18_code 59 = .ok (.goto 18, 3) := by decide +kernel
theorem d8_mean_62 : decode prog_10_method_18_code 62 = .ok (.aload_n 0, 1) := by decide +kernel
theorem d8_mean_63 : decode prog_10_method_18_code 63 = .ok (.lload_n 3, 1) := by decide +kernel
theorem d8_mean_64 : decode prog_10_method_18_code 64 = .ok (.aload_n 0, 1) := by decide +kernel
theorem d8_mean_65 : decode prog_10_method_18_code 65 = .ok (.getfield 17, 3) := by decide +kernel
theorem d8_mean_68 : decode prog_10_method_18_code 68 = .ok (.iload_n 1, 1) := by decide +kernel
theorem d8_mean_69 : decode prog_10_method_18_code 69 = .ok (.iaload, 1) := by decide +kernel
theorem d8_mean_70 : decode prog_10_method_18_code 70 = .ok (.i2l, 1) := by decide +kernel
theorem d8_mean_71 : decode prog_10_method_18_code 71 = .ok (.ldiv, 1) := by decide +kernel
theorem d8_mean_72 : decode prog_10_method_18_code 72 = .ok (.l2i, 1) := by decide +kernel
theorem d8_mean_73 : decode prog_10_method_18_code 73 = .ok (.iconst 1, 1) := by decide +kernel
theorem d8_mean_74 : decode prog_10_method_18_code 74 = .ok (.invokevirtual 102, 3) := by decide +kernel
theorem d8_mean_77 : decode prog_10_method_18_code 77 = .ok (.ireturn, 1) := by decide +kernel
theorem d7_isText_0 : decode prog_1_method_51_code 0 = .ok (.iload_n 0, 1) := by decide +kernel
theorem d7_isText_1 : decode prog_1_method_51_code 1 = .ok (.ifCond .lt 12, 3) := by decide +kernel
theorem d7_isText_4 : decode prog_1_method_51_code 4 = .ok (.iload_n 0, 1) := by decide +kernel
theorem d7_isText_5 : decode prog_1_method_51_code 5 = .ok (.iconst 4, 1) := by decide +kernel
theorem d7_isText_6 : decode prog_1_method_51_code 6 = .ok (.if_icmp .ge 7, 3) := by decide +kernel
theorem d7_isText_9 : decode prog_1_method_51_code 9 = .ok (.iconst 1, 1) := by decide +kernel
theorem d7_isText_10 : decode prog_1_method_51_code 10 = .ok (.goto 4, 3) := by decide +kernel
theorem d7_isText_13 : decode prog_1_method_51_code 13 = .ok (.iconst 0, 1) := by decide +kernel
theorem d7_isText_14 : decode prog_1_method_51_code 14 = .ok (.ireturn, 1) := by decide +kernel
theorem dA_fillB_0 : decode prog_14_method_109_code 0 = .ok (.iconst 0, 1) := by decide +kernel
theorem dA_fillB_1 : decode prog_14_method_109_code 1 = .ok (.istore_n 2, 1) := by decide +kernel
theorem dA_fillB_2 : decode prog_14_method_109_code 2 = .ok (.aload_n 0, 1) := by decide +kernel
theorem dA_fillB_3 : decode prog_14_method_109_code 3 = .ok (.arraylength, 1) := by decide +kernel
theorem dA_fillB_4 : decode prog_14_method_109_code 4 = .ok (.istore_n 3, 1) := by decide +kernel
theorem dA_fillB_5 : decode prog_14_method_109_code 5 = .ok (.iload_n 2, 1) := by decide +kernel
theorem dA_fillB_6 : decode prog_14_method_109_code 6 = .ok (.iload_n 3, 1) := by decide +kernel
theorem dA_fillB_7 : decode prog_14_method_109_code 7 = .ok (.if_icmp .ge 13, 3) := by decide +kernel
theorem dA_fillB_10 : decode prog_14_method_109_code 10 = .ok (.aload_n 0, 1) := by decide +kernel
theorem dA_fillB_11 : decode prog_14_method_109_code 11 = .ok (.iload_n 2, 1) := by decide +kernel
theorem dA_fillB_12 : decode prog_14_method_109_code 12 = .ok (.iload_n 1, 1) := by decide +kernel
theorem dA_fillB_13 : decode prog_14_method_109_code 13 = .ok (.bastore, 1) := by decide +kernel
theorem dA_fillB_14 : decode prog_14_method_109_code 14 = .ok (.iinc 2 1, 3) := by decide +kernel
theorem dA_fillB_17 : decode prog_14_method_109_code 17 = .ok (.goto (-12), 3) := by decide +kernel
theorem dA_fillB_20 : decode prog_14_method_109_code 20 = .ok (.return_, 1) := by decide +kernel
theorem d7_text_0 : decode prog_1_method_8_code 0 = .ok (.iload_n 1, 1) := by decide +kernel
theorem d7_text_1 : decode prog_1_method_8_code 1 = .ok (.invokestatic 114, 3) := by decide +kernel
theorem d7_text_4 : decode prog_1_method_8_code 4 = .ok (.ifCond .eq 9, 3) := by decide +kernel
theorem d7_text_7 : decode prog_1_method_8_code 7 = .ok (.iload_n 2, 1) := by decide +kernel
theorem d7_text_8 : decode prog_1_method_8_code 8 = .ok (.bipush 80, 2) := by decide +kernel
theorem d7_text_10 : decode prog_1_method_8_code 10 = .ok (.if_icmp .le 5, 3) := by decide +kernel
theorem d7_text_13 : decode prog_1_method_8_code 13 = .ok (.iconst (-1), 1) := by decide +kernel
theorem d7_text_14 : decode prog_1_method_8_code 14 = .ok (.ireturn, 1) := by decide +kernel
theorem d7_text_15 : decode prog_1_method_8_code 15 = .ok (.iload_n 2, 1) := by decide +kernel
theorem d7_text_16 : decode prog_1_method_8_code 16 = .ok (.ifCond .ge 9, 3) := by decide +kernel
theorem d7_text_19 : decode prog_1_method_8_code 19 = .ok (.aload_n 0, 1) := by decide +kernel
theorem d7_text_20 : decode prog_1_method_8_code 20 = .ok (.iconst 5, 1) := by decide +kernel
theorem d7_text_21 : decode prog_1_method_8_code 21 = .ok (.invokevirtual 92, 3) := by decide +kernel
theorem d7_text_24 : decode prog_1_method_8_code 24 = .ok (.ireturn, 1) := by decide +kernel
theorem d7_text_25 : decode prog_1_method_8_code 25 = .ok (.aload_n 0, 1) := by decide +kernel
theorem d7_text_26 : decode prog_1_method_8_code 26 = .ok (.getfield 23, 3) := by decide +kernel
theorem d7_text_29 : decode prog_1_method_8_code 29 = .ok (.iload_n 1, 1) := by decide +kernel
theorem d7_text_30 : decode prog_1_method_8_code 30 = .ok (.iload_n 2, 1) := by decide +kernel
theorem d7_text_31 : decode prog_1_method_8_code 31 = .ok (.iastore, 1) := by decide +kernel
theorem d7_text_32 : decode prog_1_method_8_code 32 = .ok (.aload_n 0, 1) := by decide +kernel
theorem d7_text_33 : decode prog_1_method_8_code 33 = .ok (.getfield 20, 3) := by decide +kernel
theorem d7_text_36 : decode prog_1_method_8_code 36 = .ok (.iload_n 1, 1) := by decide +kernel
theorem d7_text_37 : decode prog_1_method_8_code 37 = .ok (.aaload, 1) := by decide +kernel
theorem d7_text_38 : decode prog_1_method_8_code 38 = .ok (.bipush 32, 2) := by decide +kernel
theorem d7_text_40 : decode prog_1_method_8_code 40 = .ok (.invokestatic 117, 3) := by decide +kernel
theorem d7_text_43 : decode prog_1_method_8_code 43 = .ok (.iload_n 2, 1) := by decide +kernel
theorem d7_text_44 : decode prog_1_method_8_code 44 = .ok (.ireturn, 1) := by decide +kernel
theorem d8_isText_0 : decode prog_10_method_9_code 0 = .ok (.iload_n 0, 1) := by decide +kernel
theorem d8_isText_1 : decode prog_10_method_9_code 1 = .ok (.iconst 0, 1) := by decide +kernel
theorem d8_isText_2 : decode prog_10_method_9_code 2 = .ok (.iconst 3, 1) := by decide +kernel
theorem d8_isText_3 : decode prog_10_method_9_code 3 = .ok (.invokestatic 80, 3) := by decide +kernel
theorem d8_isText_6 : decode prog_10_method_9_code 6 = .ok (.ireturn, 1) := by decide +kernel
theorem d8_text_0 : decode prog_10_method_19_code 0 = .ok (.iload_n 1, 1) := by decide +kernel
theorem d8_text_1 : decode prog_10_method_19_code 1 = .ok (.invokestatic 92, 3) := by decide +kernel
theorem d8_text_4 : decode prog_10_method_19_code 4 = .ok (.ifCond .eq 9, 3) := by decide +kernel
theorem d8_text_7 : decode prog_10_method_19_code 7 = .ok (.iload_n 2, 1) := by decide +kernel
theorem d8_text_8 : decode prog_10_method_19_code 8 = .ok (.bipush 80, 2) := by decide +kernel
theorem d8_text_10 : decode prog_10_method_19_code 10 = .ok (.if_icmp .le 5, 3) := by decide +kernel
theorem d8_text_13 : decode prog_10_method_19_code 13 = .ok (.iconst (-1), 1) := by decide +kernel
theorem d8_text_14 : decode prog_10_method_19_code 14 = .ok (.ireturn, 1) := by decide +kernel
theorem d8_text_15 : decode prog_10_method_19_code 15 = .ok (.iload_n 2, 1) := by decide +kernel
theorem d8_text_16 : decode prog_10_method_19_code 16 = .ok (.ifCond .ge 9, 3) := by decide +kernel
theorem d8_text_19 : decode prog_10_method_19_code 19 = .ok (.aload_n 0, 1) := by decide +kernel
theorem d8_text_20 : decode prog_10_method_19_code 20 = .ok (.iconst 5, 1) := by decide +kernel
theorem d8_text_21 : decode prog_10_method_19_code 21 = .ok (.invokevirtual 88, 3) := by decide +kernel
theorem d8_text_24 : decode prog_10_method_19_code 24 = .ok (.ireturn, 1) := by decide +kernel
theorem d8_text_25 : decode prog_10_method_19_code 25 = .ok (.aload_n 0, 1) := by decide +kernel
theorem d8_text_26 : decode prog_10_method_19_code 26 = .ok (.getfield 26, 3) := by decide +kernel
theorem d8_text_29 : decode prog_10_method_19_code 29 = .ok (.iload_n 1, 1) := by decide +kernel
theorem d8_text_30 : decode prog_10_method_19_code 30 = .ok (.iload_n 2, 1) := by decide +kernel
theorem d8_text_31 : decode prog_10_method_19_code 31 = .ok (.iastore, 1) := by decide +kernel
theorem d8_text_32 : decode prog_10_method_19_code 32 = .ok (.iconst 0, 1) := by decide +kernel
theorem d8_text_33 : decode prog_10_method_19_code 33 = .ok (.istore_n 3, 1) := by decide +kernel
theorem d8_text_34 : decode prog_10_method_19_code 34 = .ok (.iload_n 3, 1) := by decide +kernel
theorem d8_text_35 : decode prog_10_method_19_code 35 = .ok (.bipush 80, 2) := by decide +kernel
theorem d8_text_37 : decode prog_10_method_19_code 37 = .ok (.if_icmp .ge 22, 3) := by decide +kernel
theorem d8_text_40 : decode prog_10_method_19_code 40 = .ok (.aload_n 0, 1) := by decide +kernel
theorem d8_text_41 : decode prog_10_method_19_code 41 = .ok (.getfield 29, 3) := by decide +kernel
theorem d8_text_44 : decode prog_10_method_19_code 44 = .ok (.bipush 80, 2) := by decide +kernel
theorem d8_text_46 : decode prog_10_method_19_code 46 = .ok (.iload_n 1, 1) := by decide +kernel
theorem d8_text_47 : decode prog_10_method_19_code 47 = .ok (.imul, 1) := by decide +kernel
theorem d8_text_48 : decode prog_10_method_19_code 48 = .ok (.iload_n 3, 1) := by decide +kernel
theorem d8_text_49 : decode prog_10_method_19_code 49 = .ok (.iadd, 1) := by decide +kernel
theorem d8_text_50 : decode prog_10_method_19_code 50 = .ok (.bipush 32, 2) := by decide +kernel
theorem d8_text_52 : decode prog_10_method_19_code 52 = .ok (.iastore, 1) := by decide +kernel
theorem d8_text_53 : decode prog_10_method_19_code 53 = .ok (.iinc 3 1, 3) := by decide +kernel
theorem d8_text_56 : decode prog_10_method_19_code 56 = .ok (.goto (-22), 3) := by decide +kernel
theorem d8_text_59 : decode prog_10_method_19_code 59 = .ok (.iload_n 2, 1) := by decide +kernel
theorem d8_text_60 : decode prog_10_method_19_code 60 = .ok (.ireturn, 1) := by decide +kernel
theorem d7_put_0 : decode prog_1_method_9_code 0 = .ok (.iload_n 1, 1) := by decide +kernel
theorem d7_put_1 : decode prog_1_method_9_code 1 = .ok (.invokestatic 114, 3) := by decide +kernel
theorem d7_put_4 : decode prog_1_method_9_code 4 = .ok (.ifCond .ne 5, 3) := by decide +kernel
theorem d7_put_7 : decode prog_1_method_9_code 7 = .ok (.iconst (-1), 1) := by decide +kernel
theorem d7_put_8 : decode prog_1_method_9_code 8 = .ok (.ireturn, 1) := by decide +kernel
theorem d7_put_9 : decode prog_1_method_9_code 9 = .ok (.aload_n 0, 1) := by decide +kernel
theorem d7_put_10 : decode prog_1_method_9_code 10 = .ok (.getfield 23, 3) := by decide +kernel
theorem d7_put_13 : decode prog_1_method_9_code 13 = .ok (.iload_n 1, 1) := by decide +kernel
theorem d7_put_14 : decode prog_1_method_9_code 14 = .ok (.iaload, 1) := by decide +kernel
theorem d7_put_15 : decode prog_1_method_9_code 15 = .ok (.iconst (-1), 1) := by decide +kernel
theorem d7_put_16 : decode prog_1_method_9_code 16 = .ok (.if_icmp .ne 9, 3) := by decide +kernel
theorem d7_put_19 : decode prog_1_method_9_code 19 = .ok (.aload_n 0, 1) := by decide +kernel
theorem d7_put_20 : decode prog_1_method_9_code 20 = .ok (.iconst 1, 1) := by decide +kernel
theorem d7_put_21 : decode prog_1_method_9_code 21 = .ok (.invokevirtual 92, 3) := by decide +kernel
theorem d7_put_24 : decode prog_1_method_9_code 24 = .ok (.ireturn, 1) := by decide +kernel
theorem d7_put_25 : decode prog_1_method_9_code 25 = .ok (.iload_n 2, 1) := by decide +kernel
theorem d7_put_26 : decode prog_1_method_9_code 26 = .ok (.ifCond .lt 13, 3) := by decide +kernel
theorem d7_put_29 : decode prog_1_method_9_code 29 = .ok (.iload_n 2, 1) := by decide +kernel
theorem d7_put_30 : decode prog_1_method_9_code 30 = .ok (.aload_n 0, 1) := by decide +kernel
theorem d7_put_31 : decode prog_1_method_9_code 31 = .ok (.getfield 23, 3) := by decide +kernel
theorem d7_put_34 : decode prog_1_method_9_code 34 = .ok (.iload_n 1, 1) := by decide +kernel
theorem d7_put_35 : decode prog_1_method_9_code 35 = .ok (.iaload, 1) := by decide +kernel
theorem d7_put_36 : decode prog_1_method_9_code 36 = .ok (.if_icmp .lt 9, 3) := by decide +kernel
theorem d7_put_39 : decode prog_1_method_9_code 39 = .ok (.aload_n 0, 1) := by decide +kernel
theorem d7_put_40 : decode prog_1_method_9_code 40 = .ok (.iconst 2, 1) := by decide +kernel
theorem d7_put_41 : decode prog_1_method_9_code 41 = .ok (.invokevirtual 92, 3) := by decide +kernel
theorem d7_put_44 : decode prog_1_method_9_code 44 = .ok (.ireturn, 1) := by decide +kernel
theorem d7_put_45 : decode prog_1_method_9_code 45 = .ok (.aload_n 0, 1) := by decide +kernel
theorem d7_put_46 : decode prog_1_method_9_code 46 = .ok (.getfield 20, 3) := by decide +kernel
theorem d7_put_49 : decode prog_1_method_9_code 49 = .ok (.iload_n 1, 1) := by decide +kernel
theorem d7_put_50 : decode prog_1_method_9_code 50 = .ok (.aaload, 1) := by decide +kernel
theorem d7_put_51 : decode prog_1_method_9_code 51 = .ok (.iload_n 2, 1) := by decide +kernel
theorem d7_put_52 : decode prog_1_method_9_code 52 = .ok (.baload, 1) := by decide +kernel
theorem d7_put_53 : decode prog_1_method_9_code 53 = .ok (.istore 4, 2) := by decide +kernel
theorem d7_put_55 : decode prog_1_method_9_code 55 = .ok (.aload_n 0, 1) := by decide +kernel
theorem d7_put_56 : decode prog_1_method_9_code 56 = .ok (.getfield 20, 3) := by decide +kernel
theorem d7_put_59 : decode prog_1_method_9_code 59 = .ok (.iload_n 1, 1) := by decide +kernel
theorem d7_put_60 : decode prog_1_method_9_code 60 = .ok (.aaload, 1) := by decide +kernel
theorem d7_put_61 : decode prog_1_method_9_code 61 = .ok (.iload_n 2, 1) := by decide +kernel
theorem d7_put_62 : decode prog_1_method_9_code 62 = .ok (.iload_n 3, 1) := by decide +kernel
theorem d7_put_63 : decode prog_1_method_9_code 63 = .ok (.i2b, 1) := by decide +kernel
theorem d7_put_64 : decode prog_1_method_9_code 64 = .ok (.bastore, 1) := by decide +kernel
theorem d7_put_65 : decode prog_1_method_9_code 65 = .ok (.iload 4, 2) := by decide +kernel
theorem d7_put_67 : decode prog_1_method_9_code 67 = .ok (.sipush 1000, 3) := by decide +kernel
theorem d7_put_70 : decode prog_1_method_9_code 70 = .ok (.iadd, 1) := by decide +kernel
theorem d7_put_71 : decode prog_1_method_9_code 71 = .ok (.ireturn, 1) := by decide +kernel
theorem d8_askedText_0 : decode prog_10_method_11_code 0 = .ok (.iload_n 1, 1) := by decide +kernel
theorem d8_askedText_1 : decode prog_10_method_11_code 1 = .ok (.invokestatic 92, 3) := by decide +kernel
theorem d8_askedText_4 : decode prog_10_method_11_code 4 = .ok (.ifCond .ne 7, 3) := by decide +kernel
theorem d8_askedText_7 : decode prog_10_method_11_code 7 = .ok (.iconst (-1), 1) := by decide +kernel
theorem d8_askedText_8 : decode prog_10_method_11_code 8 = .ok (.goto 21, 3) := by decide +kernel
theorem d8_askedText_11 : decode prog_10_method_11_code 11 = .ok (.aload_n 0, 1) := by decide +kernel
theorem d8_askedText_12 : decode prog_10_method_11_code 12 = .ok (.getfield 26, 3) := by decide +kernel
theorem d8_askedText_15 : decode prog_10_method_11_code 15 = .ok (.iload_n 1, 1) := by decide +kernel
theorem d8_askedText_16 : decode prog_10_method_11_code 16 = .ok (.iaload, 1) := by decide +kernel
theorem d8_askedText_17 : decode prog_10_method_11_code 17 = .ok (.ifCond .ge 11, 3) := by decide +kernel
theorem d8_askedText_20 : decode prog_10_method_11_code 20 = .ok (.aload_n 0, 1) := by decide +kernel
theorem d8_askedText_21 : decode prog_10_method_11_code 21 = .ok (.iconst 1, 1) := by decide +kernel
theorem d8_askedText_22 : decode prog_10_method_11_code 22 = .ok (.invokevirtual 88, 3) := by decide +kernel
theorem d8_askedText_25 : decode prog_10_method_11_code 25 = .ok (.goto 4, 3) := by decide +kernel
theorem d8_askedText_28 : decode prog_10_method_11_code 28 = .ok (.iconst 0, 1) := by decide +kernel
theorem d8_askedText_29 : decode prog_10_method_11_code 29 = .ok (.ireturn, 1) := by decide +kernel
theorem d8_put_0 : decode prog_10_method_20_code 0 = .ok (.aload_n 0, 1) := by decide +kernel
theorem d8_put_1 : decode prog_10_method_20_code 1 = .ok (.iload_n 1, 1) := by decide +kernel
theorem d8_put_2 : decode prog_10_method_20_code 2 = .ok (.invokevirtual 108, 3) := by decide +kernel
theorem d8_put_5 : decode prog_10_method_20_code 5 = .ok (.istore 4, 2) := by decide +kernel
theorem d8_put_7 : decode prog_10_method_20_code 7 = .ok (.iload 4, 2) := by decide +kernel
theorem d8_put_9 : decode prog_10_method_20_code 9 = .ok (.ifCond .ge 6, 3) := by decide +kernel
theorem d8_put_12 : decode prog_10_method_20_code 12 = .ok (.iload 4, 2) := by decide +kernel
theorem d8_put_14 : decode prog_10_method_20_code 14 = .ok (.ireturn, 1) := by decide +kernel
theorem d8_put_15 : decode prog_10_method_20_code 15 = .ok (.iload_n 2, 1) := by decide +kernel
theorem d8_put_16 : decode prog_10_method_20_code 16 = .ok (.iconst 0, 1) := by decide +kernel
theorem d8_put_17 : decode prog_10_method_20_code 17 = .ok (.aload_n 0, 1) := by decide +kernel
theorem d8_put_18 : decode prog_10_method_20_code 18 = .ok (.getfield 26, 3) := by decide +kernel
theorem d8_put_21 : decode prog_10_method_20_code 21 = .ok (.iload_n 1, 1) := by decide +kernel
theorem d8_put_22 : decode prog_10_method_20_code 22 = .ok (.iaload, 1) := by decide +kernel
theorem d8_put_23 : decode prog_10_method_20_code 23 = .ok (.iconst 1, 1) := by decide +kernel
theorem d8_put_24 : decode prog_10_method_20_code 24 = .ok (.isub, 1) := by decide +kernel
theorem d8_put_25 : decode prog_10_method_20_code 25 = .ok (.invokestatic 80, 3) := by decide +kernel
theorem d8_put_28 : decode prog_10_method_20_code 28 = .ok (.ifCond .ne 9, 3) := by decide +kernel
theorem d8_put_31 : decode prog_10_method_20_code 31 = .ok (.aload_n 0, 1) := by decide +kernel
theorem d8_put_32 : decode prog_10_method_20_code 32 = .ok (.iconst 2, 1) := by decide +kernel
theorem d8_put_33 : decode prog_10_method_20_code 33 = .ok (.invokevirtual 88, 3) := by decide +kernel
theorem d8_put_36 : decode prog_10_method_20_code 36 = .ok (.ireturn, 1) := by decide +kernel
theorem d8_put_37 : decode prog_10_method_20_code 37 = .ok (.aload_n 0, 1) := by decide +kernel
theorem d8_put_38 : decode prog_10_method_20_code 38 = .ok (.getfield 29, 3) := by decide +kernel
theorem d8_put_41 : decode prog_10_method_20_code 41 = .ok (.bipush 80, 2) := by decide +kernel
theorem d8_put_43 : decode prog_10_method_20_code 43 = .ok (.iload_n 1, 1) := by decide +kernel
theorem d8_put_44 : decode prog_10_method_20_code 44 = .ok (.imul, 1) := by decide +kernel
theorem d8_put_45 : decode prog_10_method_20_code 45 = .ok (.iload_n 2, 1) := by decide +kernel
theorem d8_put_46 : decode prog_10_method_20_code 46 = .ok (.iadd, 1) := by decide +kernel
theorem d8_put_47 : decode prog_10_method_20_code 47 = .ok (.iaload, 1) := by decide +kernel
theorem d8_put_48 : decode prog_10_method_20_code 48 = .ok (.istore 5, 2) := by decide +kernel
theorem d8_put_50 : decode prog_10_method_20_code 50 = .ok (.aload_n 0, 1) := by decide +kernel
theorem d8_put_51 : decode prog_10_method_20_code 51 = .ok (.getfield 29, 3) := by decide +kernel
theorem d8_put_54 : decode prog_10_method_20_code 54 = .ok (.bipush 80, 2) := by decide +kernel
theorem d8_put_56 : decode prog_10_method_20_code 56 = .ok (.iload_n 1, 1) := by decide +kernel
theorem d8_put_57 : decode prog_10_method_20_code 57 = .ok (.imul, 1) := by decide +kernel
theorem d8_put_58 : decode prog_10_method_20_code 58 = .ok (.iload_n 2, 1) := by decide +kernel
theorem d8_put_59 : decode prog_10_method_20_code 59 = .ok (.iadd, 1) := by decide +kernel
theorem d8_put_60 : decode prog_10_method_20_code 60 = .ok (.iload_n 3, 1) := by decide +kernel
theorem d8_put_61 : decode prog_10_method_20_code 61 = .ok (.i2b, 1) := by decide +kernel
theorem d8_put_62 : decode prog_10_method_20_code 62 = .ok (.iastore, 1) := by decide +kernel
theorem d8_put_63 : decode prog_10_method_20_code 63 = .ok (.iload 5, 2) := by decide +kernel
theorem d8_put_65 : decode prog_10_method_20_code 65 = .ok (.sipush 1000, 3) := by decide +kernel
theorem d8_put_68 : decode prog_10_method_20_code 68 = .ok (.iadd, 1) := by decide +kernel
theorem d8_put_69 : decode prog_10_method_20_code 69 = .ok (.ireturn, 1) := by decide +kernel
theorem d1_isCell_0 : decode prog_3_method_2_code 0 = .ok (.iload_n 0, 1) := by decide +kernel
theorem d1_isCell_1 : decode prog_3_method_2_code 1 = .ok (.ifCond .lt 13, 3) := by decide +kernel
theorem d1_isCell_4 : decode prog_3_method_2_code 4 = .ok (.iload_n 0, 1) := by decide +kernel
theorem d1_isCell_5 : decode prog_3_method_2_code 5 = .ok (.bipush 120, 2) := by decide +kernel
theorem d1_isCell_7 : decode prog_3_method_2_code 7 = .ok (.if_icmp .ge 7, 3) := by decide +kernel
theorem d1_isCell_10 : decode prog_3_method_2_code 10 = .ok (.iconst 1, 1) := by decide +kernel
theorem d1_isCell_11 : decode prog_3_method_2_code 11 = .ok (.goto 4, 3) := by decide +kernel
theorem d1_isCell_14 : decode prog_3_method_2_code 14 = .ok (.iconst 0, 1) := by decide +kernel
theorem d1_isCell_15 : decode prog_3_method_2_code 15 = .ok (.ireturn, 1) := by decide +kernel
theorem d1_isSide_0 : decode prog_3_method_3_code 0 = .ok (.iload_n 0, 1) := by decide +kernel
theorem d1_isSide_1 : decode prog_3_method_3_code 1 = .ok (.ifCond .lt 13, 3) := by decide +kernel
theorem d1_isSide_4 : decode prog_3_method_3_code 4 = .ok (.iload_n 0, 1) := by decide +kernel
theorem d1_isSide_5 : decode prog_3_method_3_code 5 = .ok (.bipush 8, 2) := by decide +kernel
theorem d1_isSide_7 : decode prog_3_method_3_code 7 = .ok (.if_icmp .ge 7, 3) := by decide +kernel
theorem d1_isSide_10 : decode prog_3_method_3_code 10 = .ok (.iconst 1, 1) := by decide +kernel
theorem d1_isSide_11 : decode prog_3_method_3_code 11 = .ok (.goto 4, 3) := by decide +kernel
theorem d1_isSide_14 : decode prog_3_method_3_code 14 = .ok (.iconst 0, 1) := by decide +kernel
theorem d1_isSide_15 : decode prog_3_method_3_code 15 = .ok (.ireturn, 1) := by decide +kernel
theorem d3_begin_0 : decode prog_5_method_2_code 0 = .ok (.aload_n 0, 1) := by decide +kernel
theorem d3_begin_1 : decode prog_5_method_2_code 1 = .ok (.iload_n 1, 1) := by decide +kernel
theorem d3_begin_2 : decode prog_5_method_2_code 2 = .ok (.putfield 9, 3) := by decide +kernel
theorem d3_begin_5 : decode prog_5_method_2_code 5 = .ok (.aload_n 0, 1) := by decide +kernel
theorem d3_begin_6 : decode prog_5_method_2_code 6 = .ok (.iload_n 3, 1) := by decide +kernel
theorem d3_begin_7 : decode prog_5_method_2_code 7 = .ok (.putfield 15, 3) := by decide +kernel
theorem d3_begin_10 : decode prog_5_method_2_code 10 = .ok (.aload_n 2, 1) := by decide +kernel
theorem d3_begin_11 : decode prog_5_method_2_code 11 = .ok (.iconst 0, 1) := by decide +kernel
theorem d3_begin_12 : decode prog_5_method_2_code 12 = .ok (.aload_n 0, 1) := by decide +kernel
theorem d3_begin_13 : decode prog_5_method_2_code 13 = .ok (.getfield 18, 3) := by decide +kernel
theorem d3_begin_16 : decode prog_5_method_2_code 16 = .ok (.iconst 0, 1) := by decide +kernel
theorem d3_begin_17 : decode prog_5_method_2_code 17 = .ok (.iload_n 3, 1) := by decide +kernel
theorem d3_begin_18 : decode prog_5_method_2_code 18 = .ok (.invokestatic 25, 3) := by decide +kernel
theorem d3_begin_21 : decode prog_5_method_2_code 21 = .ok (.aload_n 0, 1) := by decide +kernel
theorem d3_begin_22 : decode prog_5_method_2_code 22 = .ok (.getfield 22, 3) := by decide +kernel
theorem d3_begin_25 : decode prog_5_method_2_code 25 = .ok (.iconst 0, 1) := by decide +kernel
theorem d3_begin_26 : decode prog_5_method_2_code 26 = .ok (.invokestatic 31, 3) := by decide +kernel
theorem d3_begin_29 : decode prog_5_method_2_code 29 = .ok (.aload_n 0, 1) := by decide +kernel
theorem d3_begin_30 : decode prog_5_method_2_code 30 = .ok (.getfield 22, 3) := by decide +kernel
theorem d3_begin_33 : decode prog_5_method_2_code 33 = .ok (.iload_n 3, 1) := by decide +kernel
theorem d3_begin_34 : decode prog_5_method_2_code 34 = .ok (.iconst 1, 1) := by decide +kernel
theorem d3_begin_35 : decode prog_5_method_2_code 35 = .ok (.iastore, 1) := by decide +kernel
theorem d3_begin_36 : decode prog_5_method_2_code 36 = .ok (.return_, 1) := by decide +kernel
theorem d7_flight_0 : decode prog_1_method_10_code 0 = .ok (.iload_n 1, 1) := by decide +kernel
theorem d7_flight_1 : decode prog_1_method_10_code 1 = .ok (.invokestatic 120, 3) := by decide +kernel
theorem d7_flight_4 : decode prog_1_method_10_code 4 = .ok (.ifCond .eq 10, 3) := by decide +kernel
theorem d7_flight_7 : decode prog_1_method_10_code 7 = .ok (.iload_n 2, 1) := by decide +kernel
theorem d7_flight_8 : decode prog_1_method_10_code 8 = .ok (.invokestatic 88, 3) := by decide +kernel
theorem d7_flight_11 : decode prog_1_method_10_code 11 = .ok (.ifCond .ne 5, 3) := by decide +kernel
theorem d7_flight_14 : decode prog_1_method_10_code 14 = .ok (.iconst (-1), 1) := by decide +kernel
theorem d7_flight_15 : decode prog_1_method_10_code 15 = .ok (.ireturn, 1) := by decide +kernel
theorem d7_flight_16 : decode prog_1_method_10_code 16 = .ok (.aload_n 0, 1) := by decide +kernel
theorem d7_flight_17 : decode prog_1_method_10_code 17 = .ok (.getfield 14, 3) := by decide +kernel
theorem d7_flight_20 : decode prog_1_method_10_code 20 = .ok (.iload_n 2, 1) := by decide +kernel
theorem d7_flight_21 : decode prog_1_method_10_code 21 = .ok (.iaload, 1) := by decide +kernel
theorem d7_flight_22 : decode prog_1_method_10_code 22 = .ok (.iconst (-1), 1) := by decide +kernel
theorem d7_flight_23 : decode prog_1_method_10_code 23 = .ok (.if_icmp .ne 9, 3) := by decide +kernel
theorem d7_flight_26 : decode prog_1_method_10_code 26 = .ok (.aload_n 0, 1) := by decide +kernel
theorem d7_flight_27 : decode prog_1_method_10_code 27 = .ok (.iconst 1, 1) := by decide +kernel
theorem d7_flight_28 : decode prog_1_method_10_code 28 = .ok (.invokevirtual 92, 3) := by decide +kernel
theorem d7_flight_31 : decode prog_1_method_10_code 31 = .ok (.ireturn, 1) := by decide +kernel
theorem d7_flight_32 : decode prog_1_method_10_code 32 = .ok (.aload_n 0, 1) := by decide +kernel
theorem d7_flight_33 : decode prog_1_method_10_code 33 = .ok (.getfield 14, 3) := by decide +kernel
theorem d7_flight_36 : decode prog_1_method_10_code 36 = .ok (.iload_n 2, 1) := by decide +kernel
theorem d7_flight_37 : decode prog_1_method_10_code 37 = .ok (.iaload, 1) := by decide +kernel
theorem d7_flight_38 : decode prog_1_method_10_code 38 = .ok (.bipush 6, 2) := by decide +kernel
theorem d7_flight_40 : decode prog_1_method_10_code 40 = .ok (.if_icmp .le 9, 3) := by decide +kernel
theorem d7_flight_43 : decode prog_1_method_10_code 43 = .ok (.aload_n 0, 1) := by decide +kernel
theorem d7_flight_44 : decode prog_1_method_10_code 44 = .ok (.iconst 5, 1) := by decide +kernel
theorem d7_flight_45 : decode prog_1_method_10_code 45 = .ok (.invokevirtual 92, 3) := by decide +kernel
theorem d7_flight_48 : decode prog_1_method_10_code 48 = .ok (.ireturn, 1) := by decide +kernel
theorem d7_flight_49 : decode prog_1_method_10_code 49 = .ok (.iconst 0, 1) := by decide +kernel
theorem d7_flight_50 : decode prog_1_method_10_code 50 = .ok (.istore_n 3, 1) := by decide +kernel
theorem d7_flight_51 : decode prog_1_method_10_code 51 = .ok (.iload_n 3, 1) := by decide +kernel
theorem d7_flight_52 : decode prog_1_method_10_code 52 = .ok (.aload_n 0, 1) := by decide +kernel
theorem d7_flight_53 : decode prog_1_method_10_code 53 = .ok (.getfield 14, 3) := by decide +kernel
theorem d7_flight_56 : decode prog_1_method_10_code 56 = .ok (.iload_n 2, 1) := by decide +kernel
theorem d7_flight_57 : decode prog_1_method_10_code 57 = .ok (.iaload, 1) := by decide +kernel
theorem d7_flight_58 : decode prog_1_method_10_code 58 = .ok (.if_icmp .ge 29, 3) := by decide +kernel
theorem d7_flight_61 : decode prog_1_method_10_code 61 = .ok (.aload_n 0, 1) := by decide +kernel
theorem d7_flight_62 : decode prog_1_method_10_code 62 = .ok (.getfield 11, 3) := by decide +kernel
theorem d7_flight_65 : decode prog_1_method_10_code 65 = .ok (.iload_n 2, 1) := by decide +kernel
theorem d7_flight_66 : decode prog_1_method_10_code 66 = .ok (.aaload, 1) := by decide +kernel
theorem d7_flight_67 : decode prog_1_method_10_code 67 = .ok (.iload_n 3, 1) := by decide +kernel
theorem d7_flight_68 : decode prog_1_method_10_code 68 = .ok (.iaload, 1) := by decide +kernel
theorem d7_flight_69 : decode prog_1_method_10_code 69 = .ok (.invokestatic 127, 3) := by decide +kernel
theorem d7_flight_72 : decode prog_1_method_10_code 72 = .ok (.ifCond .ne 9, 3) := by decide +kernel
theorem d7_flight_75 : decode prog_1_method_10_code 75 = .ok (.aload_n 0, 1) := by decide +kernel
theorem d7_flight_76 : decode prog_1_method_10_code 76 = .ok (.iconst 3, 1) := by decide +kernel
theorem d7_flight_77 : decode prog_1_method_10_code 77 = .ok (.invokevirtual 92, 3) := by decide +kernel
theorem d7_flight_80 : decode prog_1_method_10_code 80 = .ok (.ireturn, 1) := by decide +kernel
theorem d7_flight_81 : decode prog_1_method_10_code 81 = .ok (.iinc 3 1, 3) := by decide +kernel
theorem d7_flight_84 : decode prog_1_method_10_code 84 = .ok (.goto (-33), 3) := by decide +kernel
theorem d7_flight_87 : decode prog_1_method_10_code 87 = .ok (.aload_n 0, 1) := by decide +kernel
theorem d7_flight_88 : decode prog_1_method_10_code 88 = .ok (.getfield 37, 3) := by decide +kernel
theorem d7_flight_91 : decode prog_1_method_10_code 91 = .ok (.iload_n 1, 1) := by decide +kernel
theorem d7_flight_92 : decode prog_1_method_10_code 92 = .ok (.aload_n 0, 1) := by decide +kernel
theorem d7_flight_93 : decode prog_1_method_10_code 93 = .ok (.getfield 11, 3) := by decide +kernel
theorem d7_flight_96 : decode prog_1_method_10_code 96 = .ok (.iload_n 2, 1) := by decide +kernel
theorem d7_flight_97 : decode prog_1_method_10_code 97 = .ok (.aaload, 1) := by decide +kernel
theorem d7_flight_98 : decode prog_1_method_10_code 98 = .ok (.aload_n 0, 1) := by decide +kernel
theorem d7_flight_99 : decode prog_1_method_10_code 99 = .ok (.getfield 14, 3) := by decide +kernel
theorem d7_flight_102 : decode prog_1_method_10_code 102 = .ok (.iload_n 2, 1) := by decide +kernel
theorem d7_flight_103 : decode prog_1_method_10_code 103 = .ok (.iaload, 1) := by decide +kernel
theorem d7_flight_104 : decode prog_1_method_10_code 104 = .ok (.invokevirtual 130, 3) := by decide +kernel
theorem d7_flight_107 : decode prog_1_method_10_code 107 = .ok (.aload_n 0, 1) := by decide +kernel
theorem d7_flight_108 : decode prog_1_method_10_code 108 = .ok (.getfield 37, 3) := by decide +kernel
theorem d7_flight_111 : decode prog_1_method_10_code 111 = .ok (.getfield 134, 3) := by decide +kernel
theorem d7_flight_114 : decode prog_1_method_10_code 114 = .ok (.ireturn, 1) := by decide +kernel
theorem d8_isCell_0 : decode prog_10_method_21_code 0 = .ok (.iload_n 0, 1) := by decide +kernel
theorem d8_isCell_1 : decode prog_10_method_21_code 1 = .ok (.iconst 0, 1) := by decide +kernel
theorem d8_isCell_2 : decode prog_10_method_21_code 2 = .ok (.bipush 119, 2) := by decide +kernel
theorem d8_isCell_4 : decode prog_10_method_21_code 4 = .ok (.invokestatic 80, 3) := by decide +kernel
theorem d8_isCell_7 : decode prog_10_method_21_code 7 = .ok (.ireturn, 1) := by decide +kernel
theorem d8_isSide_0 : decode prog_10_method_22_code 0 = .ok (.iload_n 0, 1) := by decide +kernel
theorem d8_isSide_1 : decode prog_10_method_22_code 1 = .ok (.iconst 0, 1) := by decide +kernel
theorem d8_isSide_2 : decode prog_10_method_22_code 2 = .ok (.bipush 7, 2) := by decide +kernel
theorem d8_isSide_4 : decode prog_10_method_22_code 4 = .ok (.invokestatic 80, 3) := by decide +kernel
theorem d8_isSide_7 : decode prog_10_method_22_code 7 = .ok (.ireturn, 1) := by decide +kernel
theorem d8_flight_0 : decode prog_10_method_31_code 0 = .ok (.iload_n 1, 1) := by decide +kernel
theorem d8_flight_1 : decode prog_10_method_31_code 1 = .ok (.invokestatic 117, 3) := by decide +kernel
theorem d8_flight_4 : decode prog_10_method_31_code 4 = .ok (.ifCond .ne 5, 3) := by decide +kernel
theorem d8_flight_7 : decode prog_10_method_31_code 7 = .ok (.iconst (-1), 1) := by decide +kernel
theorem d8_flight_8 : decode prog_10_method_31_code 8 = .ok (.ireturn, 1) := by decide +kernel
theorem d8_flight_9 : decode prog_10_method_31_code 9 = .ok (.aload_n 0, 1) := by decide +kernel
theorem d8_flight_10 : decode prog_10_method_31_code 10 = .ok (.iload_n 2, 1) := by decide +kernel
theorem d8_flight_11 : decode prog_10_method_31_code 11 = .ok (.invokevirtual 95, 3) := by decide +kernel
theorem d8_flight_14 : decode prog_10_method_31_code 14 = .ok (.istore_n 3, 1) := by decide +kernel
theorem d8_flight_15 : decode prog_10_method_31_code 15 = .ok (.iload_n 3, 1) := by decide +kernel
theorem d8_flight_16 : decode prog_10_method_31_code 16 = .ok (.ifCond .ge 5, 3) := by decide +kernel
theorem d8_flight_19 : decode prog_10_method_31_code 19 = .ok (.iload_n 3, 1) := by decide +kernel
theorem d8_flight_20 : decode prog_10_method_31_code 20 = .ok (.ireturn, 1) := by decide +kernel
theorem d8_flight_21 : decode prog_10_method_31_code 21 = .ok (.aload_n 0, 1) := by decide +kernel
theorem d8_flight_22 : decode prog_10_method_31_code 22 = .ok (.getfield 17, 3) := by decide +kernel
theorem d8_flight_25 : decode prog_10_method_31_code 25 = .ok (.iload_n 2, 1) := by decide +kernel
theorem d8_flight_26 : decode prog_10_method_31_code 26 = .ok (.iaload, 1) := by decide +kernel
theorem d8_flight_27 : decode prog_10_method_31_code 27 = .ok (.istore 4, 2) := by decide +kernel
theorem d8_flight_29 : decode prog_10_method_31_code 29 = .ok (.iload 4, 2) := by decide +kernel
theorem d8_flight_31 : decode prog_10_method_31_code 31 = .ok (.bipush 6, 2) := by decide +kernel
theorem d8_flight_33 : decode prog_10_method_31_code 33 = .ok (.if_icmp .le 9, 3) := by decide +kernel
theorem d8_flight_36 : decode prog_10_method_31_code 36 = .ok (.aload_n 0, 1) := by decide +kernel
theorem d8_flight_37 : decode prog_10_method_31_code 37 = .ok (.iconst 5, 1) := by decide +kernel
theorem d8_flight_38 : decode prog_10_method_31_code 38 = .ok (.invokevirtual 88, 3) := by decide +kernel
theorem d8_flight_41 : decode prog_10_method_31_code 41 = .ok (.ireturn, 1) := by decide +kernel
theorem d8_flight_42 : decode prog_10_method_31_code 42 = .ok (.iconst 0, 1) := by decide +kernel
theorem d8_flight_43 : decode prog_10_method_31_code 43 = .ok (.istore 5, 2) := by decide +kernel
theorem d8_flight_45 : decode prog_10_method_31_code 45 = .ok (.iload 5, 2) := by decide +kernel
theorem d8_flight_47 : decode prog_10_method_31_code 47 = .ok (.iload 4, 2) := by decide +kernel
theorem d8_flight_49 : decode prog_10_method_31_code 49 = .ok (.if_icmp .ge 28, 3) := by decide +kernel
theorem d8_flight_52 : decode prog_10_method_31_code 52 = .ok (.aload_n 0, 1) := by decide +kernel
theorem d8_flight_53 : decode prog_10_method_31_code 53 = .ok (.iload_n 2, 1) := by decide +kernel
theorem d8_flight_54 : decode prog_10_method_31_code 54 = .ok (.iload 5, 2) := by decide +kernel
theorem d8_flight_56 : decode prog_10_method_31_code 56 = .ok (.invokevirtual 98, 3) := by decide +kernel
theorem d8_flight_59 : decode prog_10_method_31_code 59 = .ok (.invokestatic 126, 3) := by decide +kernel
theorem d8_flight_62 : decode prog_10_method_31_code 62 = .ok (.ifCond .ne 9, 3) := by decide +kernel
theorem d8_flight_65 : decode prog_10_method_31_code 65 = .ok (.aload_n 0, 1) := by decide +kernel
theorem d8_flight_66 : decode prog_10_method_31_code 66 = .ok (.iconst 3, 1) := by decide +kernel
theorem d8_flight_67 : decode prog_10_method_31_code 67 = .ok (.invokevirtual 88, 3) := by decide +kernel
theorem d8_flight_70 : decode prog_10_method_31_code 70 = .ok (.ireturn, 1) := by decide +kernel
theorem d8_flight_71 : decode prog_10_method_31_code 71 = .ok (.iinc 5 1, 3) := by decide +kernel
theorem d8_flight_74 : decode prog_10_method_31_code 74 = .ok (.goto (-29), 3) := by decide +kernel
theorem d8_flight_77 : decode prog_10_method_31_code 77 = .ok (.aload_n 0, 1) := by decide +kernel
theorem d8_flight_78 : decode prog_10_method_31_code 78 = .ok (.getfield 32, 3) := by decide +kernel
theorem d8_flight_81 : decode prog_10_method_31_code 81 = .ok (.iconst 0, 1) := by decide +kernel
theorem d8_flight_82 : decode prog_10_method_31_code 82 = .ok (.iload_n 1, 1) := by decide +kernel
theorem d8_flight_83 : decode prog_10_method_31_code 83 = .ok (.iastore, 1) := by decide +kernel
theorem d8_flight_84 : decode prog_10_method_31_code 84 = .ok (.aload_n 0, 1) := by decide +kernel
theorem d8_flight_85 : decode prog_10_method_31_code 85 = .ok (.getfield 32, 3) := by decide +kernel
theorem d8_flight_88 : decode prog_10_method_31_code 88 = .ok (.iconst 1, 1) := by decide +kernel
theorem d8_flight_89 : decode prog_10_method_31_code 89 = .ok (.iload 4, 2) := by decide +kernel
theorem d8_flight_91 : decode prog_10_method_31_code 91 = .ok (.iastore, 1) := by decide +kernel
theorem d8_flight_92 : decode prog_10_method_31_code 92 = .ok (.iconst 0, 1) := by decide +kernel
theorem d8_flight_93 : decode prog_10_method_31_code 93 = .ok (.istore 5, 2) := by decide +kernel
theorem d8_flight_95 : decode prog_10_method_31_code 95 = .ok (.iload 5, 2) := by decide +kernel
theorem d8_flight_97 : decode prog_10_method_31_code 97 = .ok (.bipush 6, 2) := by decide +kernel
theorem d8_flight_99 : decode prog_10_method_31_code 99 = .ok (.if_icmp .ge 37, 3) := by decide +kernel
theorem d8_flight_102 : decode prog_10_method_31_code 102 = .ok (.aload_n 0, 1) := by decide +kernel
theorem d8_flight_103 : decode prog_10_method_31_code 103 = .ok (.getfield 32, 3) := by decide +kernel
theorem d8_flight_106 : decode prog_10_method_31_code 106 = .ok (.iconst 2, 1) := by decide +kernel
theorem d8_flight_107 : decode prog_10_method_31_code 107 = .ok (.iload 5, 2) := by decide +kernel
theorem d8_flight_109 : decode prog_10_method_31_code 109 = .ok (.iadd, 1) := by decide +kernel
theorem d8_flight_110 : decode prog_10_method_31_code 110 = .ok (.iload 5, 2) := by decide +kernel
theorem d8_flight_112 : decode prog_10_method_31_code 112 = .ok (.iload 4, 2) := by decide +kernel
theorem d8_flight_114 : decode prog_10_method_31_code 114 = .ok (.if_icmp .ge 13, 3) := by decide +kernel
theorem d8_flight_117 : decode prog_10_method_31_code 117 = .ok (.aload_n 0, 1) := by decide +kernel
theorem d8_flight_118 : decode prog_10_method_31_code 118 = .ok (.iload_n 2, 1) := by decide +kernel
theorem d8_flight_119 : decode prog_10_method_31_code 119 = .ok (.iload 5, 2) := by decide +kernel
theorem d8_flight_121 : decode prog_10_method_31_code 121 = .ok (.invokevirtual 98, 3) := by decide +kernel
theorem d8_flight_124 : decode prog_10_method_31_code 124 = .ok (.goto 5, 3) := by decide +kernel
theorem d8_flight_127 : decode prog_10_method_31_code 127 = .ok (.bipush (-9), 2) := by decide +kernel
theorem d8_flight_129 : decode prog_10_method_31_code 129 = .ok (.iastore, 1) := by decide +kernel
theorem d8_flight_130 : decode prog_10_method_31_code 130 = .ok (.iinc 5 1, 3) := by decide +kernel
theorem d8_flight_133 : decode prog_10_method_31_code 133 = .ok (.goto (-38), 3) := by decide +kernel
theorem d8_flight_136 : decode prog_10_method_31_code 136 = .ok (.iconst 0, 1) := by decide +kernel
theorem d8_flight_137 : decode prog_10_method_31_code 137 = .ok (.istore 5, 2) := by decide +kernel
theorem d8_flight_139 : decode prog_10_method_31_code 139 = .ok (.iload 5, 2) := by decide +kernel
theorem d8_flight_141 : decode prog_10_method_31_code 141 = .ok (.bipush 6, 2) := by decide +kernel
theorem d8_flight_143 : decode prog_10_method_31_code 143 = .ok (.if_icmp .gt 43, 3) := by decide +kernel
theorem d8_flight_146 : decode prog_10_method_31_code 146 = .ok (.aload_n 0, 1) := by decide +kernel
theorem d8_flight_147 : decode prog_10_method_31_code 147 = .ok (.getfield 32, 3) := by decide +kernel
theorem d8_flight_150 : decode prog_10_method_31_code 150 = .ok (.bipush 8, 2) := by decide +kernel
theorem d8_flight_152 : decode prog_10_method_31_code 152 = .ok (.iload 5, 2) := by decide +kernel
theorem d8_flight_154 : decode prog_10_method_31_code 154 = .ok (.iadd, 1) := by decide +kernel
theorem d8_flight_155 : decode prog_10_method_31_code 155 = .ok (.iload 5, 2) := by decide +kernel
theorem d8_flight_157 : decode prog_10_method_31_code 157 = .ok (.iload 4, 2) := by decide +kernel
theorem d8_flight_159 : decode prog_10_method_31_code 159 = .ok (.if_icmp .le 8, 3) := by decide +kernel
theorem d8_flight_162 : decode prog_10_method_31_code 162 = .ok (.bipush (-9), 2) := by decide +kernel
theorem d8_flight_164 : decode prog_10_method_31_code 164 = .ok (.goto 15, 3) := by decide +kernel
theorem d8_flight_167 : decode prog_10_method_31_code 167 = .ok (.iload 5, 2) := by decide +kernel
theorem d8_flight_169 : decode prog_10_method_31_code 169 = .ok (.iload 4, 2) := by decide +kernel
theorem d8_flight_171 : decode prog_10_method_31_code 171 = .ok (.if_icmp .ne 7, 3) := by decide +kernel
theorem d8_flight_174 : decode prog_10_method_31_code 174 = .ok (.iconst 1, 1) := by decide +kernel
theorem d8_flight_175 : decode prog_10_method_31_code 175 = .ok (.goto 4, 3) := by decide +kernel
theorem d8_flight_178 : decode prog_10_method_31_code 178 = .ok (.iconst 0, 1) := by decide +kernel
theorem d8_flight_179 : decode prog_10_method_31_code 179 = .ok (.iastore, 1) := by decide +kernel
theorem d8_flight_180 : decode prog_10_method_31_code 180 = .ok (.iinc 5 1, 3) := by decide +kernel
theorem d8_flight_183 : decode prog_10_method_31_code 183 = .ok (.goto (-44), 3) := by decide +kernel
theorem d8_flight_186 : decode prog_10_method_31_code 186 = .ok (.iload 4, 2) := by decide +kernel
theorem d8_flight_188 : decode prog_10_method_31_code 188 = .ok (.ireturn, 1) := by decide +kernel
theorem d7_isWithin_0 : decode prog_1_method_49_code 0 = .ok (.iload_n 0, 1) := by decide +kernel
theorem d7_isWithin_1 : decode prog_1_method_49_code 1 = .ok (.ifCond .lt 12, 3) := by decide +kernel
theorem d7_isWithin_4 : decode prog_1_method_49_code 4 = .ok (.iload_n 0, 1) := by decide +kernel
theorem d7_isWithin_5 : decode prog_1_method_49_code 5 = .ok (.iload_n 1, 1) := by decide +kernel
theorem d7_isWithin_6 : decode prog_1_method_49_code 6 = .ok (.if_icmp .gt 7, 3) := by decide +kernel
theorem d7_isWithin_9 : decode prog_1_method_49_code 9 = .ok (.iconst 1, 1) := by decide +kernel
theorem d7_isWithin_10 : decode prog_1_method_49_code 10 = .ok (.goto 4, 3) := by decide +kernel
theorem d7_isWithin_13 : decode prog_1_method_49_code 13 = .ok (.iconst 0, 1) := by decide +kernel
theorem d7_isWithin_14 : decode prog_1_method_49_code 14 = .ok (.ireturn, 1) := by decide +kernel
theorem d7_ends_0 : decode prog_1_method_11_code 0 = .ok (.iload_n 1, 1) := by decide +kernel
theorem d7_ends_1 : decode prog_1_method_11_code 1 = .ok (.invokestatic 88, 3) := by decide +kernel
theorem d7_ends_4 : decode prog_1_method_11_code 4 = .ok (.ifCond .ne 5, 3) := by decide +kernel
theorem d7_ends_7 : decode prog_1_method_11_code 7 = .ok (.iconst (-1), 1) := by decide +kernel
theorem d7_ends_8 : decode prog_1_method_11_code 8 = .ok (.ireturn, 1) := by decide +kernel
theorem d7_ends_9 : decode prog_1_method_11_code 9 = .ok (.aload_n 0, 1) := by decide +kernel
theorem d7_ends_10 : decode prog_1_method_11_code 10 = .ok (.getfield 14, 3) := by decide +kernel
theorem d7_ends_13 : decode prog_1_method_11_code 13 = .ok (.iload_n 1, 1) := by decide +kernel
theorem d7_ends_14 : decode prog_1_method_11_code 14 = .ok (.iaload, 1) := by decide +kernel
theorem d7_ends_15 : decode prog_1_method_11_code 15 = .ok (.iconst (-1), 1) := by decide +kernel
theorem d7_ends_16 : decode prog_1_method_11_code 16 = .ok (.if_icmp .ne 9, 3) := by decide +kernel
theorem d7_ends_19 : decode prog_1_method_11_code 19 = .ok (.aload_n 0, 1) := by decide +kernel
theorem d7_ends_20 : decode prog_1_method_11_code 20 = .ok (.iconst 1, 1) := by decide +kernel
theorem d7_ends_21 : decode prog_1_method_11_code 21 = .ok (.invokevirtual 92, 3) := by decide +kernel
theorem d7_ends_24 : decode prog_1_method_11_code 24 = .ok (.ireturn, 1) := by decide +kernel
theorem d7_ends_25 : decode prog_1_method_11_code 25 = .ok (.aload_n 0, 1) := by decide +kernel
theorem d7_ends_26 : decode prog_1_method_11_code 26 = .ok (.getfield 14, 3) := by decide +kernel
theorem d7_ends_29 : decode prog_1_method_11_code 29 = .ok (.iload_n 1, 1) := by decide +kernel
theorem d7_ends_30 : decode prog_1_method_11_code 30 = .ok (.iaload, 1) := by decide +kernel
theorem d7_ends_31 : decode prog_1_method_11_code 31 = .ok (.aload_n 0, 1) := by decide +kernel
theorem d7_ends_32 : decode prog_1_method_11_code 32 = .ok (.getfield 37, 3) := by decide +kernel
theorem d7_ends_35 : decode prog_1_method_11_code 35 = .ok (.getfield 134, 3) := by decide +kernel
theorem d7_ends_38 : decode prog_1_method_11_code 38 = .ok (.iconst 1, 1) := by decide +kernel
theorem d7_ends_39 : decode prog_1_method_11_code 39 = .ok (.iadd, 1) := by decide +kernel
theorem d7_ends_40 : decode prog_1_method_11_code 40 = .ok (.if_icmp .eq 9, 3) := by decide +kernel
theorem d7_ends_43 : decode prog_1_method_11_code 43 = .ok (.aload_n 0, 1) := by decide +kernel
theorem d7_ends_44 : decode prog_1_method_11_code 44 = .ok (.iconst 5, 1) := by decide +kernel
theorem d7_ends_45 : decode prog_1_method_11_code 45 = .ok (.invokevirtual 92, 3) := by decide +kernel
theorem d7_ends_48 : decode prog_1_method_11_code 48 = .ok (.ireturn, 1) := by decide +kernel
theorem d7_ends_49 : decode prog_1_method_11_code 49 = .ok (.iconst 0, 1) := by decide +kernel
theorem d7_ends_50 : decode prog_1_method_11_code 50 = .ok (.istore_n 2, 1) := by decide +kernel
theorem d7_ends_51 : decode prog_1_method_11_code 51 = .ok (.iconst 0, 1) := by decide +kernel
theorem d7_ends_52 : decode prog_1_method_11_code 52 = .ok (.istore_n 3, 1) := by decide +kernel
theorem d7_ends_53 : decode prog_1_method_11_code 53 = .ok (.iload_n 3, 1) := by decide +kernel
theorem d7_ends_54 : decode prog_1_method_11_code 54 = .ok (.aload_n 0, 1) := by decide +kernel
theorem d7_ends_55 : decode prog_1_method_11_code 55 = .ok (.getfield 37, 3) := by decide +kernel
theorem d7_ends_58 : decode prog_1_method_11_code 58 = .ok (.getfield 134, 3) := by decide +kernel
theorem d7_ends_61 : decode prog_1_method_11_code 61 = .ok (.if_icmp .gt 42, 3) := by decide +kernel
theorem d7_ends_64 : decode prog_1_method_11_code 64 = .ok (.aload_n 0, 1) := by decide +kernel
theorem d7_ends_65 : decode prog_1_method_11_code 65 = .ok (.getfield 11, 3) := by decide +kernel
theorem d7_ends_68 : decode prog_1_method_11_code 68 = .ok (.iload_n 1, 1) := by decide +kernel
theorem d7_ends_69 : decode prog_1_method_11_code 69 = .ok (.aaload, 1) := by decide +kernel
theorem d7_ends_70 : decode prog_1_method_11_code 70 = .ok (.iload_n 3, 1) := by decide +kernel
theorem d7_ends_71 : decode prog_1_method_11_code 71 = .ok (.iaload, 1) := by decide +kernel
theorem d7_ends_72 : decode prog_1_method_11_code 72 = .ok (.bipush 9, 2) := by decide +kernel
theorem d7_ends_74 : decode prog_1_method_11_code 74 = .ok (.invokestatic 137, 3) := by decide +kernel
theorem d7_ends_77 : decode prog_1_method_11_code 77 = .ok (.ifCond .ne 9, 3) := by decide +kernel
theorem d7_ends_80 : decode prog_1_method_11_code 80 = .ok (.aload_n 0, 1) := by decide +kernel
theorem d7_ends_81 : decode prog_1_method_11_code 81 = .ok (.iconst 3, 1) := by decide +kernel
theorem d7_ends_82 : decode prog_1_method_11_code 82 = .ok (.invokevirtual 92, 3) := by decide +kernel
theorem d7_ends_85 : decode prog_1_method_11_code 85 = .ok (.ireturn, 1) := by decide +kernel
theorem d7_ends_86 : decode prog_1_method_11_code 86 = .ok (.iload_n 2, 1) := by decide +kernel
theorem d7_ends_87 : decode prog_1_method_11_code 87 = .ok (.aload_n 0, 1) := by decide +kernel
theorem d7_ends_88 : decode prog_1_method_11_code 88 = .ok (.getfield 11, 3) := by decide +kernel
theorem d7_ends_91 : decode prog_1_method_11_code 91 = .ok (.iload_n 1, 1) := by decide +kernel
theorem d7_ends_92 : decode prog_1_method_11_code 92 = .ok (.aaload, 1) := by decide +kernel
theorem d7_ends_93 : decode prog_1_method_11_code 93 = .ok (.iload_n 3, 1) := by decide +kernel
theorem d7_ends_94 : decode prog_1_method_11_code 94 = .ok (.iaload, 1) := by decide +kernel
theorem d7_ends_95 : decode prog_1_method_11_code 95 = .ok (.iadd, 1) := by decide +kernel
theorem d7_ends_96 : decode prog_1_method_11_code 96 = .ok (.istore_n 2, 1) := by decide +kernel
theorem d7_ends_97 : decode prog_1_method_11_code 97 = .ok (.iinc 3 1, 3) := by decide +kernel
theorem d7_ends_100 : decode prog_1_method_11_code 100 = .ok (.goto (-47), 3) := by decide +kernel
theorem d7_ends_103 : decode prog_1_method_11_code 103 = .ok (.iload_n 2, 1) := by decide +kernel
theorem d7_ends_104 : decode prog_1_method_11_code 104 = .ok (.ifCond .ne 9, 3) := by decide +kernel
theorem d7_ends_107 : decode prog_1_method_11_code 107 = .ok (.aload_n 0, 1) := by decide +kernel
theorem d7_ends_108 : decode prog_1_method_11_code 108 = .ok (.iconst 4, 1) := by decide +kernel
theorem d7_ends_109 : decode prog_1_method_11_code 109 = .ok (.invokevirtual 92, 3) := by decide +kernel
theorem d7_ends_112 : decode prog_1_method_11_code 112 = .ok (.ireturn, 1) := by decide +kernel
theorem d7_ends_113 : decode prog_1_method_11_code 113 = .ok (.aload_n 0, 1) := by decide +kernel
theorem d7_ends_114 : decode prog_1_method_11_code 114 = .ok (.getfield 11, 3) := by decide +kernel
theorem d7_ends_117 : decode prog_1_method_11_code 117 = .ok (.iload_n 1, 1) := by decide +kernel
theorem d7_ends_118 : decode prog_1_method_11_code 118 = .ok (.aaload, 1) := by decide +kernel
theorem d7_ends_119 : decode prog_1_method_11_code 119 = .ok (.iconst 0, 1) := by decide +kernel
theorem d7_ends_120 : decode prog_1_method_11_code 120 = .ok (.aload_n 0, 1) := by decide +kernel
theorem d7_ends_121 : decode prog_1_method_11_code 121 = .ok (.getfield 37, 3) := by decide +kernel
theorem d7_ends_124 : decode prog_1_method_11_code 124 = .ok (.getfield 141, 3) := by decide +kernel
theorem d7_ends_127 : decode prog_1_method_11_code 127 = .ok (.iconst 0, 1) := by decide +kernel
theorem d7_ends_128 : decode prog_1_method_11_code 128 = .ok (.aload_n 0, 1) := by decide +kernel
theorem d7_ends_129 : decode prog_1_method_11_code 129 = .ok (.getfield 37, 3) := by decide +kernel
theorem d7_ends_132 : decode prog_1_method_11_code 132 = .ok (.getfield 134, 3) := by decide +kernel
theorem d7_ends_135 : decode prog_1_method_11_code 135 = .ok (.iconst 1, 1) := by decide +kernel
theorem d7_ends_136 : decode prog_1_method_11_code 136 = .ok (.iadd, 1) := by decide +kernel
theorem d7_ends_137 : decode prog_1_method_11_code 137 = .ok (.invokestatic 108, 3) := by decide +kernel
theorem d7_ends_140 : decode prog_1_method_11_code 140 = .ok (.iload_n 2, 1) := by decide +kernel
theorem d7_ends_141 : decode prog_1_method_11_code 141 = .ok (.ireturn, 1) := by decide +kernel
theorem d8_hours_0 : decode prog_10_method_28_code 0 = .ok (.aload_n 0, 1) := by decide +kernel
theorem d8_hours_1 : decode prog_10_method_28_code 1 = .ok (.getfield 32, 3) := by decide +kernel
theorem d8_hours_4 : decode prog_10_method_28_code 4 = .ok (.iconst 1, 1) := by decide +kernel
theorem d8_hours_5 : decode prog_10_method_28_code 5 = .ok (.iaload, 1) := by decide +kernel
theorem d8_hours_6 : decode prog_10_method_28_code 6 = .ok (.ireturn, 1) := by decide +kernel
theorem d8_ends_0 : decode prog_10_method_32_code 0 = .ok (.aload_n 0, 1) := by decide +kernel
theorem d8_ends_1 : decode prog_10_method_32_code 1 = .ok (.iload_n 1, 1) := by decide +kernel
theorem d8_ends_2 : decode prog_10_method_32_code 2 = .ok (.invokevirtual 95, 3) := by decide +kernel
theorem d8_ends_5 : decode prog_10_method_32_code 5 = .ok (.istore_n 2, 1) := by decide +kernel
theorem d8_ends_6 : decode prog_10_method_32_code 6 = .ok (.iload_n 2, 1) := by decide +kernel
theorem d8_ends_7 : decode prog_10_method_32_code 7 = .ok (.ifCond .ge 5, 3) := by decide +kernel
theorem d8_ends_10 : decode prog_10_method_32_code 10 = .ok (.iload_n 2, 1) := by decide +kernel
theorem d8_ends_11 : decode prog_10_method_32_code 11 = .ok (.ireturn, 1) := by decide +kernel
theorem d8_ends_12 : decode prog_10_method_32_code 12 = .ok (.aload_n 0, 1) := by decide +kernel
theorem d8_ends_13 : decode prog_10_method_32_code 13 = .ok (.getfield 17, 3) := by decide +kernel
theorem d8_ends_16 : decode prog_10_method_32_code 16 = .ok (.iload_n 1, 1) := by decide +kernel
theorem d8_ends_17 : decode prog_10_method_32_code 17 = .ok (.iaload, 1) := by decide +kernel
theorem d8_ends_18 : decode prog_10_method_32_code 18 = .ok (.aload_n 0, 1) := by decide +kernel
theorem d8_ends_19 : decode prog_10_method_32_code 19 = .ok (.invokevirtual 129, 3) := by decide +kernel
theorem d8_ends_22 : decode prog_10_method_32_code 22 = .ok (.iconst 1, 1) := by decide +kernel
theorem d8_ends_23 : decode prog_10_method_32_code 23 = .ok (.iadd, 1) := by decide +kernel
theorem d8_ends_24 : decode prog_10_method_32_code 24 = .ok (.if_icmp .eq 9, 3) := by decide +kernel
theorem d8_ends_27 : decode prog_10_method_32_code 27 = .ok (.aload_n 0, 1) := by decide +kernel
theorem d8_ends_28 : decode prog_10_method_32_code 28 = .ok (.iconst 5, 1) := by decide +kernel
theorem d8_ends_29 : decode prog_10_method_32_code 29 = .ok (.invokevirtual 88, 3) := by decide +kernel
theorem d8_ends_32 : decode prog_10_method_32_code 32 = .ok (.ireturn, 1) := by decide +kernel
theorem d8_ends_33 : decode prog_10_method_32_code 33 = .ok (.iconst 0, 1) := by decide +kernel
theorem d8_ends_34 : decode prog_10_method_32_code 34 = .ok (.istore_n 3, 1) := by decide +kernel
theorem d8_ends_35 : decode prog_10_method_32_code 35 = .ok (.iconst 0, 1) := by decide +kernel
theorem d8_ends_36 : decode prog_10_method_32_code 36 = .ok (.istore 4, 2) := by decide +kernel
theorem d8_ends_38 : decode prog_10_method_32_code 38 = .ok (.iload 4, 2) := by decide +kernel
theorem d8_ends_40 : decode prog_10_method_32_code 40 = .ok (.aload_n 0, 1) := by decide +kernel
theorem d8_ends_41 : decode prog_10_method_32_code 41 = .ok (.getfield 17, 3) := by decide +kernel
theorem d8_ends_44 : decode prog_10_method_32_code 44 = .ok (.iload_n 1, 1) := by decide +kernel
theorem d8_ends_45 : decode prog_10_method_32_code 45 = .ok (.iaload, 1) := by decide +kernel
theorem d8_ends_46 : decode prog_10_method_32_code 46 = .ok (.if_icmp .ge 41, 3) := by decide +kernel
theorem d8_ends_49 : decode prog_10_method_32_code 49 = .ok (.aload_n 0, 1) := by decide +kernel
theorem d8_ends_50 : decode prog_10_method_32_code 50 = .ok (.iload_n 1, 1) := by decide +kernel
theorem d8_ends_51 : decode prog_10_method_32_code 51 = .ok (.iload 4, 2) := by decide +kernel
theorem d8_ends_53 : decode prog_10_method_32_code 53 = .ok (.invokevirtual 98, 3) := by decide +kernel
theorem d8_ends_56 : decode prog_10_method_32_code 56 = .ok (.iconst 0, 1) := by decide +kernel
theorem d8_ends_57 : decode prog_10_method_32_code 57 = .ok (.bipush 9, 2) := by decide +kernel
theorem d8_ends_59 : decode prog_10_method_32_code 59 = .ok (.invokestatic 80, 3) := by decide +kernel
theorem d8_ends_62 : decode prog_10_method_32_code 62 = .ok (.ifCond .ne 9, 3) := by decide +kernel
theorem d8_ends_65 : decode prog_10_method_32_code 65 = .ok (.aload_n 0, 1) := by decide +kernel
theorem d8_ends_66 : decode prog_10_method_32_code 66 = .ok (.iconst 3, 1) := by decide +kernel
theorem d8_ends_67 : decode prog_10_method_32_code 67 = .ok (.invokevirtual 88, 3) := by decide +kernel
theorem d8_ends_70 : decode prog_10_method_32_code 70 = .ok (.ireturn, 1) := by decide +kernel
theorem d8_ends_71 : decode prog_10_method_32_code 71 = .ok (.iload_n 3, 1) := by decide +kernel
theorem d8_ends_72 : decode prog_10_method_32_code 72 = .ok (.aload_n 0, 1) := by decide +kernel
theorem d8_ends_73 : decode prog_10_method_32_code 73 = .ok (.iload_n 1, 1) := by decide +kernel
theorem d8_ends_74 : decode prog_10_method_32_code 74 = .ok (.iload 4, 2) := by decide +kernel
theorem d8_ends_76 : decode prog_10_method_32_code 76 = .ok (.invokevirtual 98, 3) := by decide +kernel
theorem d8_ends_79 : decode prog_10_method_32_code 79 = .ok (.iadd, 1) := by decide +kernel
theorem d8_ends_80 : decode prog_10_method_32_code 80 = .ok (.istore_n 3, 1) := by decide +kernel
theorem d8_ends_81 : decode prog_10_method_32_code 81 = .ok (.iinc 4 1, 3) := by decide +kernel
theorem d8_ends_84 : decode prog_10_method_32_code 84 = .ok (.goto (-46), 3) := by decide +kernel
theorem d8_ends_87 : decode prog_10_method_32_code 87 = .ok (.iload_n 3, 1) := by decide +kernel
theorem d8_ends_88 : decode prog_10_method_32_code 88 = .ok (.ifCond .ne 9, 3) := by decide +kernel
theorem d8_ends_91 : decode prog_10_method_32_code 91 = .ok (.aload_n 0, 1) := by decide +kernel
theorem d8_ends_92 : decode prog_10_method_32_code 92 = .ok (.iconst 4, 1) := by decide +kernel
theorem d8_ends_93 : decode prog_10_method_32_code 93 = .ok (.invokevirtual 88, 3) := by decide +kernel
theorem d8_ends_96 : decode prog_10_method_32_code 96 = .ok (.ireturn, 1) := by decide +kernel
theorem d8_ends_97 : decode prog_10_method_32_code 97 = .ok (.iconst 0, 1) := by decide +kernel
theorem d8_ends_98 : decode prog_10_method_32_code 98 = .ok (.istore 4, 2) := by decide +kernel
theorem d8_ends_100 : decode prog_10_method_32_code 100 = .ok (.iload 4, 2) := by decide +kernel
theorem d8_ends_102 : decode prog_10_method_32_code 102 = .ok (.aload_n 0, 1) := by decide +kernel
theorem d8_ends_103 : decode prog_10_method_32_code 103 = .ok (.getfield 17, 3) := by decide +kernel
theorem d8_ends_106 : decode prog_10_method_32_code 106 = .ok (.iload_n 1, 1) := by decide +kernel
theorem d8_ends_107 : decode prog_10_method_32_code 107 = .ok (.iaload, 1) := by decide +kernel
theorem d8_ends_108 : decode prog_10_method_32_code 108 = .ok (.if_icmp .ge 26, 3) := by decide +kernel
theorem d8_ends_111 : decode prog_10_method_32_code 111 = .ok (.aload_n 0, 1) := by decide +kernel
theorem d8_ends_112 : decode prog_10_method_32_code 112 = .ok (.getfield 32, 3) := by decide +kernel
theorem d8_ends_115 : decode prog_10_method_32_code 115 = .ok (.bipush 8, 2) := by decide +kernel
theorem d8_ends_117 : decode prog_10_method_32_code 117 = .ok (.iload 4, 2) := by decide +kernel
theorem d8_ends_119 : decode prog_10_method_32_code 119 = .ok (.iadd, 1) := by decide +kernel
theorem d8_ends_120 : decode prog_10_method_32_code 120 = .ok (.aload_n 0, 1) := by decide +kernel
theorem d8_ends_121 : decode prog_10_method_32_code 121 = .ok (.iload_n 1, 1) := by decide +kernel
theorem d8_ends_122 : decode prog_10_method_32_code 122 = .ok (.iload 4, 2) := by decide +kernel
theorem d8_ends_124 : decode prog_10_method_32_code 124 = .ok (.invokevirtual 98, 3) := by decide +kernel
theorem d8_ends_127 : decode prog_10_method_32_code 127 = .ok (.iastore, 1) := by decide +kernel
theorem d8_ends_128 : decode prog_10_method_32_code 128 = .ok (.iinc 4 1, 3) := by decide +kernel
theorem d8_ends_131 : decode prog_10_method_32_code 131 = .ok (.goto (-31), 3) := by decide +kernel
theorem d8_ends_134 : decode prog_10_method_32_code 134 = .ok (.iload_n 3, 1) := by decide +kernel
theorem d8_ends_135 : decode prog_10_method_32_code 135 = .ok (.ireturn, 1) := by decide +kernel
theorem d7_course_0 : decode prog_1_method_12_code 0 = .ok (.iload_n 1, 1) := by decide +kernel
theorem d7_course_1 : decode prog_1_method_12_code 1 = .ok (.ifCond .lt 21, 3) := by decide +kernel
theorem d7_course_4 : decode prog_1_method_12_code 4 = .ok (.iload_n 1, 1) := by decide +kernel
theorem d7_course_5 : decode prog_1_method_12_code 5 = .ok (.aload_n 0, 1) := by decide +kernel
theorem d7_course_6 : decode prog_1_method_12_code 6 = .ok (.getfield 37, 3) := by decide +kernel
theorem d7_course_9 : decode prog_1_method_12_code 9 = .ok (.getfield 134, 3) := by decide +kernel
theorem d7_course_12 : decode prog_1_method_12_code 12 = .ok (.if_icmp .ge 10, 3) := by decide +kernel
theorem d7_course_15 : decode prog_1_method_12_code 15 = .ok (.iload_n 2, 1) := by decide +kernel
theorem d7_course_16 : decode prog_1_method_12_code 16 = .ok (.invokestatic 127, 3) := by decide +kernel
theorem d7_course_19 : decode prog_1_method_12_code 19 = .ok (.ifCond .ne 5, 3) := by decide +kernel
theorem d7_course_22 : decode prog_1_method_12_code 22 = .ok (.iconst (-1), 1) := by decide +kernel
theorem d7_course_23 : decode prog_1_method_12_code 23 = .ok (.ireturn, 1) := by decide +kernel
theorem d7_course_24 : decode prog_1_method_12_code 24 = .ok (.aload_n 0, 1) := by decide +kernel
theorem d7_course_25 : decode prog_1_method_12_code 25 = .ok (.getfield 37, 3) := by decide +kernel
theorem d7_course_28 : decode prog_1_method_12_code 28 = .ok (.getfield 144, 3) := by decide +kernel
theorem d7_course_31 : decode prog_1_method_12_code 31 = .ok (.iload_n 1, 1) := by decide +kernel
theorem d7_course_32 : decode prog_1_method_12_code 32 = .ok (.iaload, 1) := by decide +kernel
theorem d7_course_33 : decode prog_1_method_12_code 33 = .ok (.istore_n 3, 1) := by decide +kernel
theorem d7_course_34 : decode prog_1_method_12_code 34 = .ok (.aload_n 0, 1) := by decide +kernel
theorem d7_course_35 : decode prog_1_method_12_code 35 = .ok (.getfield 37, 3) := by decide +kernel
theorem d7_course_38 : decode prog_1_method_12_code 38 = .ok (.getfield 144, 3) := by decide +kernel
theorem d7_course_41 : decode prog_1_method_12_code 41 = .ok (.iload_n 1, 1) := by decide +kernel
theorem d7_course_42 : decode prog_1_method_12_code 42 = .ok (.iload_n 2, 1) := by decide +kernel
theorem d7_course_43 : decode prog_1_method_12_code 43 = .ok (.iastore, 1) := by decide +kernel
theorem d7_course_44 : decode prog_1_method_12_code 44 = .ok (.iload_n 3, 1) := by decide +kernel
theorem d7_course_45 : decode prog_1_method_12_code 45 = .ok (.ireturn, 1) := by decide +kernel
theorem d8_courseOf_0 : decode prog_10_method_29_code 0 = .ok (.aload_n 0, 1) := by decide +kernel
theorem d8_courseOf_1 : decode prog_10_method_29_code 1 = .ok (.getfield 32, 3) := by decide +kernel
theorem d8_courseOf_4 : decode prog_10_method_29_code 4 = .ok (.iconst 2, 1) := by decide +kernel
theorem d8_courseOf_5 : decode prog_10_method_29_code 5 = .ok (.iload_n 1, 1) := by decide +kernel
theorem d8_courseOf_6 : decode prog_10_method_29_code 6 = .ok (.iadd, 1) := by decide +kernel
theorem d8_courseOf_7 : decode prog_10_method_29_code 7 = .ok (.iaload, 1) := by decide +kernel
theorem d8_courseOf_8 : decode prog_10_method_29_code 8 = .ok (.ireturn, 1) := by decide +kernel
theorem d8_course_0 : decode prog_10_method_33_code 0 = .ok (.iload_n 1, 1) := by decide +kernel
theorem d8_course_1 : decode prog_10_method_33_code 1 = .ok (.iconst 0, 1) := by decide +kernel
theorem d8_course_2 : decode prog_10_method_33_code 2 = .ok (.aload_n 0, 1) := by decide +kernel
theorem d8_course_3 : decode prog_10_method_33_code 3 = .ok (.invokevirtual 129, 3) := by decide +kernel
theorem d8_course_6 : decode prog_10_method_33_code 6 = .ok (.iconst 1, 1) := by decide +kernel
theorem d8_course_7 : decode prog_10_method_33_code 7 = .ok (.isub, 1) := by decide +kernel
theorem d8_course_8 : decode prog_10_method_33_code 8 = .ok (.invokestatic 80, 3) := by decide +kernel
theorem d8_course_11 : decode prog_10_method_33_code 11 = .ok (.ifCond .eq 10, 3) := by decide +kernel
theorem d8_course_14 : decode prog_10_method_33_code 14 = .ok (.iload_n 2, 1) := by decide +kernel
theorem d8_course_15 : decode prog_10_method_33_code 15 = .ok (.invokestatic 126, 3) := by decide +kernel
theorem d8_course_18 : decode prog_10_method_33_code 18 = .ok (.ifCond .ne 5, 3) := by decide +kernel
theorem d8_course_21 : decode prog_10_method_33_code 21 = .ok (.iconst (-1), 1) := by decide +kernel
theorem d8_course_22 : decode prog_10_method_33_code 22 = .ok (.ireturn, 1) := by decide +kernel
theorem d8_course_23 : decode prog_10_method_33_code 23 = .ok (.aload_n 0, 1) := by decide +kernel
theorem d8_course_24 : decode prog_10_method_33_code 24 = .ok (.iload_n 1, 1) := by decide +kernel
theorem d8_course_25 : decode prog_10_method_33_code 25 = .ok (.invokevirtual 133, 3) := by decide +kernel
theorem d8_course_28 : decode prog_10_method_33_code 28 = .ok (.istore_n 3, 1) := by decide +kernel
theorem d8_course_29 : decode prog_10_method_33_code 29 = .ok (.aload_n 0, 1) := by decide +kernel
theorem d8_course_30 : decode prog_10_method_33_code 30 = .ok (.getfield 32, 3) := by decide +kernel
theorem d8_course_33 : decode prog_10_method_33_code 33 = .ok (.iconst 2, 1) := by decide +kernel
theorem d8_course_34 : decode prog_10_method_33_code 34 = .ok (.iload_n 1, 1) := by decide +kernel
theorem d8_course_35 : decode prog_10_method_33_code 35 = .ok (.iadd, 1) := by decide +kernel
theorem d8_course_36 : decode prog_10_method_33_code 36 = .ok (.iload_n 2, 1) := by decide +kernel
theorem d8_course_37 : decode prog_10_method_33_code 37 = .ok (.iastore, 1) := by decide +kernel
theorem d8_course_38 : decode prog_10_method_33_code 38 = .ok (.iload_n 3, 1) := by decide +kernel
theorem d8_course_39 : decode prog_10_method_33_code 39 = .ok (.ireturn, 1) := by decide +kernel
theorem d3_number_0 : decode prog_5_method_3_code 0 = .ok (.iload_n 1, 1) := by decide +kernel
theorem d3_number_1 : decode prog_5_method_3_code 1 = .ok (.ifCond .ne 8, 3) := by decide +kernel
theorem d3_number_4 : decode prog_5_method_3_code 4 = .ok (.aload_n 0, 1) := by decide +kernel
theorem d3_number_5 : decode prog_5_method_3_code 5 = .ok (.getfield 9, 3) := by decide +kernel
theorem d3_number_8 : decode prog_5_method_3_code 8 = .ok (.ireturn, 1) := by decide +kernel
theorem d3_number_9 : decode prog_5_method_3_code 9 = .ok (.iload_n 1, 1) := by decide +kernel
theorem d3_number_10 : decode prog_5_method_3_code 10 = .ok (.iconst 1, 1) := by decide +kernel
theorem d3_number_11 : decode prog_5_method_3_code 11 = .ok (.if_icmp .ne 8, 3) := by decide +kernel
theorem d3_number_14 : decode prog_5_method_3_code 14 = .ok (.aload_n 0, 1) := by decide +kernel
theorem d3_number_15 : decode prog_5_method_3_code 15 = .ok (.getfield 15, 3) := by decide +kernel
theorem d3_number_18 : decode prog_5_method_3_code 18 = .ok (.ireturn, 1) := by decide +kernel
theorem d3_number_19 : decode prog_5_method_3_code 19 = .ok (.iload_n 1, 1) := by decide +kernel
theorem d3_number_20 : decode prog_5_method_3_code 20 = .ok (.bipush 8, 2) := by decide +kernel
theorem d3_number_22 : decode prog_5_method_3_code 22 = .ok (.if_icmp .ge 31, 3) := by decide +kernel
theorem d3_number_25 : decode prog_5_method_3_code 25 = .ok (.iload_n 1, 1) := by decide +kernel
theorem d3_number_26 : decode prog_5_method_3_code 26 = .ok (.iconst 2, 1) := by decide +kernel
theorem d3_number_27 : decode prog_5_method_3_code 27 = .ok (.isub, 1) := by decide +kernel
theorem d3_number_28 : decode prog_5_method_3_code 28 = .ok (.istore_n 2, 1) := by decide +kernel
theorem d3_number_29 : decode prog_5_method_3_code 29 = .ok (.iload_n 2, 1) := by decide +kernel
theorem d3_number_30 : decode prog_5_method_3_code 30 = .ok (.ifCond .lt 20, 3) := by decide +kernel
theorem d3_number_33 : decode prog_5_method_3_code 33 = .ok (.iload_n 2, 1) := by decide +kernel
theorem d3_number_34 : decode prog_5_method_3_code 34 = .ok (.aload_n 0, 1) := by decide +kernel
theorem d3_number_35 : decode prog_5_method_3_code 35 = .ok (.getfield 15, 3) := by decide +kernel
theorem d3_number_38 : decode prog_5_method_3_code 38 = .ok (.if_icmp .ge 12, 3) := by decide +kernel
theorem d3_number_41 : decode prog_5_method_3_code 41 = .ok (.aload_n 0, 1) := by decide +kernel
theorem d3_number_42 : decode prog_5_method_3_code 42 = .ok (.getfield 18, 3) := by decide +kernel
theorem d3_number_45 : decode prog_5_method_3_code 45 = .ok (.iload_n 2, 1) := by decide +kernel
theorem d3_number_46 : decode prog_5_method_3_code 46 = .ok (.iaload, 1) := by decide +kernel
theorem d3_number_47 : decode prog_5_method_3_code 47 = .ok (.goto 5, 3) := by decide +kernel
theorem d3_number_50 : decode prog_5_method_3_code 50 = .ok (.bipush (-9), 2) := by decide +kernel
theorem d3_number_52 : decode prog_5_method_3_code 52 = .ok (.ireturn, 1) := by decide +kernel
theorem d3_number_53 : decode prog_5_method_3_code 53 = .ok (.iload_n 1, 1) := by decide +kernel
theorem d3_number_54 : decode prog_5_method_3_code 54 = .ok (.bipush 8, 2) := by decide +kernel
theorem d3_number_56 : decode prog_5_method_3_code 56 = .ok (.isub, 1) := by decide +kernel
theorem d3_number_57 : decode prog_5_method_3_code 57 = .ok (.istore_n 2, 1) := by decide +kernel
theorem d3_number_58 : decode prog_5_method_3_code 58 = .ok (.iload_n 2, 1) := by decide +kernel
theorem d3_number_59 : decode prog_5_method_3_code 59 = .ok (.aload_n 0, 1) := by decide +kernel
theorem d3_number_60 : decode prog_5_method_3_code 60 = .ok (.getfield 15, 3) := by decide +kernel
theorem d3_number_63 : decode prog_5_method_3_code 63 = .ok (.if_icmp .gt 12, 3) := by decide +kernel
theorem d3_number_66 : decode prog_5_method_3_code 66 = .ok (.aload_n 0, 1) := by decide +kernel
theorem d3_number_67 : decode prog_5_method_3_code 67 = .ok (.getfield 22, 3) := by decide +kernel
theorem d3_number_70 : decode prog_5_method_3_code 70 = .ok (.iload_n 2, 1) := by decide +kernel
theorem d3_number_71 : decode prog_5_method_3_code 71 = .ok (.iaload, 1) := by decide +kernel
theorem d3_number_72 : decode prog_5_method_3_code 72 = .ok (.goto 5, 3) := by decide +kernel
theorem d3_number_75 : decode prog_5_method_3_code 75 = .ok (.bipush (-9), 2) := by decide +kernel
theorem d3_number_77 : decode prog_5_method_3_code 77 = .ok (.ireturn, 1) := by decide +kernel
theorem d7_plan_0 : decode prog_1_method_13_code 0 = .ok (.iload_n 1, 1) := by decide +kernel
theorem d7_plan_1 : decode prog_1_method_13_code 1 = .ok (.bipush 14, 2) := by decide +kernel
theorem d7_plan_3 : decode prog_1_method_13_code 3 = .ok (.invokestatic 137, 3) := by decide +kernel
theorem d7_plan_6 : decode prog_1_method_13_code 6 = .ok (.ifCond .ne 5, 3) := by decide +kernel
theorem d7_plan_9 : decode prog_1_method_13_code 9 = .ok (.iconst (-1), 1) := by decide +kernel
theorem d7_plan_10 : decode prog_1_method_13_code 10 = .ok (.ireturn, 1) := by decide +kernel
theorem d7_plan_11 : decode prog_1_method_13_code 11 = .ok (.aload_n 0, 1) := by decide +kernel
theorem d7_plan_12 : decode prog_1_method_13_code 12 = .ok (.aload_n 0, 1) := by decide +kernel
theorem d7_plan_13 : decode prog_1_method_13_code 13 = .ok (.getfield 37, 3) := by decide +kernel
theorem d7_plan_16 : decode prog_1_method_13_code 16 = .ok (.iload_n 1, 1) := by decide +kernel
theorem d7_plan_17 : decode prog_1_method_13_code 17 = .ok (.invokevirtual 147, 3) := by decide +kernel
theorem d7_plan_20 : decode prog_1_method_13_code 20 = .ok (.putfield 65, 3) := by decide +kernel
theorem d7_plan_23 : decode prog_1_method_13_code 23 = .ok (.iconst 1, 1) := by decide +kernel
theorem d7_plan_24 : decode prog_1_method_13_code 24 = .ok (.ireturn, 1) := by decide +kernel
theorem d8_plan_0 : decode prog_10_method_34_code 0 = .ok (.iload_n 1, 1) := by decide +kernel
theorem d8_plan_1 : decode prog_10_method_34_code 1 = .ok (.iconst 0, 1) := by decide +kernel
theorem d8_plan_2 : decode prog_10_method_34_code 2 = .ok (.bipush 14, 2) := by decide +kernel
theorem d8_plan_4 : decode prog_10_method_34_code 4 = .ok (.invokestatic 80, 3) := by decide +kernel
theorem d8_plan_7 : decode prog_10_method_34_code 7 = .ok (.ifCond .eq 17, 3) := by decide +kernel
theorem d8_plan_10 : decode prog_10_method_34_code 10 = .ok (.aload_n 0, 1) := by decide +kernel
theorem d8_plan_11 : decode prog_10_method_34_code 11 = .ok (.aload_n 0, 1) := by decide +kernel
theorem d8_plan_12 : decode prog_10_method_34_code 12 = .ok (.getfield 32, 3) := by decide +kernel
theorem d8_plan_15 : decode prog_10_method_34_code 15 = .ok (.iload_n 1, 1) := by decide +kernel
theorem d8_plan_16 : decode prog_10_method_34_code 16 = .ok (.iaload, 1) := by decide +kernel
theorem d8_plan_17 : decode prog_10_method_34_code 17 = .ok (.iconst 1, 1) := by decide +kernel
theorem d8_plan_18 : decode prog_10_method_34_code 18 = .ok (.invokevirtual 102, 3) := by decide +kernel
theorem d8_plan_21 : decode prog_10_method_34_code 21 = .ok (.goto 4, 3) := by decide +kernel
theorem d8_plan_24 : decode prog_10_method_34_code 24 = .ok (.iconst (-1), 1) := by decide +kernel
theorem d8_plan_25 : decode prog_10_method_34_code 25 = .ok (.ireturn, 1) := by decide +kernel
theorem d4_skipBlanks_0 : decode prog_6_method_3_code 0 = .ok (.aload_n 0, 1) := by decide +kernel
theorem d4_skipBlanks_1 : decode prog_6_method_3_code 1 = .ok (.getfield 19, 3) := by decide +kernel
theorem d4_skipBlanks_4 : decode prog_6_method_3_code 4 = .ok (.aload_n 0, 1) := by decide +kernel
theorem d4_skipBlanks_5 : decode prog_6_method_3_code 5 = .ok (.getfield 15, 3) := by decide +kernel
theorem d4_skipBlanks_8 : decode prog_6_method_3_code 8 = .ok (.if_icmp .ge 30, 3) := by decide +kernel
theorem d4_skipBlanks_11 : decode prog_6_method_3_code 11 = .ok (.aload_n 0, 1) := by decide +kernel
theorem d4_skipBlanks_12 : decode prog_6_method_3_code 12 = .ok (.getfield 9, 3) := by decide +kernel
theorem d4_skipBlanks_15 : decode prog_6_method_3_code 15 = .ok (.aload_n 0, 1) := by decide +kernel
theorem d4_skipBlanks_16 : decode prog_6_method_3_code 16 = .ok (.getfield 19, 3) := by decide +kernel
theorem d4_skipBlanks_19 : decode prog_6_method_3_code 19 = .ok (.baload, 1) := by decide +kernel
theorem d4_skipBlanks_20 : decode prog_6_method_3_code 20 = .ok (.bipush 32, 2) := by decide +kernel
theorem d4_skipBlanks_22 : decode prog_6_method_3_code 22 = .ok (.if_icmp .ne 16, 3) := by decide +kernel
theorem d4_skipBlanks_25 : decode prog_6_method_3_code 25 = .ok (.aload_n 0, 1) := by decide +kernel
theorem d4_skipBlanks_26 : decode prog_6_method_3_code 26 = .ok (.dup, 1) := by decide +kernel
theorem d4_skipBlanks_27 : decode prog_6_method_3_code 27 = .ok (.getfield 19, 3) := by decide +kernel
theorem d4_skipBlanks_30 : decode prog_6_method_3_code 30 = .ok (.iconst 1, 1) := by decide +kernel
theorem d4_skipBlanks_31 : decode prog_6_method_3_code 31 = .ok (.iadd, 1) := by decide +kernel
theorem d4_skipBlanks_32 : decode prog_6_method_3_code 32 = .ok (.putfield 19, 3) := by decide +kernel
theorem d4_skipBlanks_35 : decode prog_6_method_3_code 35 = .ok (.goto (-35), 3) := by decide +kernel
theorem d4_skipBlanks_38 : decode prog_6_method_3_code 38 = .ok (.return_, 1) := by decide +kernel
theorem d4_take_0 : decode prog_6_method_8_code 0 = .ok (.aload_n 0, 1) := by decide +kernel
theorem d4_take_1 : decode prog_6_method_8_code 1 = .ok (.getfield 22, 3) := by decide +kernel
theorem d4_take_4 : decode prog_6_method_8_code 4 = .ok (.bipush (-9), 2) := by decide +kernel
theorem d4_take_6 : decode prog_6_method_8_code 6 = .ok (.if_icmp .ne 40, 3) := by decide +kernel
theorem d4_take_9 : decode prog_6_method_8_code 9 = .ok (.aload_n 0, 1) := by decide +kernel
theorem d4_take_10 : decode prog_6_method_8_code 10 = .ok (.getfield 19, 3) := by decide +kernel
theorem d4_take_13 : decode prog_6_method_8_code 13 = .ok (.aload_n 0, 1) := by decide +kernel
theorem d4_take_14 : decode prog_6_method_8_code 14 = .ok (.getfield 15, 3) := by decide +kernel
theorem d4_take_17 : decode prog_6_method_8_code 17 = .ok (.if_icmp .ge 29, 3) := by decide +kernel
theorem d4_take_20 : decode prog_6_method_8_code 20 = .ok (.aload_n 0, 1) := by decide +kernel
theorem d4_take_21 : decode prog_6_method_8_code 21 = .ok (.getfield 9, 3) := by decide +kernel
theorem d4_take_24 : decode prog_6_method_8_code 24 = .ok (.aload_n 0, 1) := by decide +kernel
theorem d4_take_25 : decode prog_6_method_8_code 25 = .ok (.getfield 19, 3) := by decide +kernel
theorem d4_take_28 : decode prog_6_method_8_code 28 = .ok (.baload, 1) := by decide +kernel
theorem d4_take_29 : decode prog_6_method_8_code 29 = .ok (.iload_n 1, 1) := by decide +kernel
theorem d4_take_30 : decode prog_6_method_8_code 30 = .ok (.if_icmp .ne 16, 3) := by decide +kernel
theorem d4_take_33 : decode prog_6_method_8_code 33 = .ok (.aload_n 0, 1) := by decide +kernel
theorem d4_take_34 : decode prog_6_method_8_code 34 = .ok (.dup, 1) := by decide +kernel
theorem d4_take_35 : decode prog_6_method_8_code 35 = .ok (.getfield 19, 3) := by decide +kernel
theorem d4_take_38 : decode prog_6_method_8_code 38 = .ok (.iconst 1, 1) := by decide +kernel
theorem d4_take_39 : decode prog_6_method_8_code 39 = .ok (.iadd, 1) := by decide +kernel
theorem d4_take_40 : decode prog_6_method_8_code 40 = .ok (.putfield 19, 3) := by decide +kernel
theorem d4_take_43 : decode prog_6_method_8_code 43 = .ok (.goto 20, 3) := by decide +kernel
theorem d4_take_46 : decode prog_6_method_8_code 46 = .ok (.aload_n 0, 1) := by decide +kernel
theorem d4_take_47 : decode prog_6_method_8_code 47 = .ok (.getfield 22, 3) := by decide +kernel
theorem d4_take_50 : decode prog_6_method_8_code 50 = .ok (.bipush (-9), 2) := by decide +kernel
theorem d4_take_52 : decode prog_6_method_8_code 52 = .ok (.if_icmp .ne 11, 3) := by decide +kernel
theorem d4_take_55 : decode prog_6_method_8_code 55 = .ok (.aload_n 0, 1) := by decide +kernel
theorem d4_take_56 : decode prog_6_method_8_code 56 = .ok (.aload_n 0, 1) := by decide +kernel
theorem d4_take_57 : decode prog_6_method_8_code 57 = .ok (.getfield 19, 3) := by decide +kernel
theorem d4_take_60 : decode prog_6_method_8_code 60 = .ok (.putfield 22, 3) := by decide +kernel
theorem d4_take_63 : decode prog_6_method_8_code 63 = .ok (.return_, 1) := by decide +kernel
theorem d4_isFigure_0 : decode prog_6_method_11_code 0 = .ok (.aload_n 0, 1) := by decide +kernel
theorem d4_isFigure_1 : decode prog_6_method_11_code 1 = .ok (.getfield 19, 3) := by decide +kernel
theorem d4_isFigure_4 : decode prog_6_method_11_code 4 = .ok (.aload_n 0, 1) := by decide +kernel
theorem d4_isFigure_5 : decode prog_6_method_11_code 5 = .ok (.getfield 15, 3) := by decide +kernel
theorem d4_isFigure_8 : decode prog_6_method_11_code 8 = .ok (.if_icmp .ge 37, 3) := by decide +kernel
theorem d4_isFigure_11 : decode prog_6_method_11_code 11 = .ok (.aload_n 0, 1) := by decide +kernel
theorem d4_isFigure_12 : decode prog_6_method_11_code 12 = .ok (.getfield 9, 3) := by decide +kernel
theorem d4_isFigure_15 : decode prog_6_method_11_code 15 = .ok (.aload_n 0, 1) := by decide +kernel
theorem d4_isFigure_16 : decode prog_6_method_11_code 16 = .ok (.getfield 19, 3) := by decide +kernel
theorem d4_isFigure_19 : decode prog_6_method_11_code 19 = .ok (.baload, 1) := by decide +kernel
theorem d4_isFigure_20 : decode prog_6_method_11_code 20 = .ok (.bipush 48, 2) := by decide +kernel
theorem d4_isFigure_22 : decode prog_6_method_11_code 22 = .ok (.if_icmp .lt 23, 3) := by decide +kernel
theorem d4_isFigure_25 : decode prog_6_method_11_code 25 = .ok (.aload_n 0, 1) := by decide +kernel
theorem d4_isFigure_26 : decode prog_6_method_11_code 26 = .ok (.getfield 9, 3) := by decide +kernel
theorem d4_isFigure_29 : decode prog_6_method_11_code 29 = .ok (.aload_n 0, 1) := by decide +kernel
theorem d4_isFigure_30 : decode prog_6_method_11_code 30 = .ok (.getfield 19, 3) := by decide +kernel
theorem d4_isFigure_33 : decode prog_6_method_11_code 33 = .ok (.baload, 1) := by decide +kernel
theorem d4_isFigure_34 : decode prog_6_method_11_code 34 = .ok (.bipush 48, 2) := by decide +kernel
theorem d4_isFigure_36 : decode prog_6_method_11_code 36 = .ok (.iload_n 1, 1) := by decide +kernel
theorem d4_isFigure_37 : decode prog_6_method_11_code 37 = .ok (.iadd, 1) := by decide +kernel
theorem d4_isFigure_38 : decode prog_6_method_11_code 38 = .ok (.if_icmp .gt 7, 3) := by decide +kernel
theorem d4_isFigure_41 : decode prog_6_method_11_code 41 = .ok (.iconst 1, 1) := by decide +kernel
theorem d4_isFigure_42 : decode prog_6_method_11_code 42 = .ok (.goto 4, 3) := by decide +kernel
theorem d4_isFigure_45 : decode prog_6_method_11_code 45 = .ok (.iconst 0, 1) := by decide +kernel
theorem d4_isFigure_46 : decode prog_6_method_11_code 46 = .ok (.ireturn, 1) := by decide +kernel
theorem d4_takeFigure_0 : decode prog_6_method_9_code 0 = .ok (.aload_n 0, 1) := by decide +kernel
theorem d4_takeFigure_1 : decode prog_6_method_9_code 1 = .ok (.getfield 22, 3) := by decide +kernel
theorem d4_takeFigure_4 : decode prog_6_method_9_code 4 = .ok (.bipush (-9), 2) := by decide +kernel
theorem d4_takeFigure_6 : decode prog_6_method_9_code 6 = .ok (.if_icmp .ne 36, 3) := by decide +kernel
theorem d4_takeFigure_9 : decode prog_6_method_9_code 9 = .ok (.aload_n 0, 1) := by decide +kernel
theorem d4_takeFigure_10 : decode prog_6_method_9_code 10 = .ok (.iload_n 1, 1) := by decide +kernel
theorem d4_takeFigure_11 : decode prog_6_method_9_code 11 = .ok (.invokevirtual 78, 3) := by decide +kernel
theorem d4_takeFigure_14 : decode prog_6_method_9_code 14 = .ok (.ifCond .eq 28, 3) := by decide +kernel
theorem d4_takeFigure_17 : decode prog_6_method_9_code 17 = .ok (.aload_n 0, 1) := by decide +kernel
theorem d4_takeFigure_18 : decode prog_6_method_9_code 18 = .ok (.dup, 1) := by decide +kernel
theorem d4_takeFigure_19 : decode prog_6_method_9_code 19 = .ok (.getfield 19, 3) := by decide +kernel
theorem d4_takeFigure_22 : decode prog_6_method_9_code 22 = .ok (.iconst 1, 1) := by decide +kernel
theorem d4_takeFigure_23 : decode prog_6_method_9_code 23 = .ok (.iadd, 1) := by decide +kernel
theorem d4_takeFigure_24 : decode prog_6_method_9_code 24 = .ok (.putfield 19, 3) := by decide +kernel
theorem d4_takeFigure_27 : decode prog_6_method_9_code 27 = .ok (.aload_n 0, 1) := by decide +kernel
theorem d4_takeFigure_28 : decode prog_6_method_9_code 28 = .ok (.getfield 9, 3) := by decide +kernel
theorem d4_takeFigure_31 : decode prog_6_method_9_code 31 = .ok (.aload_n 0, 1) := by decide +kernel
theorem d4_takeFigure_32 : decode prog_6_method_9_code 32 = .ok (.getfield 19, 3) := by decide +kernel
theorem d4_takeFigure_35 : decode prog_6_method_9_code 35 = .ok (.iconst 1, 1) := by decide +kernel
theorem d4_takeFigure_36 : decode prog_6_method_9_code 36 = .ok (.isub, 1) := by decide +kernel
theorem d4_takeFigure_37 : decode prog_6_method_9_code 37 = .ok (.baload, 1) := by decide +kernel
theorem d4_takeFigure_38 : decode prog_6_method_9_code 38 = .ok (.bipush 48, 2) := by decide +kernel
theorem d4_takeFigure_40 : decode prog_6_method_9_code 40 = .ok (.isub, 1) := by decide +kernel
theorem d4_takeFigure_41 : decode prog_6_method_9_code 41 = .ok (.ireturn, 1) := by decide +kernel
theorem d4_takeFigure_42 : decode prog_6_method_9_code 42 = .ok (.aload_n 0, 1) := by decide +kernel
theorem d4_takeFigure_43 : decode prog_6_method_9_code 43 = .ok (.getfield 22, 3) := by decide +kernel
theorem d4_takeFigure_46 : decode prog_6_method_9_code 46 = .ok (.bipush (-9), 2) := by decide +kernel
theorem d4_takeFigure_48 : decode prog_6_method_9_code 48 = .ok (.if_icmp .ne 11, 3) := by decide +kernel
theorem d4_takeFigure_51 : decode prog_6_method_9_code 51 = .ok (.aload_n 0, 1) := by decide +kernel
theorem d4_takeFigure_52 : decode prog_6_method_9_code 52 = .ok (.aload_n 0, 1) := by decide +kernel
theorem d4_takeFigure_53 : decode prog_6_method_9_code 53 = .ok (.getfield 19, 3) := by decide +kernel
theorem d4_takeFigure_56 : decode prog_6_method_9_code 56 = .ok (.putfield 22, 3) := by decide +kernel
theorem d4_takeFigure_59 : decode prog_6_method_9_code 59 = .ok (.bipush (-9), 2) := by decide +kernel
theorem d4_takeFigure_61 : decode prog_6_method_9_code 61 = .ok (.ireturn, 1) := by decide +kernel
theorem d4_takeNumber_0 : decode prog_6_method_10_code 0 = .ok (.aload_n 0, 1) := by decide +kernel
theorem d4_takeNumber_1 : decode prog_6_method_10_code 1 = .ok (.bipush 9, 2) := by decide +kernel
theorem d4_takeNumber_3 : decode prog_6_method_10_code 3 = .ok (.invokevirtual 64, 3) := by decide +kernel
theorem d4_takeNumber_6 : decode prog_6_method_10_code 6 = .ok (.istore_n 2, 1) := by decide +kernel
theorem d4_takeNumber_7 : decode prog_6_method_10_code 7 = .ok (.iconst 1, 1) := by decide +kernel
theorem d4_takeNumber_8 : decode prog_6_method_10_code 8 = .ok (.istore_n 3, 1) := by decide +kernel
theorem d4_takeNumber_9 : decode prog_6_method_10_code 9 = .ok (.iload_n 3, 1) := by decide +kernel
theorem d4_takeNumber_10 : decode prog_6_method_10_code 10 = .ok (.iload_n 1, 1) := by decide +kernel
theorem d4_takeNumber_11 : decode prog_6_method_10_code 11 = .ok (.if_icmp .ge 39, 3) := by decide +kernel
theorem d4_takeNumber_14 : decode prog_6_method_10_code 14 = .ok (.aload_n 0, 1) := by decide +kernel
theorem d4_takeNumber_15 : decode prog_6_method_10_code 15 = .ok (.getfield 22, 3) := by decide +kernel
theorem d4_takeNumber_18 : decode prog_6_method_10_code 18 = .ok (.bipush (-9), 2) := by decide +kernel
theorem d4_takeNumber_20 : decode prog_6_method_10_code 20 = .ok (.if_icmp .ne 30, 3) := by decide +kernel
theorem d4_takeNumber_23 : decode prog_6_method_10_code 23 = .ok (.aload_n 0, 1) := by decide +kernel
theorem d4_takeNumber_24 : decode prog_6_method_10_code 24 = .ok (.bipush 9, 2) := by decide +kernel
theorem d4_takeNumber_26 : decode prog_6_method_10_code 26 = .ok (.invokevirtual 78, 3) := by decide +kernel
theorem d4_takeNumber_29 : decode prog_6_method_10_code 29 = .ok (.ifCond .eq 21, 3) := by decide +kernel
theorem d4_takeNumber_32 : decode prog_6_method_10_code 32 = .ok (.iload_n 2, 1) := by decide +kernel
theorem d4_takeNumber_33 : decode prog_6_method_10_code 33 = .ok (.bipush 10, 2) := by decide +kernel
theorem d4_takeNumber_35 : decode prog_6_method_10_code 35 = .ok (.imul, 1) := by decide +kernel
theorem d4_takeNumber_36 : decode prog_6_method_10_code 36 = .ok (.aload_n 0, 1) := by decide +kernel
theorem d4_takeNumber_37 : decode prog_6_method_10_code 37 = .ok (.bipush 9, 2) := by decide +kernel
theorem d4_takeNumber_39 : decode prog_6_method_10_code 39 = .ok (.invokevirtual 64, 3) := by decide +kernel
theorem d4_takeNumber_42 : decode prog_6_method_10_code 42 = .ok (.iadd, 1) := by decide +kernel
theorem d4_takeNumber_43 : decode prog_6_method_10_code 43 = .ok (.istore_n 2, 1) := by decide +kernel
theorem d4_takeNumber_44 : decode prog_6_method_10_code 44 = .ok (.iinc 3 1, 3) := by decide +kernel
theorem d4_takeNumber_47 : decode prog_6_method_10_code 47 = .ok (.goto (-38), 3) := by decide +kernel
theorem d4_takeNumber_50 : decode prog_6_method_10_code 50 = .ok (.iload_n 2, 1) := by decide +kernel
theorem d4_takeNumber_51 : decode prog_6_method_10_code 51 = .ok (.ireturn, 1) := by decide +kernel
theorem d4_takeCell_0 : decode prog_6_method_7_code 0 = .ok (.aload_n 0, 1) := by decide +kernel
theorem d4_takeCell_1 : decode prog_6_method_7_code 1 = .ok (.iconst 3, 1) := by decide +kernel
theorem d4_takeCell_2 : decode prog_6_method_7_code 2 = .ok (.invokevirtual 50, 3) := by decide +kernel
theorem d4_takeCell_5 : decode prog_6_method_7_code 5 = .ok (.istore_n 1, 1) := by decide +kernel
theorem d4_takeCell_6 : decode prog_6_method_7_code 6 = .ok (.aload_n 0, 1) := by decide +kernel
theorem d4_takeCell_7 : decode prog_6_method_7_code 7 = .ok (.getfield 22, 3) := by decide +kernel
theorem d4_takeCell_10 : decode prog_6_method_7_code 10 = .ok (.bipush (-9), 2) := by decide +kernel
theorem d4_takeCell_12 : decode prog_6_method_7_code 12 = .ok (.if_icmp .ne 18, 3) := by decide +kernel
theorem d4_takeCell_15 : decode prog_6_method_7_code 15 = .ok (.iload_n 1, 1) := by decide +kernel
theorem d4_takeCell_16 : decode prog_6_method_7_code 16 = .ok (.invokestatic 74, 3) := by decide +kernel
theorem d4_takeCell_19 : decode prog_6_method_7_code 19 = .ok (.ifCond .ne 11, 3) := by decide +kernel
theorem d4_takeCell_22 : decode prog_6_method_7_code 22 = .ok (.aload_n 0, 1) := by decide +kernel
theorem d4_takeCell_23 : decode prog_6_method_7_code 23 = .ok (.aload_n 0, 1) := by decide +kernel
theorem d4_takeCell_24 : decode prog_6_method_7_code 24 = .ok (.getfield 19, 3) := by decide +kernel
theorem d4_takeCell_27 : decode prog_6_method_7_code 27 = .ok (.putfield 22, 3) := by decide +kernel
theorem d4_takeCell_30 : decode prog_6_method_7_code 30 = .ok (.iload_n 1, 1) := by decide +kernel
theorem d4_takeCell_31 : decode prog_6_method_7_code 31 = .ok (.ireturn, 1) := by decide +kernel
theorem d1_apart_0 : decode prog_3_method_4_code 0 = .ok (.iload_n 1, 1) := by decide +kernel
theorem d1_apart_1 : decode prog_3_method_4_code 1 = .ok (.bipush 12, 2) := by decide +kernel
theorem d1_apart_3 : decode prog_3_method_4_code 3 = .ok (.irem, 1) := by decide +kernel
theorem d1_apart_4 : decode prog_3_method_4_code 4 = .ok (.iload_n 0, 1) := by decide +kernel
theorem d1_apart_5 : decode prog_3_method_4_code 5 = .ok (.bipush 12, 2) := by decide +kernel
theorem d1_apart_7 : decode prog_3_method_4_code 7 = .ok (.irem, 1) := by decide +kernel
theorem d1_apart_8 : decode prog_3_method_4_code 8 = .ok (.isub, 1) := by decide +kernel
theorem d1_apart_9 : decode prog_3_method_4_code 9 = .ok (.invokestatic 11, 3) := by decide +kernel
theorem d1_apart_12 : decode prog_3_method_4_code 12 = .ok (.istore_n 2, 1) := by decide +kernel
theorem d1_apart_13 : decode prog_3_method_4_code 13 = .ok (.iload_n 1, 1) := by decide +kernel
theorem d1_apart_14 : decode prog_3_method_4_code 14 = .ok (.bipush 12, 2) := by decide +kernel
theorem d1_apart_16 : decode prog_3_method_4_code 16 = .ok (.idiv, 1) := by decide +kernel
theorem d1_apart_17 : decode prog_3_method_4_code 17 = .ok (.iload_n 0, 1) := by decide +kernel
theorem d1_apart_18 : decode prog_3_method_4_code 18 = .ok (.bipush 12, 2) := by decide +kernel
theorem d1_apart_20 : decode prog_3_method_4_code 20 = .ok (.idiv, 1) := by decide +kernel
theorem d1_apart_21 : decode prog_3_method_4_code 21 = .ok (.isub, 1) := by decide +kernel
theorem d1_apart_22 : decode prog_3_method_4_code 22 = .ok (.invokestatic 11, 3) := by decide +kernel
theorem d1_apart_25 : decode prog_3_method_4_code 25 = .ok (.istore_n 3, 1) := by decide +kernel
theorem d1_apart_26 : decode prog_3_method_4_code 26 = .ok (.iload_n 2, 1) := by decide +kernel
theorem d1_apart_27 : decode prog_3_method_4_code 27 = .ok (.iload_n 3, 1) := by decide +kernel
theorem d1_apart_28 : decode prog_3_method_4_code 28 = .ok (.invokestatic 17, 3) := by decide +kernel
theorem d1_apart_31 : decode prog_3_method_4_code 31 = .ok (.ireturn, 1) := by decide +kernel
theorem d4_readRound_0 : decode prog_6_method_5_code 0 = .ok (.aload_n 0, 1) := by decide +kernel
theorem d4_readRound_1 : decode prog_6_method_5_code 1 = .ok (.invokevirtual 60, 3) := by decide +kernel
theorem d4_readRound_4 : decode prog_6_method_5_code 4 = .ok (.istore_n 1, 1) := by decide +kernel
theorem d4_readRound_5 : decode prog_6_method_5_code 5 = .ok (.aload_n 0, 1) := by decide +kernel
theorem d4_readRound_6 : decode prog_6_method_5_code 6 = .ok (.bipush 58, 2) := by decide +kernel
theorem d4_readRound_8 : decode prog_6_method_5_code 8 = .ok (.invokevirtual 46, 3) := by decide +kernel
theorem d4_readRound_11 : decode prog_6_method_5_code 11 = .ok (.aload_n 0, 1) := by decide +kernel
theorem d4_readRound_12 : decode prog_6_method_5_code 12 = .ok (.bipush 9, 2) := by decide +kernel
theorem d4_readRound_14 : decode prog_6_method_5_code 14 = .ok (.invokevirtual 64, 3) := by decide +kernel
theorem d4_readRound_17 : decode prog_6_method_5_code 17 = .ok (.istore_n 2, 1) := by decide +kernel
theorem d4_readRound_18 : decode prog_6_method_5_code 18 = .ok (.aload_n 0, 1) := by decide +kernel
theorem d4_readRound_19 : decode prog_6_method_5_code 19 = .ok (.bipush 61, 2) := by decide +kernel
theorem d4_readRound_21 : decode prog_6_method_5_code 21 = .ok (.invokevirtual 46, 3) := by decide +kernel
theorem d4_readRound_24 : decode prog_6_method_5_code 24 = .ok (.aload_n 0, 1) := by decide +kernel
theorem d4_readRound_25 : decode prog_6_method_5_code 25 = .ok (.iconst 2, 1) := by decide +kernel
theorem d4_readRound_26 : decode prog_6_method_5_code 26 = .ok (.invokevirtual 50, 3) := by decide +kernel
theorem d4_readRound_29 : decode prog_6_method_5_code 29 = .ok (.istore_n 3, 1) := by decide +kernel
theorem d4_readRound_30 : decode prog_6_method_5_code 30 = .ok (.iconst 0, 1) := by decide +kernel
theorem d4_readRound_31 : decode prog_6_method_5_code 31 = .ok (.istore 4, 2) := by decide +kernel
theorem d4_readRound_33 : decode prog_6_method_5_code 33 = .ok (.iload 4, 2) := by decide +kernel
theorem d4_readRound_35 : decode prog_6_method_5_code 35 = .ok (.bipush 120, 2) := by decide +kernel
theorem d4_readRound_37 : decode prog_6_method_5_code 37 = .ok (.if_icmp .ge 36, 3) := by decide +kernel
theorem d4_readRound_40 : decode prog_6_method_5_code 40 = .ok (.aload_n 0, 1) := by decide +kernel
theorem d4_readRound_41 : decode prog_6_method_5_code 41 = .ok (.getfield 22, 3) := by decide +kernel
theorem d4_readRound_44 : decode prog_6_method_5_code 44 = .ok (.bipush (-9), 2) := by decide +kernel
theorem d4_readRound_46 : decode prog_6_method_5_code 46 = .ok (.if_icmp .ne 27, 3) := by decide +kernel
theorem d4_readRound_49 : decode prog_6_method_5_code 49 = .ok (.iload_n 1, 1) := by decide +kernel
theorem d4_readRound_50 : decode prog_6_method_5_code 50 = .ok (.iload 4, 2) := by decide +kernel
theorem d4_readRound_52 : decode prog_6_method_5_code 52 = .ok (.invokestatic 67, 3) := by decide +kernel
theorem d4_readRound_55 : decode prog_6_method_5_code 55 = .ok (.iload_n 2, 1) := by decide +kernel
theorem d4_readRound_56 : decode prog_6_method_5_code 56 = .ok (.if_icmp .gt 11, 3) := by decide +kernel
theorem d4_readRound_59 : decode prog_6_method_5_code 59 = .ok (.aload_n 0, 1) := by decide +kernel
theorem d4_readRound_60 : decode prog_6_method_5_code 60 = .ok (.getfield 27, 3) := by decide +kernel
theorem d4_readRound_63 : decode prog_6_method_5_code 63 = .ok (.iload 4, 2) := by decide +kernel
theorem d4_readRound_65 : decode prog_6_method_5_code 65 = .ok (.iload_n 3, 1) := by decide +kernel
theorem d4_readRound_66 : decode prog_6_method_5_code 66 = .ok (.iastore, 1) := by decide +kernel
theorem d4_readRound_67 : decode prog_6_method_5_code 67 = .ok (.iinc 4 1, 3) := by decide +kernel
theorem d4_readRound_70 : decode prog_6_method_5_code 70 = .ok (.goto (-37), 3) := by decide +kernel
theorem d4_readRound_73 : decode prog_6_method_5_code 73 = .ok (.return_, 1) := by decide +kernel
theorem d1_beside_0 : decode prog_3_method_7_code 0 = .ok (.iload_n 0, 1) := by decide +kernel
theorem d1_beside_1 : decode prog_3_method_7_code 1 = .ok (.bipush 12, 2) := by decide +kernel
theorem d1_beside_3 : decode prog_3_method_7_code 3 = .ok (.irem, 1) := by decide +kernel
theorem d1_beside_4 : decode prog_3_method_7_code 4 = .ok (.getstatic 21, 3) := by decide +kernel
theorem d1_beside_7 : decode prog_3_method_7_code 7 = .ok (.iload_n 1, 1) := by decide +kernel
theorem d1_beside_8 : decode prog_3_method_7_code 8 = .ok (.iaload, 1) := by decide +kernel
theorem d1_beside_9 : decode prog_3_method_7_code 9 = .ok (.iadd, 1) := by decide +kernel
theorem d1_beside_10 : decode prog_3_method_7_code 10 = .ok (.istore_n 2, 1) := by decide +kernel
theorem d1_beside_11 : decode prog_3_method_7_code 11 = .ok (.iload_n 0, 1) := by decide +kernel
theorem d1_beside_12 : decode prog_3_method_7_code 12 = .ok (.bipush 12, 2) := by decide +kernel
theorem d1_beside_14 : decode prog_3_method_7_code 14 = .ok (.idiv, 1) := by decide +kernel
theorem d1_beside_15 : decode prog_3_method_7_code 15 = .ok (.getstatic 25, 3) := by decide +kernel
theorem d1_beside_18 : decode prog_3_method_7_code 18 = .ok (.iload_n 1, 1) := by decide +kernel
theorem d1_beside_19 : decode prog_3_method_7_code 19 = .ok (.iaload, 1) := by decide +kernel
theorem d1_beside_20 : decode prog_3_method_7_code 20 = .ok (.iadd, 1) := by decide +kernel
theorem d1_beside_21 : decode prog_3_method_7_code 21 = .ok (.istore_n 3, 1) := by decide +kernel
theorem d1_beside_22 : decode prog_3_method_7_code 22 = .ok (.iload_n 2, 1) := by decide +kernel
theorem d1_beside_23 : decode prog_3_method_7_code 23 = .ok (.ifCond .lt 19, 3) := by decide +kernel
theorem d1_beside_26 : decode prog_3_method_7_code 26 = .ok (.iload_n 2, 1) := by decide +kernel
theorem d1_beside_27 : decode prog_3_method_7_code 27 = .ok (.bipush 12, 2) := by decide +kernel
theorem d1_beside_29 : decode prog_3_method_7_code 29 = .ok (.if_icmp .ge 13, 3) := by decide +kernel
theorem d1_beside_32 : decode prog_3_method_7_code 32 = .ok (.iload_n 3, 1) := by decide +kernel
theorem d1_beside_33 : decode prog_3_method_7_code 33 = .ok (.ifCond .lt 9, 3) := by decide +kernel
theorem d1_beside_36 : decode prog_3_method_7_code 36 = .ok (.iload_n 3, 1) := by decide +kernel
theorem d1_beside_37 : decode prog_3_method_7_code 37 = .ok (.bipush 10, 2) := by decide +kernel
theorem d1_beside_39 : decode prog_3_method_7_code 39 = .ok (.if_icmp .lt 8, 3) := by decide +kernel
theorem d1_beside_42 : decode prog_3_method_7_code 42 = .ok (.bipush (-9), 2) := by decide +kernel
theorem d1_beside_44 : decode prog_3_method_7_code 44 = .ok (.goto 9, 3) := by decide +kernel
theorem d1_beside_47 : decode prog_3_method_7_code 47 = .ok (.iload_n 3, 1) := by decide +kernel
theorem d1_beside_48 : decode prog_3_method_7_code 48 = .ok (.bipush 12, 2) := by decide +kernel
theorem d1_beside_50 : decode prog_3_method_7_code 50 = .ok (.imul, 1) := by decide +kernel
theorem d1_beside_51 : decode prog_3_method_7_code 51 = .ok (.iload_n 2, 1) := by decide +kernel
theorem d1_beside_52 : decode prog_3_method_7_code 52 = .ok (.iadd, 1) := by decide +kernel
theorem d1_beside_53 : decode prog_3_method_7_code 53 = .ok (.ireturn, 1) := by decide +kernel
theorem d4_readLine_0 : decode prog_6_method_6_code 0 = .ok (.aload_n 0, 1) := by decide +kernel
theorem d4_readLine_1 : decode prog_6_method_6_code 1 = .ok (.invokevirtual 60, 3) := by decide +kernel
theorem d4_readLine_4 : decode prog_6_method_6_code 4 = .ok (.istore_n 1, 1) := by decide +kernel
theorem d4_readLine_5 : decode prog_6_method_6_code 5 = .ok (.aload_n 0, 1) := by decide +kernel
theorem d4_readLine_6 : decode prog_6_method_6_code 6 = .ok (.bipush 58, 2) := by decide +kernel
theorem d4_readLine_8 : decode prog_6_method_6_code 8 = .ok (.invokevirtual 46, 3) := by decide +kernel
theorem d4_readLine_11 : decode prog_6_method_6_code 11 = .ok (.aload_n 0, 1) := by decide +kernel
theorem d4_readLine_12 : decode prog_6_method_6_code 12 = .ok (.bipush 7, 2) := by decide +kernel
theorem d4_readLine_14 : decode prog_6_method_6_code 14 = .ok (.invokevirtual 64, 3) := by decide +kernel
theorem d4_readLine_17 : decode prog_6_method_6_code 17 = .ok (.istore_n 2, 1) := by decide +kernel
theorem d4_readLine_18 : decode prog_6_method_6_code 18 = .ok (.aload_n 0, 1) := by decide +kernel
theorem d4_readLine_19 : decode prog_6_method_6_code 19 = .ok (.bipush 61, 2) := by decide +kernel
theorem d4_readLine_21 : decode prog_6_method_6_code 21 = .ok (.invokevirtual 46, 3) := by decide +kernel
theorem d4_readLine_24 : decode prog_6_method_6_code 24 = .ok (.aload_n 0, 1) := by decide +kernel
theorem d4_readLine_25 : decode prog_6_method_6_code 25 = .ok (.iconst 2, 1) := by decide +kernel
