theorem d6_init_0 : decode prog_8_method_1_code 0 = .ok (.aload_n 0, 1) := by decide +kernel
theorem d6_init_1 : decode prog_8_method_1_code 1 = .ok (.invokespecial 3, 3) := by decide +kernel
theorem d6_init_4 : decode prog_8_method_1_code 4 = .ok (.aload_n 0, 1) := by decide +kernel
theorem d6_init_5 : decode prog_8_method_1_code 5 = .ok (.iconst 0, 1) := by decide +kernel
theorem d6_init_6 : decode prog_8_method_1_code 6 = .ok (.putfield 11, 3) := by decide +kernel
theorem d6_init_9 : decode prog_8_method_1_code 9 = .ok (.aload_n 0, 1) := by decide +kernel
theorem d6_init_10 : decode prog_8_method_1_code 10 = .ok (.iconst 0, 1) := by decide +kernel
theorem d6_init_11 : decode prog_8_method_1_code 11 = .ok (.putfield 15, 3) := by decide +kernel
theorem d6_init_14 : decode prog_8_method_1_code 14 = .ok (.aload_n 0, 1) := by decide +kernel
theorem d6_init_15 : decode prog_8_method_1_code 15 = .ok (.iconst 0, 1) := by decide +kernel
theorem d6_init_16 : decode prog_8_method_1_code 16 = .ok (.putfield 18, 3) := by decide +kernel
theorem d6_init_19 : decode prog_8_method_1_code 19 = .ok (.aload_n 0, 1) := by decide +kernel
theorem d6_init_20 : decode prog_8_method_1_code 20 = .ok (.iconst 0, 1) := by decide +kernel
theorem d6_init_21 : decode prog_8_method_1_code 21 = .ok (.putfield 21, 3) := by decide +kernel
theorem d6_init_24 : decode prog_8_method_1_code 24 = .ok (.aload_n 0, 1) := by decide +kernel
theorem d6_init_25 : decode prog_8_method_1_code 25 = .ok (.iconst 0, 1) := by decide +kernel
theorem d6_init_26 : decode prog_8_method_1_code 26 = .ok (.putfield 24, 3) := by decide +kernel
theorem d6_init_29 : decode prog_8_method_1_code 29 = .ok (.return_, 1) := by decide +kernel
theorem d3_init_0 : decode prog_5_method_1_code 0 = .ok (.aload_n 0, 1) := by decide +kernel
theorem d3_init_1 : decode prog_5_method_1_code 1 = .ok (.invokespecial 3, 3) := by decide +kernel
theorem d3_init_4 : decode prog_5_method_1_code 4 = .ok (.aload_n 0, 1) := by decide +kernel
theorem d3_init_5 : decode prog_5_method_1_code 5 = .ok (.iconst 0, 1) := by decide +kernel
theorem d3_init_6 : decode prog_5_method_1_code 6 = .ok (.putfield 9, 3) := by decide +kernel
theorem d3_init_9 : decode prog_5_method_1_code 9 = .ok (.aload_n 0, 1) := by decide +kernel
theorem d3_init_10 : decode prog_5_method_1_code 10 = .ok (.iconst 0, 1) := by decide +kernel
theorem d3_init_11 : decode prog_5_method_1_code 11 = .ok (.putfield 15, 3) := by decide +kernel
theorem d3_init_14 : decode prog_5_method_1_code 14 = .ok (.aload_n 0, 1) := by decide +kernel
theorem d3_init_15 : decode prog_5_method_1_code 15 = .ok (.bipush 6, 2) := by decide +kernel
theorem d3_init_17 : decode prog_5_method_1_code 17 = .ok (.newarray .int, 2) := by decide +kernel
theorem d3_init_19 : decode prog_5_method_1_code 19 = .ok (.putfield 18, 3) := by decide +kernel
theorem d3_init_22 : decode prog_5_method_1_code 22 = .ok (.aload_n 0, 1) := by decide +kernel
theorem d3_init_23 : decode prog_5_method_1_code 23 = .ok (.bipush 7, 2) := by decide +kernel
theorem d3_init_25 : decode prog_5_method_1_code 25 = .ok (.newarray .int, 2) := by decide +kernel
theorem d3_init_27 : decode prog_5_method_1_code 27 = .ok (.putfield 22, 3) := by decide +kernel
theorem d3_init_30 : decode prog_5_method_1_code 30 = .ok (.aload_n 0, 1) := by decide +kernel
theorem d3_init_31 : decode prog_5_method_1_code 31 = .ok (.getfield 22, 3) := by decide +kernel
theorem d3_init_34 : decode prog_5_method_1_code 34 = .ok (.iconst 0, 1) := by decide +kernel
theorem d3_init_35 : decode prog_5_method_1_code 35 = .ok (.iconst 1, 1) := by decide +kernel
theorem d3_init_36 : decode prog_5_method_1_code 36 = .ok (.iastore, 1) := by decide +kernel
theorem d3_init_37 : decode prog_5_method_1_code 37 = .ok (.return_, 1) := by decide +kernel
theorem d0_init_0 : decode prog_2_method_1_code 0 = .ok (.aload_n 0, 1) := by decide +kernel
theorem d0_init_1 : decode prog_2_method_1_code 1 = .ok (.invokespecial 3, 3) := by decide +kernel
theorem d0_init_4 : decode prog_2_method_1_code 4 = .ok (.aload_n 0, 1) := by decide +kernel
theorem d0_init_5 : decode prog_2_method_1_code 5 = .ok (.bipush 12, 2) := by decide +kernel
theorem d0_init_7 : decode prog_2_method_1_code 7 = .ok (.anewarray 11, 3) := by decide +kernel
theorem d0_init_10 : decode prog_2_method_1_code 10 = .ok (.putfield 13, 3) := by decide +kernel
theorem d0_init_13 : decode prog_2_method_1_code 13 = .ok (.aload_n 0, 1) := by decide +kernel
theorem d0_init_14 : decode prog_2_method_1_code 14 = .ok (.iconst 0, 1) := by decide +kernel
theorem d0_init_15 : decode prog_2_method_1_code 15 = .ok (.putfield 17, 3) := by decide +kernel
theorem d0_init_18 : decode prog_2_method_1_code 18 = .ok (.iconst 0, 1) := by decide +kernel
theorem d0_init_19 : decode prog_2_method_1_code 19 = .ok (.istore_n 1, 1) := by decide +kernel
theorem d0_init_20 : decode prog_2_method_1_code 20 = .ok (.iload_n 1, 1) := by decide +kernel
theorem d0_init_21 : decode prog_2_method_1_code 21 = .ok (.bipush 12, 2) := by decide +kernel
theorem d0_init_23 : decode prog_2_method_1_code 23 = .ok (.if_icmp .ge 22, 3) := by decide +kernel
theorem d0_init_26 : decode prog_2_method_1_code 26 = .ok (.aload_n 0, 1) := by decide +kernel
theorem d0_init_27 : decode prog_2_method_1_code 27 = .ok (.getfield 13, 3) := by decide +kernel
theorem d0_init_30 : decode prog_2_method_1_code 30 = .ok (.iload_n 1, 1) := by decide +kernel
theorem d0_init_31 : decode prog_2_method_1_code 31 = .ok (.new 11, 3) := by decide +kernel
theorem d0_init_34 : decode prog_2_method_1_code 34 = .ok (.dup, 1) := by decide +kernel
theorem d0_init_35 : decode prog_2_method_1_code 35 = .ok (.invokespecial 21, 3) := by decide +kernel
theorem d0_init_38 : decode prog_2_method_1_code 38 = .ok (.aastore, 1) := by decide +kernel
theorem d0_init_39 : decode prog_2_method_1_code 39 = .ok (.iinc 1 1, 3) := by decide +kernel
theorem d0_init_42 : decode prog_2_method_1_code 42 = .ok (.goto (-22), 3) := by decide +kernel
theorem d0_init_45 : decode prog_2_method_1_code 45 = .ok (.return_, 1) := by decide +kernel
theorem d2_init_0 : decode prog_4_method_1_code 0 = .ok (.aload_n 0, 1) := by decide +kernel
theorem d2_init_1 : decode prog_4_method_1_code 1 = .ok (.invokespecial 3, 3) := by decide +kernel
theorem d2_init_4 : decode prog_4_method_1_code 4 = .ok (.aload_n 0, 1) := by decide +kernel
theorem d2_init_5 : decode prog_4_method_1_code 5 = .ok (.new 9, 3) := by decide +kernel
theorem d2_init_8 : decode prog_4_method_1_code 8 = .ok (.dup, 1) := by decide +kernel
theorem d2_init_9 : decode prog_4_method_1_code 9 = .ok (.invokespecial 11, 3) := by decide +kernel
theorem d2_init_12 : decode prog_4_method_1_code 12 = .ok (.putfield 12, 3) := by decide +kernel
theorem d2_init_15 : decode prog_4_method_1_code 15 = .ok (.aload_n 0, 1) := by decide +kernel
theorem d2_init_16 : decode prog_4_method_1_code 16 = .ok (.new 18, 3) := by decide +kernel
theorem d2_init_19 : decode prog_4_method_1_code 19 = .ok (.dup, 1) := by decide +kernel
theorem d2_init_20 : decode prog_4_method_1_code 20 = .ok (.invokespecial 20, 3) := by decide +kernel
theorem d2_init_23 : decode prog_4_method_1_code 23 = .ok (.putfield 21, 3) := by decide +kernel
theorem d2_init_26 : decode prog_4_method_1_code 26 = .ok (.aload_n 0, 1) := by decide +kernel
theorem d2_init_27 : decode prog_4_method_1_code 27 = .ok (.iconst 3, 1) := by decide +kernel
theorem d2_init_28 : decode prog_4_method_1_code 28 = .ok (.bipush 120, 2) := by decide +kernel
theorem d2_init_30 : decode prog_4_method_1_code 30 = .ok (.multianewarray 27 2, 4) := by decide +kernel
theorem d2_init_34 : decode prog_4_method_1_code 34 = .ok (.putfield 29, 3) := by decide +kernel
theorem d2_init_37 : decode prog_4_method_1_code 37 = .ok (.aload_n 0, 1) := by decide +kernel
theorem d2_init_38 : decode prog_4_method_1_code 38 = .ok (.bipush 120, 2) := by decide +kernel
theorem d2_init_40 : decode prog_4_method_1_code 40 = .ok (.newarray .long, 2) := by decide +kernel
theorem d2_init_42 : decode prog_4_method_1_code 42 = .ok (.putfield 32, 3) := by decide +kernel
theorem d2_init_45 : decode prog_4_method_1_code 45 = .ok (.aload_n 0, 1) := by decide +kernel
theorem d2_init_46 : decode prog_4_method_1_code 46 = .ok (.bipush 7, 2) := by decide +kernel
theorem d2_init_48 : decode prog_4_method_1_code 48 = .ok (.newarray .long, 2) := by decide +kernel
theorem d2_init_50 : decode prog_4_method_1_code 50 = .ok (.putfield 36, 3) := by decide +kernel
theorem d2_init_53 : decode prog_4_method_1_code 53 = .ok (.aload_n 0, 1) := by decide +kernel
theorem d2_init_54 : decode prog_4_method_1_code 54 = .ok (.lconst 0, 1) := by decide +kernel
theorem d2_init_55 : decode prog_4_method_1_code 55 = .ok (.putfield 39, 3) := by decide +kernel
theorem d2_init_58 : decode prog_4_method_1_code 58 = .ok (.aload_n 0, 1) := by decide +kernel
theorem d2_init_59 : decode prog_4_method_1_code 59 = .ok (.bipush 120, 2) := by decide +kernel
theorem d2_init_61 : decode prog_4_method_1_code 61 = .ok (.newarray .long, 2) := by decide +kernel
theorem d2_init_63 : decode prog_4_method_1_code 63 = .ok (.putfield 43, 3) := by decide +kernel
theorem d2_init_66 : decode prog_4_method_1_code 66 = .ok (.aload_n 0, 1) := by decide +kernel
theorem d2_init_67 : decode prog_4_method_1_code 67 = .ok (.bipush 120, 2) := by decide +kernel
theorem d2_init_69 : decode prog_4_method_1_code 69 = .ok (.newarray .long, 2) := by decide +kernel
theorem d2_init_71 : decode prog_4_method_1_code 71 = .ok (.putfield 46, 3) := by decide +kernel
theorem d2_init_74 : decode prog_4_method_1_code 74 = .ok (.aload_n 0, 1) := by decide +kernel
theorem d2_init_75 : decode prog_4_method_1_code 75 = .ok (.bipush 120, 2) := by decide +kernel
theorem d2_init_77 : decode prog_4_method_1_code 77 = .ok (.newarray .long, 2) := by decide +kernel
theorem d2_init_79 : decode prog_4_method_1_code 79 = .ok (.putfield 49, 3) := by decide +kernel
theorem d2_init_82 : decode prog_4_method_1_code 82 = .ok (.return_, 1) := by decide +kernel
theorem d4_init_0 : decode prog_6_method_1_code 0 = .ok (.aload_n 0, 1) := by decide +kernel
theorem d4_init_1 : decode prog_6_method_1_code 1 = .ok (.invokespecial 3, 3) := by decide +kernel
theorem d4_init_4 : decode prog_6_method_1_code 4 = .ok (.aload_n 0, 1) := by decide +kernel
theorem d4_init_5 : decode prog_6_method_1_code 5 = .ok (.aconst_null, 1) := by decide +kernel
theorem d4_init_6 : decode prog_6_method_1_code 6 = .ok (.putfield 9, 3) := by decide +kernel
theorem d4_init_9 : decode prog_6_method_1_code 9 = .ok (.aload_n 0, 1) := by decide +kernel
theorem d4_init_10 : decode prog_6_method_1_code 10 = .ok (.iconst 0, 1) := by decide +kernel
theorem d4_init_11 : decode prog_6_method_1_code 11 = .ok (.putfield 15, 3) := by decide +kernel
theorem d4_init_14 : decode prog_6_method_1_code 14 = .ok (.aload_n 0, 1) := by decide +kernel
theorem d4_init_15 : decode prog_6_method_1_code 15 = .ok (.iconst 0, 1) := by decide +kernel
theorem d4_init_16 : decode prog_6_method_1_code 16 = .ok (.putfield 19, 3) := by decide +kernel
theorem d4_init_19 : decode prog_6_method_1_code 19 = .ok (.aload_n 0, 1) := by decide +kernel
theorem d4_init_20 : decode prog_6_method_1_code 20 = .ok (.bipush (-9), 2) := by decide +kernel
theorem d4_init_22 : decode prog_6_method_1_code 22 = .ok (.putfield 22, 3) := by decide +kernel
theorem d4_init_25 : decode prog_6_method_1_code 25 = .ok (.aload_n 0, 1) := by decide +kernel
theorem d4_init_26 : decode prog_6_method_1_code 26 = .ok (.bipush 120, 2) := by decide +kernel
theorem d4_init_28 : decode prog_6_method_1_code 28 = .ok (.newarray .int, 2) := by decide +kernel
theorem d4_init_30 : decode prog_6_method_1_code 30 = .ok (.putfield 27, 3) := by decide +kernel
theorem d4_init_33 : decode prog_6_method_1_code 33 = .ok (.aload_n 0, 1) := by decide +kernel
theorem d4_init_34 : decode prog_6_method_1_code 34 = .ok (.iconst 0, 1) := by decide +kernel
theorem d4_init_35 : decode prog_6_method_1_code 35 = .ok (.putfield 31, 3) := by decide +kernel
theorem d4_init_38 : decode prog_6_method_1_code 38 = .ok (.return_, 1) := by decide +kernel
theorem d5_init_0 : decode prog_7_method_1_code 0 = .ok (.aload_n 0, 1) := by decide +kernel
theorem d5_init_1 : decode prog_7_method_1_code 1 = .ok (.invokespecial 1, 3) := by decide +kernel
theorem d5_init_4 : decode prog_7_method_1_code 4 = .ok (.aload_n 0, 1) := by decide +kernel
theorem d5_init_5 : decode prog_7_method_1_code 5 = .ok (.iconst 5, 1) := by decide +kernel
theorem d5_init_6 : decode prog_7_method_1_code 6 = .ok (.newarray .int, 2) := by decide +kernel
theorem d5_init_8 : decode prog_7_method_1_code 8 = .ok (.putfield 9, 3) := by decide +kernel
theorem d5_init_11 : decode prog_7_method_1_code 11 = .ok (.aload_n 0, 1) := by decide +kernel
theorem d5_init_12 : decode prog_7_method_1_code 12 = .ok (.iconst 5, 1) := by decide +kernel
theorem d5_init_13 : decode prog_7_method_1_code 13 = .ok (.newarray .int, 2) := by decide +kernel
theorem d5_init_15 : decode prog_7_method_1_code 15 = .ok (.putfield 13, 3) := by decide +kernel
theorem d5_init_18 : decode prog_7_method_1_code 18 = .ok (.aload_n 0, 1) := by decide +kernel
theorem d5_init_19 : decode prog_7_method_1_code 19 = .ok (.ldc2_w 16, 3) := by decide +kernel
theorem d5_init_22 : decode prog_7_method_1_code 22 = .ok (.putfield 18, 3) := by decide +kernel
theorem d5_init_25 : decode prog_7_method_1_code 25 = .ok (.aload_n 0, 1) := by decide +kernel
theorem d5_init_26 : decode prog_7_method_1_code 26 = .ok (.iconst 0, 1) := by decide +kernel
theorem d5_init_27 : decode prog_7_method_1_code 27 = .ok (.putfield 22, 3) := by decide +kernel
theorem d5_init_30 : decode prog_7_method_1_code 30 = .ok (.return_, 1) := by decide +kernel
theorem d7_init_0 : decode prog_1_method_1_code 0 = .ok (.aload_n 0, 1) := by decide +kernel
theorem d7_init_1 : decode prog_1_method_1_code 1 = .ok (.invokespecial 1, 3) := by decide +kernel
theorem d7_init_4 : decode prog_1_method_1_code 4 = .ok (.aload_n 0, 1) := by decide +kernel
theorem d7_init_5 : decode prog_1_method_1_code 5 = .ok (.bipush 6, 2) := by decide +kernel
theorem d7_init_7 : decode prog_1_method_1_code 7 = .ok (.bipush 40, 2) := by decide +kernel
theorem d7_init_9 : decode prog_1_method_1_code 9 = .ok (.multianewarray 9 2, 4) := by decide +kernel
theorem d7_init_13 : decode prog_1_method_1_code 13 = .ok (.putfield 11, 3) := by decide +kernel
theorem d7_init_16 : decode prog_1_method_1_code 16 = .ok (.aload_n 0, 1) := by decide +kernel
theorem d7_init_17 : decode prog_1_method_1_code 17 = .ok (.bipush 6, 2) := by decide +kernel
theorem d7_init_19 : decode prog_1_method_1_code 19 = .ok (.newarray .int, 2) := by decide +kernel
theorem d7_init_21 : decode prog_1_method_1_code 21 = .ok (.putfield 14, 3) := by decide +kernel
theorem d7_init_24 : decode prog_1_method_1_code 24 = .ok (.aload_n 0, 1) := by decide +kernel
theorem d7_init_25 : decode prog_1_method_1_code 25 = .ok (.iconst 4, 1) := by decide +kernel
theorem d7_init_26 : decode prog_1_method_1_code 26 = .ok (.bipush 80, 2) := by decide +kernel
theorem d7_init_28 : decode prog_1_method_1_code 28 = .ok (.multianewarray 18 2, 4) := by decide +kernel
theorem d7_init_32 : decode prog_1_method_1_code 32 = .ok (.putfield 20, 3) := by decide +kernel
theorem d7_init_35 : decode prog_1_method_1_code 35 = .ok (.aload_n 0, 1) := by decide +kernel
theorem d7_init_36 : decode prog_1_method_1_code 36 = .ok (.iconst 4, 1) := by decide +kernel
theorem d7_init_37 : decode prog_1_method_1_code 37 = .ok (.newarray .int, 2) := by decide +kernel
theorem d7_init_39 : decode prog_1_method_1_code 39 = .ok (.putfield 23, 3) := by decide +kernel
theorem d7_init_42 : decode prog_1_method_1_code 42 = .ok (.aload_n 0, 1) := by decide +kernel
theorem d7_init_43 : decode prog_1_method_1_code 43 = .ok (.new 26, 3) := by decide +kernel
theorem d7_init_46 : decode prog_1_method_1_code 46 = .ok (.dup, 1) := by decide +kernel
theorem d7_init_47 : decode prog_1_method_1_code 47 = .ok (.invokespecial 28, 3) := by decide +kernel
theorem d7_init_50 : decode prog_1_method_1_code 50 = .ok (.putfield 29, 3) := by decide +kernel
theorem d7_init_53 : decode prog_1_method_1_code 53 = .ok (.aload_n 0, 1) := by decide +kernel
theorem d7_init_54 : decode prog_1_method_1_code 54 = .ok (.aload_n 0, 1) := by decide +kernel
theorem d7_init_55 : decode prog_1_method_1_code 55 = .ok (.getfield 29, 3) := by decide +kernel
theorem d7_init_58 : decode prog_1_method_1_code 58 = .ok (.getfield 33, 3) := by decide +kernel
theorem d7_init_61 : decode prog_1_method_1_code 61 = .ok (.putfield 37, 3) := by decide +kernel
theorem d7_init_64 : decode prog_1_method_1_code 64 = .ok (.aload_n 0, 1) := by decide +kernel
theorem d7_init_65 : decode prog_1_method_1_code 65 = .ok (.aload_n 0, 1) := by decide +kernel
theorem d7_init_66 : decode prog_1_method_1_code 66 = .ok (.getfield 29, 3) := by decide +kernel
theorem d7_init_69 : decode prog_1_method_1_code 69 = .ok (.getfield 38, 3) := by decide +kernel
theorem d7_init_72 : decode prog_1_method_1_code 72 = .ok (.putfield 42, 3) := by decide +kernel
theorem d7_init_75 : decode prog_1_method_1_code 75 = .ok (.aload_n 0, 1) := by decide +kernel
theorem d7_init_76 : decode prog_1_method_1_code 76 = .ok (.aload_n 0, 1) := by decide +kernel
theorem d7_init_77 : decode prog_1_method_1_code 77 = .ok (.getfield 29, 3) := by decide +kernel
theorem d7_init_80 : decode prog_1_method_1_code 80 = .ok (.getfield 43, 3) := by decide +kernel
theorem d7_init_83 : decode prog_1_method_1_code 83 = .ok (.putfield 46, 3) := by decide +kernel
theorem d7_init_86 : decode prog_1_method_1_code 86 = .ok (.aload_n 0, 1) := by decide +kernel
theorem d7_init_87 : decode prog_1_method_1_code 87 = .ok (.iconst 3, 1) := by decide +kernel
theorem d7_init_88 : decode prog_1_method_1_code 88 = .ok (.newarray .boolean, 2) := by decide +kernel
theorem d7_init_90 : decode prog_1_method_1_code 90 = .ok (.putfield 47, 3) := by decide +kernel
theorem d7_init_93 : decode prog_1_method_1_code 93 = .ok (.aload_n 0, 1) := by decide +kernel
theorem d7_init_94 : decode prog_1_method_1_code 94 = .ok (.new 51, 3) := by decide +kernel
theorem d7_init_97 : decode prog_1_method_1_code 97 = .ok (.dup, 1) := by decide +kernel
theorem d7_init_98 : decode prog_1_method_1_code 98 = .ok (.invokespecial 53, 3) := by decide +kernel
theorem d7_init_101 : decode prog_1_method_1_code 101 = .ok (.putfield 54, 3) := by decide +kernel
theorem d7_init_104 : decode prog_1_method_1_code 104 = .ok (.aload_n 0, 1) := by decide +kernel
theorem d7_init_105 : decode prog_1_method_1_code 105 = .ok (.new 58, 3) := by decide +kernel
theorem d7_init_108 : decode prog_1_method_1_code 108 = .ok (.dup, 1) := by decide +kernel
theorem d7_init_109 : decode prog_1_method_1_code 109 = .ok (.invokespecial 60, 3) := by decide +kernel
theorem d7_init_112 : decode prog_1_method_1_code 112 = .ok (.putfield 61, 3) := by decide +kernel
theorem d7_init_115 : decode prog_1_method_1_code 115 = .ok (.aload_n 0, 1) := by decide +kernel
theorem d7_init_116 : decode prog_1_method_1_code 116 = .ok (.iconst 0, 1) := by decide +kernel
theorem d7_init_117 : decode prog_1_method_1_code 117 = .ok (.putfield 65, 3) := by decide +kernel
theorem d7_init_120 : decode prog_1_method_1_code 120 = .ok (.aload_n 0, 1) := by decide +kernel
theorem d7_init_121 : decode prog_1_method_1_code 121 = .ok (.lconst 0, 1) := by decide +kernel
theorem d7_init_122 : decode prog_1_method_1_code 122 = .ok (.putfield 69, 3) := by decide +kernel
theorem d7_init_125 : decode prog_1_method_1_code 125 = .ok (.aload_n 0, 1) := by decide +kernel
theorem d7_init_126 : decode prog_1_method_1_code 126 = .ok (.lconst 1, 1) := by decide +kernel
theorem d7_init_127 : decode prog_1_method_1_code 127 = .ok (.putfield 73, 3) := by decide +kernel
theorem d7_init_130 : decode prog_1_method_1_code 130 = .ok (.aload_n 0, 1) := by decide +kernel
theorem d7_init_131 : decode prog_1_method_1_code 131 = .ok (.iconst 0, 1) := by decide +kernel
theorem d7_init_132 : decode prog_1_method_1_code 132 = .ok (.putfield 76, 3) := by decide +kernel
theorem d7_init_135 : decode prog_1_method_1_code 135 = .ok (.aload_n 0, 1) := by decide +kernel
theorem d7_init_136 : decode prog_1_method_1_code 136 = .ok (.bipush 6, 2) := by decide +kernel
theorem d7_init_138 : decode prog_1_method_1_code 138 = .ok (.newarray .int, 2) := by decide +kernel
theorem d7_init_140 : decode prog_1_method_1_code 140 = .ok (.putfield 79, 3) := by decide +kernel
theorem d7_init_143 : decode prog_1_method_1_code 143 = .ok (.aload_n 0, 1) := by decide +kernel
theorem d7_init_144 : decode prog_1_method_1_code 144 = .ok (.getfield 14, 3) := by decide +kernel
theorem d7_init_147 : decode prog_1_method_1_code 147 = .ok (.iconst (-1), 1) := by decide +kernel
theorem d7_init_148 : decode prog_1_method_1_code 148 = .ok (.invokestatic 82, 3) := by decide +kernel
theorem d7_init_151 : decode prog_1_method_1_code 151 = .ok (.aload_n 0, 1) := by decide +kernel
theorem d7_init_152 : decode prog_1_method_1_code 152 = .ok (.getfield 23, 3) := by decide +kernel
theorem d7_init_155 : decode prog_1_method_1_code 155 = .ok (.iconst (-1), 1) := by decide +kernel
theorem d7_init_156 : decode prog_1_method_1_code 156 = .ok (.invokestatic 82, 3) := by decide +kernel
theorem d7_init_159 : decode prog_1_method_1_code 159 = .ok (.return_, 1) := by decide +kernel
theorem d8_init_0 : decode prog_10_method_1_code 0 = .ok (.aload_n 0, 1) := by decide +kernel
theorem d8_init_1 : decode prog_10_method_1_code 1 = .ok (.invokespecial 1, 3) := by decide +kernel
theorem d8_init_4 : decode prog_10_method_1_code 4 = .ok (.aload_n 0, 1) := by decide +kernel
theorem d8_init_5 : decode prog_10_method_1_code 5 = .ok (.bipush 6, 2) := by decide +kernel
theorem d8_init_7 : decode prog_10_method_1_code 7 = .ok (.newarray .int, 2) := by decide +kernel
theorem d8_init_9 : decode prog_10_method_1_code 9 = .ok (.putfield 7, 3) := by decide +kernel
theorem d8_init_12 : decode prog_10_method_1_code 12 = .ok (.aload_n 0, 1) := by decide +kernel
theorem d8_init_13 : decode prog_10_method_1_code 13 = .ok (.lconst 1, 1) := by decide +kernel
theorem d8_init_14 : decode prog_10_method_1_code 14 = .ok (.putfield 13, 3) := by decide +kernel
theorem d8_init_17 : decode prog_10_method_1_code 17 = .ok (.aload_n 0, 1) := by decide +kernel
theorem d8_init_18 : decode prog_10_method_1_code 18 = .ok (.bipush 6, 2) := by decide +kernel
theorem d8_init_20 : decode prog_10_method_1_code 20 = .ok (.newarray .int, 2) := by decide +kernel
theorem d8_init_22 : decode prog_10_method_1_code 22 = .ok (.putfield 17, 3) := by decide +kernel
theorem d8_init_25 : decode prog_10_method_1_code 25 = .ok (.aload_n 0, 1) := by decide +kernel
theorem d8_init_26 : decode prog_10_method_1_code 26 = .ok (.sipush 240, 3) := by decide +kernel
theorem d8_init_29 : decode prog_10_method_1_code 29 = .ok (.newarray .int, 2) := by decide +kernel
theorem d8_init_31 : decode prog_10_method_1_code 31 = .ok (.putfield 20, 3) := by decide +kernel
theorem d8_init_34 : decode prog_10_method_1_code 34 = .ok (.aload_n 0, 1) := by decide +kernel
theorem d8_init_35 : decode prog_10_method_1_code 35 = .ok (.bipush 40, 2) := by decide +kernel
theorem d8_init_37 : decode prog_10_method_1_code 37 = .ok (.newarray .int, 2) := by decide +kernel
theorem d8_init_39 : decode prog_10_method_1_code 39 = .ok (.putfield 23, 3) := by decide +kernel
theorem d8_init_42 : decode prog_10_method_1_code 42 = .ok (.aload_n 0, 1) := by decide +kernel
theorem d8_init_43 : decode prog_10_method_1_code 43 = .ok (.iconst 4, 1) := by decide +kernel
theorem d8_init_44 : decode prog_10_method_1_code 44 = .ok (.newarray .int, 2) := by decide +kernel
theorem d8_init_46 : decode prog_10_method_1_code 46 = .ok (.putfield 26, 3) := by decide +kernel
theorem d8_init_49 : decode prog_10_method_1_code 49 = .ok (.aload_n 0, 1) := by decide +kernel
theorem d8_init_50 : decode prog_10_method_1_code 50 = .ok (.sipush 320, 3) := by decide +kernel
theorem d8_init_53 : decode prog_10_method_1_code 53 = .ok (.newarray .int, 2) := by decide +kernel
theorem d8_init_55 : decode prog_10_method_1_code 55 = .ok (.putfield 29, 3) := by decide +kernel
theorem d8_init_58 : decode prog_10_method_1_code 58 = .ok (.aload_n 0, 1) := by decide +kernel
theorem d8_init_59 : decode prog_10_method_1_code 59 = .ok (.bipush 15, 2) := by decide +kernel
theorem d8_init_61 : decode prog_10_method_1_code 61 = .ok (.newarray .int, 2) := by decide +kernel
theorem d8_init_63 : decode prog_10_method_1_code 63 = .ok (.putfield 32, 3) := by decide +kernel
theorem d8_init_66 : decode prog_10_method_1_code 66 = .ok (.aload_n 0, 1) := by decide +kernel
theorem d8_init_67 : decode prog_10_method_1_code 67 = .ok (.iconst 4, 1) := by decide +kernel
theorem d8_init_68 : decode prog_10_method_1_code 68 = .ok (.newarray .boolean, 2) := by decide +kernel
theorem d8_init_70 : decode prog_10_method_1_code 70 = .ok (.putfield 35, 3) := by decide +kernel
theorem d8_init_73 : decode prog_10_method_1_code 73 = .ok (.aload_n 0, 1) := by decide +kernel
theorem d8_init_74 : decode prog_10_method_1_code 74 = .ok (.sipush 480, 3) := by decide +kernel
theorem d8_init_77 : decode prog_10_method_1_code 77 = .ok (.newarray .int, 2) := by decide +kernel
theorem d8_init_79 : decode prog_10_method_1_code 79 = .ok (.putfield 39, 3) := by decide +kernel
theorem d8_init_82 : decode prog_10_method_1_code 82 = .ok (.aload_n 0, 1) := by decide +kernel
theorem d8_init_83 : decode prog_10_method_1_code 83 = .ok (.bipush 120, 2) := by decide +kernel
theorem d8_init_85 : decode prog_10_method_1_code 85 = .ok (.newarray .int, 2) := by decide +kernel
theorem d8_init_87 : decode prog_10_method_1_code 87 = .ok (.putfield 42, 3) := by decide +kernel
theorem d8_init_90 : decode prog_10_method_1_code 90 = .ok (.aload_n 0, 1) := by decide +kernel
theorem d8_init_91 : decode prog_10_method_1_code 91 = .ok (.bipush 60, 2) := by decide +kernel
theorem d8_init_93 : decode prog_10_method_1_code 93 = .ok (.newarray .int, 2) := by decide +kernel
theorem d8_init_95 : decode prog_10_method_1_code 95 = .ok (.putfield 45, 3) := by decide +kernel
theorem d8_init_98 : decode prog_10_method_1_code 98 = .ok (.aload_n 0, 1) := by decide +kernel
theorem d8_init_99 : decode prog_10_method_1_code 99 = .ok (.bipush (-9), 2) := by decide +kernel
theorem d8_init_101 : decode prog_10_method_1_code 101 = .ok (.putfield 48, 3) := by decide +kernel
theorem d8_init_104 : decode prog_10_method_1_code 104 = .ok (.aload_n 0, 1) := by decide +kernel
theorem d8_init_105 : decode prog_10_method_1_code 105 = .ok (.sipush 840, 3) := by decide +kernel
theorem d8_init_108 : decode prog_10_method_1_code 108 = .ok (.newarray .long, 2) := by decide +kernel
theorem d8_init_110 : decode prog_10_method_1_code 110 = .ok (.putfield 52, 3) := by decide +kernel
theorem d8_init_113 : decode prog_10_method_1_code 113 = .ok (.aload_n 0, 1) := by decide +kernel
theorem d8_init_114 : decode prog_10_method_1_code 114 = .ok (.sipush 840, 3) := by decide +kernel
theorem d8_init_117 : decode prog_10_method_1_code 117 = .ok (.newarray .long, 2) := by decide +kernel
theorem d8_init_119 : decode prog_10_method_1_code 119 = .ok (.putfield 56, 3) := by decide +kernel
theorem d8_init_122 : decode prog_10_method_1_code 122 = .ok (.aload_n 0, 1) := by decide +kernel
theorem d8_init_123 : decode prog_10_method_1_code 123 = .ok (.bipush 120, 2) := by decide +kernel
theorem d8_init_125 : decode prog_10_method_1_code 125 = .ok (.newarray .long, 2) := by decide +kernel
theorem d8_init_127 : decode prog_10_method_1_code 127 = .ok (.putfield 59, 3) := by decide +kernel
theorem d8_init_130 : decode prog_10_method_1_code 130 = .ok (.aload_n 0, 1) := by decide +kernel
theorem d8_init_131 : decode prog_10_method_1_code 131 = .ok (.iconst 5, 1) := by decide +kernel
theorem d8_init_132 : decode prog_10_method_1_code 132 = .ok (.newarray .int, 2) := by decide +kernel
theorem d8_init_134 : decode prog_10_method_1_code 134 = .ok (.putfield 62, 3) := by decide +kernel
theorem d8_init_137 : decode prog_10_method_1_code 137 = .ok (.aload_n 0, 1) := by decide +kernel
theorem d8_init_138 : decode prog_10_method_1_code 138 = .ok (.iconst 5, 1) := by decide +kernel
theorem d8_init_139 : decode prog_10_method_1_code 139 = .ok (.newarray .int, 2) := by decide +kernel
theorem d8_init_141 : decode prog_10_method_1_code 141 = .ok (.putfield 65, 3) := by decide +kernel
theorem d8_init_144 : decode prog_10_method_1_code 144 = .ok (.aload_n 0, 1) := by decide +kernel
theorem d8_init_145 : decode prog_10_method_1_code 145 = .ok (.bipush 6, 2) := by decide +kernel
theorem d8_init_147 : decode prog_10_method_1_code 147 = .ok (.newarray .int, 2) := by decide +kernel
theorem d8_init_149 : decode prog_10_method_1_code 149 = .ok (.putfield 68, 3) := by decide +kernel
theorem d8_init_152 : decode prog_10_method_1_code 152 = .ok (.iconst 0, 1) := by decide +kernel
theorem d8_init_153 : decode prog_10_method_1_code 153 = .ok (.istore_n 1, 1) := by decide +kernel
theorem d8_init_154 : decode prog_10_method_1_code 154 = .ok (.iload_n 1, 1) := by decide +kernel
theorem d8_init_155 : decode prog_10_method_1_code 155 = .ok (.bipush 6, 2) := by decide +kernel
theorem d8_init_157 : decode prog_10_method_1_code 157 = .ok (.if_icmp .ge 17, 3) := by decide +kernel
theorem d8_init_160 : decode prog_10_method_1_code 160 = .ok (.aload_n 0, 1) := by decide +kernel
theorem d8_init_161 : decode prog_10_method_1_code 161 = .ok (.getfield 17, 3) := by decide +kernel
theorem d8_init_164 : decode prog_10_method_1_code 164 = .ok (.iload_n 1, 1) := by decide +kernel
theorem d8_init_165 : decode prog_10_method_1_code 165 = .ok (.bipush (-9), 2) := by decide +kernel
theorem d8_init_167 : decode prog_10_method_1_code 167 = .ok (.iastore, 1) := by decide +kernel
theorem d8_init_168 : decode prog_10_method_1_code 168 = .ok (.iinc 1 1, 3) := by decide +kernel
theorem d8_init_171 : decode prog_10_method_1_code 171 = .ok (.goto (-17), 3) := by decide +kernel
theorem d8_init_174 : decode prog_10_method_1_code 174 = .ok (.iconst 0, 1) := by decide +kernel
theorem d8_init_175 : decode prog_10_method_1_code 175 = .ok (.istore_n 1, 1) := by decide +kernel
theorem d8_init_176 : decode prog_10_method_1_code 176 = .ok (.iload_n 1, 1) := by decide +kernel
theorem d8_init_177 : decode prog_10_method_1_code 177 = .ok (.iconst 4, 1) := by decide +kernel
theorem d8_init_178 : decode prog_10_method_1_code 178 = .ok (.if_icmp .ge 17, 3) := by decide +kernel
theorem d8_init_181 : decode prog_10_method_1_code 181 = .ok (.aload_n 0, 1) := by decide +kernel
theorem d8_init_182 : decode prog_10_method_1_code 182 = .ok (.getfield 26, 3) := by decide +kernel
theorem d8_init_185 : decode prog_10_method_1_code 185 = .ok (.iload_n 1, 1) := by decide +kernel
theorem d8_init_186 : decode prog_10_method_1_code 186 = .ok (.bipush (-9), 2) := by decide +kernel
theorem d8_init_188 : decode prog_10_method_1_code 188 = .ok (.iastore, 1) := by decide +kernel
theorem d8_init_189 : decode prog_10_method_1_code 189 = .ok (.iinc 1 1, 3) := by decide +kernel
theorem d8_init_192 : decode prog_10_method_1_code 192 = .ok (.goto (-16), 3) := by decide +kernel
theorem d8_init_195 : decode prog_10_method_1_code 195 = .ok (.aload_n 0, 1) := by decide +kernel
theorem d8_init_196 : decode prog_10_method_1_code 196 = .ok (.getfield 32, 3) := by decide +kernel
theorem d8_init_199 : decode prog_10_method_1_code 199 = .ok (.iconst 0, 1) := by decide +kernel
theorem d8_init_200 : decode prog_10_method_1_code 200 = .ok (.iconst 0, 1) := by decide +kernel
theorem d8_init_201 : decode prog_10_method_1_code 201 = .ok (.iastore, 1) := by decide +kernel
theorem d8_init_202 : decode prog_10_method_1_code 202 = .ok (.aload_n 0, 1) := by decide +kernel
theorem d8_init_203 : decode prog_10_method_1_code 203 = .ok (.getfield 32, 3) := by decide +kernel
theorem d8_init_206 : decode prog_10_method_1_code 206 = .ok (.iconst 1, 1) := by decide +kernel
theorem d8_init_207 : decode prog_10_method_1_code 207 = .ok (.iconst 0, 1) := by decide +kernel
theorem d8_init_208 : decode prog_10_method_1_code 208 = .ok (.iastore, 1) := by decide +kernel
theorem d8_init_209 : decode prog_10_method_1_code 209 = .ok (.iconst 2, 1) := by decide +kernel
theorem d8_init_210 : decode prog_10_method_1_code 210 = .ok (.istore_n 1, 1) := by decide +kernel
theorem d8_init_211 : decode prog_10_method_1_code 211 = .ok (.iload_n 1, 1) := by decide +kernel
theorem d8_init_212 : decode prog_10_method_1_code 212 = .ok (.bipush 15, 2) := by decide +kernel
theorem d8_init_214 : decode prog_10_method_1_code 214 = .ok (.if_icmp .ge 27, 3) := by decide +kernel
theorem d8_init_217 : decode prog_10_method_1_code 217 = .ok (.aload_n 0, 1) := by decide +kernel
theorem d8_init_218 : decode prog_10_method_1_code 218 = .ok (.getfield 32, 3) := by decide +kernel
theorem d8_init_221 : decode prog_10_method_1_code 221 = .ok (.iload_n 1, 1) := by decide +kernel
theorem d8_init_222 : decode prog_10_method_1_code 222 = .ok (.iload_n 1, 1) := by decide +kernel
theorem d8_init_223 : decode prog_10_method_1_code 223 = .ok (.bipush 8, 2) := by decide +kernel
theorem d8_init_225 : decode prog_10_method_1_code 225 = .ok (.if_icmp .ne 7, 3) := by decide +kernel
theorem d8_init_228 : decode prog_10_method_1_code 228 = .ok (.iconst 1, 1) := by decide +kernel
theorem d8_init_229 : decode prog_10_method_1_code 229 = .ok (.goto 5, 3) := by decide +kernel
theorem d8_init_232 : decode prog_10_method_1_code 232 = .ok (.bipush (-9), 2) := by decide +kernel
theorem d8_init_234 : decode prog_10_method_1_code 234 = .ok (.iastore, 1) := by decide +kernel
theorem d8_init_235 : decode prog_10_method_1_code 235 = .ok (.iinc 1 1, 3) := by decide +kernel
theorem d8_init_238 : decode prog_10_method_1_code 238 = .ok (.goto (-27), 3) := by decide +kernel
theorem d8_init_241 : decode prog_10_method_1_code 241 = .ok (.return_, 1) := by decide +kernel
def k6_init : sm_K := (⟨"TwoFliers$Sign", "<init>", "()V"⟩, prog_8_method_1_code, 1, none, 1, 0, 0)
theorem me6_init : sm_me k6_init 0 := ⟨pn6.1, sm_q1 72 rfl rfl, pn6.2.1, pn6.2.2.1, pn6.2.2.2, pd__28_29V⟩
theorem mi6_init : Cond.instanceMethod k6_init.1 ∈ sm_tb := sm_q1 71 rfl rfl
def k3_init : sm_K := (⟨"TwoFliers$Plane", "<init>", "()V"⟩, prog_5_method_1_code, 1, none, 1, 2, 13)
theorem me3_init : sm_me k3_init 0 := ⟨pn3.1, sm_q1 36 rfl rfl, pn3.2.1, pn3.2.2.1, pn3.2.2.2, pd__28_29V⟩
theorem mi3_init : Cond.instanceMethod k3_init.1 ∈ sm_tb := sm_q1 35 rfl rfl
def k0_init : sm_K := (⟨"TwoFliers$Book", "<init>", "()V"⟩, prog_2_method_1_code, 2, none, 2, 13, 72)
theorem me0_init : sm_me k0_init 0 := ⟨pn0.1, sm_q1 65 rfl rfl, pn0.2.1, pn0.2.2.1, pn0.2.2.2, pd__28_29V⟩
theorem mi0_init : Cond.instanceMethod k0_init.1 ∈ sm_tb := sm_q1 64 rfl rfl
def k2_init : sm_K := (⟨"TwoFliers$Odds", "<init>", "()V"⟩, prog_4_method_1_code, 1, none, 3, 26, 941)
theorem me2_init : sm_me k2_init 0 := ⟨pn2.1, sm_q1 30 rfl rfl, pn2.2.1, pn2.2.2.1, pn2.2.2.2, pd__28_29V⟩
theorem mi2_init : Cond.instanceMethod k2_init.1 ∈ sm_tb := sm_q1 29 rfl rfl
def k4_init : sm_K := (⟨"TwoFliers$Reader", "<init>", "()V"⟩, prog_6_method_1_code, 1, none, 1, 1, 120)
theorem me4_init : sm_me k4_init 0 := ⟨pn4.1, sm_q1 146 rfl rfl, pn4.2.1, pn4.2.2.1, pn4.2.2.2, pd__28_29V⟩
theorem mi4_init : Cond.instanceMethod k4_init.1 ∈ sm_tb := sm_q1 145 rfl rfl
def k5_init : sm_K := (⟨"TwoFliers$Ship", "<init>", "()V"⟩, prog_7_method_1_code, 1, none, 1, 2, 10)
theorem me5_init : sm_me k5_init 0 := ⟨pn5.1, sm_q1 174 rfl rfl, pn5.2.1, pn5.2.2.1, pn5.2.2.2, pd__28_29V⟩
theorem mi5_init : Cond.instanceMethod k5_init.1 ∈ sm_tb := sm_q1 173 rfl rfl
def k7_init : sm_K := (⟨"TwoFliers", "<init>", "()V"⟩, prog_1_method_1_code, 1, none, 4, 48, 1679)
theorem me7_init : sm_me k7_init 0 := ⟨pn7.1, sm_q1 18 rfl rfl, pn7.2.1, pn7.2.2.1, pn7.2.2.2, pd__28_29V⟩
theorem mi7_init : Cond.instanceMethod k7_init.1 ∈ sm_tb := sm_q1 17 rfl rfl
def k8_init : sm_K := (⟨"TwoFliersModel", "<init>", "()V"⟩, prog_10_method_1_code, 2, none, 1, 17, 3111)
theorem me8_init : sm_me k8_init 0 := ⟨pn8.1, sm_q4 104 rfl rfl, pn8.2.1, pn8.2.2.1, pn8.2.2.2, pd__28_29V⟩
theorem mi8_init : Cond.instanceMethod k8_init.1 ∈ sm_tb := sm_q4 103 rfl rfl
theorem fl7_33 : sm_fl "TwoFliers" 33 1 0 := ⟨by decide, by decide, sm_q1 108 rfl rfl⟩
theorem fl7_38 : sm_fl "TwoFliers" 38 1 1 := ⟨by decide, by decide, sm_q1 110 rfl rfl⟩
theorem fl7_43 : sm_fl "TwoFliers" 43 1 2 := ⟨by decide, by decide, sm_q1 112 rfl rfl⟩
theorem ml0_21 : ("TwoFliers$Book", 21, (⟨"TwoFliers$Sign", "<init>", "()V"⟩ : MethodName), "TwoFliers") ∈ sm_nl := by decide +kernel
theorem ml2_11 : Cond.methodLink "TwoFliers$Odds" 11 ⟨"TwoFliers$Plane", "<init>", "()V"⟩ ∈ sm_tb := sm_q1 34 rfl rfl
theorem ml2_20 : Cond.methodLink "TwoFliers$Odds" 20 ⟨"TwoFliers$Book", "<init>", "()V"⟩ ∈ sm_tb := sm_q1 63 rfl rfl
theorem ml7_28 : ("TwoFliers", 28, (⟨"TwoFliers$Odds", "<init>", "()V"⟩ : MethodName), "TwoFliers") ∈ sm_nl := by decide +kernel
theorem ml7_53 : ("TwoFliers", 53, (⟨"TwoFliers$Reader", "<init>", "()V"⟩ : MethodName), "TwoFliers") ∈ sm_nl := by decide +kernel
theorem ml7_60 : ("TwoFliers", 60, (⟨"TwoFliers$Ship", "<init>", "()V"⟩ : MethodName), "TwoFliers") ∈ sm_nl := by decide +kernel
theorem mlL_12 : Cond.methodLink "TwoFliersLaw" 12 ⟨"TwoFliersModel", "<init>", "()V"⟩ ∈ sm_tb := sm_q4 102 rfl rfl
theorem mlL_9 : Cond.methodLink "TwoFliersLaw" 9 ⟨"TwoFliers", "<init>", "()V"⟩ ∈ sm_tb := sm_q1 16 rfl rfl
theorem ac_boolean : Cond.arrayClass .boolean ∈ sm_tb := sm_q1 169 rfl rfl
theorem ac_byte : Cond.arrayClass .byte ∈ sm_tb := sm_q1 60 rfl rfl
theorem ac_int : Cond.arrayClass .int ∈ sm_tb := sm_q1 59 rfl rfl
theorem ac_long : Cond.arrayClass .long ∈ sm_tb := sm_q1 141 rfl rfl
theorem ci0 : Cond.instantiable "TwoFliers$Book" 2 ∈ sm_tb ∧ Cond.initialized "TwoFliers$Book" ∈ sm_tb := ⟨sm_q1 62 rfl rfl, sm_q1 4 rfl rfl⟩
theorem ci2 : Cond.instantiable "TwoFliers$Odds" 9 ∈ sm_tb ∧ Cond.initialized "TwoFliers$Odds" ∈ sm_tb := ⟨sm_q1 27 rfl rfl, sm_q1 2 rfl rfl⟩
theorem ci3 : Cond.instantiable "TwoFliers$Plane" 4 ∈ sm_tb ∧ Cond.initialized "TwoFliers$Plane" ∈ sm_tb := ⟨sm_q1 33 rfl rfl, sm_q1 3 rfl rfl⟩
theorem ci4 : Cond.instantiable "TwoFliers$Reader" 6 ∈ sm_tb ∧ Cond.initialized "TwoFliers$Reader" ∈ sm_tb := ⟨sm_q1 143 rfl rfl, sm_q1 6 rfl rfl⟩
theorem ci5 : Cond.instantiable "TwoFliers$Ship" 4 ∈ sm_tb ∧ Cond.initialized "TwoFliers$Ship" ∈ sm_tb := ⟨sm_q1 171 rfl rfl, sm_q1 7 rfl rfl⟩
theorem ci6 : Cond.instantiable "TwoFliers$Sign" 5 ∈ sm_tb ∧ Cond.initialized "TwoFliers$Sign" ∈ sm_tb := ⟨sm_q1 69 rfl rfl, sm_q1 5 rfl rfl⟩
theorem ci7 : Cond.instantiable "TwoFliers" 16 ∈ sm_tb ∧ Cond.initialized "TwoFliers" ∈ sm_tb := ⟨sm_q1 15 rfl rfl, sm_q1 1 rfl rfl⟩
theorem ci8 : Cond.instantiable "TwoFliersModel" 30 ∈ sm_tb ∧ Cond.initialized "TwoFliersModel" ∈ sm_tb := ⟨sm_q4 101 rfl rfl, sm_q1 9 rfl rfl⟩
theorem cx0_11 : Cond.classLink "TwoFliers$Book" 11 "TwoFliers$Sign" ∈ sm_tb := sm_q1 67 rfl rfl
theorem cx2_18 : Cond.classLink "TwoFliers$Odds" 18 "TwoFliers$Book" ∈ sm_tb := sm_q1 61 rfl rfl
theorem cx2_27 : Cond.classLink "TwoFliers$Odds" 27 ("[" ++ (FieldType.array .int).toString) ∈ sm_tb := sm_q1 106 (by decide +kernel) rfl
theorem cx2_9 : Cond.classLink "TwoFliers$Odds" 9 "TwoFliers$Plane" ∈ sm_tb := sm_q1 32 rfl rfl
theorem cx7_18 : Cond.classLink "TwoFliers" 18 ("[" ++ (FieldType.array .byte).toString) ∈ sm_tb := sm_q1 24 (by decide +kernel) rfl
theorem cx7_26 : Cond.classLink "TwoFliers" 26 "TwoFliers$Odds" ∈ sm_tb := sm_q1 26 rfl rfl
theorem cx7_51 : Cond.classLink "TwoFliers" 51 "TwoFliers$Reader" ∈ sm_tb := sm_q1 142 rfl rfl
theorem cx7_58 : Cond.classLink "TwoFliers" 58 "TwoFliers$Ship" ∈ sm_tb := sm_q1 170 rfl rfl
theorem cx7_9 : Cond.classLink "TwoFliers" 9 ("[" ++ (FieldType.array .int).toString) ∈ sm_tb := sm_q1 22 (by decide +kernel) rfl
theorem cxL_10 : Cond.classLink "TwoFliersLaw" 10 "TwoFliersModel" ∈ sm_tb := sm_q4 100 rfl rfl
theorem cxL_7 : Cond.classLink "TwoFliersLaw" 7 "TwoFliers" ∈ sm_tb := sm_q1 14 rfl rfl
theorem mb0_3 : Cond.methodLink "TwoFliers$Book" 3 objectInit ∈ sm_tb := sm_q1 66 rfl rfl
theorem mb2_3 : Cond.methodLink "TwoFliers$Odds" 3 objectInit ∈ sm_tb := sm_q1 31 rfl rfl
theorem mb3_3 : Cond.methodLink "TwoFliers$Plane" 3 objectInit ∈ sm_tb := sm_q1 37 rfl rfl
theorem mb4_3 : Cond.methodLink "TwoFliers$Reader" 3 objectInit ∈ sm_tb := sm_q1 147 rfl rfl
theorem mb5_1 : Cond.methodLink "TwoFliers$Ship" 1 objectInit ∈ sm_tb := sm_q1 175 rfl rfl
theorem mb6_3 : Cond.methodLink "TwoFliers$Sign" 3 objectInit ∈ sm_tb := sm_q1 73 rfl rfl
theorem mb7_1 : Cond.methodLink "TwoFliers" 1 objectInit ∈ sm_tb := sm_q1 19 rfl rfl
theorem mb8_1 : Cond.methodLink "TwoFliersModel" 1 objectInit ∈ sm_tb := sm_q4 105 rfl rfl
theorem mo : Cond.instanceMethod objectInit ∈ sm_tb ∧ Cond.code objectInit ⟨#[0xb1]⟩ 1 none ∈ sm_tb := ⟨sm_q1 20 rfl rfl, sm_q1 21 rfl rfl⟩
