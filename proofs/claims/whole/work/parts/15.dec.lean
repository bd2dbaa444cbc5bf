theorem d8_bare_47 : decode prog_10_method_83_code 47 = .ok (.if_icmp .gt 23, 3) := by decide +kernel
theorem d8_bare_50 : decode prog_10_method_83_code 50 = .ok (.iload_n 1, 1) := by decide +kernel
theorem d8_bare_51 : decode prog_10_method_83_code 51 = .ok (.ifCond .ne 19, 3) := by decide +kernel
theorem d8_bare_54 : decode prog_10_method_83_code 54 = .ok (.lload_n 2, 1) := by decide +kernel
theorem d8_bare_55 : decode prog_10_method_83_code 55 = .ok (.aload_n 0, 1) := by decide +kernel
theorem d8_bare_56 : decode prog_10_method_83_code 56 = .ok (.iload 4, 2) := by decide +kernel
theorem d8_bare_58 : decode prog_10_method_83_code 58 = .ok (.invokevirtual 204, 3) := by decide +kernel
theorem d8_bare_61 : decode prog_10_method_83_code 61 = .ok (.i2l, 1) := by decide +kernel
theorem d8_bare_62 : decode prog_10_method_83_code 62 = .ok (.ladd, 1) := by decide +kernel
theorem d8_bare_63 : decode prog_10_method_83_code 63 = .ok (.lstore_n 2, 1) := by decide +kernel
theorem d8_bare_64 : decode prog_10_method_83_code 64 = .ok (.iinc 4 1, 3) := by decide +kernel
theorem d8_bare_67 : decode prog_10_method_83_code 67 = .ok (.goto (-26), 3) := by decide +kernel
theorem d8_bare_70 : decode prog_10_method_83_code 70 = .ok (.iconst 0, 1) := by decide +kernel
theorem d8_bare_71 : decode prog_10_method_83_code 71 = .ok (.istore 4, 2) := by decide +kernel
theorem d8_bare_73 : decode prog_10_method_83_code 73 = .ok (.iload 4, 2) := by decide +kernel
theorem d8_bare_75 : decode prog_10_method_83_code 75 = .ok (.aload_n 0, 1) := by decide +kernel
theorem d8_bare_76 : decode prog_10_method_83_code 76 = .ok (.invokevirtual 129, 3) := by decide +kernel
theorem d8_bare_79 : decode prog_10_method_83_code 79 = .ok (.if_icmp .ge 19, 3) := by decide +kernel
theorem d8_bare_82 : decode prog_10_method_83_code 82 = .ok (.iload_n 1, 1) := by decide +kernel
theorem d8_bare_83 : decode prog_10_method_83_code 83 = .ok (.ifCond .ne 15, 3) := by decide +kernel
theorem d8_bare_86 : decode prog_10_method_83_code 86 = .ok (.lload_n 2, 1) := by decide +kernel
theorem d8_bare_87 : decode prog_10_method_83_code 87 = .ok (.ldc2_w 202, 3) := by decide +kernel
theorem d8_bare_90 : decode prog_10_method_83_code 90 = .ok (.lmul, 1) := by decide +kernel
theorem d8_bare_91 : decode prog_10_method_83_code 91 = .ok (.lstore_n 2, 1) := by decide +kernel
theorem d8_bare_92 : decode prog_10_method_83_code 92 = .ok (.iinc 4 1, 3) := by decide +kernel
theorem d8_bare_95 : decode prog_10_method_83_code 95 = .ok (.goto (-22), 3) := by decide +kernel
theorem d8_bare_98 : decode prog_10_method_83_code 98 = .ok (.lload_n 2, 1) := by decide +kernel
theorem d8_bare_99 : decode prog_10_method_83_code 99 = .ok (.lreturn, 1) := by decide +kernel
theorem d8_likelier_0 : decode prog_10_method_84_code 0 = .ok (.iload_n 1, 1) := by decide +kernel
theorem d8_likelier_1 : decode prog_10_method_84_code 1 = .ok (.iconst 0, 1) := by decide +kernel
theorem d8_likelier_2 : decode prog_10_method_84_code 2 = .ok (.iconst 3, 1) := by decide +kernel
theorem d8_likelier_3 : decode prog_10_method_84_code 3 = .ok (.invokestatic 80, 3) := by decide +kernel
theorem d8_likelier_6 : decode prog_10_method_84_code 6 = .ok (.ifCond .eq 12, 3) := by decide +kernel
theorem d8_likelier_9 : decode prog_10_method_84_code 9 = .ok (.iload_n 2, 1) := by decide +kernel
theorem d8_likelier_10 : decode prog_10_method_84_code 10 = .ok (.iconst 0, 1) := by decide +kernel
theorem d8_likelier_11 : decode prog_10_method_84_code 11 = .ok (.iconst 3, 1) := by decide +kernel
theorem d8_likelier_12 : decode prog_10_method_84_code 12 = .ok (.invokestatic 80, 3) := by decide +kernel
theorem d8_likelier_15 : decode prog_10_method_84_code 15 = .ok (.ifCond .ne 5, 3) := by decide +kernel
theorem d8_likelier_18 : decode prog_10_method_84_code 18 = .ok (.iconst (-1), 1) := by decide +kernel
theorem d8_likelier_19 : decode prog_10_method_84_code 19 = .ok (.ireturn, 1) := by decide +kernel
theorem d8_likelier_20 : decode prog_10_method_84_code 20 = .ok (.iload_n 1, 1) := by decide +kernel
theorem d8_likelier_21 : decode prog_10_method_84_code 21 = .ok (.ifCond .le 12, 3) := by decide +kernel
theorem d8_likelier_24 : decode prog_10_method_84_code 24 = .ok (.aload_n 0, 1) := by decide +kernel
theorem d8_likelier_25 : decode prog_10_method_84_code 25 = .ok (.getfield 35, 3) := by decide +kernel
theorem d8_likelier_28 : decode prog_10_method_84_code 28 = .ok (.iload_n 1, 1) := by decide +kernel
theorem d8_likelier_29 : decode prog_10_method_84_code 29 = .ok (.baload, 1) := by decide +kernel
theorem d8_likelier_30 : decode prog_10_method_84_code 30 = .ok (.ifCond .eq 16, 3) := by decide +kernel
theorem d8_likelier_33 : decode prog_10_method_84_code 33 = .ok (.iload_n 2, 1) := by decide +kernel
theorem d8_likelier_34 : decode prog_10_method_84_code 34 = .ok (.ifCond .le 18, 3) := by decide +kernel
theorem d8_likelier_37 : decode prog_10_method_84_code 37 = .ok (.aload_n 0, 1) := by decide +kernel
theorem d8_likelier_38 : decode prog_10_method_84_code 38 = .ok (.getfield 35, 3) := by decide +kernel
theorem d8_likelier_41 : decode prog_10_method_84_code 41 = .ok (.iload_n 2, 1) := by decide +kernel
theorem d8_likelier_42 : decode prog_10_method_84_code 42 = .ok (.baload, 1) := by decide +kernel
theorem d8_likelier_43 : decode prog_10_method_84_code 43 = .ok (.ifCond .ne 9, 3) := by decide +kernel
theorem d8_likelier_46 : decode prog_10_method_84_code 46 = .ok (.aload_n 0, 1) := by decide +kernel
theorem d8_likelier_47 : decode prog_10_method_84_code 47 = .ok (.iconst 1, 1) := by decide +kernel
theorem d8_likelier_48 : decode prog_10_method_84_code 48 = .ok (.invokevirtual 88, 3) := by decide +kernel
theorem d8_likelier_51 : decode prog_10_method_84_code 51 = .ok (.ireturn, 1) := by decide +kernel
theorem d8_likelier_52 : decode prog_10_method_84_code 52 = .ok (.aload_n 0, 1) := by decide +kernel
theorem d8_likelier_53 : decode prog_10_method_84_code 53 = .ok (.invokevirtual 237, 3) := by decide +kernel
theorem d8_likelier_56 : decode prog_10_method_84_code 56 = .ok (.bipush 6, 2) := by decide +kernel
theorem d8_likelier_58 : decode prog_10_method_84_code 58 = .ok (.if_icmp .le 6, 3) := by decide +kernel
theorem d8_likelier_61 : decode prog_10_method_84_code 61 = .ok (.bipush (-6), 2) := by decide +kernel
theorem d8_likelier_63 : decode prog_10_method_84_code 63 = .ok (.ireturn, 1) := by decide +kernel
theorem d8_likelier_64 : decode prog_10_method_84_code 64 = .ok (.aload_n 0, 1) := by decide +kernel
theorem d8_likelier_65 : decode prog_10_method_84_code 65 = .ok (.iload_n 1, 1) := by decide +kernel
theorem d8_likelier_66 : decode prog_10_method_84_code 66 = .ok (.invokevirtual 240, 3) := by decide +kernel
theorem d8_likelier_69 : decode prog_10_method_84_code 69 = .ok (.aload_n 0, 1) := by decide +kernel
theorem d8_likelier_70 : decode prog_10_method_84_code 70 = .ok (.getfield 222, 3) := by decide +kernel
theorem d8_likelier_73 : decode prog_10_method_84_code 73 = .ok (.aload_n 0, 1) := by decide +kernel
theorem d8_likelier_74 : decode prog_10_method_84_code 74 = .ok (.iload_n 2, 1) := by decide +kernel
theorem d8_likelier_75 : decode prog_10_method_84_code 75 = .ok (.invokevirtual 260, 3) := by decide +kernel
theorem d8_likelier_78 : decode prog_10_method_84_code 78 = .ok (.lmul, 1) := by decide +kernel
theorem d8_likelier_79 : decode prog_10_method_84_code 79 = .ok (.lstore_n 3, 1) := by decide +kernel
theorem d8_likelier_80 : decode prog_10_method_84_code 80 = .ok (.aload_n 0, 1) := by decide +kernel
theorem d8_likelier_81 : decode prog_10_method_84_code 81 = .ok (.iload_n 2, 1) := by decide +kernel
theorem d8_likelier_82 : decode prog_10_method_84_code 82 = .ok (.invokevirtual 240, 3) := by decide +kernel
theorem d8_likelier_85 : decode prog_10_method_84_code 85 = .ok (.aload_n 0, 1) := by decide +kernel
theorem d8_likelier_86 : decode prog_10_method_84_code 86 = .ok (.getfield 222, 3) := by decide +kernel
theorem d8_likelier_89 : decode prog_10_method_84_code 89 = .ok (.aload_n 0, 1) := by decide +kernel
theorem d8_likelier_90 : decode prog_10_method_84_code 90 = .ok (.iload_n 1, 1) := by decide +kernel
theorem d8_likelier_91 : decode prog_10_method_84_code 91 = .ok (.invokevirtual 260, 3) := by decide +kernel
theorem d8_likelier_94 : decode prog_10_method_84_code 94 = .ok (.lmul, 1) := by decide +kernel
theorem d8_likelier_95 : decode prog_10_method_84_code 95 = .ok (.lstore 5, 2) := by decide +kernel
theorem d8_likelier_97 : decode prog_10_method_84_code 97 = .ok (.lload 5, 2) := by decide +kernel
theorem d8_likelier_99 : decode prog_10_method_84_code 99 = .ok (.lconst 0, 1) := by decide +kernel
theorem d8_likelier_100 : decode prog_10_method_84_code 100 = .ok (.lcmp, 1) := by decide +kernel
theorem d8_likelier_101 : decode prog_10_method_84_code 101 = .ok (.ifCond .eq 13, 3) := by decide +kernel
theorem d8_likelier_104 : decode prog_10_method_84_code 104 = .ok (.aload_n 0, 1) := by decide +kernel
theorem d8_likelier_105 : decode prog_10_method_84_code 105 = .ok (.iload_n 2, 1) := by decide +kernel
theorem d8_likelier_106 : decode prog_10_method_84_code 106 = .ok (.invokevirtual 260, 3) := by decide +kernel
theorem d8_likelier_109 : decode prog_10_method_84_code 109 = .ok (.lconst 0, 1) := by decide +kernel
theorem d8_likelier_110 : decode prog_10_method_84_code 110 = .ok (.lcmp, 1) := by decide +kernel
theorem d8_likelier_111 : decode prog_10_method_84_code 111 = .ok (.ifCond .ne 9, 3) := by decide +kernel
theorem d8_likelier_114 : decode prog_10_method_84_code 114 = .ok (.aload_n 0, 1) := by decide +kernel
theorem d8_likelier_115 : decode prog_10_method_84_code 115 = .ok (.iconst 4, 1) := by decide +kernel
theorem d8_likelier_116 : decode prog_10_method_84_code 116 = .ok (.invokevirtual 88, 3) := by decide +kernel
theorem d8_likelier_119 : decode prog_10_method_84_code 119 = .ok (.ireturn, 1) := by decide +kernel
theorem d8_likelier_120 : decode prog_10_method_84_code 120 = .ok (.aload_n 0, 1) := by decide +kernel
theorem d8_likelier_121 : decode prog_10_method_84_code 121 = .ok (.lload_n 3, 1) := by decide +kernel
theorem d8_likelier_122 : decode prog_10_method_84_code 122 = .ok (.lload 5, 2) := by decide +kernel
theorem d8_likelier_124 : decode prog_10_method_84_code 124 = .ok (.lload_n 3, 1) := by decide +kernel
theorem d8_likelier_125 : decode prog_10_method_84_code 125 = .ok (.lload 5, 2) := by decide +kernel
theorem d8_likelier_127 : decode prog_10_method_84_code 127 = .ok (.lcmp, 1) := by decide +kernel
theorem d8_likelier_128 : decode prog_10_method_84_code 128 = .ok (.ifCond .le 7, 3) := by decide +kernel
theorem d8_likelier_131 : decode prog_10_method_84_code 131 = .ok (.iconst 2, 1) := by decide +kernel
theorem d8_likelier_132 : decode prog_10_method_84_code 132 = .ok (.goto 15, 3) := by decide +kernel
theorem d8_likelier_135 : decode prog_10_method_84_code 135 = .ok (.lload_n 3, 1) := by decide +kernel
theorem d8_likelier_136 : decode prog_10_method_84_code 136 = .ok (.lload 5, 2) := by decide +kernel
theorem d8_likelier_138 : decode prog_10_method_84_code 138 = .ok (.lcmp, 1) := by decide +kernel
theorem d8_likelier_139 : decode prog_10_method_84_code 139 = .ok (.ifCond .ne 7, 3) := by decide +kernel
theorem d8_likelier_142 : decode prog_10_method_84_code 142 = .ok (.iconst 1, 1) := by decide +kernel
theorem d8_likelier_143 : decode prog_10_method_84_code 143 = .ok (.goto 4, 3) := by decide +kernel
theorem d8_likelier_146 : decode prog_10_method_84_code 146 = .ok (.iconst 0, 1) := by decide +kernel
theorem d8_likelier_147 : decode prog_10_method_84_code 147 = .ok (.invokevirtual 247, 3) := by decide +kernel
theorem d8_likelier_150 : decode prog_10_method_84_code 150 = .ok (.ireturn, 1) := by decide +kernel
theorem d2_weightBehind_0 : decode prog_4_method_6_code 0 = .ok (.lconst 0, 1) := by decide +kernel
theorem d2_weightBehind_1 : decode prog_4_method_6_code 1 = .ok (.lstore_n 3, 1) := by decide +kernel
theorem d2_weightBehind_2 : decode prog_4_method_6_code 2 = .ok (.iload_n 1, 1) := by decide +kernel
theorem d2_weightBehind_3 : decode prog_4_method_6_code 3 = .ok (.iload_n 2, 1) := by decide +kernel
theorem d2_weightBehind_4 : decode prog_4_method_6_code 4 = .ok (.invokestatic 68, 3) := by decide +kernel
theorem d2_weightBehind_7 : decode prog_4_method_6_code 7 = .ok (.istore 5, 2) := by decide +kernel
theorem d2_weightBehind_9 : decode prog_4_method_6_code 9 = .ok (.iconst 0, 1) := by decide +kernel
theorem d2_weightBehind_10 : decode prog_4_method_6_code 10 = .ok (.istore 6, 2) := by decide +kernel
theorem d2_weightBehind_12 : decode prog_4_method_6_code 12 = .ok (.iload 6, 2) := by decide +kernel
theorem d2_weightBehind_14 : decode prog_4_method_6_code 14 = .ok (.bipush 12, 2) := by decide +kernel
theorem d2_weightBehind_16 : decode prog_4_method_6_code 16 = .ok (.if_icmp .ge 34, 3) := by decide +kernel
theorem d2_weightBehind_19 : decode prog_4_method_6_code 19 = .ok (.iload 5, 2) := by decide +kernel
theorem d2_weightBehind_21 : decode prog_4_method_6_code 21 = .ok (.bipush (-9), 2) := by decide +kernel
theorem d2_weightBehind_23 : decode prog_4_method_6_code 23 = .ok (.if_icmp .eq 27, 3) := by decide +kernel
theorem d2_weightBehind_26 : decode prog_4_method_6_code 26 = .ok (.lload_n 3, 1) := by decide +kernel
theorem d2_weightBehind_27 : decode prog_4_method_6_code 27 = .ok (.aload_n 0, 1) := by decide +kernel
theorem d2_weightBehind_28 : decode prog_4_method_6_code 28 = .ok (.getfield 32, 3) := by decide +kernel
theorem d2_weightBehind_31 : decode prog_4_method_6_code 31 = .ok (.iload 5, 2) := by decide +kernel
theorem d2_weightBehind_33 : decode prog_4_method_6_code 33 = .ok (.laload, 1) := by decide +kernel
theorem d2_weightBehind_34 : decode prog_4_method_6_code 34 = .ok (.ladd, 1) := by decide +kernel
theorem d2_weightBehind_35 : decode prog_4_method_6_code 35 = .ok (.lstore_n 3, 1) := by decide +kernel
theorem d2_weightBehind_36 : decode prog_4_method_6_code 36 = .ok (.iload 5, 2) := by decide +kernel
theorem d2_weightBehind_38 : decode prog_4_method_6_code 38 = .ok (.iload_n 2, 1) := by decide +kernel
theorem d2_weightBehind_39 : decode prog_4_method_6_code 39 = .ok (.invokestatic 68, 3) := by decide +kernel
theorem d2_weightBehind_42 : decode prog_4_method_6_code 42 = .ok (.istore 5, 2) := by decide +kernel
theorem d2_weightBehind_44 : decode prog_4_method_6_code 44 = .ok (.iinc 6 1, 3) := by decide +kernel
theorem d2_weightBehind_47 : decode prog_4_method_6_code 47 = .ok (.goto (-35), 3) := by decide +kernel
theorem d2_weightBehind_50 : decode prog_4_method_6_code 50 = .ok (.lload_n 3, 1) := by decide +kernel
theorem d2_weightBehind_51 : decode prog_4_method_6_code 51 = .ok (.lreturn, 1) := by decide +kernel
theorem d1_manyBehind_0 : decode prog_3_method_9_code 0 = .ok (.iconst 0, 1) := by decide +kernel
theorem d1_manyBehind_1 : decode prog_3_method_9_code 1 = .ok (.istore_n 2, 1) := by decide +kernel
theorem d1_manyBehind_2 : decode prog_3_method_9_code 2 = .ok (.iload_n 0, 1) := by decide +kernel
theorem d1_manyBehind_3 : decode prog_3_method_9_code 3 = .ok (.iload_n 1, 1) := by decide +kernel
theorem d1_manyBehind_4 : decode prog_3_method_9_code 4 = .ok (.invokestatic 28, 3) := by decide +kernel
theorem d1_manyBehind_7 : decode prog_3_method_9_code 7 = .ok (.istore_n 3, 1) := by decide +kernel
theorem d1_manyBehind_8 : decode prog_3_method_9_code 8 = .ok (.iconst 0, 1) := by decide +kernel
theorem d1_manyBehind_9 : decode prog_3_method_9_code 9 = .ok (.istore 4, 2) := by decide +kernel
theorem d1_manyBehind_11 : decode prog_3_method_9_code 11 = .ok (.iload 4, 2) := by decide +kernel
theorem d1_manyBehind_13 : decode prog_3_method_9_code 13 = .ok (.bipush 12, 2) := by decide +kernel
theorem d1_manyBehind_15 : decode prog_3_method_9_code 15 = .ok (.if_icmp .ge 24, 3) := by decide +kernel
theorem d1_manyBehind_18 : decode prog_3_method_9_code 18 = .ok (.iload_n 3, 1) := by decide +kernel
theorem d1_manyBehind_19 : decode prog_3_method_9_code 19 = .ok (.bipush (-9), 2) := by decide +kernel
theorem d1_manyBehind_21 : decode prog_3_method_9_code 21 = .ok (.if_icmp .eq 18, 3) := by decide +kernel
theorem d1_manyBehind_24 : decode prog_3_method_9_code 24 = .ok (.iinc 2 1, 3) := by decide +kernel
theorem d1_manyBehind_27 : decode prog_3_method_9_code 27 = .ok (.iload_n 3, 1) := by decide +kernel
theorem d1_manyBehind_28 : decode prog_3_method_9_code 28 = .ok (.iload_n 1, 1) := by decide +kernel
theorem d1_manyBehind_29 : decode prog_3_method_9_code 29 = .ok (.invokestatic 28, 3) := by decide +kernel
theorem d1_manyBehind_32 : decode prog_3_method_9_code 32 = .ok (.istore_n 3, 1) := by decide +kernel
theorem d1_manyBehind_33 : decode prog_3_method_9_code 33 = .ok (.iinc 4 1, 3) := by decide +kernel
theorem d1_manyBehind_36 : decode prog_3_method_9_code 36 = .ok (.goto (-25), 3) := by decide +kernel
theorem d1_manyBehind_39 : decode prog_3_method_9_code 39 = .ok (.iload_n 2, 1) := by decide +kernel
theorem d1_manyBehind_40 : decode prog_3_method_9_code 40 = .ok (.ireturn, 1) := by decide +kernel
theorem d7_line_0 : decode prog_1_method_35_code 0 = .ok (.iload_n 1, 1) := by decide +kernel
theorem d7_line_1 : decode prog_1_method_35_code 1 = .ok (.invokestatic 214, 3) := by decide +kernel
theorem d7_line_4 : decode prog_1_method_35_code 4 = .ok (.ifCond .eq 17, 3) := by decide +kernel
theorem d7_line_7 : decode prog_1_method_35_code 7 = .ok (.iload_n 2, 1) := by decide +kernel
theorem d7_line_8 : decode prog_1_method_35_code 8 = .ok (.invokestatic 120, 3) := by decide +kernel
theorem d7_line_11 : decode prog_1_method_35_code 11 = .ok (.ifCond .eq 10, 3) := by decide +kernel
theorem d7_line_14 : decode prog_1_method_35_code 14 = .ok (.iload_n 3, 1) := by decide +kernel
theorem d7_line_15 : decode prog_1_method_35_code 15 = .ok (.invokestatic 127, 3) := by decide +kernel
theorem d7_line_18 : decode prog_1_method_35_code 18 = .ok (.ifCond .ne 5, 3) := by decide +kernel
theorem d7_line_21 : decode prog_1_method_35_code 21 = .ok (.iconst (-1), 1) := by decide +kernel
theorem d7_line_22 : decode prog_1_method_35_code 22 = .ok (.ireturn, 1) := by decide +kernel
theorem d7_line_23 : decode prog_1_method_35_code 23 = .ok (.aload_n 0, 1) := by decide +kernel
theorem d7_line_24 : decode prog_1_method_35_code 24 = .ok (.iload_n 1, 1) := by decide +kernel
theorem d7_line_25 : decode prog_1_method_35_code 25 = .ok (.invokevirtual 217, 3) := by decide +kernel
theorem d7_line_28 : decode prog_1_method_35_code 28 = .ok (.istore 4, 2) := by decide +kernel
theorem d7_line_30 : decode prog_1_method_35_code 30 = .ok (.iload 4, 2) := by decide +kernel
theorem d7_line_32 : decode prog_1_method_35_code 32 = .ok (.ifCond .eq 6, 3) := by decide +kernel
theorem d7_line_35 : decode prog_1_method_35_code 35 = .ok (.iload 4, 2) := by decide +kernel
theorem d7_line_37 : decode prog_1_method_35_code 37 = .ok (.ireturn, 1) := by decide +kernel
theorem d7_line_38 : decode prog_1_method_35_code 38 = .ok (.iload_n 3, 1) := by decide +kernel
theorem d7_line_39 : decode prog_1_method_35_code 39 = .ok (.iconst 4, 1) := by decide +kernel
theorem d7_line_40 : decode prog_1_method_35_code 40 = .ok (.invokestatic 267, 3) := by decide +kernel
theorem d7_line_43 : decode prog_1_method_35_code 43 = .ok (.istore 5, 2) := by decide +kernel
theorem d7_line_45 : decode prog_1_method_35_code 45 = .ok (.aload_n 0, 1) := by decide +kernel
theorem d7_line_46 : decode prog_1_method_35_code 46 = .ok (.getfield 29, 3) := by decide +kernel
theorem d7_line_49 : decode prog_1_method_35_code 49 = .ok (.getfield 220, 3) := by decide +kernel
theorem d7_line_52 : decode prog_1_method_35_code 52 = .ok (.iload_n 2, 1) := by decide +kernel
theorem d7_line_53 : decode prog_1_method_35_code 53 = .ok (.laload, 1) := by decide +kernel
theorem d7_line_54 : decode prog_1_method_35_code 54 = .ok (.aload_n 0, 1) := by decide +kernel
theorem d7_line_55 : decode prog_1_method_35_code 55 = .ok (.getfield 29, 3) := by decide +kernel
theorem d7_line_58 : decode prog_1_method_35_code 58 = .ok (.iload_n 2, 1) := by decide +kernel
theorem d7_line_59 : decode prog_1_method_35_code 59 = .ok (.iload_n 3, 1) := by decide +kernel
theorem d7_line_60 : decode prog_1_method_35_code 60 = .ok (.invokevirtual 270, 3) := by decide +kernel
theorem d7_line_63 : decode prog_1_method_35_code 63 = .ok (.ladd, 1) := by decide +kernel
theorem d7_line_64 : decode prog_1_method_35_code 64 = .ok (.aload_n 0, 1) := by decide +kernel
theorem d7_line_65 : decode prog_1_method_35_code 65 = .ok (.getfield 29, 3) := by decide +kernel
theorem d7_line_68 : decode prog_1_method_35_code 68 = .ok (.iload_n 2, 1) := by decide +kernel
theorem d7_line_69 : decode prog_1_method_35_code 69 = .ok (.iload 5, 2) := by decide +kernel
theorem d7_line_71 : decode prog_1_method_35_code 71 = .ok (.invokevirtual 270, 3) := by decide +kernel
theorem d7_line_74 : decode prog_1_method_35_code 74 = .ok (.ladd, 1) := by decide +kernel
theorem d7_line_75 : decode prog_1_method_35_code 75 = .ok (.lstore 6, 2) := by decide +kernel
theorem d7_line_77 : decode prog_1_method_35_code 77 = .ok (.aload_n 0, 1) := by decide +kernel
theorem d7_line_78 : decode prog_1_method_35_code 78 = .ok (.lload 6, 2) := by decide +kernel
theorem d7_line_80 : decode prog_1_method_35_code 80 = .ok (.aload_n 0, 1) := by decide +kernel
theorem d7_line_81 : decode prog_1_method_35_code 81 = .ok (.getfield 29, 3) := by decide +kernel
theorem d7_line_84 : decode prog_1_method_35_code 84 = .ok (.getfield 223, 3) := by decide +kernel
theorem d7_line_87 : decode prog_1_method_35_code 87 = .ok (.invokevirtual 226, 3) := by decide +kernel
theorem d7_line_90 : decode prog_1_method_35_code 90 = .ok (.iconst 1, 1) := by decide +kernel
theorem d7_line_91 : decode prog_1_method_35_code 91 = .ok (.iload_n 2, 1) := by decide +kernel
theorem d7_line_92 : decode prog_1_method_35_code 92 = .ok (.iload_n 3, 1) := by decide +kernel
theorem d7_line_93 : decode prog_1_method_35_code 93 = .ok (.invokestatic 273, 3) := by decide +kernel
theorem d7_line_96 : decode prog_1_method_35_code 96 = .ok (.iadd, 1) := by decide +kernel
theorem d7_line_97 : decode prog_1_method_35_code 97 = .ok (.iload_n 2, 1) := by decide +kernel
theorem d7_line_98 : decode prog_1_method_35_code 98 = .ok (.iload 5, 2) := by decide +kernel
theorem d7_line_100 : decode prog_1_method_35_code 100 = .ok (.invokestatic 273, 3) := by decide +kernel
theorem d7_line_103 : decode prog_1_method_35_code 103 = .ok (.iadd, 1) := by decide +kernel
theorem d7_line_104 : decode prog_1_method_35_code 104 = .ok (.ireturn, 1) := by decide +kernel
theorem d8_line_0 : decode prog_10_method_85_code 0 = .ok (.iload_n 2, 1) := by decide +kernel
theorem d8_line_1 : decode prog_10_method_85_code 1 = .ok (.invokestatic 117, 3) := by decide +kernel
theorem d8_line_4 : decode prog_10_method_85_code 4 = .ok (.ifCond .eq 10, 3) := by decide +kernel
theorem d8_line_7 : decode prog_10_method_85_code 7 = .ok (.iload_n 3, 1) := by decide +kernel
theorem d8_line_8 : decode prog_10_method_85_code 8 = .ok (.invokestatic 126, 3) := by decide +kernel
theorem d8_line_11 : decode prog_10_method_85_code 11 = .ok (.ifCond .ne 5, 3) := by decide +kernel
theorem d8_line_14 : decode prog_10_method_85_code 14 = .ok (.iconst (-1), 1) := by decide +kernel
theorem d8_line_15 : decode prog_10_method_85_code 15 = .ok (.ireturn, 1) := by decide +kernel
theorem d8_line_16 : decode prog_10_method_85_code 16 = .ok (.aload_n 0, 1) := by decide +kernel
theorem d8_line_17 : decode prog_10_method_85_code 17 = .ok (.iload_n 1, 1) := by decide +kernel
theorem d8_line_18 : decode prog_10_method_85_code 18 = .ok (.invokevirtual 244, 3) := by decide +kernel
theorem d8_line_21 : decode prog_10_method_85_code 21 = .ok (.istore 4, 2) := by decide +kernel
theorem d8_line_23 : decode prog_10_method_85_code 23 = .ok (.iload 4, 2) := by decide +kernel
theorem d8_line_25 : decode prog_10_method_85_code 25 = .ok (.ifCond .ge 6, 3) := by decide +kernel
theorem d8_line_28 : decode prog_10_method_85_code 28 = .ok (.iload 4, 2) := by decide +kernel
theorem d8_line_30 : decode prog_10_method_85_code 30 = .ok (.ireturn, 1) := by decide +kernel
theorem d8_line_31 : decode prog_10_method_85_code 31 = .ok (.aload_n 0, 1) := by decide +kernel
theorem d8_line_32 : decode prog_10_method_85_code 32 = .ok (.getfield 59, 3) := by decide +kernel
theorem d8_line_35 : decode prog_10_method_85_code 35 = .ok (.iload_n 2, 1) := by decide +kernel
theorem d8_line_36 : decode prog_10_method_85_code 36 = .ok (.laload, 1) := by decide +kernel
theorem d8_line_37 : decode prog_10_method_85_code 37 = .ok (.lstore 5, 2) := by decide +kernel
theorem d8_line_39 : decode prog_10_method_85_code 39 = .ok (.iconst 1, 1) := by decide +kernel
theorem d8_line_40 : decode prog_10_method_85_code 40 = .ok (.istore 7, 2) := by decide +kernel
theorem d8_line_42 : decode prog_10_method_85_code 42 = .ok (.iconst 0, 1) := by decide +kernel
theorem d8_line_43 : decode prog_10_method_85_code 43 = .ok (.istore 8, 2) := by decide +kernel
theorem d8_line_45 : decode prog_10_method_85_code 45 = .ok (.iload 8, 2) := by decide +kernel
theorem d8_line_47 : decode prog_10_method_85_code 47 = .ok (.iconst 2, 1) := by decide +kernel
theorem d8_line_48 : decode prog_10_method_85_code 48 = .ok (.if_icmp .ge 61, 3) := by decide +kernel
theorem d8_line_51 : decode prog_10_method_85_code 51 = .ok (.iload_n 2, 1) := by decide +kernel
theorem d8_line_52 : decode prog_10_method_85_code 52 = .ok (.iload_n 3, 1) := by decide +kernel
theorem d8_line_53 : decode prog_10_method_85_code 53 = .ok (.iconst 4, 1) := by decide +kernel
theorem d8_line_54 : decode prog_10_method_85_code 54 = .ok (.iload 8, 2) := by decide +kernel
theorem d8_line_56 : decode prog_10_method_85_code 56 = .ok (.imul, 1) := by decide +kernel
theorem d8_line_57 : decode prog_10_method_85_code 57 = .ok (.invokestatic 211, 3) := by decide +kernel
theorem d8_line_60 : decode prog_10_method_85_code 60 = .ok (.invokestatic 114, 3) := by decide +kernel
theorem d8_line_63 : decode prog_10_method_85_code 63 = .ok (.istore 9, 2) := by decide +kernel
theorem d8_line_65 : decode prog_10_method_85_code 65 = .ok (.iload 9, 2) := by decide +kernel
theorem d8_line_67 : decode prog_10_method_85_code 67 = .ok (.ifCond .lt 36, 3) := by decide +kernel
theorem d8_line_70 : decode prog_10_method_85_code 70 = .ok (.lload 5, 2) := by decide +kernel
theorem d8_line_72 : decode prog_10_method_85_code 72 = .ok (.aload_n 0, 1) := by decide +kernel
theorem d8_line_73 : decode prog_10_method_85_code 73 = .ok (.getfield 59, 3) := by decide +kernel
theorem d8_line_76 : decode prog_10_method_85_code 76 = .ok (.iload 9, 2) := by decide +kernel
theorem d8_line_78 : decode prog_10_method_85_code 78 = .ok (.laload, 1) := by decide +kernel
theorem d8_line_79 : decode prog_10_method_85_code 79 = .ok (.ladd, 1) := by decide +kernel
theorem d8_line_80 : decode prog_10_method_85_code 80 = .ok (.lstore 5, 2) := by decide +kernel
theorem d8_line_82 : decode prog_10_method_85_code 82 = .ok (.iinc 7 1, 3) := by decide +kernel
theorem d8_line_85 : decode prog_10_method_85_code 85 = .ok (.iload 9, 2) := by decide +kernel
theorem d8_line_87 : decode prog_10_method_85_code 87 = .ok (.iload_n 3, 1) := by decide +kernel
theorem d8_line_88 : decode prog_10_method_85_code 88 = .ok (.iconst 4, 1) := by decide +kernel
theorem d8_line_89 : decode prog_10_method_85_code 89 = .ok (.iload 8, 2) := by decide +kernel
theorem d8_line_91 : decode prog_10_method_85_code 91 = .ok (.imul, 1) := by decide +kernel
theorem d8_line_92 : decode prog_10_method_85_code 92 = .ok (.invokestatic 211, 3) := by decide +kernel
theorem d8_line_95 : decode prog_10_method_85_code 95 = .ok (.invokestatic 114, 3) := by decide +kernel
theorem d8_line_98 : decode prog_10_method_85_code 98 = .ok (.istore 9, 2) := by decide +kernel
theorem d8_line_100 : decode prog_10_method_85_code 100 = .ok (.goto (-35), 3) := by decide +kernel
theorem d8_line_103 : decode prog_10_method_85_code 103 = .ok (.iinc 8 1, 3) := by decide +kernel
theorem d8_line_106 : decode prog_10_method_85_code 106 = .ok (.goto (-61), 3) := by decide +kernel
theorem d8_line_109 : decode prog_10_method_85_code 109 = .ok (.aload_n 0, 1) := by decide +kernel
theorem d8_line_110 : decode prog_10_method_85_code 110 = .ok (.lload 5, 2) := by decide +kernel
theorem d8_line_112 : decode prog_10_method_85_code 112 = .ok (.aload_n 0, 1) := by decide +kernel
theorem d8_line_113 : decode prog_10_method_85_code 113 = .ok (.getfield 222, 3) := by decide +kernel
theorem d8_line_116 : decode prog_10_method_85_code 116 = .ok (.iload 7, 2) := by decide +kernel
theorem d8_line_118 : decode prog_10_method_85_code 118 = .ok (.invokevirtual 247, 3) := by decide +kernel
theorem d8_line_121 : decode prog_10_method_85_code 121 = .ok (.ireturn, 1) := by decide +kernel
theorem d5_wasIn_0 : decode prog_7_method_4_code 0 = .ok (.iconst 0, 1) := by decide +kernel
theorem d5_wasIn_1 : decode prog_7_method_4_code 1 = .ok (.istore_n 3, 1) := by decide +kernel
theorem d5_wasIn_2 : decode prog_7_method_4_code 2 = .ok (.iload_n 3, 1) := by decide +kernel
theorem d5_wasIn_3 : decode prog_7_method_4_code 3 = .ok (.iload_n 2, 1) := by decide +kernel
theorem d5_wasIn_4 : decode prog_7_method_4_code 4 = .ok (.if_icmp .gt 18, 3) := by decide +kernel
theorem d5_wasIn_7 : decode prog_7_method_4_code 7 = .ok (.aload_n 0, 1) := by decide +kernel
theorem d5_wasIn_8 : decode prog_7_method_4_code 8 = .ok (.iload_n 3, 1) := by decide +kernel
theorem d5_wasIn_9 : decode prog_7_method_4_code 9 = .ok (.iaload, 1) := by decide +kernel
theorem d5_wasIn_10 : decode prog_7_method_4_code 10 = .ok (.iload_n 1, 1) := by decide +kernel
theorem d5_wasIn_11 : decode prog_7_method_4_code 11 = .ok (.if_icmp .ne 5, 3) := by decide +kernel
theorem d5_wasIn_14 : decode prog_7_method_4_code 14 = .ok (.iconst 1, 1) := by decide +kernel
theorem d5_wasIn_15 : decode prog_7_method_4_code 15 = .ok (.ireturn, 1) := by decide +kernel
theorem d5_wasIn_16 : decode prog_7_method_4_code 16 = .ok (.iinc 3 1, 3) := by decide +kernel
theorem d5_wasIn_19 : decode prog_7_method_4_code 19 = .ok (.goto (-17), 3) := by decide +kernel
theorem d5_wasIn_22 : decode prog_7_method_4_code 22 = .ok (.iconst 0, 1) := by decide +kernel
theorem d5_wasIn_23 : decode prog_7_method_4_code 23 = .ok (.ireturn, 1) := by decide +kernel
theorem d5_sail_0 : decode prog_7_method_3_code 0 = .ok (.aload_n 0, 1) := by decide +kernel
theorem d5_sail_1 : decode prog_7_method_3_code 1 = .ok (.getfield 22, 3) := by decide +kernel
theorem d5_sail_4 : decode prog_7_method_3_code 4 = .ok (.iload 4, 2) := by decide +kernel
theorem d5_sail_6 : decode prog_7_method_3_code 6 = .ok (.isub, 1) := by decide +kernel
theorem d5_sail_7 : decode prog_7_method_3_code 7 = .ok (.istore 7, 2) := by decide +kernel
theorem d5_sail_9 : decode prog_7_method_3_code 9 = .ok (.lload 5, 2) := by decide +kernel
theorem d5_sail_11 : decode prog_7_method_3_code 11 = .ok (.iload 7, 2) := by decide +kernel
theorem d5_sail_13 : decode prog_7_method_3_code 13 = .ok (.i2l, 1) := by decide +kernel
theorem d5_sail_14 : decode prog_7_method_3_code 14 = .ok (.lload_n 2, 1) := by decide +kernel
theorem d5_sail_15 : decode prog_7_method_3_code 15 = .ok (.lmul, 1) := by decide +kernel
theorem d5_sail_16 : decode prog_7_method_3_code 16 = .ok (.ladd, 1) := by decide +kernel
theorem d5_sail_17 : decode prog_7_method_3_code 17 = .ok (.aload_n 0, 1) := by decide +kernel
theorem d5_sail_18 : decode prog_7_method_3_code 18 = .ok (.getfield 18, 3) := by decide +kernel
theorem d5_sail_21 : decode prog_7_method_3_code 21 = .ok (.lcmp, 1) := by decide +kernel
theorem d5_sail_22 : decode prog_7_method_3_code 22 = .ok (.ifCond .gt 4, 3) := by decide +kernel
theorem d5_sail_25 : decode prog_7_method_3_code 25 = .ok (.return_, 1) := by decide +kernel
theorem d5_sail_26 : decode prog_7_method_3_code 26 = .ok (.iload 7, 2) := by decide +kernel
theorem d5_sail_28 : decode prog_7_method_3_code 28 = .ok (.ifCond .le 9, 3) := by decide +kernel
theorem d5_sail_31 : decode prog_7_method_3_code 31 = .ok (.iload 4, 2) := by decide +kernel
theorem d5_sail_33 : decode prog_7_method_3_code 33 = .ok (.iconst 4, 1) := by decide +kernel
theorem d5_sail_34 : decode prog_7_method_3_code 34 = .ok (.if_icmp .lt 27, 3) := by decide +kernel
theorem d5_sail_37 : decode prog_7_method_3_code 37 = .ok (.aload_n 0, 1) := by decide +kernel
theorem d5_sail_38 : decode prog_7_method_3_code 38 = .ok (.lload 5, 2) := by decide +kernel
theorem d5_sail_40 : decode prog_7_method_3_code 40 = .ok (.putfield 18, 3) := by decide +kernel
theorem d5_sail_43 : decode prog_7_method_3_code 43 = .ok (.aload_n 0, 1) := by decide +kernel
theorem d5_sail_44 : decode prog_7_method_3_code 44 = .ok (.getfield 13, 3) := by decide +kernel
theorem d5_sail_47 : decode prog_7_method_3_code 47 = .ok (.iconst 0, 1) := by decide +kernel
theorem d5_sail_48 : decode prog_7_method_3_code 48 = .ok (.aload_n 0, 1) := by decide +kernel
theorem d5_sail_49 : decode prog_7_method_3_code 49 = .ok (.getfield 9, 3) := by decide +kernel
theorem d5_sail_52 : decode prog_7_method_3_code 52 = .ok (.iconst 0, 1) := by decide +kernel
theorem d5_sail_53 : decode prog_7_method_3_code 53 = .ok (.iload 4, 2) := by decide +kernel
theorem d5_sail_55 : decode prog_7_method_3_code 55 = .ok (.iconst 1, 1) := by decide +kernel
theorem d5_sail_56 : decode prog_7_method_3_code 56 = .ok (.iadd, 1) := by decide +kernel
theorem d5_sail_57 : decode prog_7_method_3_code 57 = .ok (.invokestatic 30, 3) := by decide +kernel
theorem d5_sail_60 : decode prog_7_method_3_code 60 = .ok (.return_, 1) := by decide +kernel
theorem d5_sail_61 : decode prog_7_method_3_code 61 = .ok (.aload_n 0, 1) := by decide +kernel
theorem d5_sail_62 : decode prog_7_method_3_code 62 = .ok (.getfield 13, 3) := by decide +kernel
theorem d5_sail_65 : decode prog_7_method_3_code 65 = .ok (.iload 4, 2) := by decide +kernel
theorem d5_sail_67 : decode prog_7_method_3_code 67 = .ok (.iaload, 1) := by decide +kernel
theorem d5_sail_68 : decode prog_7_method_3_code 68 = .ok (.bipush 12, 2) := by decide +kernel
theorem d5_sail_70 : decode prog_7_method_3_code 70 = .ok (.irem, 1) := by decide +kernel
theorem d5_sail_71 : decode prog_7_method_3_code 71 = .ok (.istore 8, 2) := by decide +kernel
theorem d5_sail_73 : decode prog_7_method_3_code 73 = .ok (.aload_n 0, 1) := by decide +kernel
theorem d5_sail_74 : decode prog_7_method_3_code 74 = .ok (.getfield 13, 3) := by decide +kernel
theorem d5_sail_77 : decode prog_7_method_3_code 77 = .ok (.iload 4, 2) := by decide +kernel
theorem d5_sail_79 : decode prog_7_method_3_code 79 = .ok (.iaload, 1) := by decide +kernel
theorem d5_sail_80 : decode prog_7_method_3_code 80 = .ok (.bipush 12, 2) := by decide +kernel
theorem d5_sail_82 : decode prog_7_method_3_code 82 = .ok (.idiv, 1) := by decide +kernel
theorem d5_sail_83 : decode prog_7_method_3_code 83 = .ok (.istore 9, 2) := by decide +kernel
theorem d5_sail_85 : decode prog_7_method_3_code 85 = .ok (.iload 9, 2) := by decide +kernel
theorem d5_sail_87 : decode prog_7_method_3_code 87 = .ok (.iconst 1, 1) := by decide +kernel
theorem d5_sail_88 : decode prog_7_method_3_code 88 = .ok (.isub, 1) := by decide +kernel
theorem d5_sail_89 : decode prog_7_method_3_code 89 = .ok (.iconst 0, 1) := by decide +kernel
theorem d5_sail_90 : decode prog_7_method_3_code 90 = .ok (.invokestatic 38, 3) := by decide +kernel
theorem d5_sail_93 : decode prog_7_method_3_code 93 = .ok (.istore 10, 2) := by decide +kernel
theorem d5_sail_95 : decode prog_7_method_3_code 95 = .ok (.iload 10, 2) := by decide +kernel
theorem d5_sail_97 : decode prog_7_method_3_code 97 = .ok (.iload 9, 2) := by decide +kernel
theorem d5_sail_99 : decode prog_7_method_3_code 99 = .ok (.iconst 1, 1) := by decide +kernel
theorem d5_sail_100 : decode prog_7_method_3_code 100 = .ok (.iadd, 1) := by decide +kernel
theorem d5_sail_101 : decode prog_7_method_3_code 101 = .ok (.if_icmp .gt 105, 3) := by decide +kernel
theorem d5_sail_104 : decode prog_7_method_3_code 104 = .ok (.iload 10, 2) := by decide +kernel
theorem d5_sail_106 : decode prog_7_method_3_code 106 = .ok (.bipush 10, 2) := by decide +kernel
theorem d5_sail_108 : decode prog_7_method_3_code 108 = .ok (.if_icmp .ge 98, 3) := by decide +kernel
theorem d5_sail_111 : decode prog_7_method_3_code 111 = .ok (.iload 8, 2) := by decide +kernel
theorem d5_sail_113 : decode prog_7_method_3_code 113 = .ok (.iconst 1, 1) := by decide +kernel
theorem d5_sail_114 : decode prog_7_method_3_code 114 = .ok (.isub, 1) := by decide +kernel
theorem d5_sail_115 : decode prog_7_method_3_code 115 = .ok (.iconst 0, 1) := by decide +kernel
theorem d5_sail_116 : decode prog_7_method_3_code 116 = .ok (.invokestatic 38, 3) := by decide +kernel
theorem d5_sail_119 : decode prog_7_method_3_code 119 = .ok (.istore 11, 2) := by decide +kernel
theorem d5_sail_121 : decode prog_7_method_3_code 121 = .ok (.iload 11, 2) := by decide +kernel
theorem d5_sail_123 : decode prog_7_method_3_code 123 = .ok (.iload 8, 2) := by decide +kernel
theorem d5_sail_125 : decode prog_7_method_3_code 125 = .ok (.iconst 1, 1) := by decide +kernel
theorem d5_sail_126 : decode prog_7_method_3_code 126 = .ok (.iadd, 1) := by decide +kernel
theorem d5_sail_127 : decode prog_7_method_3_code 127 = .ok (.if_icmp .gt 73, 3) := by decide +kernel
theorem d5_sail_130 : decode prog_7_method_3_code 130 = .ok (.iload 11, 2) := by decide +kernel
theorem d5_sail_132 : decode prog_7_method_3_code 132 = .ok (.bipush 12, 2) := by decide +kernel
theorem d5_sail_134 : decode prog_7_method_3_code 134 = .ok (.if_icmp .ge 66, 3) := by decide +kernel
theorem d5_sail_137 : decode prog_7_method_3_code 137 = .ok (.iload 10, 2) := by decide +kernel
theorem d5_sail_139 : decode prog_7_method_3_code 139 = .ok (.bipush 12, 2) := by decide +kernel
theorem d5_sail_141 : decode prog_7_method_3_code 141 = .ok (.imul, 1) := by decide +kernel
theorem d5_sail_142 : decode prog_7_method_3_code 142 = .ok (.iload 11, 2) := by decide +kernel
theorem d5_sail_144 : decode prog_7_method_3_code 144 = .ok (.iadd, 1) := by decide +kernel
theorem d5_sail_145 : decode prog_7_method_3_code 145 = .ok (.istore 12, 2) := by decide +kernel
theorem d5_sail_147 : decode prog_7_method_3_code 147 = .ok (.aload_n 0, 1) := by decide +kernel
theorem d5_sail_148 : decode prog_7_method_3_code 148 = .ok (.getfield 13, 3) := by decide +kernel
theorem d5_sail_151 : decode prog_7_method_3_code 151 = .ok (.iload 4, 2) := by decide +kernel
theorem d5_sail_153 : decode prog_7_method_3_code 153 = .ok (.iconst 1, 1) := by decide +kernel
theorem d5_sail_154 : decode prog_7_method_3_code 154 = .ok (.iadd, 1) := by decide +kernel
theorem d5_sail_155 : decode prog_7_method_3_code 155 = .ok (.iload 12, 2) := by decide +kernel
theorem d5_sail_157 : decode prog_7_method_3_code 157 = .ok (.iastore, 1) := by decide +kernel
theorem d5_sail_158 : decode prog_7_method_3_code 158 = .ok (.aload_n 0, 1) := by decide +kernel
theorem d5_sail_159 : decode prog_7_method_3_code 159 = .ok (.aload_n 1, 1) := by decide +kernel
theorem d5_sail_160 : decode prog_7_method_3_code 160 = .ok (.lload_n 2, 1) := by decide +kernel
theorem d5_sail_161 : decode prog_7_method_3_code 161 = .ok (.iload 4, 2) := by decide +kernel
theorem d5_sail_163 : decode prog_7_method_3_code 163 = .ok (.iconst 1, 1) := by decide +kernel
theorem d5_sail_164 : decode prog_7_method_3_code 164 = .ok (.iadd, 1) := by decide +kernel
theorem d5_sail_165 : decode prog_7_method_3_code 165 = .ok (.aload_n 0, 1) := by decide +kernel
theorem d5_sail_166 : decode prog_7_method_3_code 166 = .ok (.getfield 13, 3) := by decide +kernel
theorem d5_sail_169 : decode prog_7_method_3_code 169 = .ok (.iload 12, 2) := by decide +kernel
theorem d5_sail_171 : decode prog_7_method_3_code 171 = .ok (.iload 4, 2) := by decide +kernel
theorem d5_sail_173 : decode prog_7_method_3_code 173 = .ok (.invokestatic 44, 3) := by decide +kernel
theorem d5_sail_176 : decode prog_7_method_3_code 176 = .ok (.ifCond .eq 8, 3) := by decide +kernel
theorem d5_sail_179 : decode prog_7_method_3_code 179 = .ok (.lload 5, 2) := by decide +kernel
theorem d5_sail_181 : decode prog_7_method_3_code 181 = .ok (.goto 10, 3) := by decide +kernel
theorem d5_sail_184 : decode prog_7_method_3_code 184 = .ok (.lload 5, 2) := by decide +kernel
theorem d5_sail_186 : decode prog_7_method_3_code 186 = .ok (.aload_n 1, 1) := by decide +kernel
theorem d5_sail_187 : decode prog_7_method_3_code 187 = .ok (.iload 12, 2) := by decide +kernel
theorem d5_sail_189 : decode prog_7_method_3_code 189 = .ok (.laload, 1) := by decide +kernel
theorem d5_sail_190 : decode prog_7_method_3_code 190 = .ok (.ladd, 1) := by decide +kernel
theorem d5_sail_191 : decode prog_7_method_3_code 191 = .ok (.invokestatic 26, 3) := by decide +kernel
theorem d5_sail_194 : decode prog_7_method_3_code 194 = .ok (.iinc 11 1, 3) := by decide +kernel
theorem d5_sail_197 : decode prog_7_method_3_code 197 = .ok (.goto (-76), 3) := by decide +kernel
theorem d5_sail_200 : decode prog_7_method_3_code 200 = .ok (.iinc 10 1, 3) := by decide +kernel
theorem d5_sail_203 : decode prog_7_method_3_code 203 = .ok (.goto (-108), 3) := by decide +kernel
theorem d5_sail_206 : decode prog_7_method_3_code 206 = .ok (.return_, 1) := by decide +kernel
theorem d5_search_0 : decode prog_7_method_2_code 0 = .ok (.aload_n 0, 1) := by decide +kernel
theorem d5_search_1 : decode prog_7_method_2_code 1 = .ok (.ldc2_w 16, 3) := by decide +kernel
theorem d5_search_4 : decode prog_7_method_2_code 4 = .ok (.putfield 18, 3) := by decide +kernel
theorem d5_search_7 : decode prog_7_method_2_code 7 = .ok (.aload_n 0, 1) := by decide +kernel
theorem d5_search_8 : decode prog_7_method_2_code 8 = .ok (.iload 5, 2) := by decide +kernel
theorem d5_search_10 : decode prog_7_method_2_code 10 = .ok (.putfield 22, 3) := by decide +kernel
theorem d5_search_13 : decode prog_7_method_2_code 13 = .ok (.aload_n 0, 1) := by decide +kernel
theorem d5_search_14 : decode prog_7_method_2_code 14 = .ok (.getfield 13, 3) := by decide +kernel
theorem d5_search_17 : decode prog_7_method_2_code 17 = .ok (.iconst 0, 1) := by decide +kernel
theorem d5_search_18 : decode prog_7_method_2_code 18 = .ok (.iload 4, 2) := by decide +kernel
theorem d5_search_20 : decode prog_7_method_2_code 20 = .ok (.iastore, 1) := by decide +kernel
theorem d5_search_21 : decode prog_7_method_2_code 21 = .ok (.aload_n 0, 1) := by decide +kernel
theorem d5_search_22 : decode prog_7_method_2_code 22 = .ok (.aload_n 1, 1) := by decide +kernel
theorem d5_search_23 : decode prog_7_method_2_code 23 = .ok (.lload_n 2, 1) := by decide +kernel
theorem d5_search_24 : decode prog_7_method_2_code 24 = .ok (.iconst 0, 1) := by decide +kernel
theorem d5_search_25 : decode prog_7_method_2_code 25 = .ok (.aload_n 1, 1) := by decide +kernel
theorem d5_search_26 : decode prog_7_method_2_code 26 = .ok (.iload 4, 2) := by decide +kernel
theorem d5_search_28 : decode prog_7_method_2_code 28 = .ok (.laload, 1) := by decide +kernel
theorem d5_search_29 : decode prog_7_method_2_code 29 = .ok (.invokestatic 26, 3) := by decide +kernel
theorem d5_search_32 : decode prog_7_method_2_code 32 = .ok (.aload_n 0, 1) := by decide +kernel
theorem d5_search_33 : decode prog_7_method_2_code 33 = .ok (.getfield 18, 3) := by decide +kernel
theorem d5_search_36 : decode prog_7_method_2_code 36 = .ok (.lreturn, 1) := by decide +kernel
theorem d5_unlikeCells_0 : decode prog_7_method_5_code 0 = .ok (.iconst 0, 1) := by decide +kernel
theorem d5_unlikeCells_1 : decode prog_7_method_5_code 1 = .ok (.istore_n 2, 1) := by decide +kernel
theorem d5_unlikeCells_2 : decode prog_7_method_5_code 2 = .ok (.iconst 0, 1) := by decide +kernel
theorem d5_unlikeCells_3 : decode prog_7_method_5_code 3 = .ok (.istore_n 3, 1) := by decide +kernel
theorem d5_unlikeCells_4 : decode prog_7_method_5_code 4 = .ok (.iload_n 3, 1) := by decide +kernel
theorem d5_unlikeCells_5 : decode prog_7_method_5_code 5 = .ok (.iload_n 1, 1) := by decide +kernel
theorem d5_unlikeCells_6 : decode prog_7_method_5_code 6 = .ok (.if_icmp .gt 36, 3) := by decide +kernel
theorem d5_unlikeCells_9 : decode prog_7_method_5_code 9 = .ok (.iload_n 2, 1) := by decide +kernel
theorem d5_unlikeCells_10 : decode prog_7_method_5_code 10 = .ok (.aload_n 0, 1) := by decide +kernel
theorem d5_unlikeCells_11 : decode prog_7_method_5_code 11 = .ok (.getfield 9, 3) := by decide +kernel
theorem d5_unlikeCells_14 : decode prog_7_method_5_code 14 = .ok (.aload_n 0, 1) := by decide +kernel
theorem d5_unlikeCells_15 : decode prog_7_method_5_code 15 = .ok (.getfield 9, 3) := by decide +kernel
theorem d5_unlikeCells_18 : decode prog_7_method_5_code 18 = .ok (.iload_n 3, 1) := by decide +kernel
theorem d5_unlikeCells_19 : decode prog_7_method_5_code 19 = .ok (.iaload, 1) := by decide +kernel
theorem d5_unlikeCells_20 : decode prog_7_method_5_code 20 = .ok (.iload_n 3, 1) := by decide +kernel
theorem d5_unlikeCells_21 : decode prog_7_method_5_code 21 = .ok (.iconst 1, 1) := by decide +kernel
theorem d5_unlikeCells_22 : decode prog_7_method_5_code 22 = .ok (.isub, 1) := by decide +kernel
theorem d5_unlikeCells_23 : decode prog_7_method_5_code 23 = .ok (.invokestatic 44, 3) := by decide +kernel
theorem d5_unlikeCells_26 : decode prog_7_method_5_code 26 = .ok (.ifCond .eq 7, 3) := by decide +kernel
theorem d5_unlikeCells_29 : decode prog_7_method_5_code 29 = .ok (.iconst 0, 1) := by decide +kernel
theorem d5_unlikeCells_30 : decode prog_7_method_5_code 30 = .ok (.goto 4, 3) := by decide +kernel
theorem d5_unlikeCells_33 : decode prog_7_method_5_code 33 = .ok (.iconst 1, 1) := by decide +kernel
theorem d5_unlikeCells_34 : decode prog_7_method_5_code 34 = .ok (.iadd, 1) := by decide +kernel
theorem d5_unlikeCells_35 : decode prog_7_method_5_code 35 = .ok (.istore_n 2, 1) := by decide +kernel
theorem d5_unlikeCells_36 : decode prog_7_method_5_code 36 = .ok (.iinc 3 1, 3) := by decide +kernel
theorem d5_unlikeCells_39 : decode prog_7_method_5_code 39 = .ok (.goto (-35), 3) := by decide +kernel
theorem d5_unlikeCells_42 : decode prog_7_method_5_code 42 = .ok (.iload_n 2, 1) := by decide +kernel
theorem d5_unlikeCells_43 : decode prog_7_method_5_code 43 = .ok (.ireturn, 1) := by decide +kernel
theorem d7_drag_0 : decode prog_1_method_36_code 0 = .ok (.iload_n 1, 1) := by decide +kernel
theorem d7_drag_1 : decode prog_1_method_36_code 1 = .ok (.invokestatic 214, 3) := by decide +kernel
theorem d7_drag_4 : decode prog_1_method_36_code 4 = .ok (.ifCond .eq 26, 3) := by decide +kernel
theorem d7_drag_7 : decode prog_1_method_36_code 7 = .ok (.iload_n 2, 1) := by decide +kernel
theorem d7_drag_8 : decode prog_1_method_36_code 8 = .ok (.invokestatic 120, 3) := by decide +kernel
theorem d7_drag_11 : decode prog_1_method_36_code 11 = .ok (.ifCond .eq 19, 3) := by decide +kernel
theorem d7_drag_14 : decode prog_1_method_36_code 14 = .ok (.iload_n 3, 1) := by decide +kernel
theorem d7_drag_15 : decode prog_1_method_36_code 15 = .ok (.iconst 4, 1) := by decide +kernel
theorem d7_drag_16 : decode prog_1_method_36_code 16 = .ok (.invokestatic 137, 3) := by decide +kernel
theorem d7_drag_19 : decode prog_1_method_36_code 19 = .ok (.ifCond .eq 11, 3) := by decide +kernel
theorem d7_drag_22 : decode prog_1_method_36_code 22 = .ok (.iload 4, 2) := by decide +kernel
theorem d7_drag_24 : decode prog_1_method_36_code 24 = .ok (.invokestatic 88, 3) := by decide +kernel
theorem d7_drag_27 : decode prog_1_method_36_code 27 = .ok (.ifCond .ne 5, 3) := by decide +kernel
theorem d7_drag_30 : decode prog_1_method_36_code 30 = .ok (.iconst (-1), 1) := by decide +kernel
theorem d7_drag_31 : decode prog_1_method_36_code 31 = .ok (.ireturn, 1) := by decide +kernel
theorem d7_drag_32 : decode prog_1_method_36_code 32 = .ok (.aload_n 0, 1) := by decide +kernel
theorem d7_drag_33 : decode prog_1_method_36_code 33 = .ok (.iload_n 1, 1) := by decide +kernel
theorem d7_drag_34 : decode prog_1_method_36_code 34 = .ok (.invokevirtual 217, 3) := by decide +kernel
theorem d7_drag_37 : decode prog_1_method_36_code 37 = .ok (.istore 5, 2) := by decide +kernel
theorem d7_drag_39 : decode prog_1_method_36_code 39 = .ok (.iload 5, 2) := by decide +kernel
theorem d7_drag_41 : decode prog_1_method_36_code 41 = .ok (.ifCond .eq 6, 3) := by decide +kernel
theorem d7_drag_44 : decode prog_1_method_36_code 44 = .ok (.iload 5, 2) := by decide +kernel
theorem d7_drag_46 : decode prog_1_method_36_code 46 = .ok (.ireturn, 1) := by decide +kernel
theorem d7_drag_47 : decode prog_1_method_36_code 47 = .ok (.aload_n 0, 1) := by decide +kernel
theorem d7_drag_48 : decode prog_1_method_36_code 48 = .ok (.aload_n 0, 1) := by decide +kernel
theorem d7_drag_49 : decode prog_1_method_36_code 49 = .ok (.getfield 61, 3) := by decide +kernel
theorem d7_drag_52 : decode prog_1_method_36_code 52 = .ok (.aload_n 0, 1) := by decide +kernel
theorem d7_drag_53 : decode prog_1_method_36_code 53 = .ok (.getfield 29, 3) := by decide +kernel
theorem d7_drag_56 : decode prog_1_method_36_code 56 = .ok (.getfield 220, 3) := by decide +kernel
theorem d7_drag_59 : decode prog_1_method_36_code 59 = .ok (.aload_n 0, 1) := by decide +kernel
theorem d7_drag_60 : decode prog_1_method_36_code 60 = .ok (.getfield 29, 3) := by decide +kernel
theorem d7_drag_63 : decode prog_1_method_36_code 63 = .ok (.getfield 220, 3) := by decide +kernel
theorem d7_drag_66 : decode prog_1_method_36_code 66 = .ok (.aload_n 0, 1) := by decide +kernel
theorem d7_drag_67 : decode prog_1_method_36_code 67 = .ok (.getfield 29, 3) := by decide +kernel
theorem d7_drag_70 : decode prog_1_method_36_code 70 = .ok (.invokevirtual 230, 3) := by decide +kernel
theorem d7_drag_73 : decode prog_1_method_36_code 73 = .ok (.laload, 1) := by decide +kernel
theorem d7_drag_74 : decode prog_1_method_36_code 74 = .ok (.iload_n 2, 1) := by decide +kernel
theorem d7_drag_75 : decode prog_1_method_36_code 75 = .ok (.iload_n 3, 1) := by decide +kernel
theorem d7_drag_76 : decode prog_1_method_36_code 76 = .ok (.invokevirtual 276, 3) := by decide +kernel
theorem d7_drag_79 : decode prog_1_method_36_code 79 = .ok (.aload_n 0, 1) := by decide +kernel
theorem d7_drag_80 : decode prog_1_method_36_code 80 = .ok (.getfield 29, 3) := by decide +kernel
theorem d7_drag_83 : decode prog_1_method_36_code 83 = .ok (.getfield 223, 3) := by decide +kernel
theorem d7_drag_86 : decode prog_1_method_36_code 86 = .ok (.invokevirtual 226, 3) := by decide +kernel
theorem d7_drag_89 : decode prog_1_method_36_code 89 = .ok (.aload_n 0, 1) := by decide +kernel
theorem d7_drag_90 : decode prog_1_method_36_code 90 = .ok (.iload 4, 2) := by decide +kernel
theorem d7_drag_92 : decode prog_1_method_36_code 92 = .ok (.iload_n 3, 1) := by decide +kernel
theorem d7_drag_93 : decode prog_1_method_36_code 93 = .ok (.iconst 1, 1) := by decide +kernel
theorem d7_drag_94 : decode prog_1_method_36_code 94 = .ok (.iadd, 1) := by decide +kernel
theorem d7_drag_95 : decode prog_1_method_36_code 95 = .ok (.invokevirtual 96, 3) := by decide +kernel
theorem d7_drag_98 : decode prog_1_method_36_code 98 = .ok (.aload_n 0, 1) := by decide +kernel
theorem d7_drag_99 : decode prog_1_method_36_code 99 = .ok (.getfield 61, 3) := by decide +kernel
theorem d7_drag_102 : decode prog_1_method_36_code 102 = .ok (.getfield 280, 3) := by decide +kernel
theorem d7_drag_105 : decode prog_1_method_36_code 105 = .ok (.iconst 0, 1) := by decide +kernel
theorem d7_drag_106 : decode prog_1_method_36_code 106 = .ok (.aload_n 0, 1) := by decide +kernel
theorem d7_drag_107 : decode prog_1_method_36_code 107 = .ok (.getfield 11, 3) := by decide +kernel
theorem d7_drag_110 : decode prog_1_method_36_code 110 = .ok (.iload 4, 2) := by decide +kernel
theorem d7_drag_112 : decode prog_1_method_36_code 112 = .ok (.aaload, 1) := by decide +kernel
theorem d7_drag_113 : decode prog_1_method_36_code 113 = .ok (.iconst 0, 1) := by decide +kernel
theorem d7_drag_114 : decode prog_1_method_36_code 114 = .ok (.iload_n 3, 1) := by decide +kernel
theorem d7_drag_115 : decode prog_1_method_36_code 115 = .ok (.iconst 1, 1) := by decide +kernel
theorem d7_drag_116 : decode prog_1_method_36_code 116 = .ok (.iadd, 1) := by decide +kernel
theorem d7_drag_117 : decode prog_1_method_36_code 117 = .ok (.invokestatic 108, 3) := by decide +kernel
theorem d7_drag_120 : decode prog_1_method_36_code 120 = .ok (.aload_n 0, 1) := by decide +kernel
theorem d7_drag_121 : decode prog_1_method_36_code 121 = .ok (.getfield 61, 3) := by decide +kernel
theorem d7_drag_124 : decode prog_1_method_36_code 124 = .ok (.iload_n 3, 1) := by decide +kernel
theorem d7_drag_125 : decode prog_1_method_36_code 125 = .ok (.invokevirtual 283, 3) := by decide +kernel
theorem d7_drag_128 : decode prog_1_method_36_code 128 = .ok (.ireturn, 1) := by decide +kernel
theorem d8_wasThere_0 : decode prog_10_method_86_code 0 = .ok (.iconst 0, 1) := by decide +kernel
theorem d8_wasThere_1 : decode prog_10_method_86_code 1 = .ok (.istore_n 3, 1) := by decide +kernel
theorem d8_wasThere_2 : decode prog_10_method_86_code 2 = .ok (.iconst 0, 1) := by decide +kernel
theorem d8_wasThere_3 : decode prog_10_method_86_code 3 = .ok (.istore 4, 2) := by decide +kernel
theorem d8_wasThere_5 : decode prog_10_method_86_code 5 = .ok (.iload 4, 2) := by decide +kernel
theorem d8_wasThere_7 : decode prog_10_method_86_code 7 = .ok (.iload_n 1, 1) := by decide +kernel
theorem d8_wasThere_8 : decode prog_10_method_86_code 8 = .ok (.if_icmp .ge 30, 3) := by decide +kernel
theorem d8_wasThere_11 : decode prog_10_method_86_code 11 = .ok (.iload_n 3, 1) := by decide +kernel
theorem d8_wasThere_12 : decode prog_10_method_86_code 12 = .ok (.ifCond .ne 14, 3) := by decide +kernel
theorem d8_wasThere_15 : decode prog_10_method_86_code 15 = .ok (.aload_n 0, 1) := by decide +kernel
theorem d8_wasThere_16 : decode prog_10_method_86_code 16 = .ok (.getfield 62, 3) := by decide +kernel
theorem d8_wasThere_19 : decode prog_10_method_86_code 19 = .ok (.iload 4, 2) := by decide +kernel
theorem d8_wasThere_21 : decode prog_10_method_86_code 21 = .ok (.iaload, 1) := by decide +kernel
theorem d8_wasThere_22 : decode prog_10_method_86_code 22 = .ok (.iload_n 2, 1) := by decide +kernel
theorem d8_wasThere_23 : decode prog_10_method_86_code 23 = .ok (.if_icmp .ne 7, 3) := by decide +kernel
theorem d8_wasThere_26 : decode prog_10_method_86_code 26 = .ok (.iconst 1, 1) := by decide +kernel
theorem d8_wasThere_27 : decode prog_10_method_86_code 27 = .ok (.goto 4, 3) := by decide +kernel
theorem d8_wasThere_30 : decode prog_10_method_86_code 30 = .ok (.iconst 0, 1) := by decide +kernel
theorem d8_wasThere_31 : decode prog_10_method_86_code 31 = .ok (.istore_n 3, 1) := by decide +kernel
theorem d8_wasThere_32 : decode prog_10_method_86_code 32 = .ok (.iinc 4 1, 3) := by decide +kernel
theorem d8_wasThere_35 : decode prog_10_method_86_code 35 = .ok (.goto (-30), 3) := by decide +kernel
theorem d8_wasThere_38 : decode prog_10_method_86_code 38 = .ok (.iload_n 3, 1) := by decide +kernel
theorem d8_wasThere_39 : decode prog_10_method_86_code 39 = .ok (.ireturn, 1) := by decide +kernel
theorem d8_dragOn_0 : decode prog_10_method_87_code 0 = .ok (.aload_n 0, 1) := by decide +kernel
theorem d8_dragOn_1 : decode prog_10_method_87_code 1 = .ok (.iload_n 1, 1) := by decide +kernel
theorem d8_dragOn_2 : decode prog_10_method_87_code 2 = .ok (.iload_n 3, 1) := by decide +kernel
theorem d8_dragOn_3 : decode prog_10_method_87_code 3 = .ok (.invokevirtual 263, 3) := by decide +kernel
theorem d8_dragOn_6 : decode prog_10_method_87_code 6 = .ok (.istore 7, 2) := by decide +kernel
theorem d8_dragOn_8 : decode prog_10_method_87_code 8 = .ok (.lload 4, 2) := by decide +kernel
theorem d8_dragOn_10 : decode prog_10_method_87_code 10 = .ok (.iload 7, 2) := by decide +kernel
theorem d8_dragOn_12 : decode prog_10_method_87_code 12 = .ok (.ifCond .eq 7, 3) := by decide +kernel
theorem d8_dragOn_15 : decode prog_10_method_87_code 15 = .ok (.lconst 0, 1) := by decide +kernel
theorem d8_dragOn_16 : decode prog_10_method_87_code 16 = .ok (.goto 9, 3) := by decide +kernel
theorem d8_dragOn_19 : decode prog_10_method_87_code 19 = .ok (.aload_n 0, 1) := by decide +kernel
theorem d8_dragOn_20 : decode prog_10_method_87_code 20 = .ok (.getfield 59, 3) := by decide +kernel
theorem d8_dragOn_23 : decode prog_10_method_87_code 23 = .ok (.iload_n 3, 1) := by decide +kernel
theorem d8_dragOn_24 : decode prog_10_method_87_code 24 = .ok (.laload, 1) := by decide +kernel
theorem d8_dragOn_25 : decode prog_10_method_87_code 25 = .ok (.ladd, 1) := by decide +kernel
theorem d8_dragOn_26 : decode prog_10_method_87_code 26 = .ok (.lstore 8, 2) := by decide +kernel
theorem d8_dragOn_28 : decode prog_10_method_87_code 28 = .ok (.iload 6, 2) := by decide +kernel
theorem d8_dragOn_30 : decode prog_10_method_87_code 30 = .ok (.iload 7, 2) := by decide +kernel
theorem d8_dragOn_32 : decode prog_10_method_87_code 32 = .ok (.ifCond .eq 7, 3) := by decide +kernel
theorem d8_dragOn_35 : decode prog_10_method_87_code 35 = .ok (.iconst 0, 1) := by decide +kernel
theorem d8_dragOn_36 : decode prog_10_method_87_code 36 = .ok (.goto 4, 3) := by decide +kernel
theorem d8_dragOn_39 : decode prog_10_method_87_code 39 = .ok (.iconst 1, 1) := by decide +kernel
theorem d8_dragOn_40 : decode prog_10_method_87_code 40 = .ok (.iadd, 1) := by decide +kernel
theorem d8_dragOn_41 : decode prog_10_method_87_code 41 = .ok (.istore 10, 2) := by decide +kernel
theorem d8_dragOn_43 : decode prog_10_method_87_code 43 = .ok (.aload_n 0, 1) := by decide +kernel
theorem d8_dragOn_44 : decode prog_10_method_87_code 44 = .ok (.getfield 62, 3) := by decide +kernel
theorem d8_dragOn_47 : decode prog_10_method_87_code 47 = .ok (.iload_n 1, 1) := by decide +kernel
theorem d8_dragOn_48 : decode prog_10_method_87_code 48 = .ok (.iload_n 3, 1) := by decide +kernel
theorem d8_dragOn_49 : decode prog_10_method_87_code 49 = .ok (.iastore, 1) := by decide +kernel
theorem d8_dragOn_50 : decode prog_10_method_87_code 50 = .ok (.iload_n 1, 1) := by decide +kernel
theorem d8_dragOn_51 : decode prog_10_method_87_code 51 = .ok (.iload_n 2, 1) := by decide +kernel
theorem d8_dragOn_52 : decode prog_10_method_87_code 52 = .ok (.if_icmp .ne 55, 3) := by decide +kernel
theorem d8_dragOn_55 : decode prog_10_method_87_code 55 = .ok (.lload 8, 2) := by decide +kernel
theorem d8_dragOn_57 : decode prog_10_method_87_code 57 = .ok (.aload_n 0, 1) := by decide +kernel
theorem d8_dragOn_58 : decode prog_10_method_87_code 58 = .ok (.getfield 266, 3) := by decide +kernel
theorem d8_dragOn_61 : decode prog_10_method_87_code 61 = .ok (.lcmp, 1) := by decide +kernel
theorem d8_dragOn_62 : decode prog_10_method_87_code 62 = .ok (.ifCond .le 44, 3) := by decide +kernel
theorem d8_dragOn_65 : decode prog_10_method_87_code 65 = .ok (.aload_n 0, 1) := by decide +kernel
theorem d8_dragOn_66 : decode prog_10_method_87_code 66 = .ok (.lload 8, 2) := by decide +kernel
theorem d8_dragOn_68 : decode prog_10_method_87_code 68 = .ok (.putfield 266, 3) := by decide +kernel
theorem d8_dragOn_71 : decode prog_10_method_87_code 71 = .ok (.aload_n 0, 1) := by decide +kernel
theorem d8_dragOn_72 : decode prog_10_method_87_code 72 = .ok (.iload 10, 2) := by decide +kernel
theorem d8_dragOn_74 : decode prog_10_method_87_code 74 = .ok (.putfield 269, 3) := by decide +kernel
theorem d8_dragOn_77 : decode prog_10_method_87_code 77 = .ok (.iconst 0, 1) := by decide +kernel
theorem d8_dragOn_78 : decode prog_10_method_87_code 78 = .ok (.istore 11, 2) := by decide +kernel
theorem d8_dragOn_80 : decode prog_10_method_87_code 80 = .ok (.iload 11, 2) := by decide +kernel
theorem d8_dragOn_82 : decode prog_10_method_87_code 82 = .ok (.iload_n 2, 1) := by decide +kernel
theorem d8_dragOn_83 : decode prog_10_method_87_code 83 = .ok (.if_icmp .gt 23, 3) := by decide +kernel
theorem d8_dragOn_86 : decode prog_10_method_87_code 86 = .ok (.aload_n 0, 1) := by decide +kernel
theorem d8_dragOn_87 : decode prog_10_method_87_code 87 = .ok (.getfield 65, 3) := by decide +kernel
theorem d8_dragOn_90 : decode prog_10_method_87_code 90 = .ok (.iload 11, 2) := by decide +kernel
theorem d8_dragOn_92 : decode prog_10_method_87_code 92 = .ok (.aload_n 0, 1) := by decide +kernel
theorem d8_dragOn_93 : decode prog_10_method_87_code 93 = .ok (.getfield 62, 3) := by decide +kernel
theorem d8_dragOn_96 : decode prog_10_method_87_code 96 = .ok (.iload 11, 2) := by decide +kernel
theorem d8_dragOn_98 : decode prog_10_method_87_code 98 = .ok (.iaload, 1) := by decide +kernel
theorem d8_dragOn_99 : decode prog_10_method_87_code 99 = .ok (.iastore, 1) := by decide +kernel
theorem d8_dragOn_100 : decode prog_10_method_87_code 100 = .ok (.iinc 11 1, 3) := by decide +kernel
theorem d8_dragOn_103 : decode prog_10_method_87_code 103 = .ok (.goto (-23), 3) := by decide +kernel
theorem d8_dragOn_106 : decode prog_10_method_87_code 106 = .ok (.return_, 1) := by decide +kernel
theorem d8_dragOn_107 : decode prog_10_method_87_code 107 = .ok (.iload_n 3, 1) := by decide +kernel
theorem d8_dragOn_108 : decode prog_10_method_87_code 108 = .ok (.bipush 12, 2) := by decide +kernel
theorem d8_dragOn_110 : decode prog_10_method_87_code 110 = .ok (.isub, 1) := by decide +kernel
theorem d8_dragOn_111 : decode prog_10_method_87_code 111 = .ok (.iconst 1, 1) := by decide +kernel
theorem d8_dragOn_112 : decode prog_10_method_87_code 112 = .ok (.isub, 1) := by decide +kernel
theorem d8_dragOn_113 : decode prog_10_method_87_code 113 = .ok (.istore 11, 2) := by decide +kernel
theorem d8_dragOn_115 : decode prog_10_method_87_code 115 = .ok (.iload 11, 2) := by decide +kernel
theorem d8_dragOn_117 : decode prog_10_method_87_code 117 = .ok (.iload_n 3, 1) := by decide +kernel
theorem d8_dragOn_118 : decode prog_10_method_87_code 118 = .ok (.bipush 12, 2) := by decide +kernel
theorem d8_dragOn_120 : decode prog_10_method_87_code 120 = .ok (.iadd, 1) := by decide +kernel
theorem d8_dragOn_121 : decode prog_10_method_87_code 121 = .ok (.iconst 1, 1) := by decide +kernel
theorem d8_dragOn_122 : decode prog_10_method_87_code 122 = .ok (.iadd, 1) := by decide +kernel
theorem d8_dragOn_123 : decode prog_10_method_87_code 123 = .ok (.if_icmp .gt 41, 3) := by decide +kernel
theorem d8_dragOn_126 : decode prog_10_method_87_code 126 = .ok (.iload 11, 2) := by decide +kernel
theorem d8_dragOn_128 : decode prog_10_method_87_code 128 = .ok (.invokestatic 117, 3) := by decide +kernel
theorem d8_dragOn_131 : decode prog_10_method_87_code 131 = .ok (.ifCond .eq 27, 3) := by decide +kernel
theorem d8_dragOn_134 : decode prog_10_method_87_code 134 = .ok (.iload_n 3, 1) := by decide +kernel
theorem d8_dragOn_135 : decode prog_10_method_87_code 135 = .ok (.iload 11, 2) := by decide +kernel
theorem d8_dragOn_137 : decode prog_10_method_87_code 137 = .ok (.invokestatic 123, 3) := by decide +kernel
theorem d8_dragOn_140 : decode prog_10_method_87_code 140 = .ok (.iconst 1, 1) := by decide +kernel
theorem d8_dragOn_141 : decode prog_10_method_87_code 141 = .ok (.if_icmp .gt 17, 3) := by decide +kernel
theorem d8_dragOn_144 : decode prog_10_method_87_code 144 = .ok (.aload_n 0, 1) := by decide +kernel
theorem d8_dragOn_145 : decode prog_10_method_87_code 145 = .ok (.iload_n 1, 1) := by decide +kernel
theorem d8_dragOn_146 : decode prog_10_method_87_code 146 = .ok (.iconst 1, 1) := by decide +kernel
theorem d8_dragOn_147 : decode prog_10_method_87_code 147 = .ok (.iadd, 1) := by decide +kernel
theorem d8_dragOn_148 : decode prog_10_method_87_code 148 = .ok (.iload_n 2, 1) := by decide +kernel
theorem d8_dragOn_149 : decode prog_10_method_87_code 149 = .ok (.iload 11, 2) := by decide +kernel
theorem d8_dragOn_151 : decode prog_10_method_87_code 151 = .ok (.lload 8, 2) := by decide +kernel
theorem d8_dragOn_153 : decode prog_10_method_87_code 153 = .ok (.iload 10, 2) := by decide +kernel
theorem d8_dragOn_155 : decode prog_10_method_87_code 155 = .ok (.invokevirtual 272, 3) := by decide +kernel
theorem d8_dragOn_158 : decode prog_10_method_87_code 158 = .ok (.iinc 11 1, 3) := by decide +kernel
theorem d8_dragOn_161 : decode prog_10_method_87_code 161 = .ok (.goto (-46), 3) := by decide +kernel
theorem d8_dragOn_164 : decode prog_10_method_87_code 164 = .ok (.return_, 1) := by decide +kernel
theorem d8_drag_0 : decode prog_10_method_88_code 0 = .ok (.iload_n 2, 1) := by decide +kernel
theorem d8_drag_1 : decode prog_10_method_88_code 1 = .ok (.invokestatic 117, 3) := by decide +kernel
theorem d8_drag_4 : decode prog_10_method_88_code 4 = .ok (.ifCond .eq 20, 3) := by decide +kernel
theorem d8_drag_7 : decode prog_10_method_88_code 7 = .ok (.iload_n 3, 1) := by decide +kernel
theorem d8_drag_8 : decode prog_10_method_88_code 8 = .ok (.iconst 0, 1) := by decide +kernel
theorem d8_drag_9 : decode prog_10_method_88_code 9 = .ok (.iconst 4, 1) := by decide +kernel
theorem d8_drag_10 : decode prog_10_method_88_code 10 = .ok (.invokestatic 80, 3) := by decide +kernel
theorem d8_drag_13 : decode prog_10_method_88_code 13 = .ok (.ifCond .eq 11, 3) := by decide +kernel
theorem d8_drag_16 : decode prog_10_method_88_code 16 = .ok (.iload 4, 2) := by decide +kernel
theorem d8_drag_18 : decode prog_10_method_88_code 18 = .ok (.invokestatic 84, 3) := by decide +kernel
theorem d8_drag_21 : decode prog_10_method_88_code 21 = .ok (.ifCond .ne 5, 3) := by decide +kernel
theorem d8_drag_24 : decode prog_10_method_88_code 24 = .ok (.iconst (-1), 1) := by decide +kernel
theorem d8_drag_25 : decode prog_10_method_88_code 25 = .ok (.ireturn, 1) := by decide +kernel
theorem d8_drag_26 : decode prog_10_method_88_code 26 = .ok (.aload_n 0, 1) := by decide +kernel
theorem d8_drag_27 : decode prog_10_method_88_code 27 = .ok (.iload_n 1, 1) := by decide +kernel
theorem d8_drag_28 : decode prog_10_method_88_code 28 = .ok (.invokevirtual 244, 3) := by decide +kernel
theorem d8_drag_31 : decode prog_10_method_88_code 31 = .ok (.istore 5, 2) := by decide +kernel
theorem d8_drag_33 : decode prog_10_method_88_code 33 = .ok (.iload 5, 2) := by decide +kernel
theorem d8_drag_35 : decode prog_10_method_88_code 35 = .ok (.ifCond .ge 6, 3) := by decide +kernel
theorem d8_drag_38 : decode prog_10_method_88_code 38 = .ok (.iload 5, 2) := by decide +kernel
theorem d8_drag_40 : decode prog_10_method_88_code 40 = .ok (.ireturn, 1) := by decide +kernel
theorem d8_drag_41 : decode prog_10_method_88_code 41 = .ok (.aload_n 0, 1) := by decide +kernel
theorem d8_drag_42 : decode prog_10_method_88_code 42 = .ok (.ldc2_w 276, 3) := by decide +kernel
theorem d8_drag_45 : decode prog_10_method_88_code 45 = .ok (.putfield 266, 3) := by decide +kernel
theorem d8_drag_48 : decode prog_10_method_88_code 48 = .ok (.aload_n 0, 1) := by decide +kernel
theorem d8_drag_49 : decode prog_10_method_88_code 49 = .ok (.iconst 0, 1) := by decide +kernel
theorem d8_drag_50 : decode prog_10_method_88_code 50 = .ok (.iload_n 3, 1) := by decide +kernel
theorem d8_drag_51 : decode prog_10_method_88_code 51 = .ok (.iload_n 2, 1) := by decide +kernel
theorem d8_drag_52 : decode prog_10_method_88_code 52 = .ok (.lconst 0, 1) := by decide +kernel
theorem d8_drag_53 : decode prog_10_method_88_code 53 = .ok (.iconst 0, 1) := by decide +kernel
theorem d8_drag_54 : decode prog_10_method_88_code 54 = .ok (.invokevirtual 272, 3) := by decide +kernel
theorem d8_drag_57 : decode prog_10_method_88_code 57 = .ok (.aload_n 0, 1) := by decide +kernel
theorem d8_drag_58 : decode prog_10_method_88_code 58 = .ok (.iload 4, 2) := by decide +kernel
theorem d8_drag_60 : decode prog_10_method_88_code 60 = .ok (.iload_n 3, 1) := by decide +kernel
theorem d8_drag_61 : decode prog_10_method_88_code 61 = .ok (.iconst 1, 1) := by decide +kernel
theorem d8_drag_62 : decode prog_10_method_88_code 62 = .ok (.iadd, 1) := by decide +kernel
theorem d8_drag_63 : decode prog_10_method_88_code 63 = .ok (.invokevirtual 278, 3) := by decide +kernel
theorem d8_drag_66 : decode prog_10_method_88_code 66 = .ok (.pop, 1) := by decide +kernel
theorem d8_drag_67 : decode prog_10_method_88_code 67 = .ok (.iconst 0, 1) := by decide +kernel
theorem d8_drag_68 : decode prog_10_method_88_code 68 = .ok (.istore 6, 2) := by decide +kernel
theorem d8_drag_70 : decode prog_10_method_88_code 70 = .ok (.iload 6, 2) := by decide +kernel
theorem d8_drag_72 : decode prog_10_method_88_code 72 = .ok (.iload_n 3, 1) := by decide +kernel
theorem d8_drag_73 : decode prog_10_method_88_code 73 = .ok (.if_icmp .gt 29, 3) := by decide +kernel
theorem d8_drag_76 : decode prog_10_method_88_code 76 = .ok (.aload_n 0, 1) := by decide +kernel
theorem d8_drag_77 : decode prog_10_method_88_code 77 = .ok (.getfield 20, 3) := by decide +kernel
theorem d8_drag_80 : decode prog_10_method_88_code 80 = .ok (.bipush 40, 2) := by decide +kernel
theorem d8_drag_82 : decode prog_10_method_88_code 82 = .ok (.iload 4, 2) := by decide +kernel
theorem d8_drag_84 : decode prog_10_method_88_code 84 = .ok (.imul, 1) := by decide +kernel
theorem d8_drag_85 : decode prog_10_method_88_code 85 = .ok (.iload 6, 2) := by decide +kernel
theorem d8_drag_87 : decode prog_10_method_88_code 87 = .ok (.iadd, 1) := by decide +kernel
theorem d8_drag_88 : decode prog_10_method_88_code 88 = .ok (.aload_n 0, 1) := by decide +kernel
theorem d8_drag_89 : decode prog_10_method_88_code 89 = .ok (.getfield 65, 3) := by decide +kernel
theorem d8_drag_92 : decode prog_10_method_88_code 92 = .ok (.iload 6, 2) := by decide +kernel
theorem d8_drag_94 : decode prog_10_method_88_code 94 = .ok (.iaload, 1) := by decide +kernel
theorem d8_drag_95 : decode prog_10_method_88_code 95 = .ok (.iastore, 1) := by decide +kernel
theorem d8_drag_96 : decode prog_10_method_88_code 96 = .ok (.iinc 6 1, 3) := by decide +kernel
theorem d8_drag_99 : decode prog_10_method_88_code 99 = .ok (.goto (-29), 3) := by decide +kernel
theorem d8_drag_102 : decode prog_10_method_88_code 102 = .ok (.aload_n 0, 1) := by decide +kernel
theorem d8_drag_103 : decode prog_10_method_88_code 103 = .ok (.aload_n 0, 1) := by decide +kernel
theorem d8_drag_104 : decode prog_10_method_88_code 104 = .ok (.getfield 266, 3) := by decide +kernel
theorem d8_drag_107 : decode prog_10_method_88_code 107 = .ok (.aload_n 0, 1) := by decide +kernel
theorem d8_drag_108 : decode prog_10_method_88_code 108 = .ok (.getfield 222, 3) := by decide +kernel
theorem d8_drag_111 : decode prog_10_method_88_code 111 = .ok (.aload_n 0, 1) := by decide +kernel
theorem d8_drag_112 : decode prog_10_method_88_code 112 = .ok (.getfield 269, 3) := by decide +kernel
theorem d8_drag_115 : decode prog_10_method_88_code 115 = .ok (.invokevirtual 247, 3) := by decide +kernel
theorem d8_drag_118 : decode prog_10_method_88_code 118 = .ok (.ireturn, 1) := by decide +kernel
theorem d3_comesIn_0 : decode prog_5_method_6_code 0 = .ok (.aload_n 0, 1) := by decide +kernel
theorem d3_comesIn_1 : decode prog_5_method_6_code 1 = .ok (.getfield 9, 3) := by decide +kernel
theorem d3_comesIn_4 : decode prog_5_method_6_code 4 = .ok (.istore 5, 2) := by decide +kernel
theorem d3_comesIn_6 : decode prog_5_method_6_code 6 = .ok (.iconst 0, 1) := by decide +kernel
theorem d3_comesIn_7 : decode prog_5_method_6_code 7 = .ok (.istore 6, 2) := by decide +kernel
theorem d3_comesIn_9 : decode prog_5_method_6_code 9 = .ok (.iload 6, 2) := by decide +kernel
theorem d3_comesIn_11 : decode prog_5_method_6_code 11 = .ok (.aload_n 0, 1) := by decide +kernel
theorem d3_comesIn_12 : decode prog_5_method_6_code 12 = .ok (.getfield 15, 3) := by decide +kernel
theorem d3_comesIn_15 : decode prog_5_method_6_code 15 = .ok (.if_icmp .ge 83, 3) := by decide +kernel
theorem d3_comesIn_18 : decode prog_5_method_6_code 18 = .ok (.iload 5, 2) := by decide +kernel
theorem d3_comesIn_20 : decode prog_5_method_6_code 20 = .ok (.iload_n 1, 1) := by decide +kernel
theorem d3_comesIn_21 : decode prog_5_method_6_code 21 = .ok (.invokestatic 50, 3) := by decide +kernel
theorem d3_comesIn_24 : decode prog_5_method_6_code 24 = .ok (.iload_n 2, 1) := by decide +kernel
theorem d3_comesIn_25 : decode prog_5_method_6_code 25 = .ok (.if_icmp .gt 5, 3) := by decide +kernel
theorem d3_comesIn_28 : decode prog_5_method_6_code 28 = .ok (.iconst 1, 1) := by decide +kernel
theorem d3_comesIn_29 : decode prog_5_method_6_code 29 = .ok (.ireturn, 1) := by decide +kernel
theorem d3_comesIn_30 : decode prog_5_method_6_code 30 = .ok (.aload_n 0, 1) := by decide +kernel
theorem d3_comesIn_31 : decode prog_5_method_6_code 31 = .ok (.getfield 18, 3) := by decide +kernel
theorem d3_comesIn_34 : decode prog_5_method_6_code 34 = .ok (.iload 6, 2) := by decide +kernel
theorem d3_comesIn_36 : decode prog_5_method_6_code 36 = .ok (.iaload, 1) := by decide +kernel
theorem d3_comesIn_37 : decode prog_5_method_6_code 37 = .ok (.istore 7, 2) := by decide +kernel
theorem d3_comesIn_39 : decode prog_5_method_6_code 39 = .ok (.iload_n 3, 1) := by decide +kernel
theorem d3_comesIn_40 : decode prog_5_method_6_code 40 = .ok (.ifCond .lt 21, 3) := by decide +kernel
theorem d3_comesIn_43 : decode prog_5_method_6_code 43 = .ok (.iload_n 3, 1) := by decide +kernel
theorem d3_comesIn_44 : decode prog_5_method_6_code 44 = .ok (.bipush 8, 2) := by decide +kernel
theorem d3_comesIn_46 : decode prog_5_method_6_code 46 = .ok (.idiv, 1) := by decide +kernel
theorem d3_comesIn_47 : decode prog_5_method_6_code 47 = .ok (.iload 6, 2) := by decide +kernel
theorem d3_comesIn_49 : decode prog_5_method_6_code 49 = .ok (.if_icmp .ne 12, 3) := by decide +kernel
theorem d3_comesIn_52 : decode prog_5_method_6_code 52 = .ok (.iload_n 3, 1) := by decide +kernel
theorem d3_comesIn_53 : decode prog_5_method_6_code 53 = .ok (.bipush 8, 2) := by decide +kernel
theorem d3_comesIn_55 : decode prog_5_method_6_code 55 = .ok (.irem, 1) := by decide +kernel
theorem d3_comesIn_56 : decode prog_5_method_6_code 56 = .ok (.istore 7, 2) := by decide +kernel
theorem d3_comesIn_58 : decode prog_5_method_6_code 58 = .ok (.goto 25, 3) := by decide +kernel
theorem d3_comesIn_61 : decode prog_5_method_6_code 61 = .ok (.iload 4, 2) := by decide +kernel
theorem d3_comesIn_63 : decode prog_5_method_6_code 63 = .ok (.ifCond .lt 20, 3) := by decide +kernel
theorem d3_comesIn_66 : decode prog_5_method_6_code 66 = .ok (.iload 4, 2) := by decide +kernel
theorem d3_comesIn_68 : decode prog_5_method_6_code 68 = .ok (.bipush 8, 2) := by decide +kernel
theorem d3_comesIn_70 : decode prog_5_method_6_code 70 = .ok (.idiv, 1) := by decide +kernel
theorem d3_comesIn_71 : decode prog_5_method_6_code 71 = .ok (.iload 6, 2) := by decide +kernel
theorem d3_comesIn_73 : decode prog_5_method_6_code 73 = .ok (.if_icmp .ne 10, 3) := by decide +kernel
theorem d3_comesIn_76 : decode prog_5_method_6_code 76 = .ok (.iload 4, 2) := by decide +kernel
theorem d3_comesIn_78 : decode prog_5_method_6_code 78 = .ok (.bipush 8, 2) := by decide +kernel
theorem d3_comesIn_80 : decode prog_5_method_6_code 80 = .ok (.irem, 1) := by decide +kernel
theorem d3_comesIn_81 : decode prog_5_method_6_code 81 = .ok (.istore 7, 2) := by decide +kernel
theorem d3_comesIn_83 : decode prog_5_method_6_code 83 = .ok (.iload 5, 2) := by decide +kernel
theorem d3_comesIn_85 : decode prog_5_method_6_code 85 = .ok (.iload 7, 2) := by decide +kernel
theorem d3_comesIn_87 : decode prog_5_method_6_code 87 = .ok (.invokestatic 54, 3) := by decide +kernel
theorem d3_comesIn_90 : decode prog_5_method_6_code 90 = .ok (.istore 5, 2) := by decide +kernel
theorem d3_comesIn_92 : decode prog_5_method_6_code 92 = .ok (.iinc 6 1, 3) := by decide +kernel
theorem d3_comesIn_95 : decode prog_5_method_6_code 95 = .ok (.goto (-86), 3) := by decide +kernel
theorem d3_comesIn_98 : decode prog_5_method_6_code 98 = .ok (.iload 5, 2) := by decide +kernel
theorem d3_comesIn_100 : decode prog_5_method_6_code 100 = .ok (.iload_n 1, 1) := by decide +kernel
theorem d3_comesIn_101 : decode prog_5_method_6_code 101 = .ok (.invokestatic 50, 3) := by decide +kernel
theorem d3_comesIn_104 : decode prog_5_method_6_code 104 = .ok (.iload_n 2, 1) := by decide +kernel
theorem d3_comesIn_105 : decode prog_5_method_6_code 105 = .ok (.if_icmp .gt 7, 3) := by decide +kernel
theorem d3_comesIn_108 : decode prog_5_method_6_code 108 = .ok (.iconst 1, 1) := by decide +kernel
theorem d3_comesIn_109 : decode prog_5_method_6_code 109 = .ok (.goto 4, 3) := by decide +kernel
theorem d3_comesIn_112 : decode prog_5_method_6_code 112 = .ok (.iconst 0, 1) := by decide +kernel
theorem d3_comesIn_113 : decode prog_5_method_6_code 113 = .ok (.ireturn, 1) := by decide +kernel
theorem d3_toldAs_0 : decode prog_5_method_9_code 0 = .ok (.iload_n 0, 1) := by decide +kernel
theorem d3_toldAs_1 : decode prog_5_method_9_code 1 = .ok (.bipush 8, 2) := by decide +kernel
theorem d3_toldAs_3 : decode prog_5_method_9_code 3 = .ok (.idiv, 1) := by decide +kernel
theorem d3_toldAs_4 : decode prog_5_method_9_code 4 = .ok (.bipush 10, 2) := by decide +kernel
theorem d3_toldAs_6 : decode prog_5_method_9_code 6 = .ok (.imul, 1) := by decide +kernel
theorem d3_toldAs_7 : decode prog_5_method_9_code 7 = .ok (.iload_n 0, 1) := by decide +kernel
theorem d3_toldAs_8 : decode prog_5_method_9_code 8 = .ok (.bipush 8, 2) := by decide +kernel
theorem d3_toldAs_10 : decode prog_5_method_9_code 10 = .ok (.irem, 1) := by decide +kernel
theorem d3_toldAs_11 : decode prog_5_method_9_code 11 = .ok (.iadd, 1) := by decide +kernel
theorem d3_toldAs_12 : decode prog_5_method_9_code 12 = .ok (.ireturn, 1) := by decide +kernel
theorem d3_firstChange_0 : decode prog_5_method_7_code 0 = .ok (.iconst 0, 1) := by decide +kernel
theorem d3_firstChange_1 : decode prog_5_method_7_code 1 = .ok (.istore_n 3, 1) := by decide +kernel
theorem d3_firstChange_2 : decode prog_5_method_7_code 2 = .ok (.iload_n 3, 1) := by decide +kernel
theorem d3_firstChange_3 : decode prog_5_method_7_code 3 = .ok (.aload_n 0, 1) := by decide +kernel
theorem d3_firstChange_4 : decode prog_5_method_7_code 4 = .ok (.getfield 15, 3) := by decide +kernel
theorem d3_firstChange_7 : decode prog_5_method_7_code 7 = .ok (.bipush 8, 2) := by decide +kernel
theorem d3_firstChange_9 : decode prog_5_method_7_code 9 = .ok (.imul, 1) := by decide +kernel
theorem d3_firstChange_10 : decode prog_5_method_7_code 10 = .ok (.if_icmp .ge 26, 3) := by decide +kernel
theorem d3_firstChange_13 : decode prog_5_method_7_code 13 = .ok (.aload_n 0, 1) := by decide +kernel
theorem d3_firstChange_14 : decode prog_5_method_7_code 14 = .ok (.iload_n 1, 1) := by decide +kernel
theorem d3_firstChange_15 : decode prog_5_method_7_code 15 = .ok (.iload_n 2, 1) := by decide +kernel
theorem d3_firstChange_16 : decode prog_5_method_7_code 16 = .ok (.iload_n 3, 1) := by decide +kernel
theorem d3_firstChange_17 : decode prog_5_method_7_code 17 = .ok (.bipush (-9), 2) := by decide +kernel
theorem d3_firstChange_19 : decode prog_5_method_7_code 19 = .ok (.invokevirtual 57, 3) := by decide +kernel
theorem d3_firstChange_22 : decode prog_5_method_7_code 22 = .ok (.ifCond .eq 8, 3) := by decide +kernel
theorem d3_firstChange_25 : decode prog_5_method_7_code 25 = .ok (.iload_n 3, 1) := by decide +kernel
theorem d3_firstChange_26 : decode prog_5_method_7_code 26 = .ok (.invokestatic 61, 3) := by decide +kernel
theorem d3_firstChange_29 : decode prog_5_method_7_code 29 = .ok (.ireturn, 1) := by decide +kernel
theorem d3_firstChange_30 : decode prog_5_method_7_code 30 = .ok (.iinc 3 1, 3) := by decide +kernel
theorem d3_firstChange_33 : decode prog_5_method_7_code 33 = .ok (.goto (-31), 3) := by decide +kernel
theorem d3_firstChange_36 : decode prog_5_method_7_code 36 = .ok (.bipush (-9), 2) := by decide +kernel
theorem d3_firstChange_38 : decode prog_5_method_7_code 38 = .ok (.ireturn, 1) := by decide +kernel
theorem d3_firstTwoChanges_0 : decode prog_5_method_8_code 0 = .ok (.aload_n 0, 1) := by decide +kernel
theorem d3_firstTwoChanges_1 : decode prog_5_method_8_code 1 = .ok (.getfield 15, 3) := by decide +kernel
theorem d3_firstTwoChanges_4 : decode prog_5_method_8_code 4 = .ok (.bipush 8, 2) := by decide +kernel
theorem d3_firstTwoChanges_6 : decode prog_5_method_8_code 6 = .ok (.imul, 1) := by decide +kernel
theorem d3_firstTwoChanges_7 : decode prog_5_method_8_code 7 = .ok (.istore_n 3, 1) := by decide +kernel
theorem d3_firstTwoChanges_8 : decode prog_5_method_8_code 8 = .ok (.iconst 0, 1) := by decide +kernel
theorem d3_firstTwoChanges_9 : decode prog_5_method_8_code 9 = .ok (.istore 4, 2) := by decide +kernel
theorem d3_firstTwoChanges_11 : decode prog_5_method_8_code 11 = .ok (.iload 4, 2) := by decide +kernel
theorem d3_firstTwoChanges_13 : decode prog_5_method_8_code 13 = .ok (.iload_n 3, 1) := by decide +kernel
theorem d3_firstTwoChanges_14 : decode prog_5_method_8_code 14 = .ok (.if_icmp .ge 68, 3) := by decide +kernel
theorem d3_firstTwoChanges_17 : decode prog_5_method_8_code 17 = .ok (.iload 4, 2) := by decide +kernel
theorem d3_firstTwoChanges_19 : decode prog_5_method_8_code 19 = .ok (.bipush 8, 2) := by decide +kernel
theorem d3_firstTwoChanges_21 : decode prog_5_method_8_code 21 = .ok (.idiv, 1) := by decide +kernel
theorem d3_firstTwoChanges_22 : decode prog_5_method_8_code 22 = .ok (.iconst 1, 1) := by decide +kernel
theorem d3_firstTwoChanges_23 : decode prog_5_method_8_code 23 = .ok (.iadd, 1) := by decide +kernel
theorem d3_firstTwoChanges_24 : decode prog_5_method_8_code 24 = .ok (.bipush 8, 2) := by decide +kernel
theorem d3_firstTwoChanges_26 : decode prog_5_method_8_code 26 = .ok (.imul, 1) := by decide +kernel
theorem d3_firstTwoChanges_27 : decode prog_5_method_8_code 27 = .ok (.istore 5, 2) := by decide +kernel
theorem d3_firstTwoChanges_29 : decode prog_5_method_8_code 29 = .ok (.iload 5, 2) := by decide +kernel
theorem d3_firstTwoChanges_31 : decode prog_5_method_8_code 31 = .ok (.istore 6, 2) := by decide +kernel
theorem d3_firstTwoChanges_33 : decode prog_5_method_8_code 33 = .ok (.iload 6, 2) := by decide +kernel
theorem d3_firstTwoChanges_35 : decode prog_5_method_8_code 35 = .ok (.iload_n 3, 1) := by decide +kernel
theorem d3_firstTwoChanges_36 : decode prog_5_method_8_code 36 = .ok (.if_icmp .ge 40, 3) := by decide +kernel
theorem d3_firstTwoChanges_39 : decode prog_5_method_8_code 39 = .ok (.aload_n 0, 1) := by decide +kernel
theorem d3_firstTwoChanges_40 : decode prog_5_method_8_code 40 = .ok (.iload_n 1, 1) := by decide +kernel
theorem d3_firstTwoChanges_41 : decode prog_5_method_8_code 41 = .ok (.iload_n 2, 1) := by decide +kernel
theorem d3_firstTwoChanges_42 : decode prog_5_method_8_code 42 = .ok (.iload 4, 2) := by decide +kernel
theorem d3_firstTwoChanges_44 : decode prog_5_method_8_code 44 = .ok (.iload 6, 2) := by decide +kernel
theorem d3_firstTwoChanges_46 : decode prog_5_method_8_code 46 = .ok (.invokevirtual 57, 3) := by decide +kernel
theorem d3_firstTwoChanges_49 : decode prog_5_method_8_code 49 = .ok (.ifCond .eq 21, 3) := by decide +kernel
theorem d3_firstTwoChanges_52 : decode prog_5_method_8_code 52 = .ok (.iload 4, 2) := by decide +kernel
theorem d3_firstTwoChanges_54 : decode prog_5_method_8_code 54 = .ok (.invokestatic 61, 3) := by decide +kernel
theorem d3_firstTwoChanges_57 : decode prog_5_method_8_code 57 = .ok (.bipush 100, 2) := by decide +kernel
theorem d3_firstTwoChanges_59 : decode prog_5_method_8_code 59 = .ok (.iadd, 1) := by decide +kernel
theorem d3_firstTwoChanges_60 : decode prog_5_method_8_code 60 = .ok (.bipush 100, 2) := by decide +kernel
theorem d3_firstTwoChanges_62 : decode prog_5_method_8_code 62 = .ok (.iload 6, 2) := by decide +kernel
theorem d3_firstTwoChanges_64 : decode prog_5_method_8_code 64 = .ok (.invokestatic 61, 3) := by decide +kernel
theorem d3_firstTwoChanges_67 : decode prog_5_method_8_code 67 = .ok (.imul, 1) := by decide +kernel
theorem d3_firstTwoChanges_68 : decode prog_5_method_8_code 68 = .ok (.iadd, 1) := by decide +kernel
theorem d3_firstTwoChanges_69 : decode prog_5_method_8_code 69 = .ok (.ireturn, 1) := by decide +kernel
theorem d3_firstTwoChanges_70 : decode prog_5_method_8_code 70 = .ok (.iinc 6 1, 3) := by decide +kernel
theorem d3_firstTwoChanges_73 : decode prog_5_method_8_code 73 = .ok (.goto (-40), 3) := by decide +kernel
theorem d3_firstTwoChanges_76 : decode prog_5_method_8_code 76 = .ok (.iinc 4 1, 3) := by decide +kernel
theorem d3_firstTwoChanges_79 : decode prog_5_method_8_code 79 = .ok (.goto (-68), 3) := by decide +kernel
theorem d3_firstTwoChanges_82 : decode prog_5_method_8_code 82 = .ok (.bipush (-9), 2) := by decide +kernel
theorem d3_firstTwoChanges_84 : decode prog_5_method_8_code 84 = .ok (.ireturn, 1) := by decide +kernel
theorem d7_brought_0 : decode prog_1_method_37_code 0 = .ok (.iload_n 1, 1) := by decide +kernel
theorem d7_brought_1 : decode prog_1_method_37_code 1 = .ok (.invokestatic 120, 3) := by decide +kernel
theorem d7_brought_4 : decode prog_1_method_37_code 4 = .ok (.ifCond .eq 11, 3) := by decide +kernel
theorem d7_brought_7 : decode prog_1_method_37_code 7 = .ok (.iload_n 2, 1) := by decide +kernel
theorem d7_brought_8 : decode prog_1_method_37_code 8 = .ok (.iconst 5, 1) := by decide +kernel
theorem d7_brought_9 : decode prog_1_method_37_code 9 = .ok (.invokestatic 137, 3) := by decide +kernel
theorem d7_brought_12 : decode prog_1_method_37_code 12 = .ok (.ifCond .ne 5, 3) := by decide +kernel
theorem d7_brought_15 : decode prog_1_method_37_code 15 = .ok (.iconst (-1), 1) := by decide +kernel
theorem d7_brought_16 : decode prog_1_method_37_code 16 = .ok (.ireturn, 1) := by decide +kernel
theorem d7_brought_17 : decode prog_1_method_37_code 17 = .ok (.aload_n 0, 1) := by decide +kernel
theorem d7_brought_18 : decode prog_1_method_37_code 18 = .ok (.getfield 37, 3) := by decide +kernel
theorem d7_brought_21 : decode prog_1_method_37_code 21 = .ok (.iload_n 1, 1) := by decide +kernel
theorem d7_brought_22 : decode prog_1_method_37_code 22 = .ok (.iload_n 2, 1) := by decide +kernel
theorem d7_brought_23 : decode prog_1_method_37_code 23 = .ok (.bipush (-9), 2) := by decide +kernel
theorem d7_brought_25 : decode prog_1_method_37_code 25 = .ok (.bipush (-9), 2) := by decide +kernel
theorem d7_brought_27 : decode prog_1_method_37_code 27 = .ok (.invokevirtual 286, 3) := by decide +kernel
theorem d7_brought_30 : decode prog_1_method_37_code 30 = .ok (.ifCond .eq 10, 3) := by decide +kernel
theorem d7_brought_33 : decode prog_1_method_37_code 33 = .ok (.aload_n 0, 1) := by decide +kernel
theorem d7_brought_34 : decode prog_1_method_37_code 34 = .ok (.iconst 0, 1) := by decide +kernel
theorem d7_brought_35 : decode prog_1_method_37_code 35 = .ok (.putfield 65, 3) := by decide +kernel
theorem d7_brought_38 : decode prog_1_method_37_code 38 = .ok (.iconst 0, 1) := by decide +kernel
theorem d7_brought_39 : decode prog_1_method_37_code 39 = .ok (.ireturn, 1) := by decide +kernel
theorem d7_brought_40 : decode prog_1_method_37_code 40 = .ok (.aload_n 0, 1) := by decide +kernel
theorem d7_brought_41 : decode prog_1_method_37_code 41 = .ok (.getfield 37, 3) := by decide +kernel
theorem d7_brought_44 : decode prog_1_method_37_code 44 = .ok (.iload_n 1, 1) := by decide +kernel
theorem d7_brought_45 : decode prog_1_method_37_code 45 = .ok (.iload_n 2, 1) := by decide +kernel
theorem d7_brought_46 : decode prog_1_method_37_code 46 = .ok (.invokevirtual 289, 3) := by decide +kernel
theorem d7_brought_49 : decode prog_1_method_37_code 49 = .ok (.istore_n 3, 1) := by decide +kernel
theorem d7_brought_50 : decode prog_1_method_37_code 50 = .ok (.iload_n 3, 1) := by decide +kernel
theorem d7_brought_51 : decode prog_1_method_37_code 51 = .ok (.bipush (-9), 2) := by decide +kernel
theorem d7_brought_53 : decode prog_1_method_37_code 53 = .ok (.if_icmp .eq 10, 3) := by decide +kernel
theorem d7_brought_56 : decode prog_1_method_37_code 56 = .ok (.aload_n 0, 1) := by decide +kernel
theorem d7_brought_57 : decode prog_1_method_37_code 57 = .ok (.iload_n 3, 1) := by decide +kernel
theorem d7_brought_58 : decode prog_1_method_37_code 58 = .ok (.putfield 65, 3) := by decide +kernel
theorem d7_brought_61 : decode prog_1_method_37_code 61 = .ok (.iconst 1, 1) := by decide +kernel
theorem d7_brought_62 : decode prog_1_method_37_code 62 = .ok (.ireturn, 1) := by decide +kernel
theorem d7_brought_63 : decode prog_1_method_37_code 63 = .ok (.aload_n 0, 1) := by decide +kernel
theorem d7_brought_64 : decode prog_1_method_37_code 64 = .ok (.getfield 37, 3) := by decide +kernel
theorem d7_brought_67 : decode prog_1_method_37_code 67 = .ok (.iload_n 1, 1) := by decide +kernel
theorem d7_brought_68 : decode prog_1_method_37_code 68 = .ok (.iload_n 2, 1) := by decide +kernel
theorem d7_brought_69 : decode prog_1_method_37_code 69 = .ok (.invokevirtual 292, 3) := by decide +kernel
theorem d7_brought_72 : decode prog_1_method_37_code 72 = .ok (.istore 4, 2) := by decide +kernel
theorem d7_brought_74 : decode prog_1_method_37_code 74 = .ok (.iload 4, 2) := by decide +kernel
theorem d7_brought_76 : decode prog_1_method_37_code 76 = .ok (.bipush (-9), 2) := by decide +kernel
theorem d7_brought_78 : decode prog_1_method_37_code 78 = .ok (.if_icmp .eq 11, 3) := by decide +kernel
theorem d7_brought_81 : decode prog_1_method_37_code 81 = .ok (.aload_n 0, 1) := by decide +kernel
theorem d7_brought_82 : decode prog_1_method_37_code 82 = .ok (.iload 4, 2) := by decide +kernel
theorem d7_brought_84 : decode prog_1_method_37_code 84 = .ok (.putfield 65, 3) := by decide +kernel
theorem d7_brought_87 : decode prog_1_method_37_code 87 = .ok (.iconst 2, 1) := by decide +kernel
theorem d7_brought_88 : decode prog_1_method_37_code 88 = .ok (.ireturn, 1) := by decide +kernel
theorem d7_brought_89 : decode prog_1_method_37_code 89 = .ok (.bipush (-9), 2) := by decide +kernel
theorem d7_brought_91 : decode prog_1_method_37_code 91 = .ok (.ireturn, 1) := by decide +kernel
theorem d8_comesIn_0 : decode prog_10_method_89_code 0 = .ok (.aload_n 0, 1) := by decide +kernel
theorem d8_comesIn_1 : decode prog_10_method_89_code 1 = .ok (.getfield 32, 3) := by decide +kernel
theorem d8_comesIn_4 : decode prog_10_method_89_code 4 = .ok (.iconst 0, 1) := by decide +kernel
theorem d8_comesIn_5 : decode prog_10_method_89_code 5 = .ok (.iaload, 1) := by decide +kernel
theorem d8_comesIn_6 : decode prog_10_method_89_code 6 = .ok (.istore_n 3, 1) := by decide +kernel
theorem d8_comesIn_7 : decode prog_10_method_89_code 7 = .ok (.iload_n 3, 1) := by decide +kernel
theorem d8_comesIn_8 : decode prog_10_method_89_code 8 = .ok (.iload_n 1, 1) := by decide +kernel
theorem d8_comesIn_9 : decode prog_10_method_89_code 9 = .ok (.invokestatic 123, 3) := by decide +kernel
theorem d8_comesIn_12 : decode prog_10_method_89_code 12 = .ok (.iload_n 2, 1) := by decide +kernel
theorem d8_comesIn_13 : decode prog_10_method_89_code 13 = .ok (.if_icmp .gt 7, 3) := by decide +kernel
theorem d8_comesIn_16 : decode prog_10_method_89_code 16 = .ok (.iconst 1, 1) := by decide +kernel
theorem d8_comesIn_17 : decode prog_10_method_89_code 17 = .ok (.goto 4, 3) := by decide +kernel
theorem d8_comesIn_20 : decode prog_10_method_89_code 20 = .ok (.iconst 0, 1) := by decide +kernel
theorem d8_comesIn_21 : decode prog_10_method_89_code 21 = .ok (.istore 4, 2) := by decide +kernel
theorem d8_comesIn_23 : decode prog_10_method_89_code 23 = .ok (.iconst 0, 1) := by decide +kernel
theorem d8_comesIn_24 : decode prog_10_method_89_code 24 = .ok (.istore 5, 2) := by decide +kernel
theorem d8_comesIn_26 : decode prog_10_method_89_code 26 = .ok (.iload 5, 2) := by decide +kernel
theorem d8_comesIn_28 : decode prog_10_method_89_code 28 = .ok (.aload_n 0, 1) := by decide +kernel
theorem d8_comesIn_29 : decode prog_10_method_89_code 29 = .ok (.invokevirtual 129, 3) := by decide +kernel
theorem d8_comesIn_32 : decode prog_10_method_89_code 32 = .ok (.if_icmp .ge 42, 3) := by decide +kernel
theorem d8_comesIn_35 : decode prog_10_method_89_code 35 = .ok (.iload_n 3, 1) := by decide +kernel
theorem d8_comesIn_36 : decode prog_10_method_89_code 36 = .ok (.aload_n 0, 1) := by decide +kernel
theorem d8_comesIn_37 : decode prog_10_method_89_code 37 = .ok (.getfield 68, 3) := by decide +kernel
theorem d8_comesIn_40 : decode prog_10_method_89_code 40 = .ok (.iload 5, 2) := by decide +kernel
theorem d8_comesIn_42 : decode prog_10_method_89_code 42 = .ok (.iaload, 1) := by decide +kernel
theorem d8_comesIn_43 : decode prog_10_method_89_code 43 = .ok (.invokestatic 214, 3) := by decide +kernel
theorem d8_comesIn_46 : decode prog_10_method_89_code 46 = .ok (.istore_n 3, 1) := by decide +kernel
theorem d8_comesIn_47 : decode prog_10_method_89_code 47 = .ok (.iload 4, 2) := by decide +kernel
theorem d8_comesIn_49 : decode prog_10_method_89_code 49 = .ok (.ifCond .ne 12, 3) := by decide +kernel
theorem d8_comesIn_52 : decode prog_10_method_89_code 52 = .ok (.iload_n 3, 1) := by decide +kernel
theorem d8_comesIn_53 : decode prog_10_method_89_code 53 = .ok (.iload_n 1, 1) := by decide +kernel
theorem d8_comesIn_54 : decode prog_10_method_89_code 54 = .ok (.invokestatic 123, 3) := by decide +kernel
theorem d8_comesIn_57 : decode prog_10_method_89_code 57 = .ok (.iload_n 2, 1) := by decide +kernel
theorem d8_comesIn_58 : decode prog_10_method_89_code 58 = .ok (.if_icmp .gt 7, 3) := by decide +kernel
theorem d8_comesIn_61 : decode prog_10_method_89_code 61 = .ok (.iconst 1, 1) := by decide +kernel
theorem d8_comesIn_62 : decode prog_10_method_89_code 62 = .ok (.goto 4, 3) := by decide +kernel
theorem d8_comesIn_65 : decode prog_10_method_89_code 65 = .ok (.iconst 0, 1) := by decide +kernel
theorem d8_comesIn_66 : decode prog_10_method_89_code 66 = .ok (.istore 4, 2) := by decide +kernel
theorem d8_comesIn_68 : decode prog_10_method_89_code 68 = .ok (.iinc 5 1, 3) := by decide +kernel
theorem d8_comesIn_71 : decode prog_10_method_89_code 71 = .ok (.goto (-45), 3) := by decide +kernel
theorem d8_comesIn_74 : decode prog_10_method_89_code 74 = .ok (.iload 4, 2) := by decide +kernel
theorem d8_comesIn_76 : decode prog_10_method_89_code 76 = .ok (.ireturn, 1) := by decide +kernel
theorem d8_brought_0 : decode prog_10_method_90_code 0 = .ok (.iload_n 1, 1) := by decide +kernel
theorem d8_brought_1 : decode prog_10_method_90_code 1 = .ok (.invokestatic 117, 3) := by decide +kernel
theorem d8_brought_4 : decode prog_10_method_90_code 4 = .ok (.ifCond .eq 12, 3) := by decide +kernel
theorem d8_brought_7 : decode prog_10_method_90_code 7 = .ok (.iload_n 2, 1) := by decide +kernel
theorem d8_brought_8 : decode prog_10_method_90_code 8 = .ok (.iconst 0, 1) := by decide +kernel
theorem d8_brought_9 : decode prog_10_method_90_code 9 = .ok (.iconst 5, 1) := by decide +kernel
theorem d8_brought_10 : decode prog_10_method_90_code 10 = .ok (.invokestatic 80, 3) := by decide +kernel
theorem d8_brought_13 : decode prog_10_method_90_code 13 = .ok (.ifCond .ne 5, 3) := by decide +kernel
theorem d8_brought_16 : decode prog_10_method_90_code 16 = .ok (.iconst (-1), 1) := by decide +kernel
theorem d8_brought_17 : decode prog_10_method_90_code 17 = .ok (.ireturn, 1) := by decide +kernel
theorem d8_brought_18 : decode prog_10_method_90_code 18 = .ok (.iconst 0, 1) := by decide +kernel
theorem d8_brought_19 : decode prog_10_method_90_code 19 = .ok (.istore_n 3, 1) := by decide +kernel
theorem d8_brought_20 : decode prog_10_method_90_code 20 = .ok (.iload_n 3, 1) := by decide +kernel
theorem d8_brought_21 : decode prog_10_method_90_code 21 = .ok (.aload_n 0, 1) := by decide +kernel
theorem d8_brought_22 : decode prog_10_method_90_code 22 = .ok (.invokevirtual 129, 3) := by decide +kernel
theorem d8_brought_25 : decode prog_10_method_90_code 25 = .ok (.if_icmp .ge 20, 3) := by decide +kernel
theorem d8_brought_28 : decode prog_10_method_90_code 28 = .ok (.aload_n 0, 1) := by decide +kernel
theorem d8_brought_29 : decode prog_10_method_90_code 29 = .ok (.getfield 68, 3) := by decide +kernel
theorem d8_brought_32 : decode prog_10_method_90_code 32 = .ok (.iload_n 3, 1) := by decide +kernel
theorem d8_brought_33 : decode prog_10_method_90_code 33 = .ok (.aload_n 0, 1) := by decide +kernel
theorem d8_brought_34 : decode prog_10_method_90_code 34 = .ok (.iload_n 3, 1) := by decide +kernel
theorem d8_brought_35 : decode prog_10_method_90_code 35 = .ok (.invokevirtual 133, 3) := by decide +kernel
theorem d8_brought_38 : decode prog_10_method_90_code 38 = .ok (.iastore, 1) := by decide +kernel
theorem d8_brought_39 : decode prog_10_method_90_code 39 = .ok (.iinc 3 1, 3) := by decide +kernel
theorem d8_brought_42 : decode prog_10_method_90_code 42 = .ok (.goto (-22), 3) := by decide +kernel
theorem d8_brought_45 : decode prog_10_method_90_code 45 = .ok (.aload_n 0, 1) := by decide +kernel
theorem d8_brought_46 : decode prog_10_method_90_code 46 = .ok (.iload_n 1, 1) := by decide +kernel
theorem d8_brought_47 : decode prog_10_method_90_code 47 = .ok (.iload_n 2, 1) := by decide +kernel
theorem d8_brought_48 : decode prog_10_method_90_code 48 = .ok (.invokevirtual 281, 3) := by decide +kernel
theorem d8_brought_51 : decode prog_10_method_90_code 51 = .ok (.ifCond .eq 10, 3) := by decide +kernel
theorem d8_brought_54 : decode prog_10_method_90_code 54 = .ok (.aload_n 0, 1) := by decide +kernel
theorem d8_brought_55 : decode prog_10_method_90_code 55 = .ok (.iconst 0, 1) := by decide +kernel
theorem d8_brought_56 : decode prog_10_method_90_code 56 = .ok (.iconst 0, 1) := by decide +kernel
theorem d8_brought_57 : decode prog_10_method_90_code 57 = .ok (.invokevirtual 102, 3) := by decide +kernel
theorem d8_brought_60 : decode prog_10_method_90_code 60 = .ok (.ireturn, 1) := by decide +kernel
theorem d8_brought_61 : decode prog_10_method_90_code 61 = .ok (.aload_n 0, 1) := by decide +kernel
theorem d8_brought_62 : decode prog_10_method_90_code 62 = .ok (.invokevirtual 129, 3) := by decide +kernel
theorem d8_brought_65 : decode prog_10_method_90_code 65 = .ok (.istore_n 3, 1) := by decide +kernel
theorem d8_brought_66 : decode prog_10_method_90_code 66 = .ok (.iconst 0, 1) := by decide +kernel
theorem d8_brought_67 : decode prog_10_method_90_code 67 = .ok (.istore 4, 2) := by decide +kernel
theorem d8_brought_69 : decode prog_10_method_90_code 69 = .ok (.iload 4, 2) := by decide +kernel
theorem d8_brought_71 : decode prog_10_method_90_code 71 = .ok (.iload_n 3, 1) := by decide +kernel
theorem d8_brought_72 : decode prog_10_method_90_code 72 = .ok (.if_icmp .ge 81, 3) := by decide +kernel
theorem d8_brought_75 : decode prog_10_method_90_code 75 = .ok (.iconst 0, 1) := by decide +kernel
theorem d8_brought_76 : decode prog_10_method_90_code 76 = .ok (.istore 5, 2) := by decide +kernel
theorem d8_brought_78 : decode prog_10_method_90_code 78 = .ok (.iload 5, 2) := by decide +kernel
theorem d8_brought_80 : decode prog_10_method_90_code 80 = .ok (.bipush 8, 2) := by decide +kernel
theorem d8_brought_82 : decode prog_10_method_90_code 82 = .ok (.if_icmp .ge 52, 3) := by decide +kernel
theorem d8_brought_85 : decode prog_10_method_90_code 85 = .ok (.aload_n 0, 1) := by decide +kernel
theorem d8_brought_86 : decode prog_10_method_90_code 86 = .ok (.getfield 68, 3) := by decide +kernel
theorem d8_brought_89 : decode prog_10_method_90_code 89 = .ok (.iload 4, 2) := by decide +kernel
theorem d8_brought_91 : decode prog_10_method_90_code 91 = .ok (.iload 5, 2) := by decide +kernel
theorem d8_brought_93 : decode prog_10_method_90_code 93 = .ok (.iastore, 1) := by decide +kernel
theorem d8_brought_94 : decode prog_10_method_90_code 94 = .ok (.iload 5, 2) := by decide +kernel
theorem d8_brought_96 : decode prog_10_method_90_code 96 = .ok (.aload_n 0, 1) := by decide +kernel
theorem d8_brought_97 : decode prog_10_method_90_code 97 = .ok (.iload 4, 2) := by decide +kernel
theorem d8_brought_99 : decode prog_10_method_90_code 99 = .ok (.invokevirtual 133, 3) := by decide +kernel
theorem d8_brought_102 : decode prog_10_method_90_code 102 = .ok (.if_icmp .eq 26, 3) := by decide +kernel
theorem d8_brought_105 : decode prog_10_method_90_code 105 = .ok (.aload_n 0, 1) := by decide +kernel
theorem d8_brought_106 : decode prog_10_method_90_code 106 = .ok (.iload_n 1, 1) := by decide +kernel
theorem d8_brought_107 : decode prog_10_method_90_code 107 = .ok (.iload_n 2, 1) := by decide +kernel
theorem d8_brought_108 : decode prog_10_method_90_code 108 = .ok (.invokevirtual 281, 3) := by decide +kernel
theorem d8_brought_111 : decode prog_10_method_90_code 111 = .ok (.ifCond .eq 17, 3) := by decide +kernel
theorem d8_brought_114 : decode prog_10_method_90_code 114 = .ok (.aload_n 0, 1) := by decide +kernel
theorem d8_brought_115 : decode prog_10_method_90_code 115 = .ok (.bipush 10, 2) := by decide +kernel
theorem d8_brought_117 : decode prog_10_method_90_code 117 = .ok (.iload 4, 2) := by decide +kernel
theorem d8_brought_119 : decode prog_10_method_90_code 119 = .ok (.imul, 1) := by decide +kernel
theorem d8_brought_120 : decode prog_10_method_90_code 120 = .ok (.iload 5, 2) := by decide +kernel
theorem d8_brought_122 : decode prog_10_method_90_code 122 = .ok (.iadd, 1) := by decide +kernel
theorem d8_brought_123 : decode prog_10_method_90_code 123 = .ok (.iconst 1, 1) := by decide +kernel
theorem d8_brought_124 : decode prog_10_method_90_code 124 = .ok (.invokevirtual 102, 3) := by decide +kernel
theorem d8_brought_127 : decode prog_10_method_90_code 127 = .ok (.ireturn, 1) := by decide +kernel
theorem d8_brought_128 : decode prog_10_method_90_code 128 = .ok (.iinc 5 1, 3) := by decide +kernel
theorem d8_brought_131 : decode prog_10_method_90_code 131 = .ok (.goto (-53), 3) := by decide +kernel
theorem d8_brought_134 : decode prog_10_method_90_code 134 = .ok (.aload_n 0, 1) := by decide +kernel
theorem d8_brought_135 : decode prog_10_method_90_code 135 = .ok (.getfield 68, 3) := by decide +kernel
theorem d8_brought_138 : decode prog_10_method_90_code 138 = .ok (.iload 4, 2) := by decide +kernel
theorem d8_brought_140 : decode prog_10_method_90_code 140 = .ok (.aload_n 0, 1) := by decide +kernel
theorem d8_brought_141 : decode prog_10_method_90_code 141 = .ok (.iload 4, 2) := by decide +kernel
theorem d8_brought_143 : decode prog_10_method_90_code 143 = .ok (.invokevirtual 133, 3) := by decide +kernel
theorem d8_brought_146 : decode prog_10_method_90_code 146 = .ok (.iastore, 1) := by decide +kernel
theorem d8_brought_147 : decode prog_10_method_90_code 147 = .ok (.iinc 4 1, 3) := by decide +kernel
theorem d8_brought_150 : decode prog_10_method_90_code 150 = .ok (.goto (-81), 3) := by decide +kernel
theorem d8_brought_153 : decode prog_10_method_90_code 153 = .ok (.iconst 0, 1) := by decide +kernel
theorem d8_brought_154 : decode prog_10_method_90_code 154 = .ok (.istore 4, 2) := by decide +kernel
theorem d8_brought_156 : decode prog_10_method_90_code 156 = .ok (.iload 4, 2) := by decide +kernel
theorem d8_brought_158 : decode prog_10_method_90_code 158 = .ok (.bipush 8, 2) := by decide +kernel
theorem d8_brought_160 : decode prog_10_method_90_code 160 = .ok (.iload_n 3, 1) := by decide +kernel
theorem d8_brought_161 : decode prog_10_method_90_code 161 = .ok (.imul, 1) := by decide +kernel
theorem d8_brought_162 : decode prog_10_method_90_code 162 = .ok (.bipush 8, 2) := by decide +kernel
theorem d8_brought_164 : decode prog_10_method_90_code 164 = .ok (.imul, 1) := by decide +kernel
theorem d8_brought_165 : decode prog_10_method_90_code 165 = .ok (.iload_n 3, 1) := by decide +kernel
theorem d8_brought_166 : decode prog_10_method_90_code 166 = .ok (.imul, 1) := by decide +kernel
theorem d8_brought_167 : decode prog_10_method_90_code 167 = .ok (.if_icmp .ge 160, 3) := by decide +kernel
theorem d8_brought_170 : decode prog_10_method_90_code 170 = .ok (.iload 4, 2) := by decide +kernel
theorem d8_brought_172 : decode prog_10_method_90_code 172 = .ok (.bipush 64, 2) := by decide +kernel
theorem d8_brought_174 : decode prog_10_method_90_code 174 = .ok (.iload_n 3, 1) := by decide +kernel
theorem d8_brought_175 : decode prog_10_method_90_code 175 = .ok (.imul, 1) := by decide +kernel
theorem d8_brought_176 : decode prog_10_method_90_code 176 = .ok (.idiv, 1) := by decide +kernel
theorem d8_brought_177 : decode prog_10_method_90_code 177 = .ok (.istore 5, 2) := by decide +kernel
theorem d8_brought_179 : decode prog_10_method_90_code 179 = .ok (.iload 4, 2) := by decide +kernel
theorem d8_brought_181 : decode prog_10_method_90_code 181 = .ok (.bipush 8, 2) := by decide +kernel
theorem d8_brought_183 : decode prog_10_method_90_code 183 = .ok (.iload_n 3, 1) := by decide +kernel
theorem d8_brought_184 : decode prog_10_method_90_code 184 = .ok (.imul, 1) := by decide +kernel
theorem d8_brought_185 : decode prog_10_method_90_code 185 = .ok (.idiv, 1) := by decide +kernel
theorem d8_brought_186 : decode prog_10_method_90_code 186 = .ok (.bipush 8, 2) := by decide +kernel
theorem d8_brought_188 : decode prog_10_method_90_code 188 = .ok (.irem, 1) := by decide +kernel
theorem d8_brought_189 : decode prog_10_method_90_code 189 = .ok (.istore 6, 2) := by decide +kernel
theorem d8_brought_191 : decode prog_10_method_90_code 191 = .ok (.iload 4, 2) := by decide +kernel
theorem d8_brought_193 : decode prog_10_method_90_code 193 = .ok (.bipush 8, 2) := by decide +kernel
theorem d8_brought_195 : decode prog_10_method_90_code 195 = .ok (.idiv, 1) := by decide +kernel
theorem d8_brought_196 : decode prog_10_method_90_code 196 = .ok (.iload_n 3, 1) := by decide +kernel
theorem d8_brought_197 : decode prog_10_method_90_code 197 = .ok (.irem, 1) := by decide +kernel
theorem d8_brought_198 : decode prog_10_method_90_code 198 = .ok (.istore 7, 2) := by decide +kernel
theorem d8_brought_200 : decode prog_10_method_90_code 200 = .ok (.iload 4, 2) := by decide +kernel
theorem d8_brought_202 : decode prog_10_method_90_code 202 = .ok (.bipush 8, 2) := by decide +kernel
theorem d8_brought_204 : decode prog_10_method_90_code 204 = .ok (.irem, 1) := by decide +kernel
theorem d8_brought_205 : decode prog_10_method_90_code 205 = .ok (.istore 8, 2) := by decide +kernel
theorem d8_brought_207 : decode prog_10_method_90_code 207 = .ok (.iload 7, 2) := by decide +kernel
theorem d8_brought_209 : decode prog_10_method_90_code 209 = .ok (.iload 5, 2) := by decide +kernel
theorem d8_brought_211 : decode prog_10_method_90_code 211 = .ok (.if_icmp .le 110, 3) := by decide +kernel
theorem d8_brought_214 : decode prog_10_method_90_code 214 = .ok (.iload 6, 2) := by decide +kernel
theorem d8_brought_216 : decode prog_10_method_90_code 216 = .ok (.aload_n 0, 1) := by decide +kernel
theorem d8_brought_217 : decode prog_10_method_90_code 217 = .ok (.iload 5, 2) := by decide +kernel
theorem d8_brought_219 : decode prog_10_method_90_code 219 = .ok (.invokevirtual 133, 3) := by decide +kernel
theorem d8_brought_222 : decode prog_10_method_90_code 222 = .ok (.if_icmp .eq 99, 3) := by decide +kernel
theorem d8_brought_225 : decode prog_10_method_90_code 225 = .ok (.iload 8, 2) := by decide +kernel
theorem d8_brought_227 : decode prog_10_method_90_code 227 = .ok (.aload_n 0, 1) := by decide +kernel
theorem d8_brought_228 : decode prog_10_method_90_code 228 = .ok (.iload 7, 2) := by decide +kernel
theorem d8_brought_230 : decode prog_10_method_90_code 230 = .ok (.invokevirtual 133, 3) := by decide +kernel
theorem d8_brought_233 : decode prog_10_method_90_code 233 = .ok (.if_icmp .eq 88, 3) := by decide +kernel
theorem d8_brought_236 : decode prog_10_method_90_code 236 = .ok (.aload_n 0, 1) := by decide +kernel
theorem d8_brought_237 : decode prog_10_method_90_code 237 = .ok (.getfield 68, 3) := by decide +kernel
theorem d8_brought_240 : decode prog_10_method_90_code 240 = .ok (.iload 5, 2) := by decide +kernel
theorem d8_brought_242 : decode prog_10_method_90_code 242 = .ok (.iload 6, 2) := by decide +kernel
theorem d8_brought_244 : decode prog_10_method_90_code 244 = .ok (.iastore, 1) := by decide +kernel
theorem d8_brought_245 : decode prog_10_method_90_code 245 = .ok (.aload_n 0, 1) := by decide +kernel
theorem d8_brought_246 : decode prog_10_method_90_code 246 = .ok (.getfield 68, 3) := by decide +kernel
theorem d8_brought_249 : decode prog_10_method_90_code 249 = .ok (.iload 7, 2) := by decide +kernel
theorem d8_brought_251 : decode prog_10_method_90_code 251 = .ok (.iload 8, 2) := by decide +kernel
theorem d8_brought_253 : decode prog_10_method_90_code 253 = .ok (.iastore, 1) := by decide +kernel
theorem d8_brought_254 : decode prog_10_method_90_code 254 = .ok (.aload_n 0, 1) := by decide +kernel
theorem d8_brought_255 : decode prog_10_method_90_code 255 = .ok (.iload_n 1, 1) := by decide +kernel
theorem d8_brought_256 : decode prog_10_method_90_code 256 = .ok (.iload_n 2, 1) := by decide +kernel
theorem d8_brought_257 : decode prog_10_method_90_code 257 = .ok (.invokevirtual 281, 3) := by decide +kernel
theorem d8_brought_260 : decode prog_10_method_90_code 260 = .ok (.istore 9, 2) := by decide +kernel
theorem d8_brought_262 : decode prog_10_method_90_code 262 = .ok (.aload_n 0, 1) := by decide +kernel
theorem d8_brought_263 : decode prog_10_method_90_code 263 = .ok (.getfield 68, 3) := by decide +kernel
theorem d8_brought_266 : decode prog_10_method_90_code 266 = .ok (.iload 5, 2) := by decide +kernel
theorem d8_brought_268 : decode prog_10_method_90_code 268 = .ok (.aload_n 0, 1) := by decide +kernel
theorem d8_brought_269 : decode prog_10_method_90_code 269 = .ok (.iload 5, 2) := by decide +kernel
theorem d8_brought_271 : decode prog_10_method_90_code 271 = .ok (.invokevirtual 133, 3) := by decide +kernel
theorem d8_brought_274 : decode prog_10_method_90_code 274 = .ok (.iastore, 1) := by decide +kernel
theorem d8_brought_275 : decode prog_10_method_90_code 275 = .ok (.aload_n 0, 1) := by decide +kernel
theorem d8_brought_276 : decode prog_10_method_90_code 276 = .ok (.getfield 68, 3) := by decide +kernel
theorem d8_brought_279 : decode prog_10_method_90_code 279 = .ok (.iload 7, 2) := by decide +kernel
theorem d8_brought_281 : decode prog_10_method_90_code 281 = .ok (.aload_n 0, 1) := by decide +kernel
theorem d8_brought_282 : decode prog_10_method_90_code 282 = .ok (.iload 7, 2) := by decide +kernel
theorem d8_brought_284 : decode prog_10_method_90_code 284 = .ok (.invokevirtual 133, 3) := by decide +kernel
theorem d8_brought_287 : decode prog_10_method_90_code 287 = .ok (.iastore, 1) := by decide +kernel
theorem d8_brought_288 : decode prog_10_method_90_code 288 = .ok (.iload 9, 2) := by decide +kernel
theorem d8_brought_290 : decode prog_10_method_90_code 290 = .ok (.ifCond .eq 31, 3) := by decide +kernel
theorem d8_brought_293 : decode prog_10_method_90_code 293 = .ok (.aload_n 0, 1) := by decide +kernel
theorem d8_brought_294 : decode prog_10_method_90_code 294 = .ok (.bipush 10, 2) := by decide +kernel
theorem d8_brought_296 : decode prog_10_method_90_code 296 = .ok (.iload 5, 2) := by decide +kernel
theorem d8_brought_298 : decode prog_10_method_90_code 298 = .ok (.imul, 1) := by decide +kernel
theorem d8_brought_299 : decode prog_10_method_90_code 299 = .ok (.iload 6, 2) := by decide +kernel
theorem d8_brought_301 : decode prog_10_method_90_code 301 = .ok (.iadd, 1) := by decide +kernel
theorem d8_brought_302 : decode prog_10_method_90_code 302 = .ok (.bipush 100, 2) := by decide +kernel
theorem d8_brought_304 : decode prog_10_method_90_code 304 = .ok (.iconst 1, 1) := by decide +kernel
theorem d8_brought_305 : decode prog_10_method_90_code 305 = .ok (.bipush 10, 2) := by decide +kernel
theorem d8_brought_307 : decode prog_10_method_90_code 307 = .ok (.iload 7, 2) := by decide +kernel
theorem d8_brought_309 : decode prog_10_method_90_code 309 = .ok (.imul, 1) := by decide +kernel
theorem d8_brought_310 : decode prog_10_method_90_code 310 = .ok (.iadd, 1) := by decide +kernel
theorem d8_brought_311 : decode prog_10_method_90_code 311 = .ok (.iload 8, 2) := by decide +kernel
theorem d8_brought_313 : decode prog_10_method_90_code 313 = .ok (.iadd, 1) := by decide +kernel
theorem d8_brought_314 : decode prog_10_method_90_code 314 = .ok (.imul, 1) := by decide +kernel
theorem d8_brought_315 : decode prog_10_method_90_code 315 = .ok (.iadd, 1) := by decide +kernel
theorem d8_brought_316 : decode prog_10_method_90_code 316 = .ok (.iconst 2, 1) := by decide +kernel
theorem d8_brought_317 : decode prog_10_method_90_code 317 = .ok (.invokevirtual 102, 3) := by decide +kernel
theorem d8_brought_320 : decode prog_10_method_90_code 320 = .ok (.ireturn, 1) := by decide +kernel
theorem d8_brought_321 : decode prog_10_method_90_code 321 = .ok (.iinc 4 1, 3) := by decide +kernel
theorem d8_brought_324 : decode prog_10_method_90_code 324 = .ok (.goto (-168), 3) := by decide +kernel
theorem d8_brought_327 : decode prog_10_method_90_code 327 = .ok (.bipush (-9), 2) := by decide +kernel
theorem d8_brought_329 : decode prog_10_method_90_code 329 = .ok (.ireturn, 1) := by decide +kernel
theorem d7_draw_0 : decode prog_1_method_38_code 0 = .ok (.iload_n 1, 1) := by decide +kernel
theorem d7_draw_1 : decode prog_1_method_38_code 1 = .ok (.iconst 1, 1) := by decide +kernel
theorem d7_draw_2 : decode prog_1_method_38_code 2 = .ok (.if_icmp .lt 17, 3) := by decide +kernel
theorem d7_draw_5 : decode prog_1_method_38_code 5 = .ok (.iload_n 1, 1) := by decide +kernel
theorem d7_draw_6 : decode prog_1_method_38_code 6 = .ok (.ldc_w 295, 3) := by decide +kernel
theorem d7_draw_9 : decode prog_1_method_38_code 9 = .ok (.if_icmp .gt 10, 3) := by decide +kernel
theorem d7_draw_12 : decode prog_1_method_38_code 12 = .ok (.iload_n 2, 1) := by decide +kernel
theorem d7_draw_13 : decode prog_1_method_38_code 13 = .ok (.invokestatic 88, 3) := by decide +kernel
theorem d7_draw_16 : decode prog_1_method_38_code 16 = .ok (.ifCond .ne 5, 3) := by decide +kernel
theorem d7_draw_19 : decode prog_1_method_38_code 19 = .ok (.iconst (-1), 1) := by decide +kernel
theorem d7_draw_20 : decode prog_1_method_38_code 20 = .ok (.ireturn, 1) := by decide +kernel
theorem d7_draw_21 : decode prog_1_method_38_code 21 = .ok (.aload_n 0, 1) := by decide +kernel
theorem d7_draw_22 : decode prog_1_method_38_code 22 = .ok (.iload_n 2, 1) := by decide +kernel
theorem d7_draw_23 : decode prog_1_method_38_code 23 = .ok (.aload_n 0, 1) := by decide +kernel
theorem d7_draw_24 : decode prog_1_method_38_code 24 = .ok (.getfield 37, 3) := by decide +kernel
theorem d7_draw_27 : decode prog_1_method_38_code 27 = .ok (.getfield 134, 3) := by decide +kernel
theorem d7_draw_30 : decode prog_1_method_38_code 30 = .ok (.iconst 1, 1) := by decide +kernel
theorem d7_draw_31 : decode prog_1_method_38_code 31 = .ok (.iadd, 1) := by decide +kernel
theorem d7_draw_32 : decode prog_1_method_38_code 32 = .ok (.invokevirtual 96, 3) := by decide +kernel
theorem d7_draw_35 : decode prog_1_method_38_code 35 = .ok (.iload_n 1, 1) := by decide +kernel
theorem d7_draw_36 : decode prog_1_method_38_code 36 = .ok (.i2l, 1) := by decide +kernel
theorem d7_draw_37 : decode prog_1_method_38_code 37 = .ok (.lstore_n 3, 1) := by decide +kernel
theorem d7_draw_38 : decode prog_1_method_38_code 38 = .ok (.aload_n 0, 1) := by decide +kernel
theorem d7_draw_39 : decode prog_1_method_38_code 39 = .ok (.getfield 37, 3) := by decide +kernel
theorem d7_draw_42 : decode prog_1_method_38_code 42 = .ok (.getfield 296, 3) := by decide +kernel
theorem d7_draw_45 : decode prog_1_method_38_code 45 = .ok (.istore 5, 2) := by decide +kernel
theorem d7_draw_47 : decode prog_1_method_38_code 47 = .ok (.aload_n 0, 1) := by decide +kernel
theorem d7_draw_48 : decode prog_1_method_38_code 48 = .ok (.getfield 11, 3) := by decide +kernel
theorem d7_draw_51 : decode prog_1_method_38_code 51 = .ok (.iload_n 2, 1) := by decide +kernel
theorem d7_draw_52 : decode prog_1_method_38_code 52 = .ok (.aaload, 1) := by decide +kernel
theorem d7_draw_53 : decode prog_1_method_38_code 53 = .ok (.iconst 0, 1) := by decide +kernel
theorem d7_draw_54 : decode prog_1_method_38_code 54 = .ok (.iload 5, 2) := by decide +kernel
theorem d7_draw_56 : decode prog_1_method_38_code 56 = .ok (.iastore, 1) := by decide +kernel
theorem d7_draw_57 : decode prog_1_method_38_code 57 = .ok (.iconst 0, 1) := by decide +kernel
theorem d7_draw_58 : decode prog_1_method_38_code 58 = .ok (.istore 6, 2) := by decide +kernel
theorem d7_draw_60 : decode prog_1_method_38_code 60 = .ok (.iload 6, 2) := by decide +kernel
theorem d7_draw_62 : decode prog_1_method_38_code 62 = .ok (.aload_n 0, 1) := by decide +kernel
theorem d7_draw_63 : decode prog_1_method_38_code 63 = .ok (.getfield 37, 3) := by decide +kernel
theorem d7_draw_66 : decode prog_1_method_38_code 66 = .ok (.getfield 134, 3) := by decide +kernel
theorem d7_draw_69 : decode prog_1_method_38_code 69 = .ok (.if_icmp .ge 92, 3) := by decide +kernel
theorem d7_draw_72 : decode prog_1_method_38_code 72 = .ok (.lload_n 3, 1) := by decide +kernel
theorem d7_draw_73 : decode prog_1_method_38_code 73 = .ok (.ldc2_w 299, 3) := by decide +kernel
theorem d7_draw_76 : decode prog_1_method_38_code 76 = .ok (.lmul, 1) := by decide +kernel
theorem d7_draw_77 : decode prog_1_method_38_code 77 = .ok (.ldc2_w 301, 3) := by decide +kernel
theorem d7_draw_80 : decode prog_1_method_38_code 80 = .ok (.lrem, 1) := by decide +kernel
theorem d7_draw_81 : decode prog_1_method_38_code 81 = .ok (.lstore_n 3, 1) := by decide +kernel
theorem d7_draw_82 : decode prog_1_method_38_code 82 = .ok (.aload_n 0, 1) := by decide +kernel
theorem d7_draw_83 : decode prog_1_method_38_code 83 = .ok (.getfield 37, 3) := by decide +kernel
theorem d7_draw_86 : decode prog_1_method_38_code 86 = .ok (.getfield 144, 3) := by decide +kernel
theorem d7_draw_89 : decode prog_1_method_38_code 89 = .ok (.iload 6, 2) := by decide +kernel
theorem d7_draw_91 : decode prog_1_method_38_code 91 = .ok (.iaload, 1) := by decide +kernel
theorem d7_draw_92 : decode prog_1_method_38_code 92 = .ok (.istore 7, 2) := by decide +kernel
theorem d7_draw_94 : decode prog_1_method_38_code 94 = .ok (.lload_n 3, 1) := by decide +kernel
theorem d7_draw_95 : decode prog_1_method_38_code 95 = .ok (.ldc2_w 303, 3) := by decide +kernel
theorem d7_draw_98 : decode prog_1_method_38_code 98 = .ok (.lrem, 1) := by decide +kernel
theorem d7_draw_99 : decode prog_1_method_38_code 99 = .ok (.l2i, 1) := by decide +kernel
theorem d7_draw_100 : decode prog_1_method_38_code 100 = .ok (.istore 8, 2) := by decide +kernel
theorem d7_draw_102 : decode prog_1_method_38_code 102 = .ok (.iload 8, 2) := by decide +kernel
theorem d7_draw_104 : decode prog_1_method_38_code 104 = .ok (.iconst 2, 1) := by decide +kernel
theorem d7_draw_105 : decode prog_1_method_38_code 105 = .ok (.if_icmp .ne 14, 3) := by decide +kernel
theorem d7_draw_108 : decode prog_1_method_38_code 108 = .ok (.iload 7, 2) := by decide +kernel
theorem d7_draw_110 : decode prog_1_method_38_code 110 = .ok (.iconst (-1), 1) := by decide +kernel
theorem d7_draw_111 : decode prog_1_method_38_code 111 = .ok (.invokestatic 267, 3) := by decide +kernel
theorem d7_draw_114 : decode prog_1_method_38_code 114 = .ok (.istore 7, 2) := by decide +kernel
theorem d7_draw_116 : decode prog_1_method_38_code 116 = .ok (.goto 17, 3) := by decide +kernel
theorem d7_draw_119 : decode prog_1_method_38_code 119 = .ok (.iload 8, 2) := by decide +kernel
theorem d7_draw_121 : decode prog_1_method_38_code 121 = .ok (.iconst 3, 1) := by decide +kernel
theorem d7_draw_122 : decode prog_1_method_38_code 122 = .ok (.if_icmp .ne 11, 3) := by decide +kernel
theorem d7_draw_125 : decode prog_1_method_38_code 125 = .ok (.iload 7, 2) := by decide +kernel
theorem d7_draw_127 : decode prog_1_method_38_code 127 = .ok (.iconst 1, 1) := by decide +kernel
theorem d7_draw_128 : decode prog_1_method_38_code 128 = .ok (.invokestatic 267, 3) := by decide +kernel
theorem d7_draw_131 : decode prog_1_method_38_code 131 = .ok (.istore 7, 2) := by decide +kernel
theorem d7_draw_133 : decode prog_1_method_38_code 133 = .ok (.iload 5, 2) := by decide +kernel
theorem d7_draw_135 : decode prog_1_method_38_code 135 = .ok (.iload 7, 2) := by decide +kernel
theorem d7_draw_137 : decode prog_1_method_38_code 137 = .ok (.invokestatic 305, 3) := by decide +kernel
theorem d7_draw_140 : decode prog_1_method_38_code 140 = .ok (.istore 5, 2) := by decide +kernel
theorem d7_draw_142 : decode prog_1_method_38_code 142 = .ok (.aload_n 0, 1) := by decide +kernel
theorem d7_draw_143 : decode prog_1_method_38_code 143 = .ok (.getfield 11, 3) := by decide +kernel
theorem d7_draw_146 : decode prog_1_method_38_code 146 = .ok (.iload_n 2, 1) := by decide +kernel
theorem d7_draw_147 : decode prog_1_method_38_code 147 = .ok (.aaload, 1) := by decide +kernel
theorem d7_draw_148 : decode prog_1_method_38_code 148 = .ok (.iload 6, 2) := by decide +kernel
theorem d7_draw_150 : decode prog_1_method_38_code 150 = .ok (.iconst 1, 1) := by decide +kernel
theorem d7_draw_151 : decode prog_1_method_38_code 151 = .ok (.iadd, 1) := by decide +kernel
theorem d7_draw_152 : decode prog_1_method_38_code 152 = .ok (.iload 5, 2) := by decide +kernel
theorem d7_draw_154 : decode prog_1_method_38_code 154 = .ok (.iastore, 1) := by decide +kernel
theorem d7_draw_155 : decode prog_1_method_38_code 155 = .ok (.iinc 6 1, 3) := by decide +kernel
theorem d7_draw_158 : decode prog_1_method_38_code 158 = .ok (.goto (-98), 3) := by decide +kernel
theorem d7_draw_161 : decode prog_1_method_38_code 161 = .ok (.lload_n 3, 1) := by decide +kernel
theorem d7_draw_162 : decode prog_1_method_38_code 162 = .ok (.l2i, 1) := by decide +kernel
theorem d7_draw_163 : decode prog_1_method_38_code 163 = .ok (.ireturn, 1) := by decide +kernel
theorem d8_draw_0 : decode prog_10_method_91_code 0 = .ok (.iload_n 1, 1) := by decide +kernel
theorem d8_draw_1 : decode prog_10_method_91_code 1 = .ok (.iconst 1, 1) := by decide +kernel
theorem d8_draw_2 : decode prog_10_method_91_code 2 = .ok (.ldc_w 284, 3) := by decide +kernel
theorem d8_draw_5 : decode prog_10_method_91_code 5 = .ok (.invokestatic 80, 3) := by decide +kernel
theorem d8_draw_8 : decode prog_10_method_91_code 8 = .ok (.ifCond .eq 10, 3) := by decide +kernel
theorem d8_draw_11 : decode prog_10_method_91_code 11 = .ok (.iload_n 2, 1) := by decide +kernel
theorem d8_draw_12 : decode prog_10_method_91_code 12 = .ok (.invokestatic 84, 3) := by decide +kernel
theorem d8_draw_15 : decode prog_10_method_91_code 15 = .ok (.ifCond .ne 5, 3) := by decide +kernel
theorem d8_draw_18 : decode prog_10_method_91_code 18 = .ok (.iconst (-1), 1) := by decide +kernel
theorem d8_draw_19 : decode prog_10_method_91_code 19 = .ok (.ireturn, 1) := by decide +kernel
theorem d8_draw_20 : decode prog_10_method_91_code 20 = .ok (.aload_n 0, 1) := by decide +kernel
theorem d8_draw_21 : decode prog_10_method_91_code 21 = .ok (.iload_n 2, 1) := by decide +kernel
theorem d8_draw_22 : decode prog_10_method_91_code 22 = .ok (.aload_n 0, 1) := by decide +kernel
theorem d8_draw_23 : decode prog_10_method_91_code 23 = .ok (.invokevirtual 129, 3) := by decide +kernel
theorem d8_draw_26 : decode prog_10_method_91_code 26 = .ok (.iconst 1, 1) := by decide +kernel
theorem d8_draw_27 : decode prog_10_method_91_code 27 = .ok (.iadd, 1) := by decide +kernel
theorem d8_draw_28 : decode prog_10_method_91_code 28 = .ok (.invokevirtual 278, 3) := by decide +kernel
theorem d8_draw_31 : decode prog_10_method_91_code 31 = .ok (.pop, 1) := by decide +kernel
theorem d8_draw_32 : decode prog_10_method_91_code 32 = .ok (.iload_n 1, 1) := by decide +kernel
theorem d8_draw_33 : decode prog_10_method_91_code 33 = .ok (.i2l, 1) := by decide +kernel
theorem d8_draw_34 : decode prog_10_method_91_code 34 = .ok (.lstore_n 3, 1) := by decide +kernel
theorem d8_draw_35 : decode prog_10_method_91_code 35 = .ok (.aload_n 0, 1) := by decide +kernel
theorem d8_draw_36 : decode prog_10_method_91_code 36 = .ok (.getfield 32, 3) := by decide +kernel
theorem d8_draw_39 : decode prog_10_method_91_code 39 = .ok (.iconst 0, 1) := by decide +kernel
theorem d8_draw_40 : decode prog_10_method_91_code 40 = .ok (.iaload, 1) := by decide +kernel
theorem d8_draw_41 : decode prog_10_method_91_code 41 = .ok (.istore 5, 2) := by decide +kernel
theorem d8_draw_43 : decode prog_10_method_91_code 43 = .ok (.aload_n 0, 1) := by decide +kernel
theorem d8_draw_44 : decode prog_10_method_91_code 44 = .ok (.getfield 20, 3) := by decide +kernel
theorem d8_draw_47 : decode prog_10_method_91_code 47 = .ok (.bipush 40, 2) := by decide +kernel
theorem d8_draw_49 : decode prog_10_method_91_code 49 = .ok (.iload_n 2, 1) := by decide +kernel
theorem d8_draw_50 : decode prog_10_method_91_code 50 = .ok (.imul, 1) := by decide +kernel
theorem d8_draw_51 : decode prog_10_method_91_code 51 = .ok (.iload 5, 2) := by decide +kernel
theorem d8_draw_53 : decode prog_10_method_91_code 53 = .ok (.iastore, 1) := by decide +kernel
theorem d8_draw_54 : decode prog_10_method_91_code 54 = .ok (.iconst 0, 1) := by decide +kernel
theorem d8_draw_55 : decode prog_10_method_91_code 55 = .ok (.istore 6, 2) := by decide +kernel
theorem d8_draw_57 : decode prog_10_method_91_code 57 = .ok (.iload 6, 2) := by decide +kernel
theorem d8_draw_59 : decode prog_10_method_91_code 59 = .ok (.aload_n 0, 1) := by decide +kernel
theorem d8_draw_60 : decode prog_10_method_91_code 60 = .ok (.invokevirtual 129, 3) := by decide +kernel
theorem d8_draw_63 : decode prog_10_method_91_code 63 = .ok (.if_icmp .ge 88, 3) := by decide +kernel
theorem d8_draw_66 : decode prog_10_method_91_code 66 = .ok (.ldc2_w 285, 3) := by decide +kernel
theorem d8_draw_69 : decode prog_10_method_91_code 69 = .ok (.lload_n 3, 1) := by decide +kernel
theorem d8_draw_70 : decode prog_10_method_91_code 70 = .ok (.lmul, 1) := by decide +kernel
theorem d8_draw_71 : decode prog_10_method_91_code 71 = .ok (.ldc2_w 287, 3) := by decide +kernel
theorem d8_draw_74 : decode prog_10_method_91_code 74 = .ok (.lrem, 1) := by decide +kernel
theorem d8_draw_75 : decode prog_10_method_91_code 75 = .ok (.lstore_n 3, 1) := by decide +kernel
theorem d8_draw_76 : decode prog_10_method_91_code 76 = .ok (.lload_n 3, 1) := by decide +kernel
theorem d8_draw_77 : decode prog_10_method_91_code 77 = .ok (.ldc2_w 202, 3) := by decide +kernel
theorem d8_draw_80 : decode prog_10_method_91_code 80 = .ok (.lrem, 1) := by decide +kernel
theorem d8_draw_81 : decode prog_10_method_91_code 81 = .ok (.ldc2_w 217, 3) := by decide +kernel
theorem d8_draw_84 : decode prog_10_method_91_code 84 = .ok (.lcmp, 1) := by decide +kernel
theorem d8_draw_85 : decode prog_10_method_91_code 85 = .ok (.ifCond .ge 7, 3) := by decide +kernel
theorem d8_draw_88 : decode prog_10_method_91_code 88 = .ok (.iconst 0, 1) := by decide +kernel
theorem d8_draw_89 : decode prog_10_method_91_code 89 = .ok (.goto 20, 3) := by decide +kernel
theorem d8_draw_92 : decode prog_10_method_91_code 92 = .ok (.lload_n 3, 1) := by decide +kernel
theorem d8_draw_93 : decode prog_10_method_91_code 93 = .ok (.ldc2_w 202, 3) := by decide +kernel
theorem d8_draw_96 : decode prog_10_method_91_code 96 = .ok (.lrem, 1) := by decide +kernel
theorem d8_draw_97 : decode prog_10_method_91_code 97 = .ok (.ldc2_w 217, 3) := by decide +kernel
theorem d8_draw_100 : decode prog_10_method_91_code 100 = .ok (.lcmp, 1) := by decide +kernel
theorem d8_draw_101 : decode prog_10_method_91_code 101 = .ok (.ifCond .ne 7, 3) := by decide +kernel
theorem d8_draw_104 : decode prog_10_method_91_code 104 = .ok (.iconst (-1), 1) := by decide +kernel
theorem d8_draw_105 : decode prog_10_method_91_code 105 = .ok (.goto 4, 3) := by decide +kernel
theorem d8_draw_108 : decode prog_10_method_91_code 108 = .ok (.iconst 1, 1) := by decide +kernel
theorem d8_draw_109 : decode prog_10_method_91_code 109 = .ok (.istore 7, 2) := by decide +kernel
theorem d8_draw_111 : decode prog_10_method_91_code 111 = .ok (.iload 5, 2) := by decide +kernel
theorem d8_draw_113 : decode prog_10_method_91_code 113 = .ok (.aload_n 0, 1) := by decide +kernel
theorem d8_draw_114 : decode prog_10_method_91_code 114 = .ok (.iload 6, 2) := by decide +kernel
theorem d8_draw_116 : decode prog_10_method_91_code 116 = .ok (.invokevirtual 133, 3) := by decide +kernel
theorem d8_draw_119 : decode prog_10_method_91_code 119 = .ok (.iload 7, 2) := by decide +kernel
theorem d8_draw_121 : decode prog_10_method_91_code 121 = .ok (.invokestatic 211, 3) := by decide +kernel
theorem d8_draw_124 : decode prog_10_method_91_code 124 = .ok (.invokestatic 214, 3) := by decide +kernel
theorem d8_draw_127 : decode prog_10_method_91_code 127 = .ok (.istore 5, 2) := by decide +kernel
theorem d8_draw_129 : decode prog_10_method_91_code 129 = .ok (.aload_n 0, 1) := by decide +kernel
theorem d8_draw_130 : decode prog_10_method_91_code 130 = .ok (.getfield 20, 3) := by decide +kernel
theorem d8_draw_133 : decode prog_10_method_91_code 133 = .ok (.bipush 40, 2) := by decide +kernel
theorem d8_draw_135 : decode prog_10_method_91_code 135 = .ok (.iload_n 2, 1) := by decide +kernel
theorem d8_draw_136 : decode prog_10_method_91_code 136 = .ok (.imul, 1) := by decide +kernel
theorem d8_draw_137 : decode prog_10_method_91_code 137 = .ok (.iload 6, 2) := by decide +kernel
theorem d8_draw_139 : decode prog_10_method_91_code 139 = .ok (.iadd, 1) := by decide +kernel
theorem d8_draw_140 : decode prog_10_method_91_code 140 = .ok (.iconst 1, 1) := by decide +kernel
theorem d8_draw_141 : decode prog_10_method_91_code 141 = .ok (.iadd, 1) := by decide +kernel
theorem d8_draw_142 : decode prog_10_method_91_code 142 = .ok (.iload 5, 2) := by decide +kernel
theorem d8_draw_144 : decode prog_10_method_91_code 144 = .ok (.iastore, 1) := by decide +kernel
theorem d8_draw_145 : decode prog_10_method_91_code 145 = .ok (.iinc 6 1, 3) := by decide +kernel
theorem d8_draw_148 : decode prog_10_method_91_code 148 = .ok (.goto (-91), 3) := by decide +kernel
theorem d8_draw_151 : decode prog_10_method_91_code 151 = .ok (.lload_n 3, 1) := by decide +kernel
theorem d8_draw_152 : decode prog_10_method_91_code 152 = .ok (.l2i, 1) := by decide +kernel
theorem d8_draw_153 : decode prog_10_method_91_code 153 = .ok (.ireturn, 1) := by decide +kernel
theorem d0_undoneBits_0 : decode prog_2_method_8_code 0 = .ok (.iconst 0, 1) := by decide +kernel
theorem d0_undoneBits_1 : decode prog_2_method_8_code 1 = .ok (.istore_n 1, 1) := by decide +kernel
theorem d0_undoneBits_2 : decode prog_2_method_8_code 2 = .ok (.iconst 0, 1) := by decide +kernel
theorem d0_undoneBits_3 : decode prog_2_method_8_code 3 = .ok (.istore_n 2, 1) := by decide +kernel
theorem d0_undoneBits_4 : decode prog_2_method_8_code 4 = .ok (.iload_n 2, 1) := by decide +kernel
theorem d0_undoneBits_5 : decode prog_2_method_8_code 5 = .ok (.aload_n 0, 1) := by decide +kernel
theorem d0_undoneBits_6 : decode prog_2_method_8_code 6 = .ok (.getfield 17, 3) := by decide +kernel
theorem d0_undoneBits_9 : decode prog_2_method_8_code 9 = .ok (.if_icmp .ge 31, 3) := by decide +kernel
theorem d0_undoneBits_12 : decode prog_2_method_8_code 12 = .ok (.iload_n 1, 1) := by decide +kernel
theorem d0_undoneBits_13 : decode prog_2_method_8_code 13 = .ok (.aload_n 0, 1) := by decide +kernel
theorem d0_undoneBits_14 : decode prog_2_method_8_code 14 = .ok (.getfield 13, 3) := by decide +kernel
theorem d0_undoneBits_17 : decode prog_2_method_8_code 17 = .ok (.iload_n 2, 1) := by decide +kernel
theorem d0_undoneBits_18 : decode prog_2_method_8_code 18 = .ok (.aaload, 1) := by decide +kernel
theorem d0_undoneBits_19 : decode prog_2_method_8_code 19 = .ok (.getfield 40, 3) := by decide +kernel
theorem d0_undoneBits_22 : decode prog_2_method_8_code 22 = .ok (.ifCond .eq 9, 3) := by decide +kernel
theorem d0_undoneBits_25 : decode prog_2_method_8_code 25 = .ok (.iconst 1, 1) := by decide +kernel
theorem d0_undoneBits_26 : decode prog_2_method_8_code 26 = .ok (.iload_n 2, 1) := by decide +kernel
theorem d0_undoneBits_27 : decode prog_2_method_8_code 27 = .ok (.ishl, 1) := by decide +kernel
theorem d0_undoneBits_28 : decode prog_2_method_8_code 28 = .ok (.goto 4, 3) := by decide +kernel
theorem d0_undoneBits_31 : decode prog_2_method_8_code 31 = .ok (.iconst 0, 1) := by decide +kernel
theorem d0_undoneBits_32 : decode prog_2_method_8_code 32 = .ok (.ior, 1) := by decide +kernel
theorem d0_undoneBits_33 : decode prog_2_method_8_code 33 = .ok (.istore_n 1, 1) := by decide +kernel
theorem d0_undoneBits_34 : decode prog_2_method_8_code 34 = .ok (.iinc 2 1, 3) := by decide +kernel
theorem d0_undoneBits_37 : decode prog_2_method_8_code 37 = .ok (.goto (-33), 3) := by decide +kernel
theorem d0_undoneBits_40 : decode prog_2_method_8_code 40 = .ok (.iload_n 1, 1) := by decide +kernel
theorem d0_undoneBits_41 : decode prog_2_method_8_code 41 = .ok (.ireturn, 1) := by decide +kernel
theorem d7_image_0 : decode prog_1_method_39_code 0 = .ok (.iload_n 1, 1) := by decide +kernel
theorem d7_image_1 : decode prog_1_method_39_code 1 = .ok (.invokestatic 88, 3) := by decide +kernel
theorem d7_image_4 : decode prog_1_method_39_code 4 = .ok (.ifCond .ne 5, 3) := by decide +kernel
theorem d7_image_7 : decode prog_1_method_39_code 7 = .ok (.iconst (-1), 1) := by decide +kernel
theorem d7_image_8 : decode prog_1_method_39_code 8 = .ok (.ireturn, 1) := by decide +kernel
theorem d7_image_9 : decode prog_1_method_39_code 9 = .ok (.aload_n 0, 1) := by decide +kernel
theorem d7_image_10 : decode prog_1_method_39_code 10 = .ok (.iload_n 1, 1) := by decide +kernel
theorem d7_image_11 : decode prog_1_method_39_code 11 = .ok (.bipush 16, 2) := by decide +kernel
theorem d7_image_13 : decode prog_1_method_39_code 13 = .ok (.invokevirtual 96, 3) := by decide +kernel
theorem d7_image_16 : decode prog_1_method_39_code 16 = .ok (.iconst 0, 1) := by decide +kernel
theorem d7_image_17 : decode prog_1_method_39_code 17 = .ok (.istore_n 2, 1) := by decide +kernel
theorem d7_image_18 : decode prog_1_method_39_code 18 = .ok (.iload_n 2, 1) := by decide +kernel
theorem d7_image_19 : decode prog_1_method_39_code 19 = .ok (.bipush 15, 2) := by decide +kernel
theorem d7_image_21 : decode prog_1_method_39_code 21 = .ok (.if_icmp .ge 25, 3) := by decide +kernel
theorem d7_image_24 : decode prog_1_method_39_code 24 = .ok (.aload_n 0, 1) := by decide +kernel
theorem d7_image_25 : decode prog_1_method_39_code 25 = .ok (.getfield 11, 3) := by decide +kernel
theorem d7_image_28 : decode prog_1_method_39_code 28 = .ok (.iload_n 1, 1) := by decide +kernel
theorem d7_image_29 : decode prog_1_method_39_code 29 = .ok (.aaload, 1) := by decide +kernel
theorem d7_image_30 : decode prog_1_method_39_code 30 = .ok (.iload_n 2, 1) := by decide +kernel
theorem d7_image_31 : decode prog_1_method_39_code 31 = .ok (.aload_n 0, 1) := by decide +kernel
theorem d7_image_32 : decode prog_1_method_39_code 32 = .ok (.getfield 37, 3) := by decide +kernel
theorem d7_image_35 : decode prog_1_method_39_code 35 = .ok (.iload_n 2, 1) := by decide +kernel
theorem d7_image_36 : decode prog_1_method_39_code 36 = .ok (.invokevirtual 147, 3) := by decide +kernel
theorem d7_image_39 : decode prog_1_method_39_code 39 = .ok (.iastore, 1) := by decide +kernel
theorem d7_image_40 : decode prog_1_method_39_code 40 = .ok (.iinc 2 1, 3) := by decide +kernel
theorem d7_image_43 : decode prog_1_method_39_code 43 = .ok (.goto (-25), 3) := by decide +kernel
theorem d7_image_46 : decode prog_1_method_39_code 46 = .ok (.aload_n 0, 1) := by decide +kernel
theorem d7_image_47 : decode prog_1_method_39_code 47 = .ok (.getfield 11, 3) := by decide +kernel
theorem d7_image_50 : decode prog_1_method_39_code 50 = .ok (.iload_n 1, 1) := by decide +kernel
theorem d7_image_51 : decode prog_1_method_39_code 51 = .ok (.aaload, 1) := by decide +kernel
theorem d7_image_52 : decode prog_1_method_39_code 52 = .ok (.bipush 15, 2) := by decide +kernel
theorem d7_image_54 : decode prog_1_method_39_code 54 = .ok (.aload_n 0, 1) := by decide +kernel
theorem d7_image_55 : decode prog_1_method_39_code 55 = .ok (.getfield 42, 3) := by decide +kernel
theorem d7_image_58 : decode prog_1_method_39_code 58 = .ok (.invokevirtual 308, 3) := by decide +kernel
theorem d7_image_61 : decode prog_1_method_39_code 61 = .ok (.iastore, 1) := by decide +kernel
theorem d7_image_62 : decode prog_1_method_39_code 62 = .ok (.bipush 16, 2) := by decide +kernel
theorem d7_image_64 : decode prog_1_method_39_code 64 = .ok (.ireturn, 1) := by decide +kernel
theorem d8_undoneSet_0 : decode prog_10_method_92_code 0 = .ok (.iconst 0, 1) := by decide +kernel
theorem d8_undoneSet_1 : decode prog_10_method_92_code 1 = .ok (.istore_n 1, 1) := by decide +kernel
theorem d8_undoneSet_2 : decode prog_10_method_92_code 2 = .ok (.iconst 0, 1) := by decide +kernel
theorem d8_undoneSet_3 : decode prog_10_method_92_code 3 = .ok (.istore_n 2, 1) := by decide +kernel
theorem d8_undoneSet_4 : decode prog_10_method_92_code 4 = .ok (.iload_n 2, 1) := by decide +kernel
theorem d8_undoneSet_5 : decode prog_10_method_92_code 5 = .ok (.aload_n 0, 1) := by decide +kernel
theorem d8_undoneSet_6 : decode prog_10_method_92_code 6 = .ok (.getfield 161, 3) := by decide +kernel
theorem d8_undoneSet_9 : decode prog_10_method_92_code 9 = .ok (.if_icmp .ge 20, 3) := by decide +kernel
theorem d8_undoneSet_12 : decode prog_10_method_92_code 12 = .ok (.iload_n 1, 1) := by decide +kernel
theorem d8_undoneSet_13 : decode prog_10_method_92_code 13 = .ok (.aload_n 0, 1) := by decide +kernel
theorem d8_undoneSet_14 : decode prog_10_method_92_code 14 = .ok (.iload_n 2, 1) := by decide +kernel
theorem d8_undoneSet_15 : decode prog_10_method_92_code 15 = .ok (.iconst 4, 1) := by decide +kernel
theorem d8_undoneSet_16 : decode prog_10_method_92_code 16 = .ok (.invokevirtual 175, 3) := by decide +kernel
theorem d8_undoneSet_19 : decode prog_10_method_92_code 19 = .ok (.iload_n 2, 1) := by decide +kernel
theorem d8_undoneSet_20 : decode prog_10_method_92_code 20 = .ok (.ishl, 1) := by decide +kernel
theorem d8_undoneSet_21 : decode prog_10_method_92_code 21 = .ok (.ior, 1) := by decide +kernel
theorem d8_undoneSet_22 : decode prog_10_method_92_code 22 = .ok (.istore_n 1, 1) := by decide +kernel
theorem d8_undoneSet_23 : decode prog_10_method_92_code 23 = .ok (.iinc 2 1, 3) := by decide +kernel
theorem d8_undoneSet_26 : decode prog_10_method_92_code 26 = .ok (.goto (-22), 3) := by decide +kernel
theorem d8_undoneSet_29 : decode prog_10_method_92_code 29 = .ok (.iload_n 1, 1) := by decide +kernel
theorem d8_undoneSet_30 : decode prog_10_method_92_code 30 = .ok (.ireturn, 1) := by decide +kernel
theorem d8_image_0 : decode prog_10_method_93_code 0 = .ok (.iload_n 1, 1) := by decide +kernel
theorem d8_image_1 : decode prog_10_method_93_code 1 = .ok (.invokestatic 84, 3) := by decide +kernel
theorem d8_image_4 : decode prog_10_method_93_code 4 = .ok (.ifCond .ne 5, 3) := by decide +kernel
theorem d8_image_7 : decode prog_10_method_93_code 7 = .ok (.iconst (-1), 1) := by decide +kernel
theorem d8_image_8 : decode prog_10_method_93_code 8 = .ok (.ireturn, 1) := by decide +kernel
theorem d8_image_9 : decode prog_10_method_93_code 9 = .ok (.aload_n 0, 1) := by decide +kernel
theorem d8_image_10 : decode prog_10_method_93_code 10 = .ok (.iload_n 1, 1) := by decide +kernel
theorem d8_image_11 : decode prog_10_method_93_code 11 = .ok (.bipush 16, 2) := by decide +kernel
theorem d8_image_13 : decode prog_10_method_93_code 13 = .ok (.invokevirtual 278, 3) := by decide +kernel
theorem d8_image_16 : decode prog_10_method_93_code 16 = .ok (.pop, 1) := by decide +kernel
theorem d8_image_17 : decode prog_10_method_93_code 17 = .ok (.iconst 0, 1) := by decide +kernel
theorem d8_image_18 : decode prog_10_method_93_code 18 = .ok (.istore_n 2, 1) := by decide +kernel
theorem d8_image_19 : decode prog_10_method_93_code 19 = .ok (.iload_n 2, 1) := by decide +kernel
theorem d8_image_20 : decode prog_10_method_93_code 20 = .ok (.bipush 15, 2) := by decide +kernel
theorem d8_image_22 : decode prog_10_method_93_code 22 = .ok (.if_icmp .ge 26, 3) := by decide +kernel
theorem d8_image_25 : decode prog_10_method_93_code 25 = .ok (.aload_n 0, 1) := by decide +kernel
theorem d8_image_26 : decode prog_10_method_93_code 26 = .ok (.getfield 20, 3) := by decide +kernel
theorem d8_image_29 : decode prog_10_method_93_code 29 = .ok (.bipush 40, 2) := by decide +kernel
theorem d8_image_31 : decode prog_10_method_93_code 31 = .ok (.iload_n 1, 1) := by decide +kernel
theorem d8_image_32 : decode prog_10_method_93_code 32 = .ok (.imul, 1) := by decide +kernel
theorem d8_image_33 : decode prog_10_method_93_code 33 = .ok (.iload_n 2, 1) := by decide +kernel
theorem d8_image_34 : decode prog_10_method_93_code 34 = .ok (.iadd, 1) := by decide +kernel
theorem d8_image_35 : decode prog_10_method_93_code 35 = .ok (.aload_n 0, 1) := by decide +kernel
theorem d8_image_36 : decode prog_10_method_93_code 36 = .ok (.getfield 32, 3) := by decide +kernel
theorem d8_image_39 : decode prog_10_method_93_code 39 = .ok (.iload_n 2, 1) := by decide +kernel
theorem d8_image_40 : decode prog_10_method_93_code 40 = .ok (.iaload, 1) := by decide +kernel
theorem d8_image_41 : decode prog_10_method_93_code 41 = .ok (.iastore, 1) := by decide +kernel
theorem d8_image_42 : decode prog_10_method_93_code 42 = .ok (.iinc 2 1, 3) := by decide +kernel
theorem d8_image_45 : decode prog_10_method_93_code 45 = .ok (.goto (-26), 3) := by decide +kernel
theorem d8_image_48 : decode prog_10_method_93_code 48 = .ok (.aload_n 0, 1) := by decide +kernel
theorem d8_image_49 : decode prog_10_method_93_code 49 = .ok (.getfield 20, 3) := by decide +kernel
theorem d8_image_52 : decode prog_10_method_93_code 52 = .ok (.bipush 40, 2) := by decide +kernel
theorem d8_image_54 : decode prog_10_method_93_code 54 = .ok (.iload_n 1, 1) := by decide +kernel
theorem d8_image_55 : decode prog_10_method_93_code 55 = .ok (.imul, 1) := by decide +kernel
theorem d8_image_56 : decode prog_10_method_93_code 56 = .ok (.bipush 15, 2) := by decide +kernel
theorem d8_image_58 : decode prog_10_method_93_code 58 = .ok (.iadd, 1) := by decide +kernel
theorem d8_image_59 : decode prog_10_method_93_code 59 = .ok (.aload_n 0, 1) := by decide +kernel
theorem d8_image_60 : decode prog_10_method_93_code 60 = .ok (.invokevirtual 289, 3) := by decide +kernel
theorem d8_image_63 : decode prog_10_method_93_code 63 = .ok (.iastore, 1) := by decide +kernel
theorem d8_image_64 : decode prog_10_method_93_code 64 = .ok (.bipush 16, 2) := by decide +kernel
theorem d8_image_66 : decode prog_10_method_93_code 66 = .ok (.ireturn, 1) := by decide +kernel
theorem d3_couldTell_0 : decode prog_5_method_4_code 0 = .ok (.aload_n 0, 1) := by decide +kernel
theorem d3_couldTell_1 : decode prog_5_method_4_code 1 = .ok (.iconst 0, 1) := by decide +kernel
theorem d3_couldTell_2 : decode prog_5_method_4_code 2 = .ok (.iaload, 1) := by decide +kernel
theorem d3_couldTell_3 : decode prog_5_method_4_code 3 = .ok (.invokestatic 37, 3) := by decide +kernel
theorem d3_couldTell_6 : decode prog_5_method_4_code 6 = .ok (.ifCond .eq 14, 3) := by decide +kernel
theorem d3_couldTell_9 : decode prog_5_method_4_code 9 = .ok (.aload_n 0, 1) := by decide +kernel
theorem d3_couldTell_10 : decode prog_5_method_4_code 10 = .ok (.iconst 1, 1) := by decide +kernel
theorem d3_couldTell_11 : decode prog_5_method_4_code 11 = .ok (.iaload, 1) := by decide +kernel
theorem d3_couldTell_12 : decode prog_5_method_4_code 12 = .ok (.bipush 6, 2) := by decide +kernel
theorem d3_couldTell_14 : decode prog_5_method_4_code 14 = .ok (.invokestatic 43, 3) := by decide +kernel
theorem d3_couldTell_17 : decode prog_5_method_4_code 17 = .ok (.ifCond .ne 5, 3) := by decide +kernel
theorem d3_couldTell_20 : decode prog_5_method_4_code 20 = .ok (.iconst 0, 1) := by decide +kernel
theorem d3_couldTell_21 : decode prog_5_method_4_code 21 = .ok (.ireturn, 1) := by decide +kernel
theorem d3_couldTell_22 : decode prog_5_method_4_code 22 = .ok (.aload_n 0, 1) := by decide +kernel
theorem d3_couldTell_23 : decode prog_5_method_4_code 23 = .ok (.iconst 1, 1) := by decide +kernel
theorem d3_couldTell_24 : decode prog_5_method_4_code 24 = .ok (.iaload, 1) := by decide +kernel
theorem d3_couldTell_25 : decode prog_5_method_4_code 25 = .ok (.istore_n 1, 1) := by decide +kernel
theorem d3_couldTell_26 : decode prog_5_method_4_code 26 = .ok (.iconst 0, 1) := by decide +kernel
theorem d3_couldTell_27 : decode prog_5_method_4_code 27 = .ok (.istore_n 2, 1) := by decide +kernel
theorem d3_couldTell_28 : decode prog_5_method_4_code 28 = .ok (.iload_n 2, 1) := by decide +kernel
theorem d3_couldTell_29 : decode prog_5_method_4_code 29 = .ok (.bipush 6, 2) := by decide +kernel
theorem d3_couldTell_31 : decode prog_5_method_4_code 31 = .ok (.if_icmp .ge 38, 3) := by decide +kernel
theorem d3_couldTell_34 : decode prog_5_method_4_code 34 = .ok (.aload_n 0, 1) := by decide +kernel
theorem d3_couldTell_35 : decode prog_5_method_4_code 35 = .ok (.iconst 2, 1) := by decide +kernel
theorem d3_couldTell_36 : decode prog_5_method_4_code 36 = .ok (.iload_n 2, 1) := by decide +kernel
theorem d3_couldTell_37 : decode prog_5_method_4_code 37 = .ok (.iadd, 1) := by decide +kernel
theorem d3_couldTell_38 : decode prog_5_method_4_code 38 = .ok (.iaload, 1) := by decide +kernel
theorem d3_couldTell_39 : decode prog_5_method_4_code 39 = .ok (.istore_n 3, 1) := by decide +kernel
theorem d3_couldTell_40 : decode prog_5_method_4_code 40 = .ok (.iload_n 2, 1) := by decide +kernel
theorem d3_couldTell_41 : decode prog_5_method_4_code 41 = .ok (.iload_n 1, 1) := by decide +kernel
theorem d3_couldTell_42 : decode prog_5_method_4_code 42 = .ok (.if_icmp .ge 13, 3) := by decide +kernel
theorem d3_couldTell_45 : decode prog_5_method_4_code 45 = .ok (.iload_n 3, 1) := by decide +kernel
theorem d3_couldTell_46 : decode prog_5_method_4_code 46 = .ok (.invokestatic 47, 3) := by decide +kernel
theorem d3_couldTell_49 : decode prog_5_method_4_code 49 = .ok (.ifCond .ne 14, 3) := by decide +kernel
theorem d3_couldTell_52 : decode prog_5_method_4_code 52 = .ok (.goto 9, 3) := by decide +kernel
theorem d3_couldTell_55 : decode prog_5_method_4_code 55 = .ok (.iload_n 3, 1) := by decide +kernel
theorem d3_couldTell_56 : decode prog_5_method_4_code 56 = .ok (.bipush (-9), 2) := by decide +kernel
theorem d3_couldTell_58 : decode prog_5_method_4_code 58 = .ok (.if_icmp .eq 5, 3) := by decide +kernel
theorem d3_couldTell_61 : decode prog_5_method_4_code 61 = .ok (.iconst 0, 1) := by decide +kernel
theorem d3_couldTell_62 : decode prog_5_method_4_code 62 = .ok (.ireturn, 1) := by decide +kernel
theorem d3_couldTell_63 : decode prog_5_method_4_code 63 = .ok (.iinc 2 1, 3) := by decide +kernel
theorem d3_couldTell_66 : decode prog_5_method_4_code 66 = .ok (.goto (-38), 3) := by decide +kernel
theorem d3_couldTell_69 : decode prog_5_method_4_code 69 = .ok (.iconst 0, 1) := by decide +kernel
theorem d3_couldTell_70 : decode prog_5_method_4_code 70 = .ok (.istore_n 2, 1) := by decide +kernel
theorem d3_couldTell_71 : decode prog_5_method_4_code 71 = .ok (.iconst 0, 1) := by decide +kernel
theorem d3_couldTell_72 : decode prog_5_method_4_code 72 = .ok (.istore_n 3, 1) := by decide +kernel
theorem d3_couldTell_73 : decode prog_5_method_4_code 73 = .ok (.iload_n 3, 1) := by decide +kernel
theorem d3_couldTell_74 : decode prog_5_method_4_code 74 = .ok (.bipush 6, 2) := by decide +kernel
theorem d3_couldTell_76 : decode prog_5_method_4_code 76 = .ok (.if_icmp .gt 58, 3) := by decide +kernel
theorem d3_couldTell_79 : decode prog_5_method_4_code 79 = .ok (.aload_n 0, 1) := by decide +kernel
theorem d3_couldTell_80 : decode prog_5_method_4_code 80 = .ok (.bipush 8, 2) := by decide +kernel
theorem d3_couldTell_82 : decode prog_5_method_4_code 82 = .ok (.iload_n 3, 1) := by decide +kernel
theorem d3_couldTell_83 : decode prog_5_method_4_code 83 = .ok (.iadd, 1) := by decide +kernel
theorem d3_couldTell_84 : decode prog_5_method_4_code 84 = .ok (.iaload, 1) := by decide +kernel
theorem d3_couldTell_85 : decode prog_5_method_4_code 85 = .ok (.istore 4, 2) := by decide +kernel
theorem d3_couldTell_87 : decode prog_5_method_4_code 87 = .ok (.iload_n 3, 1) := by decide +kernel
theorem d3_couldTell_88 : decode prog_5_method_4_code 88 = .ok (.iload_n 1, 1) := by decide +kernel
theorem d3_couldTell_89 : decode prog_5_method_4_code 89 = .ok (.if_icmp .gt 16, 3) := by decide +kernel
theorem d3_couldTell_92 : decode prog_5_method_4_code 92 = .ok (.iload 4, 2) := by decide +kernel
theorem d3_couldTell_94 : decode prog_5_method_4_code 94 = .ok (.bipush 9, 2) := by decide +kernel
theorem d3_couldTell_96 : decode prog_5_method_4_code 96 = .ok (.invokestatic 43, 3) := by decide +kernel
theorem d3_couldTell_99 : decode prog_5_method_4_code 99 = .ok (.ifCond .ne 15, 3) := by decide +kernel
theorem d3_couldTell_102 : decode prog_5_method_4_code 102 = .ok (.goto 10, 3) := by decide +kernel
theorem d3_couldTell_105 : decode prog_5_method_4_code 105 = .ok (.iload 4, 2) := by decide +kernel
theorem d3_couldTell_107 : decode prog_5_method_4_code 107 = .ok (.bipush (-9), 2) := by decide +kernel
theorem d3_couldTell_109 : decode prog_5_method_4_code 109 = .ok (.if_icmp .eq 5, 3) := by decide +kernel
theorem d3_couldTell_112 : decode prog_5_method_4_code 112 = .ok (.iconst 0, 1) := by decide +kernel
theorem d3_couldTell_113 : decode prog_5_method_4_code 113 = .ok (.ireturn, 1) := by decide +kernel
theorem d3_couldTell_114 : decode prog_5_method_4_code 114 = .ok (.iload_n 2, 1) := by decide +kernel
theorem d3_couldTell_115 : decode prog_5_method_4_code 115 = .ok (.iload_n 3, 1) := by decide +kernel
theorem d3_couldTell_116 : decode prog_5_method_4_code 116 = .ok (.iload_n 1, 1) := by decide +kernel
theorem d3_couldTell_117 : decode prog_5_method_4_code 117 = .ok (.if_icmp .gt 8, 3) := by decide +kernel
theorem d3_couldTell_120 : decode prog_5_method_4_code 120 = .ok (.iload 4, 2) := by decide +kernel
theorem d3_couldTell_122 : decode prog_5_method_4_code 122 = .ok (.goto 4, 3) := by decide +kernel
theorem d3_couldTell_125 : decode prog_5_method_4_code 125 = .ok (.iconst 0, 1) := by decide +kernel
theorem d3_couldTell_126 : decode prog_5_method_4_code 126 = .ok (.iadd, 1) := by decide +kernel
theorem d3_couldTell_127 : decode prog_5_method_4_code 127 = .ok (.istore_n 2, 1) := by decide +kernel
theorem d3_couldTell_128 : decode prog_5_method_4_code 128 = .ok (.iinc 3 1, 3) := by decide +kernel
theorem d3_couldTell_131 : decode prog_5_method_4_code 131 = .ok (.goto (-58), 3) := by decide +kernel
theorem d3_couldTell_134 : decode prog_5_method_4_code 134 = .ok (.iload_n 2, 1) := by decide +kernel
theorem d3_couldTell_135 : decode prog_5_method_4_code 135 = .ok (.ifCond .le 7, 3) := by decide +kernel
theorem d3_couldTell_138 : decode prog_5_method_4_code 138 = .ok (.iconst 1, 1) := by decide +kernel
theorem d3_couldTell_139 : decode prog_5_method_4_code 139 = .ok (.goto 4, 3) := by decide +kernel
theorem d3_couldTell_142 : decode prog_5_method_4_code 142 = .ok (.iconst 0, 1) := by decide +kernel
theorem d3_couldTell_143 : decode prog_5_method_4_code 143 = .ok (.ireturn, 1) := by decide +kernel
theorem d3_goOn_0 : decode prog_5_method_5_code 0 = .ok (.aload_n 0, 1) := by decide +kernel
theorem d3_goOn_1 : decode prog_5_method_5_code 1 = .ok (.aload_n 1, 1) := by decide +kernel
theorem d3_goOn_2 : decode prog_5_method_5_code 2 = .ok (.iconst 0, 1) := by decide +kernel
theorem d3_goOn_3 : decode prog_5_method_5_code 3 = .ok (.iaload, 1) := by decide +kernel
theorem d3_goOn_4 : decode prog_5_method_5_code 4 = .ok (.putfield 9, 3) := by decide +kernel
theorem d3_goOn_7 : decode prog_5_method_5_code 7 = .ok (.aload_n 0, 1) := by decide +kernel
theorem d3_goOn_8 : decode prog_5_method_5_code 8 = .ok (.aload_n 1, 1) := by decide +kernel
theorem d3_goOn_9 : decode prog_5_method_5_code 9 = .ok (.iconst 1, 1) := by decide +kernel
theorem d3_goOn_10 : decode prog_5_method_5_code 10 = .ok (.iaload, 1) := by decide +kernel
theorem d3_goOn_11 : decode prog_5_method_5_code 11 = .ok (.putfield 15, 3) := by decide +kernel
theorem d3_goOn_14 : decode prog_5_method_5_code 14 = .ok (.aload_n 1, 1) := by decide +kernel
theorem d3_goOn_15 : decode prog_5_method_5_code 15 = .ok (.iconst 2, 1) := by decide +kernel
theorem d3_goOn_16 : decode prog_5_method_5_code 16 = .ok (.aload_n 0, 1) := by decide +kernel
theorem d3_goOn_17 : decode prog_5_method_5_code 17 = .ok (.getfield 18, 3) := by decide +kernel
theorem d3_goOn_20 : decode prog_5_method_5_code 20 = .ok (.iconst 0, 1) := by decide +kernel
theorem d3_goOn_21 : decode prog_5_method_5_code 21 = .ok (.aload_n 0, 1) := by decide +kernel
theorem d3_goOn_22 : decode prog_5_method_5_code 22 = .ok (.getfield 15, 3) := by decide +kernel
theorem d3_goOn_25 : decode prog_5_method_5_code 25 = .ok (.invokestatic 25, 3) := by decide +kernel
theorem d3_goOn_28 : decode prog_5_method_5_code 28 = .ok (.aload_n 1, 1) := by decide +kernel
theorem d3_goOn_29 : decode prog_5_method_5_code 29 = .ok (.bipush 8, 2) := by decide +kernel
theorem d3_goOn_31 : decode prog_5_method_5_code 31 = .ok (.aload_n 0, 1) := by decide +kernel
theorem d3_goOn_32 : decode prog_5_method_5_code 32 = .ok (.getfield 22, 3) := by decide +kernel
theorem d3_goOn_35 : decode prog_5_method_5_code 35 = .ok (.iconst 0, 1) := by decide +kernel
theorem d3_goOn_36 : decode prog_5_method_5_code 36 = .ok (.aload_n 0, 1) := by decide +kernel
theorem d3_goOn_37 : decode prog_5_method_5_code 37 = .ok (.getfield 15, 3) := by decide +kernel
theorem d3_goOn_40 : decode prog_5_method_5_code 40 = .ok (.iconst 1, 1) := by decide +kernel
theorem d3_goOn_41 : decode prog_5_method_5_code 41 = .ok (.iadd, 1) := by decide +kernel
theorem d3_goOn_42 : decode prog_5_method_5_code 42 = .ok (.invokestatic 25, 3) := by decide +kernel
theorem d3_goOn_45 : decode prog_5_method_5_code 45 = .ok (.return_, 1) := by decide +kernel
theorem d0_undoBits_0 : decode prog_2_method_9_code 0 = .ok (.iconst 0, 1) := by decide +kernel
theorem d0_undoBits_1 : decode prog_2_method_9_code 1 = .ok (.istore_n 2, 1) := by decide +kernel
theorem d0_undoBits_2 : decode prog_2_method_9_code 2 = .ok (.iload_n 2, 1) := by decide +kernel
theorem d0_undoBits_3 : decode prog_2_method_9_code 3 = .ok (.aload_n 0, 1) := by decide +kernel
theorem d0_undoBits_4 : decode prog_2_method_9_code 4 = .ok (.getfield 17, 3) := by decide +kernel
theorem d0_undoBits_7 : decode prog_2_method_9_code 7 = .ok (.if_icmp .ge 32, 3) := by decide +kernel
theorem d0_undoBits_10 : decode prog_2_method_9_code 10 = .ok (.aload_n 0, 1) := by decide +kernel
theorem d0_undoBits_11 : decode prog_2_method_9_code 11 = .ok (.getfield 13, 3) := by decide +kernel
theorem d0_undoBits_14 : decode prog_2_method_9_code 14 = .ok (.iload_n 2, 1) := by decide +kernel
theorem d0_undoBits_15 : decode prog_2_method_9_code 15 = .ok (.aaload, 1) := by decide +kernel
theorem d0_undoBits_16 : decode prog_2_method_9_code 16 = .ok (.iload_n 1, 1) := by decide +kernel
theorem d0_undoBits_17 : decode prog_2_method_9_code 17 = .ok (.iload_n 2, 1) := by decide +kernel
theorem d0_undoBits_18 : decode prog_2_method_9_code 18 = .ok (.ishr, 1) := by decide +kernel
theorem d0_undoBits_19 : decode prog_2_method_9_code 19 = .ok (.iconst 1, 1) := by decide +kernel
theorem d0_undoBits_20 : decode prog_2_method_9_code 20 = .ok (.iand, 1) := by decide +kernel
theorem d0_undoBits_21 : decode prog_2_method_9_code 21 = .ok (.iconst 1, 1) := by decide +kernel
theorem d0_undoBits_22 : decode prog_2_method_9_code 22 = .ok (.if_icmp .ne 7, 3) := by decide +kernel
theorem d0_undoBits_25 : decode prog_2_method_9_code 25 = .ok (.iconst 1, 1) := by decide +kernel
theorem d0_undoBits_26 : decode prog_2_method_9_code 26 = .ok (.goto 4, 3) := by decide +kernel
theorem d0_undoBits_29 : decode prog_2_method_9_code 29 = .ok (.iconst 0, 1) := by decide +kernel
theorem d0_undoBits_30 : decode prog_2_method_9_code 30 = .ok (.putfield 40, 3) := by decide +kernel
theorem d0_undoBits_33 : decode prog_2_method_9_code 33 = .ok (.iinc 2 1, 3) := by decide +kernel
theorem d0_undoBits_36 : decode prog_2_method_9_code 36 = .ok (.goto (-34), 3) := by decide +kernel
theorem d0_undoBits_39 : decode prog_2_method_9_code 39 = .ok (.return_, 1) := by decide +kernel
theorem d7_on_0 : decode prog_1_method_40_code 0 = .ok (.iload_n 1, 1) := by decide +kernel
theorem d7_on_1 : decode prog_1_method_40_code 1 = .ok (.invokestatic 88, 3) := by decide +kernel
theorem d7_on_4 : decode prog_1_method_40_code 4 = .ok (.ifCond .ne 5, 3) := by decide +kernel
theorem d7_on_7 : decode prog_1_method_40_code 7 = .ok (.iconst (-1), 1) := by decide +kernel
theorem d7_on_8 : decode prog_1_method_40_code 8 = .ok (.ireturn, 1) := by decide +kernel
theorem d7_on_9 : decode prog_1_method_40_code 9 = .ok (.aload_n 0, 1) := by decide +kernel
theorem d7_on_10 : decode prog_1_method_40_code 10 = .ok (.getfield 14, 3) := by decide +kernel
theorem d7_on_13 : decode prog_1_method_40_code 13 = .ok (.iload_n 1, 1) := by decide +kernel
theorem d7_on_14 : decode prog_1_method_40_code 14 = .ok (.iaload, 1) := by decide +kernel
theorem d7_on_15 : decode prog_1_method_40_code 15 = .ok (.iconst (-1), 1) := by decide +kernel
theorem d7_on_16 : decode prog_1_method_40_code 16 = .ok (.if_icmp .ne 9, 3) := by decide +kernel
theorem d7_on_19 : decode prog_1_method_40_code 19 = .ok (.aload_n 0, 1) := by decide +kernel
theorem d7_on_20 : decode prog_1_method_40_code 20 = .ok (.iconst 1, 1) := by decide +kernel
theorem d7_on_21 : decode prog_1_method_40_code 21 = .ok (.invokevirtual 92, 3) := by decide +kernel
theorem d7_on_24 : decode prog_1_method_40_code 24 = .ok (.ireturn, 1) := by decide +kernel
theorem d7_on_25 : decode prog_1_method_40_code 25 = .ok (.aload_n 0, 1) := by decide +kernel
theorem d7_on_26 : decode prog_1_method_40_code 26 = .ok (.getfield 14, 3) := by decide +kernel
theorem d7_on_29 : decode prog_1_method_40_code 29 = .ok (.iload_n 1, 1) := by decide +kernel
theorem d7_on_30 : decode prog_1_method_40_code 30 = .ok (.iaload, 1) := by decide +kernel
theorem d7_on_31 : decode prog_1_method_40_code 31 = .ok (.bipush 16, 2) := by decide +kernel
theorem d7_on_33 : decode prog_1_method_40_code 33 = .ok (.if_icmp .eq 9, 3) := by decide +kernel
theorem d7_on_36 : decode prog_1_method_40_code 36 = .ok (.aload_n 0, 1) := by decide +kernel
theorem d7_on_37 : decode prog_1_method_40_code 37 = .ok (.iconst 5, 1) := by decide +kernel
theorem d7_on_38 : decode prog_1_method_40_code 38 = .ok (.invokevirtual 92, 3) := by decide +kernel
theorem d7_on_41 : decode prog_1_method_40_code 41 = .ok (.ireturn, 1) := by decide +kernel
theorem d7_on_42 : decode prog_1_method_40_code 42 = .ok (.aload_n 0, 1) := by decide +kernel
