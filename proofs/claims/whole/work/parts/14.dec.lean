theorem d8_setCome_137 : decode prog_10_method_67_code 137 = .ok (.iadd, 1) := by decide +kernel
theorem d8_setCome_138 : decode prog_10_method_67_code 138 = .ok (.iload 6, 2) := by decide +kernel
theorem d8_setCome_140 : decode prog_10_method_67_code 140 = .ok (.invokevirtual 207, 3) := by decide +kernel
theorem d8_setCome_143 : decode prog_10_method_67_code 143 = .ok (.lmul, 1) := by decide +kernel
theorem d8_setCome_144 : decode prog_10_method_67_code 144 = .ok (.ladd, 1) := by decide +kernel
theorem d8_setCome_145 : decode prog_10_method_67_code 145 = .ok (.lastore, 1) := by decide +kernel
theorem d8_setCome_146 : decode prog_10_method_67_code 146 = .ok (.iinc 5 1, 3) := by decide +kernel
theorem d8_setCome_149 : decode prog_10_method_67_code 149 = .ok (.goto (-72), 3) := by decide +kernel
theorem d8_setCome_152 : decode prog_10_method_67_code 152 = .ok (.iinc 2 1, 3) := by decide +kernel
theorem d8_setCome_155 : decode prog_10_method_67_code 155 = .ok (.goto (-99), 3) := by decide +kernel
theorem d8_setCome_158 : decode prog_10_method_67_code 158 = .ok (.iinc 1 1, 3) := by decide +kernel
theorem d8_setCome_161 : decode prog_10_method_67_code 161 = .ok (.goto (-115), 3) := by decide +kernel
theorem d8_setCome_164 : decode prog_10_method_67_code 164 = .ok (.return_, 1) := by decide +kernel
theorem d8_endOf_0 : decode prog_10_method_30_code 0 = .ok (.aload_n 0, 1) := by decide +kernel
theorem d8_endOf_1 : decode prog_10_method_30_code 1 = .ok (.getfield 32, 3) := by decide +kernel
theorem d8_endOf_4 : decode prog_10_method_30_code 4 = .ok (.bipush 8, 2) := by decide +kernel
theorem d8_endOf_6 : decode prog_10_method_30_code 6 = .ok (.iload_n 1, 1) := by decide +kernel
theorem d8_endOf_7 : decode prog_10_method_30_code 7 = .ok (.iadd, 1) := by decide +kernel
theorem d8_endOf_8 : decode prog_10_method_30_code 8 = .ok (.iaload, 1) := by decide +kernel
theorem d8_endOf_9 : decode prog_10_method_30_code 9 = .ok (.ireturn, 1) := by decide +kernel
theorem d8_endWeight_0 : decode prog_10_method_65_code 0 = .ok (.lconst 1, 1) := by decide +kernel
theorem d8_endWeight_1 : decode prog_10_method_65_code 1 = .ok (.lstore_n 3, 1) := by decide +kernel
theorem d8_endWeight_2 : decode prog_10_method_65_code 2 = .ok (.iconst 0, 1) := by decide +kernel
theorem d8_endWeight_3 : decode prog_10_method_65_code 3 = .ok (.istore 5, 2) := by decide +kernel
theorem d8_endWeight_5 : decode prog_10_method_65_code 5 = .ok (.iload 5, 2) := by decide +kernel
theorem d8_endWeight_7 : decode prog_10_method_65_code 7 = .ok (.aload_n 0, 1) := by decide +kernel
theorem d8_endWeight_8 : decode prog_10_method_65_code 8 = .ok (.getfield 161, 3) := by decide +kernel
theorem d8_endWeight_11 : decode prog_10_method_65_code 11 = .ok (.if_icmp .ge 90, 3) := by decide +kernel
theorem d8_endWeight_14 : decode prog_10_method_65_code 14 = .ok (.aload_n 0, 1) := by decide +kernel
theorem d8_endWeight_15 : decode prog_10_method_65_code 15 = .ok (.iload 5, 2) := by decide +kernel
theorem d8_endWeight_17 : decode prog_10_method_65_code 17 = .ok (.iconst 0, 1) := by decide +kernel
theorem d8_endWeight_18 : decode prog_10_method_65_code 18 = .ok (.invokevirtual 175, 3) := by decide +kernel
theorem d8_endWeight_21 : decode prog_10_method_65_code 21 = .ok (.istore 6, 2) := by decide +kernel
theorem d8_endWeight_23 : decode prog_10_method_65_code 23 = .ok (.iload 6, 2) := by decide +kernel
theorem d8_endWeight_25 : decode prog_10_method_65_code 25 = .ok (.iconst 3, 1) := by decide +kernel
theorem d8_endWeight_26 : decode prog_10_method_65_code 26 = .ok (.if_icmp .ne 13, 3) := by decide +kernel
theorem d8_endWeight_29 : decode prog_10_method_65_code 29 = .ok (.aload_n 0, 1) := by decide +kernel
theorem d8_endWeight_30 : decode prog_10_method_65_code 30 = .ok (.iload 5, 2) := by decide +kernel
theorem d8_endWeight_32 : decode prog_10_method_65_code 32 = .ok (.iload_n 1, 1) := by decide +kernel
theorem d8_endWeight_33 : decode prog_10_method_65_code 33 = .ok (.invokevirtual 187, 3) := by decide +kernel
theorem d8_endWeight_36 : decode prog_10_method_65_code 36 = .ok (.goto 38, 3) := by decide +kernel
theorem d8_endWeight_39 : decode prog_10_method_65_code 39 = .ok (.iload 6, 2) := by decide +kernel
theorem d8_endWeight_41 : decode prog_10_method_65_code 41 = .ok (.invokestatic 199, 3) := by decide +kernel
theorem d8_endWeight_44 : decode prog_10_method_65_code 44 = .ok (.ifCond .eq 23, 3) := by decide +kernel
theorem d8_endWeight_47 : decode prog_10_method_65_code 47 = .ok (.aload_n 0, 1) := by decide +kernel
theorem d8_endWeight_48 : decode prog_10_method_65_code 48 = .ok (.iload 5, 2) := by decide +kernel
theorem d8_endWeight_50 : decode prog_10_method_65_code 50 = .ok (.iconst 1, 1) := by decide +kernel
theorem d8_endWeight_51 : decode prog_10_method_65_code 51 = .ok (.invokevirtual 175, 3) := by decide +kernel
theorem d8_endWeight_54 : decode prog_10_method_65_code 54 = .ok (.iload_n 1, 1) := by decide +kernel
theorem d8_endWeight_55 : decode prog_10_method_65_code 55 = .ok (.if_icmp .le 8, 3) := by decide +kernel
theorem d8_endWeight_58 : decode prog_10_method_65_code 58 = .ok (.bipush 12, 2) := by decide +kernel
theorem d8_endWeight_60 : decode prog_10_method_65_code 60 = .ok (.goto 14, 3) := by decide +kernel
theorem d8_endWeight_63 : decode prog_10_method_65_code 63 = .ok (.iconst 1, 1) := by decide +kernel
theorem d8_endWeight_64 : decode prog_10_method_65_code 64 = .ok (.goto 10, 3) := by decide +kernel
theorem d8_endWeight_67 : decode prog_10_method_65_code 67 = .ok (.aload_n 0, 1) := by decide +kernel
theorem d8_endWeight_68 : decode prog_10_method_65_code 68 = .ok (.iload 5, 2) := by decide +kernel
theorem d8_endWeight_70 : decode prog_10_method_65_code 70 = .ok (.iload_n 2, 1) := by decide +kernel
theorem d8_endWeight_71 : decode prog_10_method_65_code 71 = .ok (.invokevirtual 187, 3) := by decide +kernel
theorem d8_endWeight_74 : decode prog_10_method_65_code 74 = .ok (.istore 7, 2) := by decide +kernel
theorem d8_endWeight_76 : decode prog_10_method_65_code 76 = .ok (.lload_n 3, 1) := by decide +kernel
theorem d8_endWeight_77 : decode prog_10_method_65_code 77 = .ok (.aload_n 0, 1) := by decide +kernel
theorem d8_endWeight_78 : decode prog_10_method_65_code 78 = .ok (.iload 5, 2) := by decide +kernel
theorem d8_endWeight_80 : decode prog_10_method_65_code 80 = .ok (.invokevirtual 196, 3) := by decide +kernel
theorem d8_endWeight_83 : decode prog_10_method_65_code 83 = .ok (.ifCond .eq 9, 3) := by decide +kernel
theorem d8_endWeight_86 : decode prog_10_method_65_code 86 = .ok (.iload 7, 2) := by decide +kernel
theorem d8_endWeight_88 : decode prog_10_method_65_code 88 = .ok (.i2l, 1) := by decide +kernel
theorem d8_endWeight_89 : decode prog_10_method_65_code 89 = .ok (.goto 4, 3) := by decide +kernel
theorem d8_endWeight_92 : decode prog_10_method_65_code 92 = .ok (.lconst 1, 1) := by decide +kernel
theorem d8_endWeight_93 : decode prog_10_method_65_code 93 = .ok (.lmul, 1) := by decide +kernel
theorem d8_endWeight_94 : decode prog_10_method_65_code 94 = .ok (.lstore_n 3, 1) := by decide +kernel
theorem d8_endWeight_95 : decode prog_10_method_65_code 95 = .ok (.iinc 5 1, 3) := by decide +kernel
theorem d8_endWeight_98 : decode prog_10_method_65_code 98 = .ok (.goto (-93), 3) := by decide +kernel
theorem d8_endWeight_101 : decode prog_10_method_65_code 101 = .ok (.iload_n 1, 1) := by decide +kernel
theorem d8_endWeight_102 : decode prog_10_method_65_code 102 = .ok (.istore 5, 2) := by decide +kernel
theorem d8_endWeight_104 : decode prog_10_method_65_code 104 = .ok (.iload 5, 2) := by decide +kernel
theorem d8_endWeight_106 : decode prog_10_method_65_code 106 = .ok (.aload_n 0, 1) := by decide +kernel
theorem d8_endWeight_107 : decode prog_10_method_65_code 107 = .ok (.invokevirtual 129, 3) := by decide +kernel
theorem d8_endWeight_110 : decode prog_10_method_65_code 110 = .ok (.if_icmp .ge 15, 3) := by decide +kernel
theorem d8_endWeight_113 : decode prog_10_method_65_code 113 = .ok (.lload_n 3, 1) := by decide +kernel
theorem d8_endWeight_114 : decode prog_10_method_65_code 114 = .ok (.ldc2_w 202, 3) := by decide +kernel
theorem d8_endWeight_117 : decode prog_10_method_65_code 117 = .ok (.lmul, 1) := by decide +kernel
theorem d8_endWeight_118 : decode prog_10_method_65_code 118 = .ok (.lstore_n 3, 1) := by decide +kernel
theorem d8_endWeight_119 : decode prog_10_method_65_code 119 = .ok (.iinc 5 1, 3) := by decide +kernel
theorem d8_endWeight_122 : decode prog_10_method_65_code 122 = .ok (.goto (-18), 3) := by decide +kernel
theorem d8_endWeight_125 : decode prog_10_method_65_code 125 = .ok (.lload_n 3, 1) := by decide +kernel
theorem d8_endWeight_126 : decode prog_10_method_65_code 126 = .ok (.aload_n 0, 1) := by decide +kernel
theorem d8_endWeight_127 : decode prog_10_method_65_code 127 = .ok (.iload_n 1, 1) := by decide +kernel
theorem d8_endWeight_128 : decode prog_10_method_65_code 128 = .ok (.invokevirtual 204, 3) := by decide +kernel
theorem d8_endWeight_131 : decode prog_10_method_65_code 131 = .ok (.i2l, 1) := by decide +kernel
theorem d8_endWeight_132 : decode prog_10_method_65_code 132 = .ok (.lmul, 1) := by decide +kernel
theorem d8_endWeight_133 : decode prog_10_method_65_code 133 = .ok (.lreturn, 1) := by decide +kernel
theorem d8_weightOf_0 : decode prog_10_method_70_code 0 = .ok (.lconst 1, 1) := by decide +kernel
theorem d8_weightOf_1 : decode prog_10_method_70_code 1 = .ok (.lstore_n 2, 1) := by decide +kernel
theorem d8_weightOf_2 : decode prog_10_method_70_code 2 = .ok (.iconst 0, 1) := by decide +kernel
theorem d8_weightOf_3 : decode prog_10_method_70_code 3 = .ok (.istore 4, 2) := by decide +kernel
theorem d8_weightOf_5 : decode prog_10_method_70_code 5 = .ok (.iload 4, 2) := by decide +kernel
theorem d8_weightOf_7 : decode prog_10_method_70_code 7 = .ok (.aload_n 0, 1) := by decide +kernel
theorem d8_weightOf_8 : decode prog_10_method_70_code 8 = .ok (.getfield 161, 3) := by decide +kernel
theorem d8_weightOf_11 : decode prog_10_method_70_code 11 = .ok (.if_icmp .ge 50, 3) := by decide +kernel
theorem d8_weightOf_14 : decode prog_10_method_70_code 14 = .ok (.lload_n 2, 1) := by decide +kernel
theorem d8_weightOf_15 : decode prog_10_method_70_code 15 = .ok (.aload_n 0, 1) := by decide +kernel
theorem d8_weightOf_16 : decode prog_10_method_70_code 16 = .ok (.iload 4, 2) := by decide +kernel
theorem d8_weightOf_18 : decode prog_10_method_70_code 18 = .ok (.invokevirtual 196, 3) := by decide +kernel
theorem d8_weightOf_21 : decode prog_10_method_70_code 21 = .ok (.ifCond .ne 7, 3) := by decide +kernel
theorem d8_weightOf_24 : decode prog_10_method_70_code 24 = .ok (.lconst 1, 1) := by decide +kernel
theorem d8_weightOf_25 : decode prog_10_method_70_code 25 = .ok (.goto 28, 3) := by decide +kernel
theorem d8_weightOf_28 : decode prog_10_method_70_code 28 = .ok (.aload_n 0, 1) := by decide +kernel
theorem d8_weightOf_29 : decode prog_10_method_70_code 29 = .ok (.iload 4, 2) := by decide +kernel
theorem d8_weightOf_31 : decode prog_10_method_70_code 31 = .ok (.iconst 0, 1) := by decide +kernel
theorem d8_weightOf_32 : decode prog_10_method_70_code 32 = .ok (.invokevirtual 175, 3) := by decide +kernel
theorem d8_weightOf_35 : decode prog_10_method_70_code 35 = .ok (.iconst 3, 1) := by decide +kernel
theorem d8_weightOf_36 : decode prog_10_method_70_code 36 = .ok (.if_icmp .ne 9, 3) := by decide +kernel
theorem d8_weightOf_39 : decode prog_10_method_70_code 39 = .ok (.ldc2_w 232, 3) := by decide +kernel
theorem d8_weightOf_42 : decode prog_10_method_70_code 42 = .ok (.goto 11, 3) := by decide +kernel
theorem d8_weightOf_45 : decode prog_10_method_70_code 45 = .ok (.aload_n 0, 1) := by decide +kernel
theorem d8_weightOf_46 : decode prog_10_method_70_code 46 = .ok (.iload 4, 2) := by decide +kernel
theorem d8_weightOf_48 : decode prog_10_method_70_code 48 = .ok (.iload_n 1, 1) := by decide +kernel
theorem d8_weightOf_49 : decode prog_10_method_70_code 49 = .ok (.invokevirtual 187, 3) := by decide +kernel
theorem d8_weightOf_52 : decode prog_10_method_70_code 52 = .ok (.i2l, 1) := by decide +kernel
theorem d8_weightOf_53 : decode prog_10_method_70_code 53 = .ok (.lmul, 1) := by decide +kernel
theorem d8_weightOf_54 : decode prog_10_method_70_code 54 = .ok (.lstore_n 2, 1) := by decide +kernel
theorem d8_weightOf_55 : decode prog_10_method_70_code 55 = .ok (.iinc 4 1, 3) := by decide +kernel
theorem d8_weightOf_58 : decode prog_10_method_70_code 58 = .ok (.goto (-53), 3) := by decide +kernel
theorem d8_weightOf_61 : decode prog_10_method_70_code 61 = .ok (.lload_n 2, 1) := by decide +kernel
theorem d8_weightOf_62 : decode prog_10_method_70_code 62 = .ok (.lreturn, 1) := by decide +kernel
theorem d8_setEnding_0 : decode prog_10_method_69_code 0 = .ok (.aload_n 0, 1) := by decide +kernel
theorem d8_setEnding_1 : decode prog_10_method_69_code 1 = .ok (.lconst 0, 1) := by decide +kernel
theorem d8_setEnding_2 : decode prog_10_method_69_code 2 = .ok (.putfield 222, 3) := by decide +kernel
theorem d8_setEnding_5 : decode prog_10_method_69_code 5 = .ok (.iload_n 1, 1) := by decide +kernel
theorem d8_setEnding_6 : decode prog_10_method_69_code 6 = .ok (.ifCond .ne 7, 3) := by decide +kernel
theorem d8_setEnding_9 : decode prog_10_method_69_code 9 = .ok (.aload_n 0, 1) := by decide +kernel
theorem d8_setEnding_10 : decode prog_10_method_69_code 10 = .ok (.invokevirtual 225, 3) := by decide +kernel
theorem d8_setEnding_13 : decode prog_10_method_69_code 13 = .ok (.iconst 0, 1) := by decide +kernel
theorem d8_setEnding_14 : decode prog_10_method_69_code 14 = .ok (.istore_n 2, 1) := by decide +kernel
theorem d8_setEnding_15 : decode prog_10_method_69_code 15 = .ok (.iload_n 2, 1) := by decide +kernel
theorem d8_setEnding_16 : decode prog_10_method_69_code 16 = .ok (.bipush 120, 2) := by decide +kernel
theorem d8_setEnding_18 : decode prog_10_method_69_code 18 = .ok (.if_icmp .ge 118, 3) := by decide +kernel
theorem d8_setEnding_21 : decode prog_10_method_69_code 21 = .ok (.lconst 0, 1) := by decide +kernel
theorem d8_setEnding_22 : decode prog_10_method_69_code 22 = .ok (.lstore_n 3, 1) := by decide +kernel
theorem d8_setEnding_23 : decode prog_10_method_69_code 23 = .ok (.iconst 0, 1) := by decide +kernel
theorem d8_setEnding_24 : decode prog_10_method_69_code 24 = .ok (.istore 5, 2) := by decide +kernel
theorem d8_setEnding_26 : decode prog_10_method_69_code 26 = .ok (.iload 5, 2) := by decide +kernel
theorem d8_setEnding_28 : decode prog_10_method_69_code 28 = .ok (.aload_n 0, 1) := by decide +kernel
theorem d8_setEnding_29 : decode prog_10_method_69_code 29 = .ok (.invokevirtual 129, 3) := by decide +kernel
theorem d8_setEnding_32 : decode prog_10_method_69_code 32 = .ok (.if_icmp .gt 51, 3) := by decide +kernel
theorem d8_setEnding_35 : decode prog_10_method_69_code 35 = .ok (.iload_n 1, 1) := by decide +kernel
theorem d8_setEnding_36 : decode prog_10_method_69_code 36 = .ok (.ifCond .ne 47, 3) := by decide +kernel
theorem d8_setEnding_39 : decode prog_10_method_69_code 39 = .ok (.aload_n 0, 1) := by decide +kernel
theorem d8_setEnding_40 : decode prog_10_method_69_code 40 = .ok (.getfield 52, 3) := by decide +kernel
theorem d8_setEnding_43 : decode prog_10_method_69_code 43 = .ok (.bipush 120, 2) := by decide +kernel
theorem d8_setEnding_45 : decode prog_10_method_69_code 45 = .ok (.iload 5, 2) := by decide +kernel
theorem d8_setEnding_47 : decode prog_10_method_69_code 47 = .ok (.imul, 1) := by decide +kernel
theorem d8_setEnding_48 : decode prog_10_method_69_code 48 = .ok (.iload_n 2, 1) := by decide +kernel
theorem d8_setEnding_49 : decode prog_10_method_69_code 49 = .ok (.iadd, 1) := by decide +kernel
theorem d8_setEnding_50 : decode prog_10_method_69_code 50 = .ok (.laload, 1) := by decide +kernel
theorem d8_setEnding_51 : decode prog_10_method_69_code 51 = .ok (.lstore 6, 2) := by decide +kernel
theorem d8_setEnding_53 : decode prog_10_method_69_code 53 = .ok (.lload_n 3, 1) := by decide +kernel
theorem d8_setEnding_54 : decode prog_10_method_69_code 54 = .ok (.lload 6, 2) := by decide +kernel
theorem d8_setEnding_56 : decode prog_10_method_69_code 56 = .ok (.lconst 0, 1) := by decide +kernel
theorem d8_setEnding_57 : decode prog_10_method_69_code 57 = .ok (.lcmp, 1) := by decide +kernel
theorem d8_setEnding_58 : decode prog_10_method_69_code 58 = .ok (.ifCond .ne 7, 3) := by decide +kernel
theorem d8_setEnding_61 : decode prog_10_method_69_code 61 = .ok (.lconst 0, 1) := by decide +kernel
theorem d8_setEnding_62 : decode prog_10_method_69_code 62 = .ok (.goto 13, 3) := by decide +kernel
theorem d8_setEnding_65 : decode prog_10_method_69_code 65 = .ok (.lload 6, 2) := by decide +kernel
theorem d8_setEnding_67 : decode prog_10_method_69_code 67 = .ok (.aload_n 0, 1) := by decide +kernel
theorem d8_setEnding_68 : decode prog_10_method_69_code 68 = .ok (.iload 5, 2) := by decide +kernel
theorem d8_setEnding_70 : decode prog_10_method_69_code 70 = .ok (.iload_n 2, 1) := by decide +kernel
theorem d8_setEnding_71 : decode prog_10_method_69_code 71 = .ok (.invokevirtual 219, 3) := by decide +kernel
theorem d8_setEnding_74 : decode prog_10_method_69_code 74 = .ok (.lmul, 1) := by decide +kernel
theorem d8_setEnding_75 : decode prog_10_method_69_code 75 = .ok (.ladd, 1) := by decide +kernel
theorem d8_setEnding_76 : decode prog_10_method_69_code 76 = .ok (.lstore_n 3, 1) := by decide +kernel
theorem d8_setEnding_77 : decode prog_10_method_69_code 77 = .ok (.iinc 5 1, 3) := by decide +kernel
theorem d8_setEnding_80 : decode prog_10_method_69_code 80 = .ok (.goto (-54), 3) := by decide +kernel
theorem d8_setEnding_83 : decode prog_10_method_69_code 83 = .ok (.aload_n 0, 1) := by decide +kernel
theorem d8_setEnding_84 : decode prog_10_method_69_code 84 = .ok (.getfield 59, 3) := by decide +kernel
theorem d8_setEnding_87 : decode prog_10_method_69_code 87 = .ok (.iload_n 2, 1) := by decide +kernel
theorem d8_setEnding_88 : decode prog_10_method_69_code 88 = .ok (.iload_n 1, 1) := by decide +kernel
theorem d8_setEnding_89 : decode prog_10_method_69_code 89 = .ok (.ifCond .ne 7, 3) := by decide +kernel
theorem d8_setEnding_92 : decode prog_10_method_69_code 92 = .ok (.lload_n 3, 1) := by decide +kernel
theorem d8_setEnding_93 : decode prog_10_method_69_code 93 = .ok (.goto 21, 3) := by decide +kernel
theorem d8_setEnding_96 : decode prog_10_method_69_code 96 = .ok (.aload_n 0, 1) := by decide +kernel
theorem d8_setEnding_97 : decode prog_10_method_69_code 97 = .ok (.getfield 39, 3) := by decide +kernel
theorem d8_setEnding_100 : decode prog_10_method_69_code 100 = .ok (.bipush 120, 2) := by decide +kernel
theorem d8_setEnding_102 : decode prog_10_method_69_code 102 = .ok (.iload_n 1, 1) := by decide +kernel
theorem d8_setEnding_103 : decode prog_10_method_69_code 103 = .ok (.imul, 1) := by decide +kernel
theorem d8_setEnding_104 : decode prog_10_method_69_code 104 = .ok (.iload_n 2, 1) := by decide +kernel
theorem d8_setEnding_105 : decode prog_10_method_69_code 105 = .ok (.iadd, 1) := by decide +kernel
theorem d8_setEnding_106 : decode prog_10_method_69_code 106 = .ok (.iaload, 1) := by decide +kernel
theorem d8_setEnding_107 : decode prog_10_method_69_code 107 = .ok (.i2l, 1) := by decide +kernel
theorem d8_setEnding_108 : decode prog_10_method_69_code 108 = .ok (.aload_n 0, 1) := by decide +kernel
theorem d8_setEnding_109 : decode prog_10_method_69_code 109 = .ok (.iload_n 2, 1) := by decide +kernel
theorem d8_setEnding_110 : decode prog_10_method_69_code 110 = .ok (.invokevirtual 228, 3) := by decide +kernel
theorem d8_setEnding_113 : decode prog_10_method_69_code 113 = .ok (.lmul, 1) := by decide +kernel
theorem d8_setEnding_114 : decode prog_10_method_69_code 114 = .ok (.lastore, 1) := by decide +kernel
theorem d8_setEnding_115 : decode prog_10_method_69_code 115 = .ok (.aload_n 0, 1) := by decide +kernel
theorem d8_setEnding_116 : decode prog_10_method_69_code 116 = .ok (.dup, 1) := by decide +kernel
theorem d8_setEnding_117 : decode prog_10_method_69_code 117 = .ok (.getfield 222, 3) := by decide +kernel
theorem d8_setEnding_120 : decode prog_10_method_69_code 120 = .ok (.aload_n 0, 1) := by decide +kernel
theorem d8_setEnding_121 : decode prog_10_method_69_code 121 = .ok (.getfield 59, 3) := by decide +kernel
theorem d8_setEnding_124 : decode prog_10_method_69_code 124 = .ok (.iload_n 2, 1) := by decide +kernel
theorem d8_setEnding_125 : decode prog_10_method_69_code 125 = .ok (.laload, 1) := by decide +kernel
theorem d8_setEnding_126 : decode prog_10_method_69_code 126 = .ok (.ladd, 1) := by decide +kernel
theorem d8_setEnding_127 : decode prog_10_method_69_code 127 = .ok (.putfield 222, 3) := by decide +kernel
theorem d8_setEnding_130 : decode prog_10_method_69_code 130 = .ok (.iinc 2 1, 3) := by decide +kernel
theorem d8_setEnding_133 : decode prog_10_method_69_code 133 = .ok (.goto (-118), 3) := by decide +kernel
theorem d8_setEnding_136 : decode prog_10_method_69_code 136 = .ok (.return_, 1) := by decide +kernel
theorem d8_weigh_0 : decode prog_10_method_72_code 0 = .ok (.aload_n 0, 1) := by decide +kernel
theorem d8_weigh_1 : decode prog_10_method_72_code 1 = .ok (.iload_n 1, 1) := by decide +kernel
theorem d8_weigh_2 : decode prog_10_method_72_code 2 = .ok (.invokevirtual 234, 3) := by decide +kernel
theorem d8_weigh_5 : decode prog_10_method_72_code 5 = .ok (.istore_n 2, 1) := by decide +kernel
theorem d8_weigh_6 : decode prog_10_method_72_code 6 = .ok (.iload_n 2, 1) := by decide +kernel
theorem d8_weigh_7 : decode prog_10_method_72_code 7 = .ok (.ifCond .ge 5, 3) := by decide +kernel
theorem d8_weigh_10 : decode prog_10_method_72_code 10 = .ok (.iload_n 2, 1) := by decide +kernel
theorem d8_weigh_11 : decode prog_10_method_72_code 11 = .ok (.ireturn, 1) := by decide +kernel
theorem d8_weigh_12 : decode prog_10_method_72_code 12 = .ok (.aload_n 0, 1) := by decide +kernel
theorem d8_weigh_13 : decode prog_10_method_72_code 13 = .ok (.invokevirtual 237, 3) := by decide +kernel
theorem d8_weigh_16 : decode prog_10_method_72_code 16 = .ok (.bipush 6, 2) := by decide +kernel
theorem d8_weigh_18 : decode prog_10_method_72_code 18 = .ok (.if_icmp .le 6, 3) := by decide +kernel
theorem d8_weigh_21 : decode prog_10_method_72_code 21 = .ok (.bipush (-6), 2) := by decide +kernel
theorem d8_weigh_23 : decode prog_10_method_72_code 23 = .ok (.ireturn, 1) := by decide +kernel
theorem d8_weigh_24 : decode prog_10_method_72_code 24 = .ok (.aload_n 0, 1) := by decide +kernel
theorem d8_weigh_25 : decode prog_10_method_72_code 25 = .ok (.iload_n 1, 1) := by decide +kernel
theorem d8_weigh_26 : decode prog_10_method_72_code 26 = .ok (.invokevirtual 240, 3) := by decide +kernel
theorem d8_weigh_29 : decode prog_10_method_72_code 29 = .ok (.aload_n 0, 1) := by decide +kernel
theorem d8_weigh_30 : decode prog_10_method_72_code 30 = .ok (.getfield 222, 3) := by decide +kernel
theorem d8_weigh_33 : decode prog_10_method_72_code 33 = .ok (.lconst 0, 1) := by decide +kernel
theorem d8_weigh_34 : decode prog_10_method_72_code 34 = .ok (.lcmp, 1) := by decide +kernel
theorem d8_weigh_35 : decode prog_10_method_72_code 35 = .ok (.ifCond .ne 11, 3) := by decide +kernel
theorem d8_weigh_38 : decode prog_10_method_72_code 38 = .ok (.aload_n 0, 1) := by decide +kernel
theorem d8_weigh_39 : decode prog_10_method_72_code 39 = .ok (.iconst 4, 1) := by decide +kernel
theorem d8_weigh_40 : decode prog_10_method_72_code 40 = .ok (.invokevirtual 88, 3) := by decide +kernel
theorem d8_weigh_43 : decode prog_10_method_72_code 43 = .ok (.goto 4, 3) := by decide +kernel
theorem d8_weigh_46 : decode prog_10_method_72_code 46 = .ok (.iconst 0, 1) := by decide +kernel
theorem d8_weigh_47 : decode prog_10_method_72_code 47 = .ok (.ireturn, 1) := by decide +kernel
theorem d8_part_0 : decode prog_10_method_6_code 0 = .ok (.lload_n 1, 1) := by decide +kernel
theorem d8_part_1 : decode prog_10_method_6_code 1 = .ok (.lconst 0, 1) := by decide +kernel
theorem d8_part_2 : decode prog_10_method_6_code 2 = .ok (.lcmp, 1) := by decide +kernel
theorem d8_part_3 : decode prog_10_method_6_code 3 = .ok (.ifCond .ge 8, 3) := by decide +kernel
theorem d8_part_6 : decode prog_10_method_6_code 6 = .ok (.lload_n 1, 1) := by decide +kernel
theorem d8_part_7 : decode prog_10_method_6_code 7 = .ok (.lneg, 1) := by decide +kernel
theorem d8_part_8 : decode prog_10_method_6_code 8 = .ok (.goto 4, 3) := by decide +kernel
theorem d8_part_11 : decode prog_10_method_6_code 11 = .ok (.lload_n 1, 1) := by decide +kernel
theorem d8_part_12 : decode prog_10_method_6_code 12 = .ok (.lstore 6, 2) := by decide +kernel
theorem d8_part_14 : decode prog_10_method_6_code 14 = .ok (.lload_n 3, 1) := by decide +kernel
theorem d8_part_15 : decode prog_10_method_6_code 15 = .ok (.lstore 8, 2) := by decide +kernel
theorem d8_part_17 : decode prog_10_method_6_code 17 = .ok (.lload 8, 2) := by decide +kernel
theorem d8_part_19 : decode prog_10_method_6_code 19 = .ok (.lconst 0, 1) := by decide +kernel
theorem d8_part_20 : decode prog_10_method_6_code 20 = .ok (.lcmp, 1) := by decide +kernel
theorem d8_part_21 : decode prog_10_method_6_code 21 = .ok (.ifCond .eq 21, 3) := by decide +kernel
theorem d8_part_24 : decode prog_10_method_6_code 24 = .ok (.lload 6, 2) := by decide +kernel
theorem d8_part_26 : decode prog_10_method_6_code 26 = .ok (.lload 8, 2) := by decide +kernel
theorem d8_part_28 : decode prog_10_method_6_code 28 = .ok (.lrem, 1) := by decide +kernel
theorem d8_part_29 : decode prog_10_method_6_code 29 = .ok (.lstore 10, 2) := by decide +kernel
theorem d8_part_31 : decode prog_10_method_6_code 31 = .ok (.lload 8, 2) := by decide +kernel
theorem d8_part_33 : decode prog_10_method_6_code 33 = .ok (.lstore 6, 2) := by decide +kernel
theorem d8_part_35 : decode prog_10_method_6_code 35 = .ok (.lload 10, 2) := by decide +kernel
theorem d8_part_37 : decode prog_10_method_6_code 37 = .ok (.lstore 8, 2) := by decide +kernel
theorem d8_part_39 : decode prog_10_method_6_code 39 = .ok (.goto (-22), 3) := by decide +kernel
theorem d8_part_42 : decode prog_10_method_6_code 42 = .ok (.aload_n 0, 1) := by decide +kernel
theorem d8_part_43 : decode prog_10_method_6_code 43 = .ok (.lload_n 1, 1) := by decide +kernel
theorem d8_part_44 : decode prog_10_method_6_code 44 = .ok (.lload 6, 2) := by decide +kernel
theorem d8_part_46 : decode prog_10_method_6_code 46 = .ok (.ldiv, 1) := by decide +kernel
theorem d8_part_47 : decode prog_10_method_6_code 47 = .ok (.putfield 77, 3) := by decide +kernel
theorem d8_part_50 : decode prog_10_method_6_code 50 = .ok (.aload_n 0, 1) := by decide +kernel
theorem d8_part_51 : decode prog_10_method_6_code 51 = .ok (.lload_n 3, 1) := by decide +kernel
theorem d8_part_52 : decode prog_10_method_6_code 52 = .ok (.lload 6, 2) := by decide +kernel
theorem d8_part_54 : decode prog_10_method_6_code 54 = .ok (.ldiv, 1) := by decide +kernel
theorem d8_part_55 : decode prog_10_method_6_code 55 = .ok (.putfield 13, 3) := by decide +kernel
theorem d8_part_58 : decode prog_10_method_6_code 58 = .ok (.iload 5, 2) := by decide +kernel
theorem d8_part_60 : decode prog_10_method_6_code 60 = .ok (.ireturn, 1) := by decide +kernel
theorem d8_where_0 : decode prog_10_method_74_code 0 = .ok (.iload_n 2, 1) := by decide +kernel
theorem d8_where_1 : decode prog_10_method_74_code 1 = .ok (.invokestatic 117, 3) := by decide +kernel
theorem d8_where_4 : decode prog_10_method_74_code 4 = .ok (.ifCond .ne 5, 3) := by decide +kernel
theorem d8_where_7 : decode prog_10_method_74_code 7 = .ok (.iconst (-1), 1) := by decide +kernel
theorem d8_where_8 : decode prog_10_method_74_code 8 = .ok (.ireturn, 1) := by decide +kernel
theorem d8_where_9 : decode prog_10_method_74_code 9 = .ok (.aload_n 0, 1) := by decide +kernel
theorem d8_where_10 : decode prog_10_method_74_code 10 = .ok (.iload_n 1, 1) := by decide +kernel
theorem d8_where_11 : decode prog_10_method_74_code 11 = .ok (.invokevirtual 244, 3) := by decide +kernel
theorem d8_where_14 : decode prog_10_method_74_code 14 = .ok (.istore_n 3, 1) := by decide +kernel
theorem d8_where_15 : decode prog_10_method_74_code 15 = .ok (.iload_n 3, 1) := by decide +kernel
theorem d8_where_16 : decode prog_10_method_74_code 16 = .ok (.ifCond .ge 7, 3) := by decide +kernel
theorem d8_where_19 : decode prog_10_method_74_code 19 = .ok (.iload_n 3, 1) := by decide +kernel
theorem d8_where_20 : decode prog_10_method_74_code 20 = .ok (.goto 18, 3) := by decide +kernel
theorem d8_where_23 : decode prog_10_method_74_code 23 = .ok (.aload_n 0, 1) := by decide +kernel
theorem d8_where_24 : decode prog_10_method_74_code 24 = .ok (.aload_n 0, 1) := by decide +kernel
theorem d8_where_25 : decode prog_10_method_74_code 25 = .ok (.getfield 59, 3) := by decide +kernel
theorem d8_where_28 : decode prog_10_method_74_code 28 = .ok (.iload_n 2, 1) := by decide +kernel
theorem d8_where_29 : decode prog_10_method_74_code 29 = .ok (.laload, 1) := by decide +kernel
theorem d8_where_30 : decode prog_10_method_74_code 30 = .ok (.aload_n 0, 1) := by decide +kernel
theorem d8_where_31 : decode prog_10_method_74_code 31 = .ok (.getfield 222, 3) := by decide +kernel
theorem d8_where_34 : decode prog_10_method_74_code 34 = .ok (.iconst 1, 1) := by decide +kernel
theorem d8_where_35 : decode prog_10_method_74_code 35 = .ok (.invokevirtual 247, 3) := by decide +kernel
theorem d8_where_38 : decode prog_10_method_74_code 38 = .ok (.ireturn, 1) := by decide +kernel
theorem d2_greatest_0 : decode prog_4_method_5_code 0 = .ok (.iconst 0, 1) := by decide +kernel
theorem d2_greatest_1 : decode prog_4_method_5_code 1 = .ok (.istore_n 1, 1) := by decide +kernel
theorem d2_greatest_2 : decode prog_4_method_5_code 2 = .ok (.iconst 1, 1) := by decide +kernel
theorem d2_greatest_3 : decode prog_4_method_5_code 3 = .ok (.istore_n 2, 1) := by decide +kernel
theorem d2_greatest_4 : decode prog_4_method_5_code 4 = .ok (.iload_n 2, 1) := by decide +kernel
theorem d2_greatest_5 : decode prog_4_method_5_code 5 = .ok (.bipush 120, 2) := by decide +kernel
theorem d2_greatest_7 : decode prog_4_method_5_code 7 = .ok (.if_icmp .ge 27, 3) := by decide +kernel
theorem d2_greatest_10 : decode prog_4_method_5_code 10 = .ok (.aload_n 0, 1) := by decide +kernel
theorem d2_greatest_11 : decode prog_4_method_5_code 11 = .ok (.getfield 32, 3) := by decide +kernel
theorem d2_greatest_14 : decode prog_4_method_5_code 14 = .ok (.iload_n 2, 1) := by decide +kernel
theorem d2_greatest_15 : decode prog_4_method_5_code 15 = .ok (.laload, 1) := by decide +kernel
theorem d2_greatest_16 : decode prog_4_method_5_code 16 = .ok (.aload_n 0, 1) := by decide +kernel
theorem d2_greatest_17 : decode prog_4_method_5_code 17 = .ok (.getfield 32, 3) := by decide +kernel
theorem d2_greatest_20 : decode prog_4_method_5_code 20 = .ok (.iload_n 1, 1) := by decide +kernel
theorem d2_greatest_21 : decode prog_4_method_5_code 21 = .ok (.laload, 1) := by decide +kernel
theorem d2_greatest_22 : decode prog_4_method_5_code 22 = .ok (.lcmp, 1) := by decide +kernel
theorem d2_greatest_23 : decode prog_4_method_5_code 23 = .ok (.ifCond .le 5, 3) := by decide +kernel
theorem d2_greatest_26 : decode prog_4_method_5_code 26 = .ok (.iload_n 2, 1) := by decide +kernel
theorem d2_greatest_27 : decode prog_4_method_5_code 27 = .ok (.istore_n 1, 1) := by decide +kernel
theorem d2_greatest_28 : decode prog_4_method_5_code 28 = .ok (.iinc 2 1, 3) := by decide +kernel
theorem d2_greatest_31 : decode prog_4_method_5_code 31 = .ok (.goto (-27), 3) := by decide +kernel
theorem d2_greatest_34 : decode prog_4_method_5_code 34 = .ok (.iload_n 1, 1) := by decide +kernel
theorem d2_greatest_35 : decode prog_4_method_5_code 35 = .ok (.ireturn, 1) := by decide +kernel
theorem d7_most_0 : decode prog_1_method_26_code 0 = .ok (.iload_n 1, 1) := by decide +kernel
theorem d7_most_1 : decode prog_1_method_26_code 1 = .ok (.invokestatic 214, 3) := by decide +kernel
theorem d7_most_4 : decode prog_1_method_26_code 4 = .ok (.ifCond .ne 5, 3) := by decide +kernel
theorem d7_most_7 : decode prog_1_method_26_code 7 = .ok (.iconst (-1), 1) := by decide +kernel
theorem d7_most_8 : decode prog_1_method_26_code 8 = .ok (.ireturn, 1) := by decide +kernel
theorem d7_most_9 : decode prog_1_method_26_code 9 = .ok (.aload_n 0, 1) := by decide +kernel
theorem d7_most_10 : decode prog_1_method_26_code 10 = .ok (.iload_n 1, 1) := by decide +kernel
theorem d7_most_11 : decode prog_1_method_26_code 11 = .ok (.invokevirtual 217, 3) := by decide +kernel
theorem d7_most_14 : decode prog_1_method_26_code 14 = .ok (.istore_n 2, 1) := by decide +kernel
theorem d7_most_15 : decode prog_1_method_26_code 15 = .ok (.iload_n 2, 1) := by decide +kernel
theorem d7_most_16 : decode prog_1_method_26_code 16 = .ok (.ifCond .eq 5, 3) := by decide +kernel
theorem d7_most_19 : decode prog_1_method_26_code 19 = .ok (.iload_n 2, 1) := by decide +kernel
theorem d7_most_20 : decode prog_1_method_26_code 20 = .ok (.ireturn, 1) := by decide +kernel
theorem d7_most_21 : decode prog_1_method_26_code 21 = .ok (.aload_n 0, 1) := by decide +kernel
theorem d7_most_22 : decode prog_1_method_26_code 22 = .ok (.getfield 29, 3) := by decide +kernel
theorem d7_most_25 : decode prog_1_method_26_code 25 = .ok (.invokevirtual 230, 3) := by decide +kernel
theorem d7_most_28 : decode prog_1_method_26_code 28 = .ok (.istore_n 3, 1) := by decide +kernel
theorem d7_most_29 : decode prog_1_method_26_code 29 = .ok (.aload_n 0, 1) := by decide +kernel
theorem d7_most_30 : decode prog_1_method_26_code 30 = .ok (.aload_n 0, 1) := by decide +kernel
theorem d7_most_31 : decode prog_1_method_26_code 31 = .ok (.getfield 29, 3) := by decide +kernel
theorem d7_most_34 : decode prog_1_method_26_code 34 = .ok (.getfield 220, 3) := by decide +kernel
theorem d7_most_37 : decode prog_1_method_26_code 37 = .ok (.iload_n 3, 1) := by decide +kernel
theorem d7_most_38 : decode prog_1_method_26_code 38 = .ok (.laload, 1) := by decide +kernel
theorem d7_most_39 : decode prog_1_method_26_code 39 = .ok (.aload_n 0, 1) := by decide +kernel
theorem d7_most_40 : decode prog_1_method_26_code 40 = .ok (.getfield 29, 3) := by decide +kernel
theorem d7_most_43 : decode prog_1_method_26_code 43 = .ok (.getfield 223, 3) := by decide +kernel
theorem d7_most_46 : decode prog_1_method_26_code 46 = .ok (.invokevirtual 226, 3) := by decide +kernel
theorem d7_most_49 : decode prog_1_method_26_code 49 = .ok (.iload_n 3, 1) := by decide +kernel
theorem d7_most_50 : decode prog_1_method_26_code 50 = .ok (.ireturn, 1) := by decide +kernel
theorem d8_mostOf_0 : decode prog_10_method_73_code 0 = .ok (.iconst 0, 1) := by decide +kernel
theorem d8_mostOf_1 : decode prog_10_method_73_code 1 = .ok (.istore_n 1, 1) := by decide +kernel
theorem d8_mostOf_2 : decode prog_10_method_73_code 2 = .ok (.iconst 1, 1) := by decide +kernel
theorem d8_mostOf_3 : decode prog_10_method_73_code 3 = .ok (.istore_n 2, 1) := by decide +kernel
theorem d8_mostOf_4 : decode prog_10_method_73_code 4 = .ok (.iload_n 2, 1) := by decide +kernel
theorem d8_mostOf_5 : decode prog_10_method_73_code 5 = .ok (.bipush 120, 2) := by decide +kernel
theorem d8_mostOf_7 : decode prog_10_method_73_code 7 = .ok (.if_icmp .ge 31, 3) := by decide +kernel
theorem d8_mostOf_10 : decode prog_10_method_73_code 10 = .ok (.aload_n 0, 1) := by decide +kernel
theorem d8_mostOf_11 : decode prog_10_method_73_code 11 = .ok (.getfield 59, 3) := by decide +kernel
theorem d8_mostOf_14 : decode prog_10_method_73_code 14 = .ok (.iload_n 2, 1) := by decide +kernel
theorem d8_mostOf_15 : decode prog_10_method_73_code 15 = .ok (.laload, 1) := by decide +kernel
theorem d8_mostOf_16 : decode prog_10_method_73_code 16 = .ok (.aload_n 0, 1) := by decide +kernel
theorem d8_mostOf_17 : decode prog_10_method_73_code 17 = .ok (.getfield 59, 3) := by decide +kernel
theorem d8_mostOf_20 : decode prog_10_method_73_code 20 = .ok (.iload_n 1, 1) := by decide +kernel
theorem d8_mostOf_21 : decode prog_10_method_73_code 21 = .ok (.laload, 1) := by decide +kernel
theorem d8_mostOf_22 : decode prog_10_method_73_code 22 = .ok (.lcmp, 1) := by decide +kernel
theorem d8_mostOf_23 : decode prog_10_method_73_code 23 = .ok (.ifCond .le 7, 3) := by decide +kernel
theorem d8_mostOf_26 : decode prog_10_method_73_code 26 = .ok (.iload_n 2, 1) := by decide +kernel
theorem d8_mostOf_27 : decode prog_10_method_73_code 27 = .ok (.goto 4, 3) := by decide +kernel
theorem d8_mostOf_30 : decode prog_10_method_73_code 30 = .ok (.iload_n 1, 1) := by decide +kernel
theorem d8_mostOf_31 : decode prog_10_method_73_code 31 = .ok (.istore_n 1, 1) := by decide +kernel
theorem d8_mostOf_32 : decode prog_10_method_73_code 32 = .ok (.iinc 2 1, 3) := by decide +kernel
theorem d8_mostOf_35 : decode prog_10_method_73_code 35 = .ok (.goto (-31), 3) := by decide +kernel
theorem d8_mostOf_38 : decode prog_10_method_73_code 38 = .ok (.iload_n 1, 1) := by decide +kernel
theorem d8_mostOf_39 : decode prog_10_method_73_code 39 = .ok (.ireturn, 1) := by decide +kernel
theorem d8_most_0 : decode prog_10_method_75_code 0 = .ok (.aload_n 0, 1) := by decide +kernel
theorem d8_most_1 : decode prog_10_method_75_code 1 = .ok (.iload_n 1, 1) := by decide +kernel
theorem d8_most_2 : decode prog_10_method_75_code 2 = .ok (.invokevirtual 244, 3) := by decide +kernel
theorem d8_most_5 : decode prog_10_method_75_code 5 = .ok (.istore_n 2, 1) := by decide +kernel
theorem d8_most_6 : decode prog_10_method_75_code 6 = .ok (.iload_n 2, 1) := by decide +kernel
theorem d8_most_7 : decode prog_10_method_75_code 7 = .ok (.ifCond .ge 7, 3) := by decide +kernel
theorem d8_most_10 : decode prog_10_method_75_code 10 = .ok (.iload_n 2, 1) := by decide +kernel
theorem d8_most_11 : decode prog_10_method_75_code 11 = .ok (.goto 24, 3) := by decide +kernel
theorem d8_most_14 : decode prog_10_method_75_code 14 = .ok (.aload_n 0, 1) := by decide +kernel
theorem d8_most_15 : decode prog_10_method_75_code 15 = .ok (.aload_n 0, 1) := by decide +kernel
theorem d8_most_16 : decode prog_10_method_75_code 16 = .ok (.getfield 59, 3) := by decide +kernel
theorem d8_most_19 : decode prog_10_method_75_code 19 = .ok (.aload_n 0, 1) := by decide +kernel
theorem d8_most_20 : decode prog_10_method_75_code 20 = .ok (.invokevirtual 251, 3) := by decide +kernel
theorem d8_most_23 : decode prog_10_method_75_code 23 = .ok (.laload, 1) := by decide +kernel
theorem d8_most_24 : decode prog_10_method_75_code 24 = .ok (.aload_n 0, 1) := by decide +kernel
theorem d8_most_25 : decode prog_10_method_75_code 25 = .ok (.getfield 222, 3) := by decide +kernel
theorem d8_most_28 : decode prog_10_method_75_code 28 = .ok (.aload_n 0, 1) := by decide +kernel
theorem d8_most_29 : decode prog_10_method_75_code 29 = .ok (.invokevirtual 251, 3) := by decide +kernel
theorem d8_most_32 : decode prog_10_method_75_code 32 = .ok (.invokevirtual 247, 3) := by decide +kernel
theorem d8_most_35 : decode prog_10_method_75_code 35 = .ok (.ireturn, 1) := by decide +kernel
theorem d7_sure_0 : decode prog_1_method_27_code 0 = .ok (.iload_n 1, 1) := by decide +kernel
theorem d7_sure_1 : decode prog_1_method_27_code 1 = .ok (.invokestatic 214, 3) := by decide +kernel
theorem d7_sure_4 : decode prog_1_method_27_code 4 = .ok (.ifCond .eq 19, 3) := by decide +kernel
theorem d7_sure_7 : decode prog_1_method_27_code 7 = .ok (.iload_n 2, 1) := by decide +kernel
theorem d7_sure_8 : decode prog_1_method_27_code 8 = .ok (.iconst 1, 1) := by decide +kernel
theorem d7_sure_9 : decode prog_1_method_27_code 9 = .ok (.if_icmp .lt 14, 3) := by decide +kernel
theorem d7_sure_12 : decode prog_1_method_27_code 12 = .ok (.iload_n 3, 1) := by decide +kernel
theorem d7_sure_13 : decode prog_1_method_27_code 13 = .ok (.bipush 99, 2) := by decide +kernel
theorem d7_sure_15 : decode prog_1_method_27_code 15 = .ok (.if_icmp .gt 8, 3) := by decide +kernel
theorem d7_sure_18 : decode prog_1_method_27_code 18 = .ok (.iload_n 2, 1) := by decide +kernel
theorem d7_sure_19 : decode prog_1_method_27_code 19 = .ok (.iload_n 3, 1) := by decide +kernel
theorem d7_sure_20 : decode prog_1_method_27_code 20 = .ok (.if_icmp .le 5, 3) := by decide +kernel
theorem d7_sure_23 : decode prog_1_method_27_code 23 = .ok (.iconst (-1), 1) := by decide +kernel
theorem d7_sure_24 : decode prog_1_method_27_code 24 = .ok (.ireturn, 1) := by decide +kernel
theorem d7_sure_25 : decode prog_1_method_27_code 25 = .ok (.aload_n 0, 1) := by decide +kernel
theorem d7_sure_26 : decode prog_1_method_27_code 26 = .ok (.iload_n 1, 1) := by decide +kernel
theorem d7_sure_27 : decode prog_1_method_27_code 27 = .ok (.invokevirtual 217, 3) := by decide +kernel
theorem d7_sure_30 : decode prog_1_method_27_code 30 = .ok (.istore 4, 2) := by decide +kernel
theorem d7_sure_32 : decode prog_1_method_27_code 32 = .ok (.iload 4, 2) := by decide +kernel
theorem d7_sure_34 : decode prog_1_method_27_code 34 = .ok (.ifCond .eq 6, 3) := by decide +kernel
theorem d7_sure_37 : decode prog_1_method_27_code 37 = .ok (.iload 4, 2) := by decide +kernel
theorem d7_sure_39 : decode prog_1_method_27_code 39 = .ok (.ireturn, 1) := by decide +kernel
theorem d7_sure_40 : decode prog_1_method_27_code 40 = .ok (.iconst 0, 1) := by decide +kernel
theorem d7_sure_41 : decode prog_1_method_27_code 41 = .ok (.istore 5, 2) := by decide +kernel
theorem d7_sure_43 : decode prog_1_method_27_code 43 = .ok (.bipush (-9), 2) := by decide +kernel
theorem d7_sure_45 : decode prog_1_method_27_code 45 = .ok (.istore 6, 2) := by decide +kernel
theorem d7_sure_47 : decode prog_1_method_27_code 47 = .ok (.bipush 119, 2) := by decide +kernel
theorem d7_sure_49 : decode prog_1_method_27_code 49 = .ok (.istore 7, 2) := by decide +kernel
theorem d7_sure_51 : decode prog_1_method_27_code 51 = .ok (.iload 7, 2) := by decide +kernel
theorem d7_sure_53 : decode prog_1_method_27_code 53 = .ok (.ifCond .lt 43, 3) := by decide +kernel
theorem d7_sure_56 : decode prog_1_method_27_code 56 = .ok (.aload_n 0, 1) := by decide +kernel
theorem d7_sure_57 : decode prog_1_method_27_code 57 = .ok (.getfield 29, 3) := by decide +kernel
theorem d7_sure_60 : decode prog_1_method_27_code 60 = .ok (.getfield 220, 3) := by decide +kernel
theorem d7_sure_63 : decode prog_1_method_27_code 63 = .ok (.iload 7, 2) := by decide +kernel
theorem d7_sure_65 : decode prog_1_method_27_code 65 = .ok (.laload, 1) := by decide +kernel
theorem d7_sure_66 : decode prog_1_method_27_code 66 = .ok (.iload_n 3, 1) := by decide +kernel
theorem d7_sure_67 : decode prog_1_method_27_code 67 = .ok (.i2l, 1) := by decide +kernel
theorem d7_sure_68 : decode prog_1_method_27_code 68 = .ok (.lmul, 1) := by decide +kernel
theorem d7_sure_69 : decode prog_1_method_27_code 69 = .ok (.aload_n 0, 1) := by decide +kernel
theorem d7_sure_70 : decode prog_1_method_27_code 70 = .ok (.getfield 29, 3) := by decide +kernel
theorem d7_sure_73 : decode prog_1_method_27_code 73 = .ok (.getfield 223, 3) := by decide +kernel
theorem d7_sure_76 : decode prog_1_method_27_code 76 = .ok (.iload_n 2, 1) := by decide +kernel
theorem d7_sure_77 : decode prog_1_method_27_code 77 = .ok (.i2l, 1) := by decide +kernel
theorem d7_sure_78 : decode prog_1_method_27_code 78 = .ok (.lmul, 1) := by decide +kernel
theorem d7_sure_79 : decode prog_1_method_27_code 79 = .ok (.lcmp, 1) := by decide +kernel
theorem d7_sure_80 : decode prog_1_method_27_code 80 = .ok (.ifCond .lt 10, 3) := by decide +kernel
theorem d7_sure_83 : decode prog_1_method_27_code 83 = .ok (.iinc 5 1, 3) := by decide +kernel
theorem d7_sure_86 : decode prog_1_method_27_code 86 = .ok (.iload 7, 2) := by decide +kernel
theorem d7_sure_88 : decode prog_1_method_27_code 88 = .ok (.istore 6, 2) := by decide +kernel
theorem d7_sure_90 : decode prog_1_method_27_code 90 = .ok (.iinc 7 (-1), 3) := by decide +kernel
theorem d7_sure_93 : decode prog_1_method_27_code 93 = .ok (.goto (-42), 3) := by decide +kernel
theorem d7_sure_96 : decode prog_1_method_27_code 96 = .ok (.aload_n 0, 1) := by decide +kernel
theorem d7_sure_97 : decode prog_1_method_27_code 97 = .ok (.iload 6, 2) := by decide +kernel
theorem d7_sure_99 : decode prog_1_method_27_code 99 = .ok (.putfield 65, 3) := by decide +kernel
theorem d7_sure_102 : decode prog_1_method_27_code 102 = .ok (.iload 5, 2) := by decide +kernel
theorem d7_sure_104 : decode prog_1_method_27_code 104 = .ok (.ireturn, 1) := by decide +kernel
theorem d8_sure_0 : decode prog_10_method_76_code 0 = .ok (.iload_n 3, 1) := by decide +kernel
theorem d8_sure_1 : decode prog_10_method_76_code 1 = .ok (.iconst 1, 1) := by decide +kernel
theorem d8_sure_2 : decode prog_10_method_76_code 2 = .ok (.bipush 99, 2) := by decide +kernel
theorem d8_sure_4 : decode prog_10_method_76_code 4 = .ok (.invokestatic 80, 3) := by decide +kernel
theorem d8_sure_7 : decode prog_10_method_76_code 7 = .ok (.ifCond .eq 12, 3) := by decide +kernel
theorem d8_sure_10 : decode prog_10_method_76_code 10 = .ok (.iload_n 2, 1) := by decide +kernel
theorem d8_sure_11 : decode prog_10_method_76_code 11 = .ok (.iconst 1, 1) := by decide +kernel
theorem d8_sure_12 : decode prog_10_method_76_code 12 = .ok (.iload_n 3, 1) := by decide +kernel
theorem d8_sure_13 : decode prog_10_method_76_code 13 = .ok (.invokestatic 80, 3) := by decide +kernel
theorem d8_sure_16 : decode prog_10_method_76_code 16 = .ok (.ifCond .ne 5, 3) := by decide +kernel
theorem d8_sure_19 : decode prog_10_method_76_code 19 = .ok (.iconst (-1), 1) := by decide +kernel
theorem d8_sure_20 : decode prog_10_method_76_code 20 = .ok (.ireturn, 1) := by decide +kernel
theorem d8_sure_21 : decode prog_10_method_76_code 21 = .ok (.aload_n 0, 1) := by decide +kernel
theorem d8_sure_22 : decode prog_10_method_76_code 22 = .ok (.iload_n 1, 1) := by decide +kernel
theorem d8_sure_23 : decode prog_10_method_76_code 23 = .ok (.invokevirtual 244, 3) := by decide +kernel
theorem d8_sure_26 : decode prog_10_method_76_code 26 = .ok (.istore 4, 2) := by decide +kernel
theorem d8_sure_28 : decode prog_10_method_76_code 28 = .ok (.iload 4, 2) := by decide +kernel
theorem d8_sure_30 : decode prog_10_method_76_code 30 = .ok (.ifCond .ge 6, 3) := by decide +kernel
theorem d8_sure_33 : decode prog_10_method_76_code 33 = .ok (.iload 4, 2) := by decide +kernel
theorem d8_sure_35 : decode prog_10_method_76_code 35 = .ok (.ireturn, 1) := by decide +kernel
theorem d8_sure_36 : decode prog_10_method_76_code 36 = .ok (.iconst 0, 1) := by decide +kernel
theorem d8_sure_37 : decode prog_10_method_76_code 37 = .ok (.istore 5, 2) := by decide +kernel
theorem d8_sure_39 : decode prog_10_method_76_code 39 = .ok (.bipush (-9), 2) := by decide +kernel
theorem d8_sure_41 : decode prog_10_method_76_code 41 = .ok (.istore 6, 2) := by decide +kernel
theorem d8_sure_43 : decode prog_10_method_76_code 43 = .ok (.bipush 119, 2) := by decide +kernel
theorem d8_sure_45 : decode prog_10_method_76_code 45 = .ok (.istore 7, 2) := by decide +kernel
theorem d8_sure_47 : decode prog_10_method_76_code 47 = .ok (.iload 7, 2) := by decide +kernel
theorem d8_sure_49 : decode prog_10_method_76_code 49 = .ok (.ifCond .lt 37, 3) := by decide +kernel
theorem d8_sure_52 : decode prog_10_method_76_code 52 = .ok (.aload_n 0, 1) := by decide +kernel
theorem d8_sure_53 : decode prog_10_method_76_code 53 = .ok (.getfield 59, 3) := by decide +kernel
theorem d8_sure_56 : decode prog_10_method_76_code 56 = .ok (.iload 7, 2) := by decide +kernel
theorem d8_sure_58 : decode prog_10_method_76_code 58 = .ok (.laload, 1) := by decide +kernel
theorem d8_sure_59 : decode prog_10_method_76_code 59 = .ok (.iload_n 3, 1) := by decide +kernel
theorem d8_sure_60 : decode prog_10_method_76_code 60 = .ok (.i2l, 1) := by decide +kernel
theorem d8_sure_61 : decode prog_10_method_76_code 61 = .ok (.lmul, 1) := by decide +kernel
theorem d8_sure_62 : decode prog_10_method_76_code 62 = .ok (.aload_n 0, 1) := by decide +kernel
theorem d8_sure_63 : decode prog_10_method_76_code 63 = .ok (.getfield 222, 3) := by decide +kernel
theorem d8_sure_66 : decode prog_10_method_76_code 66 = .ok (.iload_n 2, 1) := by decide +kernel
theorem d8_sure_67 : decode prog_10_method_76_code 67 = .ok (.i2l, 1) := by decide +kernel
theorem d8_sure_68 : decode prog_10_method_76_code 68 = .ok (.lmul, 1) := by decide +kernel
theorem d8_sure_69 : decode prog_10_method_76_code 69 = .ok (.lcmp, 1) := by decide +kernel
theorem d8_sure_70 : decode prog_10_method_76_code 70 = .ok (.ifCond .lt 10, 3) := by decide +kernel
theorem d8_sure_73 : decode prog_10_method_76_code 73 = .ok (.iinc 5 1, 3) := by decide +kernel
theorem d8_sure_76 : decode prog_10_method_76_code 76 = .ok (.iload 7, 2) := by decide +kernel
theorem d8_sure_78 : decode prog_10_method_76_code 78 = .ok (.istore 6, 2) := by decide +kernel
theorem d8_sure_80 : decode prog_10_method_76_code 80 = .ok (.iinc 7 (-1), 3) := by decide +kernel
theorem d8_sure_83 : decode prog_10_method_76_code 83 = .ok (.goto (-36), 3) := by decide +kernel
theorem d8_sure_86 : decode prog_10_method_76_code 86 = .ok (.aload_n 0, 1) := by decide +kernel
theorem d8_sure_87 : decode prog_10_method_76_code 87 = .ok (.iload 6, 2) := by decide +kernel
theorem d8_sure_89 : decode prog_10_method_76_code 89 = .ok (.iload 5, 2) := by decide +kernel
theorem d8_sure_91 : decode prog_10_method_76_code 91 = .ok (.invokevirtual 102, 3) := by decide +kernel
theorem d8_sure_94 : decode prog_10_method_76_code 94 = .ok (.ireturn, 1) := by decide +kernel
theorem d2_weighThrough_0 : decode prog_4_method_3_code 0 = .ok (.aload_n 0, 1) := by decide +kernel
theorem d2_weighThrough_1 : decode prog_4_method_3_code 1 = .ok (.bipush (-9), 2) := by decide +kernel
theorem d2_weighThrough_3 : decode prog_4_method_3_code 3 = .ok (.iload_n 1, 1) := by decide +kernel
theorem d2_weighThrough_4 : decode prog_4_method_3_code 4 = .ok (.iload_n 2, 1) := by decide +kernel
theorem d2_weighThrough_5 : decode prog_4_method_3_code 5 = .ok (.invokevirtual 52, 3) := by decide +kernel
theorem d2_weighThrough_8 : decode prog_4_method_3_code 8 = .ok (.lreturn, 1) := by decide +kernel
theorem d7_hour_0 : decode prog_1_method_28_code 0 = .ok (.iload_n 1, 1) := by decide +kernel
theorem d7_hour_1 : decode prog_1_method_28_code 1 = .ok (.bipush 6, 2) := by decide +kernel
theorem d7_hour_3 : decode prog_1_method_28_code 3 = .ok (.invokestatic 137, 3) := by decide +kernel
theorem d7_hour_6 : decode prog_1_method_28_code 6 = .ok (.ifCond .eq 10, 3) := by decide +kernel
theorem d7_hour_9 : decode prog_1_method_28_code 9 = .ok (.iload_n 2, 1) := by decide +kernel
theorem d7_hour_10 : decode prog_1_method_28_code 10 = .ok (.invokestatic 120, 3) := by decide +kernel
theorem d7_hour_13 : decode prog_1_method_28_code 13 = .ok (.ifCond .ne 5, 3) := by decide +kernel
theorem d7_hour_16 : decode prog_1_method_28_code 16 = .ok (.iconst (-1), 1) := by decide +kernel
theorem d7_hour_17 : decode prog_1_method_28_code 17 = .ok (.ireturn, 1) := by decide +kernel
theorem d7_hour_18 : decode prog_1_method_28_code 18 = .ok (.aload_n 0, 1) := by decide +kernel
theorem d7_hour_19 : decode prog_1_method_28_code 19 = .ok (.iconst 0, 1) := by decide +kernel
theorem d7_hour_20 : decode prog_1_method_28_code 20 = .ok (.invokevirtual 217, 3) := by decide +kernel
theorem d7_hour_23 : decode prog_1_method_28_code 23 = .ok (.istore_n 3, 1) := by decide +kernel
theorem d7_hour_24 : decode prog_1_method_28_code 24 = .ok (.iload_n 3, 1) := by decide +kernel
theorem d7_hour_25 : decode prog_1_method_28_code 25 = .ok (.ifCond .eq 5, 3) := by decide +kernel
theorem d7_hour_28 : decode prog_1_method_28_code 28 = .ok (.iload_n 3, 1) := by decide +kernel
theorem d7_hour_29 : decode prog_1_method_28_code 29 = .ok (.ireturn, 1) := by decide +kernel
theorem d7_hour_30 : decode prog_1_method_28_code 30 = .ok (.aload_n 0, 1) := by decide +kernel
theorem d7_hour_31 : decode prog_1_method_28_code 31 = .ok (.aload_n 0, 1) := by decide +kernel
theorem d7_hour_32 : decode prog_1_method_28_code 32 = .ok (.getfield 29, 3) := by decide +kernel
theorem d7_hour_35 : decode prog_1_method_28_code 35 = .ok (.iload_n 1, 1) := by decide +kernel
theorem d7_hour_36 : decode prog_1_method_28_code 36 = .ok (.iload_n 2, 1) := by decide +kernel
theorem d7_hour_37 : decode prog_1_method_28_code 37 = .ok (.invokevirtual 234, 3) := by decide +kernel
theorem d7_hour_40 : decode prog_1_method_28_code 40 = .ok (.aload_n 0, 1) := by decide +kernel
theorem d7_hour_41 : decode prog_1_method_28_code 41 = .ok (.getfield 29, 3) := by decide +kernel
theorem d7_hour_44 : decode prog_1_method_28_code 44 = .ok (.getfield 223, 3) := by decide +kernel
theorem d7_hour_47 : decode prog_1_method_28_code 47 = .ok (.invokevirtual 226, 3) := by decide +kernel
theorem d7_hour_50 : decode prog_1_method_28_code 50 = .ok (.iconst 1, 1) := by decide +kernel
theorem d7_hour_51 : decode prog_1_method_28_code 51 = .ok (.ireturn, 1) := by decide +kernel
theorem d8_setRest_0 : decode prog_10_method_68_code 0 = .ok (.aload_n 0, 1) := by decide +kernel
theorem d8_setRest_1 : decode prog_10_method_68_code 1 = .ok (.invokevirtual 129, 3) := by decide +kernel
theorem d8_setRest_4 : decode prog_10_method_68_code 4 = .ok (.istore_n 1, 1) := by decide +kernel
theorem d8_setRest_5 : decode prog_10_method_68_code 5 = .ok (.iload_n 1, 1) := by decide +kernel
theorem d8_setRest_6 : decode prog_10_method_68_code 6 = .ok (.ifCond .lt 121, 3) := by decide +kernel
theorem d8_setRest_9 : decode prog_10_method_68_code 9 = .ok (.iconst 0, 1) := by decide +kernel
theorem d8_setRest_10 : decode prog_10_method_68_code 10 = .ok (.istore_n 2, 1) := by decide +kernel
theorem d8_setRest_11 : decode prog_10_method_68_code 11 = .ok (.iload_n 2, 1) := by decide +kernel
theorem d8_setRest_12 : decode prog_10_method_68_code 12 = .ok (.bipush 120, 2) := by decide +kernel
theorem d8_setRest_14 : decode prog_10_method_68_code 14 = .ok (.if_icmp .ge 107, 3) := by decide +kernel
theorem d8_setRest_17 : decode prog_10_method_68_code 17 = .ok (.aload_n 0, 1) := by decide +kernel
theorem d8_setRest_18 : decode prog_10_method_68_code 18 = .ok (.iload_n 1, 1) := by decide +kernel
theorem d8_setRest_19 : decode prog_10_method_68_code 19 = .ok (.iload_n 2, 1) := by decide +kernel
theorem d8_setRest_20 : decode prog_10_method_68_code 20 = .ok (.invokevirtual 219, 3) := by decide +kernel
theorem d8_setRest_23 : decode prog_10_method_68_code 23 = .ok (.lstore_n 3, 1) := by decide +kernel
theorem d8_setRest_24 : decode prog_10_method_68_code 24 = .ok (.iconst (-1), 1) := by decide +kernel
theorem d8_setRest_25 : decode prog_10_method_68_code 25 = .ok (.istore 5, 2) := by decide +kernel
theorem d8_setRest_27 : decode prog_10_method_68_code 27 = .ok (.iload 5, 2) := by decide +kernel
theorem d8_setRest_29 : decode prog_10_method_68_code 29 = .ok (.iconst 2, 1) := by decide +kernel
theorem d8_setRest_30 : decode prog_10_method_68_code 30 = .ok (.if_icmp .ge 73, 3) := by decide +kernel
theorem d8_setRest_33 : decode prog_10_method_68_code 33 = .ok (.iload_n 1, 1) := by decide +kernel
theorem d8_setRest_34 : decode prog_10_method_68_code 34 = .ok (.aload_n 0, 1) := by decide +kernel
theorem d8_setRest_35 : decode prog_10_method_68_code 35 = .ok (.invokevirtual 129, 3) := by decide +kernel
theorem d8_setRest_38 : decode prog_10_method_68_code 38 = .ok (.if_icmp .ge 65, 3) := by decide +kernel
theorem d8_setRest_41 : decode prog_10_method_68_code 41 = .ok (.iload_n 2, 1) := by decide +kernel
theorem d8_setRest_42 : decode prog_10_method_68_code 42 = .ok (.aload_n 0, 1) := by decide +kernel
theorem d8_setRest_43 : decode prog_10_method_68_code 43 = .ok (.iload_n 1, 1) := by decide +kernel
theorem d8_setRest_44 : decode prog_10_method_68_code 44 = .ok (.invokevirtual 133, 3) := by decide +kernel
theorem d8_setRest_47 : decode prog_10_method_68_code 47 = .ok (.iload 5, 2) := by decide +kernel
theorem d8_setRest_49 : decode prog_10_method_68_code 49 = .ok (.invokestatic 211, 3) := by decide +kernel
theorem d8_setRest_52 : decode prog_10_method_68_code 52 = .ok (.invokestatic 214, 3) := by decide +kernel
theorem d8_setRest_55 : decode prog_10_method_68_code 55 = .ok (.istore 6, 2) := by decide +kernel
theorem d8_setRest_57 : decode prog_10_method_68_code 57 = .ok (.lload_n 3, 1) := by decide +kernel
theorem d8_setRest_58 : decode prog_10_method_68_code 58 = .ok (.iload 5, 2) := by decide +kernel
theorem d8_setRest_60 : decode prog_10_method_68_code 60 = .ok (.ifCond .ne 9, 3) := by decide +kernel
theorem d8_setRest_63 : decode prog_10_method_68_code 63 = .ok (.ldc2_w 217, 3) := by decide +kernel
theorem d8_setRest_66 : decode prog_10_method_68_code 66 = .ok (.goto 4, 3) := by decide +kernel
theorem d8_setRest_69 : decode prog_10_method_68_code 69 = .ok (.lconst 1, 1) := by decide +kernel
theorem d8_setRest_70 : decode prog_10_method_68_code 70 = .ok (.aload_n 0, 1) := by decide +kernel
theorem d8_setRest_71 : decode prog_10_method_68_code 71 = .ok (.iload_n 1, 1) := by decide +kernel
theorem d8_setRest_72 : decode prog_10_method_68_code 72 = .ok (.iconst 1, 1) := by decide +kernel
theorem d8_setRest_73 : decode prog_10_method_68_code 73 = .ok (.iadd, 1) := by decide +kernel
theorem d8_setRest_74 : decode prog_10_method_68_code 74 = .ok (.iload 6, 2) := by decide +kernel
theorem d8_setRest_76 : decode prog_10_method_68_code 76 = .ok (.invokevirtual 207, 3) := by decide +kernel
theorem d8_setRest_79 : decode prog_10_method_68_code 79 = .ok (.lmul, 1) := by decide +kernel
theorem d8_setRest_80 : decode prog_10_method_68_code 80 = .ok (.aload_n 0, 1) := by decide +kernel
theorem d8_setRest_81 : decode prog_10_method_68_code 81 = .ok (.getfield 56, 3) := by decide +kernel
theorem d8_setRest_84 : decode prog_10_method_68_code 84 = .ok (.bipush 120, 2) := by decide +kernel
theorem d8_setRest_86 : decode prog_10_method_68_code 86 = .ok (.iload_n 1, 1) := by decide +kernel
theorem d8_setRest_87 : decode prog_10_method_68_code 87 = .ok (.iconst 1, 1) := by decide +kernel
theorem d8_setRest_88 : decode prog_10_method_68_code 88 = .ok (.iadd, 1) := by decide +kernel
theorem d8_setRest_89 : decode prog_10_method_68_code 89 = .ok (.imul, 1) := by decide +kernel
theorem d8_setRest_90 : decode prog_10_method_68_code 90 = .ok (.iload 6, 2) := by decide +kernel
theorem d8_setRest_92 : decode prog_10_method_68_code 92 = .ok (.iadd, 1) := by decide +kernel
theorem d8_setRest_93 : decode prog_10_method_68_code 93 = .ok (.laload, 1) := by decide +kernel
theorem d8_setRest_94 : decode prog_10_method_68_code 94 = .ok (.lmul, 1) := by decide +kernel
theorem d8_setRest_95 : decode prog_10_method_68_code 95 = .ok (.ladd, 1) := by decide +kernel
theorem d8_setRest_96 : decode prog_10_method_68_code 96 = .ok (.lstore_n 3, 1) := by decide +kernel
theorem d8_setRest_97 : decode prog_10_method_68_code 97 = .ok (.iinc 5 1, 3) := by decide +kernel
theorem d8_setRest_100 : decode prog_10_method_68_code 100 = .ok (.goto (-73), 3) := by decide +kernel
theorem d8_setRest_103 : decode prog_10_method_68_code 103 = .ok (.aload_n 0, 1) := by decide +kernel
theorem d8_setRest_104 : decode prog_10_method_68_code 104 = .ok (.getfield 56, 3) := by decide +kernel
theorem d8_setRest_107 : decode prog_10_method_68_code 107 = .ok (.bipush 120, 2) := by decide +kernel
theorem d8_setRest_109 : decode prog_10_method_68_code 109 = .ok (.iload_n 1, 1) := by decide +kernel
theorem d8_setRest_110 : decode prog_10_method_68_code 110 = .ok (.imul, 1) := by decide +kernel
theorem d8_setRest_111 : decode prog_10_method_68_code 111 = .ok (.iload_n 2, 1) := by decide +kernel
theorem d8_setRest_112 : decode prog_10_method_68_code 112 = .ok (.iadd, 1) := by decide +kernel
theorem d8_setRest_113 : decode prog_10_method_68_code 113 = .ok (.lload_n 3, 1) := by decide +kernel
theorem d8_setRest_114 : decode prog_10_method_68_code 114 = .ok (.lastore, 1) := by decide +kernel
theorem d8_setRest_115 : decode prog_10_method_68_code 115 = .ok (.iinc 2 1, 3) := by decide +kernel
theorem d8_setRest_118 : decode prog_10_method_68_code 118 = .ok (.goto (-107), 3) := by decide +kernel
theorem d8_setRest_121 : decode prog_10_method_68_code 121 = .ok (.iinc 1 (-1), 3) := by decide +kernel
theorem d8_setRest_124 : decode prog_10_method_68_code 124 = .ok (.goto (-119), 3) := by decide +kernel
theorem d8_setRest_127 : decode prog_10_method_68_code 127 = .ok (.return_, 1) := by decide +kernel
theorem d8_hour_0 : decode prog_10_method_77_code 0 = .ok (.iload_n 1, 1) := by decide +kernel
theorem d8_hour_1 : decode prog_10_method_77_code 1 = .ok (.iconst 0, 1) := by decide +kernel
theorem d8_hour_2 : decode prog_10_method_77_code 2 = .ok (.bipush 6, 2) := by decide +kernel
theorem d8_hour_4 : decode prog_10_method_77_code 4 = .ok (.invokestatic 80, 3) := by decide +kernel
theorem d8_hour_7 : decode prog_10_method_77_code 7 = .ok (.ifCond .eq 10, 3) := by decide +kernel
theorem d8_hour_10 : decode prog_10_method_77_code 10 = .ok (.iload_n 2, 1) := by decide +kernel
theorem d8_hour_11 : decode prog_10_method_77_code 11 = .ok (.invokestatic 117, 3) := by decide +kernel
theorem d8_hour_14 : decode prog_10_method_77_code 14 = .ok (.ifCond .ne 5, 3) := by decide +kernel
theorem d8_hour_17 : decode prog_10_method_77_code 17 = .ok (.iconst (-1), 1) := by decide +kernel
theorem d8_hour_18 : decode prog_10_method_77_code 18 = .ok (.ireturn, 1) := by decide +kernel
theorem d8_hour_19 : decode prog_10_method_77_code 19 = .ok (.aload_n 0, 1) := by decide +kernel
theorem d8_hour_20 : decode prog_10_method_77_code 20 = .ok (.iconst 0, 1) := by decide +kernel
theorem d8_hour_21 : decode prog_10_method_77_code 21 = .ok (.invokevirtual 244, 3) := by decide +kernel
theorem d8_hour_24 : decode prog_10_method_77_code 24 = .ok (.istore_n 3, 1) := by decide +kernel
theorem d8_hour_25 : decode prog_10_method_77_code 25 = .ok (.iload_n 3, 1) := by decide +kernel
theorem d8_hour_26 : decode prog_10_method_77_code 26 = .ok (.ifCond .ge 5, 3) := by decide +kernel
theorem d8_hour_29 : decode prog_10_method_77_code 29 = .ok (.iload_n 3, 1) := by decide +kernel
theorem d8_hour_30 : decode prog_10_method_77_code 30 = .ok (.ireturn, 1) := by decide +kernel
theorem d8_hour_31 : decode prog_10_method_77_code 31 = .ok (.aload_n 0, 1) := by decide +kernel
theorem d8_hour_32 : decode prog_10_method_77_code 32 = .ok (.invokevirtual 254, 3) := by decide +kernel
theorem d8_hour_35 : decode prog_10_method_77_code 35 = .ok (.iload_n 1, 1) := by decide +kernel
theorem d8_hour_36 : decode prog_10_method_77_code 36 = .ok (.aload_n 0, 1) := by decide +kernel
theorem d8_hour_37 : decode prog_10_method_77_code 37 = .ok (.invokevirtual 129, 3) := by decide +kernel
theorem d8_hour_40 : decode prog_10_method_77_code 40 = .ok (.if_icmp .gt 19, 3) := by decide +kernel
theorem d8_hour_43 : decode prog_10_method_77_code 43 = .ok (.aload_n 0, 1) := by decide +kernel
theorem d8_hour_44 : decode prog_10_method_77_code 44 = .ok (.getfield 52, 3) := by decide +kernel
theorem d8_hour_47 : decode prog_10_method_77_code 47 = .ok (.bipush 120, 2) := by decide +kernel
theorem d8_hour_49 : decode prog_10_method_77_code 49 = .ok (.iload_n 1, 1) := by decide +kernel
theorem d8_hour_50 : decode prog_10_method_77_code 50 = .ok (.imul, 1) := by decide +kernel
theorem d8_hour_51 : decode prog_10_method_77_code 51 = .ok (.iload_n 2, 1) := by decide +kernel
theorem d8_hour_52 : decode prog_10_method_77_code 52 = .ok (.iadd, 1) := by decide +kernel
theorem d8_hour_53 : decode prog_10_method_77_code 53 = .ok (.laload, 1) := by decide +kernel
theorem d8_hour_54 : decode prog_10_method_77_code 54 = .ok (.lconst 0, 1) := by decide +kernel
theorem d8_hour_55 : decode prog_10_method_77_code 55 = .ok (.lcmp, 1) := by decide +kernel
theorem d8_hour_56 : decode prog_10_method_77_code 56 = .ok (.ifCond .ne 7, 3) := by decide +kernel
theorem d8_hour_59 : decode prog_10_method_77_code 59 = .ok (.lconst 0, 1) := by decide +kernel
theorem d8_hour_60 : decode prog_10_method_77_code 60 = .ok (.goto 26, 3) := by decide +kernel
theorem d8_hour_63 : decode prog_10_method_77_code 63 = .ok (.aload_n 0, 1) := by decide +kernel
theorem d8_hour_64 : decode prog_10_method_77_code 64 = .ok (.getfield 52, 3) := by decide +kernel
theorem d8_hour_67 : decode prog_10_method_77_code 67 = .ok (.bipush 120, 2) := by decide +kernel
theorem d8_hour_69 : decode prog_10_method_77_code 69 = .ok (.iload_n 1, 1) := by decide +kernel
theorem d8_hour_70 : decode prog_10_method_77_code 70 = .ok (.imul, 1) := by decide +kernel
theorem d8_hour_71 : decode prog_10_method_77_code 71 = .ok (.iload_n 2, 1) := by decide +kernel
theorem d8_hour_72 : decode prog_10_method_77_code 72 = .ok (.iadd, 1) := by decide +kernel
theorem d8_hour_73 : decode prog_10_method_77_code 73 = .ok (.laload, 1) := by decide +kernel
theorem d8_hour_74 : decode prog_10_method_77_code 74 = .ok (.aload_n 0, 1) := by decide +kernel
theorem d8_hour_75 : decode prog_10_method_77_code 75 = .ok (.getfield 56, 3) := by decide +kernel
theorem d8_hour_78 : decode prog_10_method_77_code 78 = .ok (.bipush 120, 2) := by decide +kernel
theorem d8_hour_80 : decode prog_10_method_77_code 80 = .ok (.iload_n 1, 1) := by decide +kernel
theorem d8_hour_81 : decode prog_10_method_77_code 81 = .ok (.imul, 1) := by decide +kernel
theorem d8_hour_82 : decode prog_10_method_77_code 82 = .ok (.iload_n 2, 1) := by decide +kernel
theorem d8_hour_83 : decode prog_10_method_77_code 83 = .ok (.iadd, 1) := by decide +kernel
theorem d8_hour_84 : decode prog_10_method_77_code 84 = .ok (.laload, 1) := by decide +kernel
theorem d8_hour_85 : decode prog_10_method_77_code 85 = .ok (.lmul, 1) := by decide +kernel
theorem d8_hour_86 : decode prog_10_method_77_code 86 = .ok (.lstore 4, 2) := by decide +kernel
theorem d8_hour_88 : decode prog_10_method_77_code 88 = .ok (.aload_n 0, 1) := by decide +kernel
theorem d8_hour_89 : decode prog_10_method_77_code 89 = .ok (.lload 4, 2) := by decide +kernel
theorem d8_hour_91 : decode prog_10_method_77_code 91 = .ok (.aload_n 0, 1) := by decide +kernel
theorem d8_hour_92 : decode prog_10_method_77_code 92 = .ok (.getfield 222, 3) := by decide +kernel
theorem d8_hour_95 : decode prog_10_method_77_code 95 = .ok (.iconst 1, 1) := by decide +kernel
theorem d8_hour_96 : decode prog_10_method_77_code 96 = .ok (.invokevirtual 247, 3) := by decide +kernel
theorem d8_hour_99 : decode prog_10_method_77_code 99 = .ok (.ireturn, 1) := by decide +kernel
theorem d7_ended_0 : decode prog_1_method_29_code 0 = .ok (.iload_n 1, 1) := by decide +kernel
theorem d7_ended_1 : decode prog_1_method_29_code 1 = .ok (.bipush 6, 2) := by decide +kernel
theorem d7_ended_3 : decode prog_1_method_29_code 3 = .ok (.invokestatic 137, 3) := by decide +kernel
theorem d7_ended_6 : decode prog_1_method_29_code 6 = .ok (.ifCond .ne 5, 3) := by decide +kernel
theorem d7_ended_9 : decode prog_1_method_29_code 9 = .ok (.iconst (-1), 1) := by decide +kernel
theorem d7_ended_10 : decode prog_1_method_29_code 10 = .ok (.ireturn, 1) := by decide +kernel
theorem d7_ended_11 : decode prog_1_method_29_code 11 = .ok (.aload_n 0, 1) := by decide +kernel
theorem d7_ended_12 : decode prog_1_method_29_code 12 = .ok (.iconst 0, 1) := by decide +kernel
theorem d7_ended_13 : decode prog_1_method_29_code 13 = .ok (.invokevirtual 217, 3) := by decide +kernel
theorem d7_ended_16 : decode prog_1_method_29_code 16 = .ok (.istore_n 2, 1) := by decide +kernel
theorem d7_ended_17 : decode prog_1_method_29_code 17 = .ok (.iload_n 2, 1) := by decide +kernel
theorem d7_ended_18 : decode prog_1_method_29_code 18 = .ok (.ifCond .eq 5, 3) := by decide +kernel
theorem d7_ended_21 : decode prog_1_method_29_code 21 = .ok (.iload_n 2, 1) := by decide +kernel
theorem d7_ended_22 : decode prog_1_method_29_code 22 = .ok (.ireturn, 1) := by decide +kernel
theorem d7_ended_23 : decode prog_1_method_29_code 23 = .ok (.aload_n 0, 1) := by decide +kernel
theorem d7_ended_24 : decode prog_1_method_29_code 24 = .ok (.aload_n 0, 1) := by decide +kernel
theorem d7_ended_25 : decode prog_1_method_29_code 25 = .ok (.getfield 29, 3) := by decide +kernel
theorem d7_ended_28 : decode prog_1_method_29_code 28 = .ok (.getfield 238, 3) := by decide +kernel
theorem d7_ended_31 : decode prog_1_method_29_code 31 = .ok (.iload_n 1, 1) := by decide +kernel
theorem d7_ended_32 : decode prog_1_method_29_code 32 = .ok (.laload, 1) := by decide +kernel
theorem d7_ended_33 : decode prog_1_method_29_code 33 = .ok (.aload_n 0, 1) := by decide +kernel
theorem d7_ended_34 : decode prog_1_method_29_code 34 = .ok (.getfield 29, 3) := by decide +kernel
theorem d7_ended_37 : decode prog_1_method_29_code 37 = .ok (.getfield 223, 3) := by decide +kernel
theorem d7_ended_40 : decode prog_1_method_29_code 40 = .ok (.invokevirtual 226, 3) := by decide +kernel
theorem d7_ended_43 : decode prog_1_method_29_code 43 = .ok (.iconst 1, 1) := by decide +kernel
theorem d7_ended_44 : decode prog_1_method_29_code 44 = .ok (.ireturn, 1) := by decide +kernel
theorem d8_ended_0 : decode prog_10_method_78_code 0 = .ok (.iload_n 1, 1) := by decide +kernel
theorem d8_ended_1 : decode prog_10_method_78_code 1 = .ok (.iconst 0, 1) := by decide +kernel
theorem d8_ended_2 : decode prog_10_method_78_code 2 = .ok (.bipush 6, 2) := by decide +kernel
theorem d8_ended_4 : decode prog_10_method_78_code 4 = .ok (.invokestatic 80, 3) := by decide +kernel
theorem d8_ended_7 : decode prog_10_method_78_code 7 = .ok (.ifCond .ne 5, 3) := by decide +kernel
theorem d8_ended_10 : decode prog_10_method_78_code 10 = .ok (.iconst (-1), 1) := by decide +kernel
theorem d8_ended_11 : decode prog_10_method_78_code 11 = .ok (.ireturn, 1) := by decide +kernel
theorem d8_ended_12 : decode prog_10_method_78_code 12 = .ok (.aload_n 0, 1) := by decide +kernel
theorem d8_ended_13 : decode prog_10_method_78_code 13 = .ok (.iconst 0, 1) := by decide +kernel
theorem d8_ended_14 : decode prog_10_method_78_code 14 = .ok (.invokevirtual 244, 3) := by decide +kernel
theorem d8_ended_17 : decode prog_10_method_78_code 17 = .ok (.istore_n 2, 1) := by decide +kernel
theorem d8_ended_18 : decode prog_10_method_78_code 18 = .ok (.iload_n 2, 1) := by decide +kernel
theorem d8_ended_19 : decode prog_10_method_78_code 19 = .ok (.ifCond .ge 5, 3) := by decide +kernel
theorem d8_ended_22 : decode prog_10_method_78_code 22 = .ok (.iload_n 2, 1) := by decide +kernel
theorem d8_ended_23 : decode prog_10_method_78_code 23 = .ok (.ireturn, 1) := by decide +kernel
theorem d8_ended_24 : decode prog_10_method_78_code 24 = .ok (.lconst 0, 1) := by decide +kernel
theorem d8_ended_25 : decode prog_10_method_78_code 25 = .ok (.lstore_n 3, 1) := by decide +kernel
theorem d8_ended_26 : decode prog_10_method_78_code 26 = .ok (.iconst 0, 1) := by decide +kernel
theorem d8_ended_27 : decode prog_10_method_78_code 27 = .ok (.istore 5, 2) := by decide +kernel
theorem d8_ended_29 : decode prog_10_method_78_code 29 = .ok (.iload 5, 2) := by decide +kernel
theorem d8_ended_31 : decode prog_10_method_78_code 31 = .ok (.bipush 120, 2) := by decide +kernel
theorem d8_ended_33 : decode prog_10_method_78_code 33 = .ok (.if_icmp .ge 61, 3) := by decide +kernel
theorem d8_ended_36 : decode prog_10_method_78_code 36 = .ok (.iload_n 1, 1) := by decide +kernel
theorem d8_ended_37 : decode prog_10_method_78_code 37 = .ok (.aload_n 0, 1) := by decide +kernel
theorem d8_ended_38 : decode prog_10_method_78_code 38 = .ok (.invokevirtual 129, 3) := by decide +kernel
theorem d8_ended_41 : decode prog_10_method_78_code 41 = .ok (.if_icmp .gt 53, 3) := by decide +kernel
theorem d8_ended_44 : decode prog_10_method_78_code 44 = .ok (.lload_n 3, 1) := by decide +kernel
theorem d8_ended_45 : decode prog_10_method_78_code 45 = .ok (.aload_n 0, 1) := by decide +kernel
theorem d8_ended_46 : decode prog_10_method_78_code 46 = .ok (.getfield 52, 3) := by decide +kernel
theorem d8_ended_49 : decode prog_10_method_78_code 49 = .ok (.bipush 120, 2) := by decide +kernel
theorem d8_ended_51 : decode prog_10_method_78_code 51 = .ok (.iload_n 1, 1) := by decide +kernel
theorem d8_ended_52 : decode prog_10_method_78_code 52 = .ok (.imul, 1) := by decide +kernel
theorem d8_ended_53 : decode prog_10_method_78_code 53 = .ok (.iload 5, 2) := by decide +kernel
theorem d8_ended_55 : decode prog_10_method_78_code 55 = .ok (.iadd, 1) := by decide +kernel
theorem d8_ended_56 : decode prog_10_method_78_code 56 = .ok (.laload, 1) := by decide +kernel
theorem d8_ended_57 : decode prog_10_method_78_code 57 = .ok (.lconst 0, 1) := by decide +kernel
theorem d8_ended_58 : decode prog_10_method_78_code 58 = .ok (.lcmp, 1) := by decide +kernel
theorem d8_ended_59 : decode prog_10_method_78_code 59 = .ok (.ifCond .ne 7, 3) := by decide +kernel
theorem d8_ended_62 : decode prog_10_method_78_code 62 = .ok (.lconst 0, 1) := by decide +kernel
theorem d8_ended_63 : decode prog_10_method_78_code 63 = .ok (.goto 23, 3) := by decide +kernel
theorem d8_ended_66 : decode prog_10_method_78_code 66 = .ok (.aload_n 0, 1) := by decide +kernel
theorem d8_ended_67 : decode prog_10_method_78_code 67 = .ok (.getfield 52, 3) := by decide +kernel
theorem d8_ended_70 : decode prog_10_method_78_code 70 = .ok (.bipush 120, 2) := by decide +kernel
theorem d8_ended_72 : decode prog_10_method_78_code 72 = .ok (.iload_n 1, 1) := by decide +kernel
theorem d8_ended_73 : decode prog_10_method_78_code 73 = .ok (.imul, 1) := by decide +kernel
theorem d8_ended_74 : decode prog_10_method_78_code 74 = .ok (.iload 5, 2) := by decide +kernel
theorem d8_ended_76 : decode prog_10_method_78_code 76 = .ok (.iadd, 1) := by decide +kernel
theorem d8_ended_77 : decode prog_10_method_78_code 77 = .ok (.laload, 1) := by decide +kernel
theorem d8_ended_78 : decode prog_10_method_78_code 78 = .ok (.aload_n 0, 1) := by decide +kernel
theorem d8_ended_79 : decode prog_10_method_78_code 79 = .ok (.iload_n 1, 1) := by decide +kernel
theorem d8_ended_80 : decode prog_10_method_78_code 80 = .ok (.iload 5, 2) := by decide +kernel
theorem d8_ended_82 : decode prog_10_method_78_code 82 = .ok (.invokevirtual 219, 3) := by decide +kernel
theorem d8_ended_85 : decode prog_10_method_78_code 85 = .ok (.lmul, 1) := by decide +kernel
theorem d8_ended_86 : decode prog_10_method_78_code 86 = .ok (.ladd, 1) := by decide +kernel
theorem d8_ended_87 : decode prog_10_method_78_code 87 = .ok (.lstore_n 3, 1) := by decide +kernel
theorem d8_ended_88 : decode prog_10_method_78_code 88 = .ok (.iinc 5 1, 3) := by decide +kernel
theorem d8_ended_91 : decode prog_10_method_78_code 91 = .ok (.goto (-62), 3) := by decide +kernel
theorem d8_ended_94 : decode prog_10_method_78_code 94 = .ok (.aload_n 0, 1) := by decide +kernel
theorem d8_ended_95 : decode prog_10_method_78_code 95 = .ok (.lload_n 3, 1) := by decide +kernel
theorem d8_ended_96 : decode prog_10_method_78_code 96 = .ok (.aload_n 0, 1) := by decide +kernel
theorem d8_ended_97 : decode prog_10_method_78_code 97 = .ok (.getfield 222, 3) := by decide +kernel
theorem d8_ended_100 : decode prog_10_method_78_code 100 = .ok (.iconst 1, 1) := by decide +kernel
theorem d8_ended_101 : decode prog_10_method_78_code 101 = .ok (.invokevirtual 247, 3) := by decide +kernel
theorem d8_ended_104 : decode prog_10_method_78_code 104 = .ok (.ireturn, 1) := by decide +kernel
theorem d7_falls_0 : decode prog_1_method_30_code 0 = .ok (.iload_n 1, 1) := by decide +kernel
theorem d7_falls_1 : decode prog_1_method_30_code 1 = .ok (.invokestatic 214, 3) := by decide +kernel
theorem d7_falls_4 : decode prog_1_method_30_code 4 = .ok (.ifCond .eq 21, 3) := by decide +kernel
theorem d7_falls_7 : decode prog_1_method_30_code 7 = .ok (.aload_n 0, 1) := by decide +kernel
theorem d7_falls_8 : decode prog_1_method_30_code 8 = .ok (.getfield 42, 3) := by decide +kernel
theorem d7_falls_11 : decode prog_1_method_30_code 11 = .ok (.iload_n 2, 1) := by decide +kernel
theorem d7_falls_12 : decode prog_1_method_30_code 12 = .ok (.invokevirtual 184, 3) := by decide +kernel
theorem d7_falls_15 : decode prog_1_method_30_code 15 = .ok (.ifCond .eq 10, 3) := by decide +kernel
theorem d7_falls_18 : decode prog_1_method_30_code 18 = .ok (.iload_n 3, 1) := by decide +kernel
theorem d7_falls_19 : decode prog_1_method_30_code 19 = .ok (.invokestatic 120, 3) := by decide +kernel
theorem d7_falls_22 : decode prog_1_method_30_code 22 = .ok (.ifCond .ne 5, 3) := by decide +kernel
theorem d7_falls_25 : decode prog_1_method_30_code 25 = .ok (.iconst (-1), 1) := by decide +kernel
theorem d7_falls_26 : decode prog_1_method_30_code 26 = .ok (.ireturn, 1) := by decide +kernel
theorem d7_falls_27 : decode prog_1_method_30_code 27 = .ok (.aload_n 0, 1) := by decide +kernel
theorem d7_falls_28 : decode prog_1_method_30_code 28 = .ok (.iload_n 1, 1) := by decide +kernel
theorem d7_falls_29 : decode prog_1_method_30_code 29 = .ok (.iconst 3, 1) := by decide +kernel
theorem d7_falls_30 : decode prog_1_method_30_code 30 = .ok (.invokevirtual 241, 3) := by decide +kernel
theorem d7_falls_33 : decode prog_1_method_30_code 33 = .ok (.istore 4, 2) := by decide +kernel
theorem d7_falls_35 : decode prog_1_method_30_code 35 = .ok (.iload 4, 2) := by decide +kernel
theorem d7_falls_37 : decode prog_1_method_30_code 37 = .ok (.ifCond .eq 6, 3) := by decide +kernel
theorem d7_falls_40 : decode prog_1_method_30_code 40 = .ok (.iload 4, 2) := by decide +kernel
theorem d7_falls_42 : decode prog_1_method_30_code 42 = .ok (.ireturn, 1) := by decide +kernel
theorem d7_falls_43 : decode prog_1_method_30_code 43 = .ok (.aload_n 0, 1) := by decide +kernel
theorem d7_falls_44 : decode prog_1_method_30_code 44 = .ok (.getfield 29, 3) := by decide +kernel
theorem d7_falls_47 : decode prog_1_method_30_code 47 = .ok (.iload_n 1, 1) := by decide +kernel
theorem d7_falls_48 : decode prog_1_method_30_code 48 = .ok (.bipush (-9), 2) := by decide +kernel
theorem d7_falls_50 : decode prog_1_method_30_code 50 = .ok (.invokevirtual 244, 3) := by decide +kernel
theorem d7_falls_53 : decode prog_1_method_30_code 53 = .ok (.lstore 5, 2) := by decide +kernel
theorem d7_falls_55 : decode prog_1_method_30_code 55 = .ok (.aload_n 0, 1) := by decide +kernel
theorem d7_falls_56 : decode prog_1_method_30_code 56 = .ok (.getfield 29, 3) := by decide +kernel
theorem d7_falls_59 : decode prog_1_method_30_code 59 = .ok (.getfield 220, 3) := by decide +kernel
theorem d7_falls_62 : decode prog_1_method_30_code 62 = .ok (.iload_n 3, 1) := by decide +kernel
theorem d7_falls_63 : decode prog_1_method_30_code 63 = .ok (.laload, 1) := by decide +kernel
theorem d7_falls_64 : decode prog_1_method_30_code 64 = .ok (.lstore 7, 2) := by decide +kernel
theorem d7_falls_66 : decode prog_1_method_30_code 66 = .ok (.aload_n 0, 1) := by decide +kernel
theorem d7_falls_67 : decode prog_1_method_30_code 67 = .ok (.getfield 29, 3) := by decide +kernel
theorem d7_falls_70 : decode prog_1_method_30_code 70 = .ok (.iload_n 1, 1) := by decide +kernel
theorem d7_falls_71 : decode prog_1_method_30_code 71 = .ok (.iload_n 2, 1) := by decide +kernel
theorem d7_falls_72 : decode prog_1_method_30_code 72 = .ok (.invokevirtual 244, 3) := by decide +kernel
theorem d7_falls_75 : decode prog_1_method_30_code 75 = .ok (.lstore 9, 2) := by decide +kernel
theorem d7_falls_77 : decode prog_1_method_30_code 77 = .ok (.aload_n 0, 1) := by decide +kernel
theorem d7_falls_78 : decode prog_1_method_30_code 78 = .ok (.getfield 29, 3) := by decide +kernel
theorem d7_falls_81 : decode prog_1_method_30_code 81 = .ok (.getfield 220, 3) := by decide +kernel
theorem d7_falls_84 : decode prog_1_method_30_code 84 = .ok (.iload_n 3, 1) := by decide +kernel
theorem d7_falls_85 : decode prog_1_method_30_code 85 = .ok (.laload, 1) := by decide +kernel
theorem d7_falls_86 : decode prog_1_method_30_code 86 = .ok (.lstore 11, 2) := by decide +kernel
theorem d7_falls_88 : decode prog_1_method_30_code 88 = .ok (.lload 5, 2) := by decide +kernel
theorem d7_falls_90 : decode prog_1_method_30_code 90 = .ok (.lconst 0, 1) := by decide +kernel
theorem d7_falls_91 : decode prog_1_method_30_code 91 = .ok (.lcmp, 1) := by decide +kernel
theorem d7_falls_92 : decode prog_1_method_30_code 92 = .ok (.ifCond .le 10, 3) := by decide +kernel
theorem d7_falls_95 : decode prog_1_method_30_code 95 = .ok (.lload 9, 2) := by decide +kernel
theorem d7_falls_97 : decode prog_1_method_30_code 97 = .ok (.lconst 0, 1) := by decide +kernel
theorem d7_falls_98 : decode prog_1_method_30_code 98 = .ok (.lcmp, 1) := by decide +kernel
theorem d7_falls_99 : decode prog_1_method_30_code 99 = .ok (.ifCond .gt 9, 3) := by decide +kernel
theorem d7_falls_102 : decode prog_1_method_30_code 102 = .ok (.aload_n 0, 1) := by decide +kernel
theorem d7_falls_103 : decode prog_1_method_30_code 103 = .ok (.iconst 4, 1) := by decide +kernel
theorem d7_falls_104 : decode prog_1_method_30_code 104 = .ok (.invokevirtual 92, 3) := by decide +kernel
theorem d7_falls_107 : decode prog_1_method_30_code 107 = .ok (.ireturn, 1) := by decide +kernel
theorem d7_falls_108 : decode prog_1_method_30_code 108 = .ok (.aload_n 0, 1) := by decide +kernel
theorem d7_falls_109 : decode prog_1_method_30_code 109 = .ok (.lload 7, 2) := by decide +kernel
theorem d7_falls_111 : decode prog_1_method_30_code 111 = .ok (.lload 9, 2) := by decide +kernel
theorem d7_falls_113 : decode prog_1_method_30_code 113 = .ok (.lmul, 1) := by decide +kernel
theorem d7_falls_114 : decode prog_1_method_30_code 114 = .ok (.lload 11, 2) := by decide +kernel
theorem d7_falls_116 : decode prog_1_method_30_code 116 = .ok (.lload 5, 2) := by decide +kernel
theorem d7_falls_118 : decode prog_1_method_30_code 118 = .ok (.lmul, 1) := by decide +kernel
theorem d7_falls_119 : decode prog_1_method_30_code 119 = .ok (.lsub, 1) := by decide +kernel
theorem d7_falls_120 : decode prog_1_method_30_code 120 = .ok (.lload 5, 2) := by decide +kernel
theorem d7_falls_122 : decode prog_1_method_30_code 122 = .ok (.lload 9, 2) := by decide +kernel
theorem d7_falls_124 : decode prog_1_method_30_code 124 = .ok (.lmul, 1) := by decide +kernel
theorem d7_falls_125 : decode prog_1_method_30_code 125 = .ok (.invokevirtual 226, 3) := by decide +kernel
theorem d7_falls_128 : decode prog_1_method_30_code 128 = .ok (.iconst 1, 1) := by decide +kernel
theorem d7_falls_129 : decode prog_1_method_30_code 129 = .ok (.ireturn, 1) := by decide +kernel
theorem d8_falls_0 : decode prog_10_method_79_code 0 = .ok (.aload_n 0, 1) := by decide +kernel
theorem d8_falls_1 : decode prog_10_method_79_code 1 = .ok (.iload_n 2, 1) := by decide +kernel
theorem d8_falls_2 : decode prog_10_method_79_code 2 = .ok (.invokevirtual 172, 3) := by decide +kernel
theorem d8_falls_5 : decode prog_10_method_79_code 5 = .ok (.ifCond .eq 19, 3) := by decide +kernel
theorem d8_falls_8 : decode prog_10_method_79_code 8 = .ok (.iload_n 3, 1) := by decide +kernel
theorem d8_falls_9 : decode prog_10_method_79_code 9 = .ok (.invokestatic 117, 3) := by decide +kernel
theorem d8_falls_12 : decode prog_10_method_79_code 12 = .ok (.ifCond .eq 12, 3) := by decide +kernel
theorem d8_falls_15 : decode prog_10_method_79_code 15 = .ok (.iload_n 1, 1) := by decide +kernel
theorem d8_falls_16 : decode prog_10_method_79_code 16 = .ok (.iconst 0, 1) := by decide +kernel
theorem d8_falls_17 : decode prog_10_method_79_code 17 = .ok (.iconst 3, 1) := by decide +kernel
theorem d8_falls_18 : decode prog_10_method_79_code 18 = .ok (.invokestatic 80, 3) := by decide +kernel
theorem d8_falls_21 : decode prog_10_method_79_code 21 = .ok (.ifCond .ne 5, 3) := by decide +kernel
theorem d8_falls_24 : decode prog_10_method_79_code 24 = .ok (.iconst (-1), 1) := by decide +kernel
theorem d8_falls_25 : decode prog_10_method_79_code 25 = .ok (.ireturn, 1) := by decide +kernel
theorem d8_falls_26 : decode prog_10_method_79_code 26 = .ok (.aload_n 0, 1) := by decide +kernel
theorem d8_falls_27 : decode prog_10_method_79_code 27 = .ok (.iload_n 1, 1) := by decide +kernel
theorem d8_falls_28 : decode prog_10_method_79_code 28 = .ok (.invokevirtual 234, 3) := by decide +kernel
theorem d8_falls_31 : decode prog_10_method_79_code 31 = .ok (.istore 4, 2) := by decide +kernel
theorem d8_falls_33 : decode prog_10_method_79_code 33 = .ok (.iload 4, 2) := by decide +kernel
theorem d8_falls_35 : decode prog_10_method_79_code 35 = .ok (.ifCond .ge 6, 3) := by decide +kernel
theorem d8_falls_38 : decode prog_10_method_79_code 38 = .ok (.iload 4, 2) := by decide +kernel
theorem d8_falls_40 : decode prog_10_method_79_code 40 = .ok (.ireturn, 1) := by decide +kernel
theorem d8_falls_41 : decode prog_10_method_79_code 41 = .ok (.aload_n 0, 1) := by decide +kernel
theorem d8_falls_42 : decode prog_10_method_79_code 42 = .ok (.invokevirtual 237, 3) := by decide +kernel
theorem d8_falls_45 : decode prog_10_method_79_code 45 = .ok (.iconst 3, 1) := by decide +kernel
theorem d8_falls_46 : decode prog_10_method_79_code 46 = .ok (.if_icmp .le 6, 3) := by decide +kernel
theorem d8_falls_49 : decode prog_10_method_79_code 49 = .ok (.bipush (-6), 2) := by decide +kernel
theorem d8_falls_51 : decode prog_10_method_79_code 51 = .ok (.ireturn, 1) := by decide +kernel
theorem d8_falls_52 : decode prog_10_method_79_code 52 = .ok (.aload_n 0, 1) := by decide +kernel
theorem d8_falls_53 : decode prog_10_method_79_code 53 = .ok (.iload_n 1, 1) := by decide +kernel
theorem d8_falls_54 : decode prog_10_method_79_code 54 = .ok (.invokevirtual 240, 3) := by decide +kernel
theorem d8_falls_57 : decode prog_10_method_79_code 57 = .ok (.aload_n 0, 1) := by decide +kernel
theorem d8_falls_58 : decode prog_10_method_79_code 58 = .ok (.getfield 59, 3) := by decide +kernel
theorem d8_falls_61 : decode prog_10_method_79_code 61 = .ok (.iload_n 3, 1) := by decide +kernel
theorem d8_falls_62 : decode prog_10_method_79_code 62 = .ok (.laload, 1) := by decide +kernel
theorem d8_falls_63 : decode prog_10_method_79_code 63 = .ok (.lstore 5, 2) := by decide +kernel
theorem d8_falls_65 : decode prog_10_method_79_code 65 = .ok (.aload_n 0, 1) := by decide +kernel
theorem d8_falls_66 : decode prog_10_method_79_code 66 = .ok (.getfield 222, 3) := by decide +kernel
theorem d8_falls_69 : decode prog_10_method_79_code 69 = .ok (.lstore 7, 2) := by decide +kernel
theorem d8_falls_71 : decode prog_10_method_79_code 71 = .ok (.aload_n 0, 1) := by decide +kernel
theorem d8_falls_72 : decode prog_10_method_79_code 72 = .ok (.iload_n 2, 1) := by decide +kernel
theorem d8_falls_73 : decode prog_10_method_79_code 73 = .ok (.putfield 48, 3) := by decide +kernel
theorem d8_falls_76 : decode prog_10_method_79_code 76 = .ok (.aload_n 0, 1) := by decide +kernel
theorem d8_falls_77 : decode prog_10_method_79_code 77 = .ok (.iload_n 1, 1) := by decide +kernel
theorem d8_falls_78 : decode prog_10_method_79_code 78 = .ok (.invokevirtual 240, 3) := by decide +kernel
theorem d8_falls_81 : decode prog_10_method_79_code 81 = .ok (.aload_n 0, 1) := by decide +kernel
theorem d8_falls_82 : decode prog_10_method_79_code 82 = .ok (.bipush (-9), 2) := by decide +kernel
theorem d8_falls_84 : decode prog_10_method_79_code 84 = .ok (.putfield 48, 3) := by decide +kernel
theorem d8_falls_87 : decode prog_10_method_79_code 87 = .ok (.aload_n 0, 1) := by decide +kernel
theorem d8_falls_88 : decode prog_10_method_79_code 88 = .ok (.getfield 222, 3) := by decide +kernel
theorem d8_falls_91 : decode prog_10_method_79_code 91 = .ok (.lconst 0, 1) := by decide +kernel
theorem d8_falls_92 : decode prog_10_method_79_code 92 = .ok (.lcmp, 1) := by decide +kernel
theorem d8_falls_93 : decode prog_10_method_79_code 93 = .ok (.ifCond .eq 10, 3) := by decide +kernel
theorem d8_falls_96 : decode prog_10_method_79_code 96 = .ok (.lload 7, 2) := by decide +kernel
theorem d8_falls_98 : decode prog_10_method_79_code 98 = .ok (.lconst 0, 1) := by decide +kernel
theorem d8_falls_99 : decode prog_10_method_79_code 99 = .ok (.lcmp, 1) := by decide +kernel
theorem d8_falls_100 : decode prog_10_method_79_code 100 = .ok (.ifCond .ne 11, 3) := by decide +kernel
theorem d8_falls_103 : decode prog_10_method_79_code 103 = .ok (.aload_n 0, 1) := by decide +kernel
theorem d8_falls_104 : decode prog_10_method_79_code 104 = .ok (.iconst 4, 1) := by decide +kernel
theorem d8_falls_105 : decode prog_10_method_79_code 105 = .ok (.invokevirtual 88, 3) := by decide +kernel
theorem d8_falls_108 : decode prog_10_method_79_code 108 = .ok (.goto 32, 3) := by decide +kernel
theorem d8_falls_111 : decode prog_10_method_79_code 111 = .ok (.aload_n 0, 1) := by decide +kernel
theorem d8_falls_112 : decode prog_10_method_79_code 112 = .ok (.lload 5, 2) := by decide +kernel
theorem d8_falls_114 : decode prog_10_method_79_code 114 = .ok (.aload_n 0, 1) := by decide +kernel
theorem d8_falls_115 : decode prog_10_method_79_code 115 = .ok (.getfield 222, 3) := by decide +kernel
theorem d8_falls_118 : decode prog_10_method_79_code 118 = .ok (.lmul, 1) := by decide +kernel
theorem d8_falls_119 : decode prog_10_method_79_code 119 = .ok (.aload_n 0, 1) := by decide +kernel
theorem d8_falls_120 : decode prog_10_method_79_code 120 = .ok (.getfield 59, 3) := by decide +kernel
theorem d8_falls_123 : decode prog_10_method_79_code 123 = .ok (.iload_n 3, 1) := by decide +kernel
theorem d8_falls_124 : decode prog_10_method_79_code 124 = .ok (.laload, 1) := by decide +kernel
theorem d8_falls_125 : decode prog_10_method_79_code 125 = .ok (.lload 7, 2) := by decide +kernel
theorem d8_falls_127 : decode prog_10_method_79_code 127 = .ok (.lmul, 1) := by decide +kernel
theorem d8_falls_128 : decode prog_10_method_79_code 128 = .ok (.lsub, 1) := by decide +kernel
theorem d8_falls_129 : decode prog_10_method_79_code 129 = .ok (.aload_n 0, 1) := by decide +kernel
theorem d8_falls_130 : decode prog_10_method_79_code 130 = .ok (.getfield 222, 3) := by decide +kernel
theorem d8_falls_133 : decode prog_10_method_79_code 133 = .ok (.lload 7, 2) := by decide +kernel
theorem d8_falls_135 : decode prog_10_method_79_code 135 = .ok (.lmul, 1) := by decide +kernel
theorem d8_falls_136 : decode prog_10_method_79_code 136 = .ok (.iconst 1, 1) := by decide +kernel
theorem d8_falls_137 : decode prog_10_method_79_code 137 = .ok (.invokevirtual 247, 3) := by decide +kernel
theorem d8_falls_140 : decode prog_10_method_79_code 140 = .ok (.ireturn, 1) := by decide +kernel
theorem d7_turns_0 : decode prog_1_method_31_code 0 = .ok (.iload_n 1, 1) := by decide +kernel
theorem d7_turns_1 : decode prog_1_method_31_code 1 = .ok (.invokestatic 214, 3) := by decide +kernel
theorem d7_turns_4 : decode prog_1_method_31_code 4 = .ok (.ifCond .ne 5, 3) := by decide +kernel
theorem d7_turns_7 : decode prog_1_method_31_code 7 = .ok (.iconst (-1), 1) := by decide +kernel
theorem d7_turns_8 : decode prog_1_method_31_code 8 = .ok (.ireturn, 1) := by decide +kernel
theorem d7_turns_9 : decode prog_1_method_31_code 9 = .ok (.aload_n 0, 1) := by decide +kernel
theorem d7_turns_10 : decode prog_1_method_31_code 10 = .ok (.iload_n 1, 1) := by decide +kernel
theorem d7_turns_11 : decode prog_1_method_31_code 11 = .ok (.bipush 6, 2) := by decide +kernel
theorem d7_turns_13 : decode prog_1_method_31_code 13 = .ok (.invokevirtual 241, 3) := by decide +kernel
theorem d7_turns_16 : decode prog_1_method_31_code 16 = .ok (.istore_n 2, 1) := by decide +kernel
theorem d7_turns_17 : decode prog_1_method_31_code 17 = .ok (.iload_n 2, 1) := by decide +kernel
theorem d7_turns_18 : decode prog_1_method_31_code 18 = .ok (.ifCond .eq 5, 3) := by decide +kernel
theorem d7_turns_21 : decode prog_1_method_31_code 21 = .ok (.iload_n 2, 1) := by decide +kernel
theorem d7_turns_22 : decode prog_1_method_31_code 22 = .ok (.ireturn, 1) := by decide +kernel
theorem d7_turns_23 : decode prog_1_method_31_code 23 = .ok (.aload_n 0, 1) := by decide +kernel
theorem d7_turns_24 : decode prog_1_method_31_code 24 = .ok (.getfield 29, 3) := by decide +kernel
theorem d7_turns_27 : decode prog_1_method_31_code 27 = .ok (.iload_n 1, 1) := by decide +kernel
theorem d7_turns_28 : decode prog_1_method_31_code 28 = .ok (.bipush (-9), 2) := by decide +kernel
theorem d7_turns_30 : decode prog_1_method_31_code 30 = .ok (.invokevirtual 244, 3) := by decide +kernel
theorem d7_turns_33 : decode prog_1_method_31_code 33 = .ok (.lconst 0, 1) := by decide +kernel
theorem d7_turns_34 : decode prog_1_method_31_code 34 = .ok (.lcmp, 1) := by decide +kernel
theorem d7_turns_35 : decode prog_1_method_31_code 35 = .ok (.ifCond .le 13, 3) := by decide +kernel
theorem d7_turns_38 : decode prog_1_method_31_code 38 = .ok (.aload_n 0, 1) := by decide +kernel
theorem d7_turns_39 : decode prog_1_method_31_code 39 = .ok (.getfield 29, 3) := by decide +kernel
theorem d7_turns_42 : decode prog_1_method_31_code 42 = .ok (.invokevirtual 230, 3) := by decide +kernel
theorem d7_turns_45 : decode prog_1_method_31_code 45 = .ok (.goto 5, 3) := by decide +kernel
theorem d7_turns_48 : decode prog_1_method_31_code 48 = .ok (.bipush (-9), 2) := by decide +kernel
theorem d7_turns_50 : decode prog_1_method_31_code 50 = .ok (.istore_n 3, 1) := by decide +kernel
theorem d7_turns_51 : decode prog_1_method_31_code 51 = .ok (.iconst 0, 1) := by decide +kernel
theorem d7_turns_52 : decode prog_1_method_31_code 52 = .ok (.istore 4, 2) := by decide +kernel
theorem d7_turns_54 : decode prog_1_method_31_code 54 = .ok (.iconst 0, 1) := by decide +kernel
theorem d7_turns_55 : decode prog_1_method_31_code 55 = .ok (.istore 5, 2) := by decide +kernel
theorem d7_turns_57 : decode prog_1_method_31_code 57 = .ok (.iload 5, 2) := by decide +kernel
theorem d7_turns_59 : decode prog_1_method_31_code 59 = .ok (.aload_n 0, 1) := by decide +kernel
theorem d7_turns_60 : decode prog_1_method_31_code 60 = .ok (.getfield 42, 3) := by decide +kernel
theorem d7_turns_63 : decode prog_1_method_31_code 63 = .ok (.getfield 175, 3) := by decide +kernel
theorem d7_turns_66 : decode prog_1_method_31_code 66 = .ok (.if_icmp .ge 73, 3) := by decide +kernel
theorem d7_turns_69 : decode prog_1_method_31_code 69 = .ok (.aload_n 0, 1) := by decide +kernel
theorem d7_turns_70 : decode prog_1_method_31_code 70 = .ok (.getfield 42, 3) := by decide +kernel
theorem d7_turns_73 : decode prog_1_method_31_code 73 = .ok (.getfield 187, 3) := by decide +kernel
theorem d7_turns_76 : decode prog_1_method_31_code 76 = .ok (.iload 5, 2) := by decide +kernel
theorem d7_turns_78 : decode prog_1_method_31_code 78 = .ok (.aaload, 1) := by decide +kernel
theorem d7_turns_79 : decode prog_1_method_31_code 79 = .ok (.invokevirtual 247, 3) := by decide +kernel
theorem d7_turns_82 : decode prog_1_method_31_code 82 = .ok (.ifCond .eq 51, 3) := by decide +kernel
theorem d7_turns_85 : decode prog_1_method_31_code 85 = .ok (.aload_n 0, 1) := by decide +kernel
theorem d7_turns_86 : decode prog_1_method_31_code 86 = .ok (.getfield 29, 3) := by decide +kernel
theorem d7_turns_89 : decode prog_1_method_31_code 89 = .ok (.iload_n 1, 1) := by decide +kernel
theorem d7_turns_90 : decode prog_1_method_31_code 90 = .ok (.iload 5, 2) := by decide +kernel
theorem d7_turns_92 : decode prog_1_method_31_code 92 = .ok (.invokevirtual 244, 3) := by decide +kernel
theorem d7_turns_95 : decode prog_1_method_31_code 95 = .ok (.lconst 0, 1) := by decide +kernel
theorem d7_turns_96 : decode prog_1_method_31_code 96 = .ok (.lcmp, 1) := by decide +kernel
theorem d7_turns_97 : decode prog_1_method_31_code 97 = .ok (.ifCond .le 13, 3) := by decide +kernel
theorem d7_turns_100 : decode prog_1_method_31_code 100 = .ok (.aload_n 0, 1) := by decide +kernel
theorem d7_turns_101 : decode prog_1_method_31_code 101 = .ok (.getfield 29, 3) := by decide +kernel
theorem d7_turns_104 : decode prog_1_method_31_code 104 = .ok (.invokevirtual 230, 3) := by decide +kernel
theorem d7_turns_107 : decode prog_1_method_31_code 107 = .ok (.goto 5, 3) := by decide +kernel
theorem d7_turns_110 : decode prog_1_method_31_code 110 = .ok (.bipush (-9), 2) := by decide +kernel
theorem d7_turns_112 : decode prog_1_method_31_code 112 = .ok (.istore 6, 2) := by decide +kernel
theorem d7_turns_114 : decode prog_1_method_31_code 114 = .ok (.iload 4, 2) := by decide +kernel
theorem d7_turns_116 : decode prog_1_method_31_code 116 = .ok (.iload 6, 2) := by decide +kernel
theorem d7_turns_118 : decode prog_1_method_31_code 118 = .ok (.iload_n 3, 1) := by decide +kernel
theorem d7_turns_119 : decode prog_1_method_31_code 119 = .ok (.if_icmp .eq 10, 3) := by decide +kernel
theorem d7_turns_122 : decode prog_1_method_31_code 122 = .ok (.iconst 1, 1) := by decide +kernel
theorem d7_turns_123 : decode prog_1_method_31_code 123 = .ok (.iload 5, 2) := by decide +kernel
theorem d7_turns_125 : decode prog_1_method_31_code 125 = .ok (.ishl, 1) := by decide +kernel
theorem d7_turns_126 : decode prog_1_method_31_code 126 = .ok (.goto 4, 3) := by decide +kernel
theorem d7_turns_129 : decode prog_1_method_31_code 129 = .ok (.iconst 0, 1) := by decide +kernel
theorem d7_turns_130 : decode prog_1_method_31_code 130 = .ok (.ior, 1) := by decide +kernel
theorem d7_turns_131 : decode prog_1_method_31_code 131 = .ok (.istore 4, 2) := by decide +kernel
theorem d7_turns_133 : decode prog_1_method_31_code 133 = .ok (.iinc 5 1, 3) := by decide +kernel
theorem d7_turns_136 : decode prog_1_method_31_code 136 = .ok (.goto (-79), 3) := by decide +kernel
theorem d7_turns_139 : decode prog_1_method_31_code 139 = .ok (.iload 4, 2) := by decide +kernel
theorem d7_turns_141 : decode prog_1_method_31_code 141 = .ok (.ireturn, 1) := by decide +kernel
theorem d8_turns_0 : decode prog_10_method_80_code 0 = .ok (.aload_n 0, 1) := by decide +kernel
theorem d8_turns_1 : decode prog_10_method_80_code 1 = .ok (.iload_n 1, 1) := by decide +kernel
theorem d8_turns_2 : decode prog_10_method_80_code 2 = .ok (.invokevirtual 234, 3) := by decide +kernel
theorem d8_turns_5 : decode prog_10_method_80_code 5 = .ok (.istore_n 2, 1) := by decide +kernel
theorem d8_turns_6 : decode prog_10_method_80_code 6 = .ok (.iload_n 2, 1) := by decide +kernel
theorem d8_turns_7 : decode prog_10_method_80_code 7 = .ok (.ifCond .ge 5, 3) := by decide +kernel
theorem d8_turns_10 : decode prog_10_method_80_code 10 = .ok (.iload_n 2, 1) := by decide +kernel
theorem d8_turns_11 : decode prog_10_method_80_code 11 = .ok (.ireturn, 1) := by decide +kernel
theorem d8_turns_12 : decode prog_10_method_80_code 12 = .ok (.aload_n 0, 1) := by decide +kernel
theorem d8_turns_13 : decode prog_10_method_80_code 13 = .ok (.invokevirtual 237, 3) := by decide +kernel
theorem d8_turns_16 : decode prog_10_method_80_code 16 = .ok (.bipush 6, 2) := by decide +kernel
theorem d8_turns_18 : decode prog_10_method_80_code 18 = .ok (.if_icmp .le 6, 3) := by decide +kernel
theorem d8_turns_21 : decode prog_10_method_80_code 21 = .ok (.bipush (-6), 2) := by decide +kernel
theorem d8_turns_23 : decode prog_10_method_80_code 23 = .ok (.ireturn, 1) := by decide +kernel
theorem d8_turns_24 : decode prog_10_method_80_code 24 = .ok (.aload_n 0, 1) := by decide +kernel
theorem d8_turns_25 : decode prog_10_method_80_code 25 = .ok (.iload_n 1, 1) := by decide +kernel
theorem d8_turns_26 : decode prog_10_method_80_code 26 = .ok (.invokevirtual 240, 3) := by decide +kernel
theorem d8_turns_29 : decode prog_10_method_80_code 29 = .ok (.aload_n 0, 1) := by decide +kernel
theorem d8_turns_30 : decode prog_10_method_80_code 30 = .ok (.getfield 222, 3) := by decide +kernel
theorem d8_turns_33 : decode prog_10_method_80_code 33 = .ok (.lconst 0, 1) := by decide +kernel
theorem d8_turns_34 : decode prog_10_method_80_code 34 = .ok (.lcmp, 1) := by decide +kernel
theorem d8_turns_35 : decode prog_10_method_80_code 35 = .ok (.ifCond .ne 8, 3) := by decide +kernel
theorem d8_turns_38 : decode prog_10_method_80_code 38 = .ok (.bipush (-9), 2) := by decide +kernel
theorem d8_turns_40 : decode prog_10_method_80_code 40 = .ok (.goto 7, 3) := by decide +kernel
theorem d8_turns_43 : decode prog_10_method_80_code 43 = .ok (.aload_n 0, 1) := by decide +kernel
theorem d8_turns_44 : decode prog_10_method_80_code 44 = .ok (.invokevirtual 251, 3) := by decide +kernel
theorem d8_turns_47 : decode prog_10_method_80_code 47 = .ok (.istore_n 3, 1) := by decide +kernel
theorem d8_turns_48 : decode prog_10_method_80_code 48 = .ok (.iconst 0, 1) := by decide +kernel
theorem d8_turns_49 : decode prog_10_method_80_code 49 = .ok (.istore 4, 2) := by decide +kernel
theorem d8_turns_51 : decode prog_10_method_80_code 51 = .ok (.iconst 0, 1) := by decide +kernel
theorem d8_turns_52 : decode prog_10_method_80_code 52 = .ok (.istore 5, 2) := by decide +kernel
theorem d8_turns_54 : decode prog_10_method_80_code 54 = .ok (.iload 5, 2) := by decide +kernel
theorem d8_turns_56 : decode prog_10_method_80_code 56 = .ok (.aload_n 0, 1) := by decide +kernel
theorem d8_turns_57 : decode prog_10_method_80_code 57 = .ok (.getfield 161, 3) := by decide +kernel
theorem d8_turns_60 : decode prog_10_method_80_code 60 = .ok (.if_icmp .ge 65, 3) := by decide +kernel
theorem d8_turns_63 : decode prog_10_method_80_code 63 = .ok (.aload_n 0, 1) := by decide +kernel
theorem d8_turns_64 : decode prog_10_method_80_code 64 = .ok (.iload 5, 2) := by decide +kernel
theorem d8_turns_66 : decode prog_10_method_80_code 66 = .ok (.invokevirtual 196, 3) := by decide +kernel
theorem d8_turns_69 : decode prog_10_method_80_code 69 = .ok (.ifCond .eq 50, 3) := by decide +kernel
theorem d8_turns_72 : decode prog_10_method_80_code 72 = .ok (.aload_n 0, 1) := by decide +kernel
theorem d8_turns_73 : decode prog_10_method_80_code 73 = .ok (.iload 5, 2) := by decide +kernel
theorem d8_turns_75 : decode prog_10_method_80_code 75 = .ok (.putfield 48, 3) := by decide +kernel
theorem d8_turns_78 : decode prog_10_method_80_code 78 = .ok (.aload_n 0, 1) := by decide +kernel
theorem d8_turns_79 : decode prog_10_method_80_code 79 = .ok (.iload_n 1, 1) := by decide +kernel
theorem d8_turns_80 : decode prog_10_method_80_code 80 = .ok (.invokevirtual 240, 3) := by decide +kernel
theorem d8_turns_83 : decode prog_10_method_80_code 83 = .ok (.aload_n 0, 1) := by decide +kernel
theorem d8_turns_84 : decode prog_10_method_80_code 84 = .ok (.bipush (-9), 2) := by decide +kernel
theorem d8_turns_86 : decode prog_10_method_80_code 86 = .ok (.putfield 48, 3) := by decide +kernel
theorem d8_turns_89 : decode prog_10_method_80_code 89 = .ok (.iload 4, 2) := by decide +kernel
theorem d8_turns_91 : decode prog_10_method_80_code 91 = .ok (.aload_n 0, 1) := by decide +kernel
theorem d8_turns_92 : decode prog_10_method_80_code 92 = .ok (.getfield 222, 3) := by decide +kernel
theorem d8_turns_95 : decode prog_10_method_80_code 95 = .ok (.lconst 0, 1) := by decide +kernel
theorem d8_turns_96 : decode prog_10_method_80_code 96 = .ok (.lcmp, 1) := by decide +kernel
theorem d8_turns_97 : decode prog_10_method_80_code 97 = .ok (.ifCond .le 18, 3) := by decide +kernel
theorem d8_turns_100 : decode prog_10_method_80_code 100 = .ok (.aload_n 0, 1) := by decide +kernel
theorem d8_turns_101 : decode prog_10_method_80_code 101 = .ok (.invokevirtual 251, 3) := by decide +kernel
theorem d8_turns_104 : decode prog_10_method_80_code 104 = .ok (.iload_n 3, 1) := by decide +kernel
theorem d8_turns_105 : decode prog_10_method_80_code 105 = .ok (.if_icmp .eq 10, 3) := by decide +kernel
theorem d8_turns_108 : decode prog_10_method_80_code 108 = .ok (.iconst 1, 1) := by decide +kernel
theorem d8_turns_109 : decode prog_10_method_80_code 109 = .ok (.iload 5, 2) := by decide +kernel
theorem d8_turns_111 : decode prog_10_method_80_code 111 = .ok (.ishl, 1) := by decide +kernel
theorem d8_turns_112 : decode prog_10_method_80_code 112 = .ok (.goto 4, 3) := by decide +kernel
theorem d8_turns_115 : decode prog_10_method_80_code 115 = .ok (.iconst 0, 1) := by decide +kernel
theorem d8_turns_116 : decode prog_10_method_80_code 116 = .ok (.ior, 1) := by decide +kernel
theorem d8_turns_117 : decode prog_10_method_80_code 117 = .ok (.istore 4, 2) := by decide +kernel
theorem d8_turns_119 : decode prog_10_method_80_code 119 = .ok (.iinc 5 1, 3) := by decide +kernel
theorem d8_turns_122 : decode prog_10_method_80_code 122 = .ok (.goto (-68), 3) := by decide +kernel
theorem d8_turns_125 : decode prog_10_method_80_code 125 = .ok (.iload 4, 2) := by decide +kernel
theorem d8_turns_127 : decode prog_10_method_80_code 127 = .ok (.ireturn, 1) := by decide +kernel
theorem d7_truly_0 : decode prog_1_method_32_code 0 = .ok (.iload_n 1, 1) := by decide +kernel
theorem d7_truly_1 : decode prog_1_method_32_code 1 = .ok (.invokestatic 214, 3) := by decide +kernel
theorem d7_truly_4 : decode prog_1_method_32_code 4 = .ok (.ifCond .eq 14, 3) := by decide +kernel
theorem d7_truly_7 : decode prog_1_method_32_code 7 = .ok (.aload_n 0, 1) := by decide +kernel
theorem d7_truly_8 : decode prog_1_method_32_code 8 = .ok (.getfield 42, 3) := by decide +kernel
theorem d7_truly_11 : decode prog_1_method_32_code 11 = .ok (.iload_n 2, 1) := by decide +kernel
theorem d7_truly_12 : decode prog_1_method_32_code 12 = .ok (.invokevirtual 184, 3) := by decide +kernel
theorem d7_truly_15 : decode prog_1_method_32_code 15 = .ok (.ifCond .ne 5, 3) := by decide +kernel
theorem d7_truly_18 : decode prog_1_method_32_code 18 = .ok (.iconst (-1), 1) := by decide +kernel
theorem d7_truly_19 : decode prog_1_method_32_code 19 = .ok (.ireturn, 1) := by decide +kernel
theorem d7_truly_20 : decode prog_1_method_32_code 20 = .ok (.aload_n 0, 1) := by decide +kernel
theorem d7_truly_21 : decode prog_1_method_32_code 21 = .ok (.iload_n 1, 1) := by decide +kernel
theorem d7_truly_22 : decode prog_1_method_32_code 22 = .ok (.invokevirtual 160, 3) := by decide +kernel
theorem d7_truly_25 : decode prog_1_method_32_code 25 = .ok (.ifCond .eq 9, 3) := by decide +kernel
theorem d7_truly_28 : decode prog_1_method_32_code 28 = .ok (.aload_n 0, 1) := by decide +kernel
theorem d7_truly_29 : decode prog_1_method_32_code 29 = .ok (.iconst 1, 1) := by decide +kernel
theorem d7_truly_30 : decode prog_1_method_32_code 30 = .ok (.invokevirtual 92, 3) := by decide +kernel
theorem d7_truly_33 : decode prog_1_method_32_code 33 = .ok (.ireturn, 1) := by decide +kernel
theorem d7_truly_34 : decode prog_1_method_32_code 34 = .ok (.aload_n 0, 1) := by decide +kernel
theorem d7_truly_35 : decode prog_1_method_32_code 35 = .ok (.getfield 42, 3) := by decide +kernel
theorem d7_truly_38 : decode prog_1_method_32_code 38 = .ok (.getfield 187, 3) := by decide +kernel
theorem d7_truly_41 : decode prog_1_method_32_code 41 = .ok (.iload_n 2, 1) := by decide +kernel
theorem d7_truly_42 : decode prog_1_method_32_code 42 = .ok (.aaload, 1) := by decide +kernel
theorem d7_truly_43 : decode prog_1_method_32_code 43 = .ok (.iconst 5, 1) := by decide +kernel
theorem d7_truly_44 : decode prog_1_method_32_code 44 = .ok (.invokevirtual 196, 3) := by decide +kernel
theorem d7_truly_47 : decode prog_1_method_32_code 47 = .ok (.ifCond .ne 9, 3) := by decide +kernel
theorem d7_truly_50 : decode prog_1_method_32_code 50 = .ok (.aload_n 0, 1) := by decide +kernel
theorem d7_truly_51 : decode prog_1_method_32_code 51 = .ok (.iconst 3, 1) := by decide +kernel
theorem d7_truly_52 : decode prog_1_method_32_code 52 = .ok (.invokevirtual 92, 3) := by decide +kernel
theorem d7_truly_55 : decode prog_1_method_32_code 55 = .ok (.ireturn, 1) := by decide +kernel
theorem d7_truly_56 : decode prog_1_method_32_code 56 = .ok (.aload_n 0, 1) := by decide +kernel
theorem d7_truly_57 : decode prog_1_method_32_code 57 = .ok (.iload_n 1, 1) := by decide +kernel
theorem d7_truly_58 : decode prog_1_method_32_code 58 = .ok (.invokevirtual 217, 3) := by decide +kernel
theorem d7_truly_61 : decode prog_1_method_32_code 61 = .ok (.istore_n 3, 1) := by decide +kernel
theorem d7_truly_62 : decode prog_1_method_32_code 62 = .ok (.iload_n 3, 1) := by decide +kernel
theorem d7_truly_63 : decode prog_1_method_32_code 63 = .ok (.ifCond .eq 5, 3) := by decide +kernel
theorem d7_truly_66 : decode prog_1_method_32_code 66 = .ok (.iload_n 3, 1) := by decide +kernel
theorem d7_truly_67 : decode prog_1_method_32_code 67 = .ok (.ireturn, 1) := by decide +kernel
theorem d7_truly_68 : decode prog_1_method_32_code 68 = .ok (.lconst 0, 1) := by decide +kernel
theorem d7_truly_69 : decode prog_1_method_32_code 69 = .ok (.lstore 4, 2) := by decide +kernel
theorem d7_truly_71 : decode prog_1_method_32_code 71 = .ok (.iconst 0, 1) := by decide +kernel
theorem d7_truly_72 : decode prog_1_method_32_code 72 = .ok (.istore 6, 2) := by decide +kernel
theorem d7_truly_74 : decode prog_1_method_32_code 74 = .ok (.iload 6, 2) := by decide +kernel
theorem d7_truly_76 : decode prog_1_method_32_code 76 = .ok (.bipush 120, 2) := by decide +kernel
theorem d7_truly_78 : decode prog_1_method_32_code 78 = .ok (.if_icmp .ge 41, 3) := by decide +kernel
theorem d7_truly_81 : decode prog_1_method_32_code 81 = .ok (.aload_n 0, 1) := by decide +kernel
theorem d7_truly_82 : decode prog_1_method_32_code 82 = .ok (.getfield 42, 3) := by decide +kernel
theorem d7_truly_85 : decode prog_1_method_32_code 85 = .ok (.getfield 187, 3) := by decide +kernel
theorem d7_truly_88 : decode prog_1_method_32_code 88 = .ok (.iload_n 2, 1) := by decide +kernel
theorem d7_truly_89 : decode prog_1_method_32_code 89 = .ok (.aaload, 1) := by decide +kernel
theorem d7_truly_90 : decode prog_1_method_32_code 90 = .ok (.iload 6, 2) := by decide +kernel
theorem d7_truly_92 : decode prog_1_method_32_code 92 = .ok (.invokevirtual 251, 3) := by decide +kernel
theorem d7_truly_95 : decode prog_1_method_32_code 95 = .ok (.ifCond .eq 18, 3) := by decide +kernel
theorem d7_truly_98 : decode prog_1_method_32_code 98 = .ok (.lload 4, 2) := by decide +kernel
theorem d7_truly_100 : decode prog_1_method_32_code 100 = .ok (.aload_n 0, 1) := by decide +kernel
theorem d7_truly_101 : decode prog_1_method_32_code 101 = .ok (.getfield 29, 3) := by decide +kernel
theorem d7_truly_104 : decode prog_1_method_32_code 104 = .ok (.getfield 220, 3) := by decide +kernel
theorem d7_truly_107 : decode prog_1_method_32_code 107 = .ok (.iload 6, 2) := by decide +kernel
theorem d7_truly_109 : decode prog_1_method_32_code 109 = .ok (.laload, 1) := by decide +kernel
theorem d7_truly_110 : decode prog_1_method_32_code 110 = .ok (.ladd, 1) := by decide +kernel
theorem d7_truly_111 : decode prog_1_method_32_code 111 = .ok (.lstore 4, 2) := by decide +kernel
theorem d7_truly_113 : decode prog_1_method_32_code 113 = .ok (.iinc 6 1, 3) := by decide +kernel
theorem d7_truly_116 : decode prog_1_method_32_code 116 = .ok (.goto (-42), 3) := by decide +kernel
theorem d7_truly_119 : decode prog_1_method_32_code 119 = .ok (.aload_n 0, 1) := by decide +kernel
theorem d7_truly_120 : decode prog_1_method_32_code 120 = .ok (.lload 4, 2) := by decide +kernel
theorem d7_truly_122 : decode prog_1_method_32_code 122 = .ok (.aload_n 0, 1) := by decide +kernel
theorem d7_truly_123 : decode prog_1_method_32_code 123 = .ok (.getfield 29, 3) := by decide +kernel
theorem d7_truly_126 : decode prog_1_method_32_code 126 = .ok (.getfield 223, 3) := by decide +kernel
theorem d7_truly_129 : decode prog_1_method_32_code 129 = .ok (.invokevirtual 226, 3) := by decide +kernel
theorem d7_truly_132 : decode prog_1_method_32_code 132 = .ok (.iconst 1, 1) := by decide +kernel
theorem d7_truly_133 : decode prog_1_method_32_code 133 = .ok (.ireturn, 1) := by decide +kernel
theorem d8_isVoice_0 : decode prog_10_method_45_code 0 = .ok (.iload_n 0, 1) := by decide +kernel
theorem d8_isVoice_1 : decode prog_10_method_45_code 1 = .ok (.iconst 5, 1) := by decide +kernel
theorem d8_isVoice_2 : decode prog_10_method_45_code 2 = .ok (.if_icmp .eq 9, 3) := by decide +kernel
theorem d8_isVoice_5 : decode prog_10_method_45_code 5 = .ok (.iload_n 0, 1) := by decide +kernel
theorem d8_isVoice_6 : decode prog_10_method_45_code 6 = .ok (.bipush 6, 2) := by decide +kernel
theorem d8_isVoice_8 : decode prog_10_method_45_code 8 = .ok (.if_icmp .ne 7, 3) := by decide +kernel
theorem d8_isVoice_11 : decode prog_10_method_45_code 11 = .ok (.iconst 1, 1) := by decide +kernel
theorem d8_isVoice_12 : decode prog_10_method_45_code 12 = .ok (.goto 4, 3) := by decide +kernel
theorem d8_isVoice_15 : decode prog_10_method_45_code 15 = .ok (.iconst 0, 1) := by decide +kernel
theorem d8_isVoice_16 : decode prog_10_method_45_code 16 = .ok (.ireturn, 1) := by decide +kernel
theorem d8_truly_0 : decode prog_10_method_81_code 0 = .ok (.aload_n 0, 1) := by decide +kernel
theorem d8_truly_1 : decode prog_10_method_81_code 1 = .ok (.iload_n 2, 1) := by decide +kernel
theorem d8_truly_2 : decode prog_10_method_81_code 2 = .ok (.invokevirtual 172, 3) := by decide +kernel
theorem d8_truly_5 : decode prog_10_method_81_code 5 = .ok (.ifCond .eq 12, 3) := by decide +kernel
theorem d8_truly_8 : decode prog_10_method_81_code 8 = .ok (.iload_n 1, 1) := by decide +kernel
theorem d8_truly_9 : decode prog_10_method_81_code 9 = .ok (.iconst 0, 1) := by decide +kernel
theorem d8_truly_10 : decode prog_10_method_81_code 10 = .ok (.iconst 3, 1) := by decide +kernel
theorem d8_truly_11 : decode prog_10_method_81_code 11 = .ok (.invokestatic 80, 3) := by decide +kernel
theorem d8_truly_14 : decode prog_10_method_81_code 14 = .ok (.ifCond .ne 5, 3) := by decide +kernel
theorem d8_truly_17 : decode prog_10_method_81_code 17 = .ok (.iconst (-1), 1) := by decide +kernel
theorem d8_truly_18 : decode prog_10_method_81_code 18 = .ok (.ireturn, 1) := by decide +kernel
theorem d8_truly_19 : decode prog_10_method_81_code 19 = .ok (.aload_n 0, 1) := by decide +kernel
theorem d8_truly_20 : decode prog_10_method_81_code 20 = .ok (.iload_n 1, 1) := by decide +kernel
theorem d8_truly_21 : decode prog_10_method_81_code 21 = .ok (.invokevirtual 234, 3) := by decide +kernel
theorem d8_truly_24 : decode prog_10_method_81_code 24 = .ok (.istore_n 3, 1) := by decide +kernel
theorem d8_truly_25 : decode prog_10_method_81_code 25 = .ok (.iload_n 3, 1) := by decide +kernel
theorem d8_truly_26 : decode prog_10_method_81_code 26 = .ok (.ifCond .ge 5, 3) := by decide +kernel
theorem d8_truly_29 : decode prog_10_method_81_code 29 = .ok (.iload_n 3, 1) := by decide +kernel
theorem d8_truly_30 : decode prog_10_method_81_code 30 = .ok (.ireturn, 1) := by decide +kernel
theorem d8_truly_31 : decode prog_10_method_81_code 31 = .ok (.aload_n 0, 1) := by decide +kernel
theorem d8_truly_32 : decode prog_10_method_81_code 32 = .ok (.iload_n 2, 1) := by decide +kernel
theorem d8_truly_33 : decode prog_10_method_81_code 33 = .ok (.iconst 0, 1) := by decide +kernel
theorem d8_truly_34 : decode prog_10_method_81_code 34 = .ok (.invokevirtual 175, 3) := by decide +kernel
theorem d8_truly_37 : decode prog_10_method_81_code 37 = .ok (.invokestatic 257, 3) := by decide +kernel
theorem d8_truly_40 : decode prog_10_method_81_code 40 = .ok (.ifCond .ne 9, 3) := by decide +kernel
theorem d8_truly_43 : decode prog_10_method_81_code 43 = .ok (.aload_n 0, 1) := by decide +kernel
theorem d8_truly_44 : decode prog_10_method_81_code 44 = .ok (.iconst 3, 1) := by decide +kernel
theorem d8_truly_45 : decode prog_10_method_81_code 45 = .ok (.invokevirtual 88, 3) := by decide +kernel
theorem d8_truly_48 : decode prog_10_method_81_code 48 = .ok (.ireturn, 1) := by decide +kernel
theorem d8_truly_49 : decode prog_10_method_81_code 49 = .ok (.aload_n 0, 1) := by decide +kernel
theorem d8_truly_50 : decode prog_10_method_81_code 50 = .ok (.iload_n 1, 1) := by decide +kernel
theorem d8_truly_51 : decode prog_10_method_81_code 51 = .ok (.invokevirtual 244, 3) := by decide +kernel
theorem d8_truly_54 : decode prog_10_method_81_code 54 = .ok (.istore_n 3, 1) := by decide +kernel
theorem d8_truly_55 : decode prog_10_method_81_code 55 = .ok (.iload_n 3, 1) := by decide +kernel
theorem d8_truly_56 : decode prog_10_method_81_code 56 = .ok (.ifCond .ge 5, 3) := by decide +kernel
theorem d8_truly_59 : decode prog_10_method_81_code 59 = .ok (.iload_n 3, 1) := by decide +kernel
theorem d8_truly_60 : decode prog_10_method_81_code 60 = .ok (.ireturn, 1) := by decide +kernel
theorem d8_truly_61 : decode prog_10_method_81_code 61 = .ok (.lconst 0, 1) := by decide +kernel
theorem d8_truly_62 : decode prog_10_method_81_code 62 = .ok (.lstore 4, 2) := by decide +kernel
theorem d8_truly_64 : decode prog_10_method_81_code 64 = .ok (.iconst 0, 1) := by decide +kernel
theorem d8_truly_65 : decode prog_10_method_81_code 65 = .ok (.istore 6, 2) := by decide +kernel
theorem d8_truly_67 : decode prog_10_method_81_code 67 = .ok (.iload 6, 2) := by decide +kernel
theorem d8_truly_69 : decode prog_10_method_81_code 69 = .ok (.bipush 120, 2) := by decide +kernel
theorem d8_truly_71 : decode prog_10_method_81_code 71 = .ok (.if_icmp .ge 45, 3) := by decide +kernel
theorem d8_truly_74 : decode prog_10_method_81_code 74 = .ok (.lload 4, 2) := by decide +kernel
theorem d8_truly_76 : decode prog_10_method_81_code 76 = .ok (.aload_n 0, 1) := by decide +kernel
theorem d8_truly_77 : decode prog_10_method_81_code 77 = .ok (.iload_n 2, 1) := by decide +kernel
theorem d8_truly_78 : decode prog_10_method_81_code 78 = .ok (.iconst 1, 1) := by decide +kernel
theorem d8_truly_79 : decode prog_10_method_81_code 79 = .ok (.invokevirtual 175, 3) := by decide +kernel
theorem d8_truly_82 : decode prog_10_method_81_code 82 = .ok (.iload 6, 2) := by decide +kernel
theorem d8_truly_84 : decode prog_10_method_81_code 84 = .ok (.invokestatic 120, 3) := by decide +kernel
theorem d8_truly_87 : decode prog_10_method_81_code 87 = .ok (.aload_n 0, 1) := by decide +kernel
theorem d8_truly_88 : decode prog_10_method_81_code 88 = .ok (.iload_n 2, 1) := by decide +kernel
theorem d8_truly_89 : decode prog_10_method_81_code 89 = .ok (.iconst 2, 1) := by decide +kernel
theorem d8_truly_90 : decode prog_10_method_81_code 90 = .ok (.invokevirtual 175, 3) := by decide +kernel
theorem d8_truly_93 : decode prog_10_method_81_code 93 = .ok (.if_icmp .ne 13, 3) := by decide +kernel
theorem d8_truly_96 : decode prog_10_method_81_code 96 = .ok (.aload_n 0, 1) := by decide +kernel
theorem d8_truly_97 : decode prog_10_method_81_code 97 = .ok (.getfield 59, 3) := by decide +kernel
theorem d8_truly_100 : decode prog_10_method_81_code 100 = .ok (.iload 6, 2) := by decide +kernel
theorem d8_truly_102 : decode prog_10_method_81_code 102 = .ok (.laload, 1) := by decide +kernel
theorem d8_truly_103 : decode prog_10_method_81_code 103 = .ok (.goto 4, 3) := by decide +kernel
theorem d8_truly_106 : decode prog_10_method_81_code 106 = .ok (.lconst 0, 1) := by decide +kernel
theorem d8_truly_107 : decode prog_10_method_81_code 107 = .ok (.ladd, 1) := by decide +kernel
theorem d8_truly_108 : decode prog_10_method_81_code 108 = .ok (.lstore 4, 2) := by decide +kernel
theorem d8_truly_110 : decode prog_10_method_81_code 110 = .ok (.iinc 6 1, 3) := by decide +kernel
theorem d8_truly_113 : decode prog_10_method_81_code 113 = .ok (.goto (-46), 3) := by decide +kernel
theorem d8_truly_116 : decode prog_10_method_81_code 116 = .ok (.aload_n 0, 1) := by decide +kernel
theorem d8_truly_117 : decode prog_10_method_81_code 117 = .ok (.lload 4, 2) := by decide +kernel
theorem d8_truly_119 : decode prog_10_method_81_code 119 = .ok (.aload_n 0, 1) := by decide +kernel
theorem d8_truly_120 : decode prog_10_method_81_code 120 = .ok (.getfield 222, 3) := by decide +kernel
theorem d8_truly_123 : decode prog_10_method_81_code 123 = .ok (.iconst 1, 1) := by decide +kernel
theorem d8_truly_124 : decode prog_10_method_81_code 124 = .ok (.invokevirtual 247, 3) := by decide +kernel
theorem d8_truly_127 : decode prog_10_method_81_code 127 = .ok (.ireturn, 1) := by decide +kernel
theorem d6_isTrueVoice_0 : decode prog_8_method_8_code 0 = .ok (.aload_n 0, 1) := by decide +kernel
theorem d6_isTrueVoice_1 : decode prog_8_method_8_code 1 = .ok (.getfield 11, 3) := by decide +kernel
theorem d6_isTrueVoice_4 : decode prog_8_method_8_code 4 = .ok (.iconst 5, 1) := by decide +kernel
theorem d6_isTrueVoice_5 : decode prog_8_method_8_code 5 = .ok (.if_icmp .ne 14, 3) := by decide +kernel
theorem d6_isTrueVoice_8 : decode prog_8_method_8_code 8 = .ok (.aload_n 0, 1) := by decide +kernel
theorem d6_isTrueVoice_9 : decode prog_8_method_8_code 9 = .ok (.getfield 24, 3) := by decide +kernel
theorem d6_isTrueVoice_12 : decode prog_8_method_8_code 12 = .ok (.ifCond .ne 7, 3) := by decide +kernel
theorem d6_isTrueVoice_15 : decode prog_8_method_8_code 15 = .ok (.iconst 1, 1) := by decide +kernel
theorem d6_isTrueVoice_16 : decode prog_8_method_8_code 16 = .ok (.goto 4, 3) := by decide +kernel
theorem d6_isTrueVoice_19 : decode prog_8_method_8_code 19 = .ok (.iconst 0, 1) := by decide +kernel
theorem d6_isTrueVoice_20 : decode prog_8_method_8_code 20 = .ok (.ireturn, 1) := by decide +kernel
theorem d0_anyTrueVoice_0 : decode prog_2_method_6_code 0 = .ok (.iconst 0, 1) := by decide +kernel
theorem d0_anyTrueVoice_1 : decode prog_2_method_6_code 1 = .ok (.istore_n 1, 1) := by decide +kernel
theorem d0_anyTrueVoice_2 : decode prog_2_method_6_code 2 = .ok (.iload_n 1, 1) := by decide +kernel
theorem d0_anyTrueVoice_3 : decode prog_2_method_6_code 3 = .ok (.aload_n 0, 1) := by decide +kernel
theorem d0_anyTrueVoice_4 : decode prog_2_method_6_code 4 = .ok (.getfield 17, 3) := by decide +kernel
theorem d0_anyTrueVoice_7 : decode prog_2_method_6_code 7 = .ok (.if_icmp .ge 23, 3) := by decide +kernel
theorem d0_anyTrueVoice_10 : decode prog_2_method_6_code 10 = .ok (.aload_n 0, 1) := by decide +kernel
theorem d0_anyTrueVoice_11 : decode prog_2_method_6_code 11 = .ok (.getfield 13, 3) := by decide +kernel
theorem d0_anyTrueVoice_14 : decode prog_2_method_6_code 14 = .ok (.iload_n 1, 1) := by decide +kernel
theorem d0_anyTrueVoice_15 : decode prog_2_method_6_code 15 = .ok (.aaload, 1) := by decide +kernel
theorem d0_anyTrueVoice_16 : decode prog_2_method_6_code 16 = .ok (.invokevirtual 34, 3) := by decide +kernel
theorem d0_anyTrueVoice_19 : decode prog_2_method_6_code 19 = .ok (.ifCond .eq 5, 3) := by decide +kernel
theorem d0_anyTrueVoice_22 : decode prog_2_method_6_code 22 = .ok (.iconst 1, 1) := by decide +kernel
theorem d0_anyTrueVoice_23 : decode prog_2_method_6_code 23 = .ok (.ireturn, 1) := by decide +kernel
theorem d0_anyTrueVoice_24 : decode prog_2_method_6_code 24 = .ok (.iinc 1 1, 3) := by decide +kernel
theorem d0_anyTrueVoice_27 : decode prog_2_method_6_code 27 = .ok (.goto (-25), 3) := by decide +kernel
theorem d0_anyTrueVoice_30 : decode prog_2_method_6_code 30 = .ok (.iconst 0, 1) := by decide +kernel
theorem d0_anyTrueVoice_31 : decode prog_2_method_6_code 31 = .ok (.ireturn, 1) := by decide +kernel
theorem d0_trueVoicesFrom_0 : decode prog_2_method_7_code 0 = .ok (.iconst 0, 1) := by decide +kernel
theorem d0_trueVoicesFrom_1 : decode prog_2_method_7_code 1 = .ok (.istore_n 2, 1) := by decide +kernel
theorem d0_trueVoicesFrom_2 : decode prog_2_method_7_code 2 = .ok (.iconst 0, 1) := by decide +kernel
theorem d0_trueVoicesFrom_3 : decode prog_2_method_7_code 3 = .ok (.istore_n 3, 1) := by decide +kernel
theorem d0_trueVoicesFrom_4 : decode prog_2_method_7_code 4 = .ok (.iload_n 3, 1) := by decide +kernel
theorem d0_trueVoicesFrom_5 : decode prog_2_method_7_code 5 = .ok (.aload_n 0, 1) := by decide +kernel
theorem d0_trueVoicesFrom_6 : decode prog_2_method_7_code 6 = .ok (.getfield 17, 3) := by decide +kernel
theorem d0_trueVoicesFrom_9 : decode prog_2_method_7_code 9 = .ok (.if_icmp .ge 42, 3) := by decide +kernel
theorem d0_trueVoicesFrom_12 : decode prog_2_method_7_code 12 = .ok (.iload_n 2, 1) := by decide +kernel
theorem d0_trueVoicesFrom_13 : decode prog_2_method_7_code 13 = .ok (.aload_n 0, 1) := by decide +kernel
theorem d0_trueVoicesFrom_14 : decode prog_2_method_7_code 14 = .ok (.getfield 13, 3) := by decide +kernel
theorem d0_trueVoicesFrom_17 : decode prog_2_method_7_code 17 = .ok (.iload_n 3, 1) := by decide +kernel
theorem d0_trueVoicesFrom_18 : decode prog_2_method_7_code 18 = .ok (.aaload, 1) := by decide +kernel
theorem d0_trueVoicesFrom_19 : decode prog_2_method_7_code 19 = .ok (.invokevirtual 34, 3) := by decide +kernel
theorem d0_trueVoicesFrom_22 : decode prog_2_method_7_code 22 = .ok (.ifCond .eq 20, 3) := by decide +kernel
theorem d0_trueVoicesFrom_25 : decode prog_2_method_7_code 25 = .ok (.aload_n 0, 1) := by decide +kernel
theorem d0_trueVoicesFrom_26 : decode prog_2_method_7_code 26 = .ok (.getfield 13, 3) := by decide +kernel
theorem d0_trueVoicesFrom_29 : decode prog_2_method_7_code 29 = .ok (.iload_n 3, 1) := by decide +kernel
theorem d0_trueVoicesFrom_30 : decode prog_2_method_7_code 30 = .ok (.aaload, 1) := by decide +kernel
theorem d0_trueVoicesFrom_31 : decode prog_2_method_7_code 31 = .ok (.iload_n 1, 1) := by decide +kernel
theorem d0_trueVoicesFrom_32 : decode prog_2_method_7_code 32 = .ok (.invokevirtual 37, 3) := by decide +kernel
theorem d0_trueVoicesFrom_35 : decode prog_2_method_7_code 35 = .ok (.ifCond .eq 7, 3) := by decide +kernel
theorem d0_trueVoicesFrom_38 : decode prog_2_method_7_code 38 = .ok (.iconst 1, 1) := by decide +kernel
theorem d0_trueVoicesFrom_39 : decode prog_2_method_7_code 39 = .ok (.goto 4, 3) := by decide +kernel
theorem d0_trueVoicesFrom_42 : decode prog_2_method_7_code 42 = .ok (.iconst 0, 1) := by decide +kernel
theorem d0_trueVoicesFrom_43 : decode prog_2_method_7_code 43 = .ok (.iadd, 1) := by decide +kernel
theorem d0_trueVoicesFrom_44 : decode prog_2_method_7_code 44 = .ok (.istore_n 2, 1) := by decide +kernel
theorem d0_trueVoicesFrom_45 : decode prog_2_method_7_code 45 = .ok (.iinc 3 1, 3) := by decide +kernel
theorem d0_trueVoicesFrom_48 : decode prog_2_method_7_code 48 = .ok (.goto (-44), 3) := by decide +kernel
theorem d0_trueVoicesFrom_51 : decode prog_2_method_7_code 51 = .ok (.iload_n 2, 1) := by decide +kernel
theorem d0_trueVoicesFrom_52 : decode prog_2_method_7_code 52 = .ok (.ireturn, 1) := by decide +kernel
theorem d7_cross_0 : decode prog_1_method_33_code 0 = .ok (.iload_n 1, 1) := by decide +kernel
theorem d7_cross_1 : decode prog_1_method_33_code 1 = .ok (.iconst 1, 1) := by decide +kernel
theorem d7_cross_2 : decode prog_1_method_33_code 2 = .ok (.if_icmp .lt 9, 3) := by decide +kernel
theorem d7_cross_5 : decode prog_1_method_33_code 5 = .ok (.iload_n 1, 1) := by decide +kernel
theorem d7_cross_6 : decode prog_1_method_33_code 6 = .ok (.bipush 12, 2) := by decide +kernel
theorem d7_cross_8 : decode prog_1_method_33_code 8 = .ok (.if_icmp .le 5, 3) := by decide +kernel
theorem d7_cross_11 : decode prog_1_method_33_code 11 = .ok (.iconst (-1), 1) := by decide +kernel
theorem d7_cross_12 : decode prog_1_method_33_code 12 = .ok (.ireturn, 1) := by decide +kernel
theorem d7_cross_13 : decode prog_1_method_33_code 13 = .ok (.iconst 0, 1) := by decide +kernel
theorem d7_cross_14 : decode prog_1_method_33_code 14 = .ok (.istore_n 2, 1) := by decide +kernel
theorem d7_cross_15 : decode prog_1_method_33_code 15 = .ok (.iconst 0, 1) := by decide +kernel
theorem d7_cross_16 : decode prog_1_method_33_code 16 = .ok (.istore_n 3, 1) := by decide +kernel
theorem d7_cross_17 : decode prog_1_method_33_code 17 = .ok (.aload_n 0, 1) := by decide +kernel
theorem d7_cross_18 : decode prog_1_method_33_code 18 = .ok (.getfield 42, 3) := by decide +kernel
theorem d7_cross_21 : decode prog_1_method_33_code 21 = .ok (.invokevirtual 254, 3) := by decide +kernel
theorem d7_cross_24 : decode prog_1_method_33_code 24 = .ok (.ifCond .eq 7, 3) := by decide +kernel
theorem d7_cross_27 : decode prog_1_method_33_code 27 = .ok (.iconst 0, 1) := by decide +kernel
theorem d7_cross_28 : decode prog_1_method_33_code 28 = .ok (.goto 5, 3) := by decide +kernel
theorem d7_cross_31 : decode prog_1_method_33_code 31 = .ok (.bipush (-9), 2) := by decide +kernel
theorem d7_cross_33 : decode prog_1_method_33_code 33 = .ok (.istore 4, 2) := by decide +kernel
theorem d7_cross_35 : decode prog_1_method_33_code 35 = .ok (.iconst 0, 1) := by decide +kernel
theorem d7_cross_36 : decode prog_1_method_33_code 36 = .ok (.istore 5, 2) := by decide +kernel
theorem d7_cross_38 : decode prog_1_method_33_code 38 = .ok (.iload 5, 2) := by decide +kernel
theorem d7_cross_40 : decode prog_1_method_33_code 40 = .ok (.bipush 120, 2) := by decide +kernel
theorem d7_cross_42 : decode prog_1_method_33_code 42 = .ok (.if_icmp .ge 42, 3) := by decide +kernel
theorem d7_cross_45 : decode prog_1_method_33_code 45 = .ok (.aload_n 0, 1) := by decide +kernel
theorem d7_cross_46 : decode prog_1_method_33_code 46 = .ok (.getfield 42, 3) := by decide +kernel
theorem d7_cross_49 : decode prog_1_method_33_code 49 = .ok (.iload 5, 2) := by decide +kernel
theorem d7_cross_51 : decode prog_1_method_33_code 51 = .ok (.invokevirtual 257, 3) := by decide +kernel
theorem d7_cross_54 : decode prog_1_method_33_code 54 = .ok (.istore 6, 2) := by decide +kernel
theorem d7_cross_56 : decode prog_1_method_33_code 56 = .ok (.iload 6, 2) := by decide +kernel
theorem d7_cross_58 : decode prog_1_method_33_code 58 = .ok (.iload_n 1, 1) := by decide +kernel
theorem d7_cross_59 : decode prog_1_method_33_code 59 = .ok (.if_icmp .lt 6, 3) := by decide +kernel
theorem d7_cross_62 : decode prog_1_method_33_code 62 = .ok (.iinc 2 1, 3) := by decide +kernel
theorem d7_cross_65 : decode prog_1_method_33_code 65 = .ok (.iload 6, 2) := by decide +kernel
theorem d7_cross_67 : decode prog_1_method_33_code 67 = .ok (.iload_n 3, 1) := by decide +kernel
theorem d7_cross_68 : decode prog_1_method_33_code 68 = .ok (.if_icmp .le 10, 3) := by decide +kernel
theorem d7_cross_71 : decode prog_1_method_33_code 71 = .ok (.iload 6, 2) := by decide +kernel
theorem d7_cross_73 : decode prog_1_method_33_code 73 = .ok (.istore_n 3, 1) := by decide +kernel
theorem d7_cross_74 : decode prog_1_method_33_code 74 = .ok (.iload 5, 2) := by decide +kernel
theorem d7_cross_76 : decode prog_1_method_33_code 76 = .ok (.istore 4, 2) := by decide +kernel
theorem d7_cross_78 : decode prog_1_method_33_code 78 = .ok (.iinc 5 1, 3) := by decide +kernel
theorem d7_cross_81 : decode prog_1_method_33_code 81 = .ok (.goto (-43), 3) := by decide +kernel
theorem d7_cross_84 : decode prog_1_method_33_code 84 = .ok (.aload_n 0, 1) := by decide +kernel
theorem d7_cross_85 : decode prog_1_method_33_code 85 = .ok (.iload 4, 2) := by decide +kernel
theorem d7_cross_87 : decode prog_1_method_33_code 87 = .ok (.putfield 65, 3) := by decide +kernel
theorem d7_cross_90 : decode prog_1_method_33_code 90 = .ok (.iload_n 2, 1) := by decide +kernel
theorem d7_cross_91 : decode prog_1_method_33_code 91 = .ok (.ireturn, 1) := by decide +kernel
theorem d8_cross_0 : decode prog_10_method_82_code 0 = .ok (.iload_n 1, 1) := by decide +kernel
theorem d8_cross_1 : decode prog_10_method_82_code 1 = .ok (.iconst 1, 1) := by decide +kernel
theorem d8_cross_2 : decode prog_10_method_82_code 2 = .ok (.bipush 12, 2) := by decide +kernel
theorem d8_cross_4 : decode prog_10_method_82_code 4 = .ok (.invokestatic 80, 3) := by decide +kernel
theorem d8_cross_7 : decode prog_10_method_82_code 7 = .ok (.ifCond .ne 5, 3) := by decide +kernel
theorem d8_cross_10 : decode prog_10_method_82_code 10 = .ok (.iconst (-1), 1) := by decide +kernel
theorem d8_cross_11 : decode prog_10_method_82_code 11 = .ok (.ireturn, 1) := by decide +kernel
theorem d8_cross_12 : decode prog_10_method_82_code 12 = .ok (.iconst 0, 1) := by decide +kernel
theorem d8_cross_13 : decode prog_10_method_82_code 13 = .ok (.istore_n 2, 1) := by decide +kernel
theorem d8_cross_14 : decode prog_10_method_82_code 14 = .ok (.iconst 0, 1) := by decide +kernel
theorem d8_cross_15 : decode prog_10_method_82_code 15 = .ok (.istore_n 3, 1) := by decide +kernel
theorem d8_cross_16 : decode prog_10_method_82_code 16 = .ok (.iload_n 3, 1) := by decide +kernel
theorem d8_cross_17 : decode prog_10_method_82_code 17 = .ok (.aload_n 0, 1) := by decide +kernel
theorem d8_cross_18 : decode prog_10_method_82_code 18 = .ok (.getfield 161, 3) := by decide +kernel
theorem d8_cross_21 : decode prog_10_method_82_code 21 = .ok (.if_icmp .ge 35, 3) := by decide +kernel
theorem d8_cross_24 : decode prog_10_method_82_code 24 = .ok (.iload_n 2, 1) := by decide +kernel
theorem d8_cross_25 : decode prog_10_method_82_code 25 = .ok (.aload_n 0, 1) := by decide +kernel
theorem d8_cross_26 : decode prog_10_method_82_code 26 = .ok (.iload_n 3, 1) := by decide +kernel
theorem d8_cross_27 : decode prog_10_method_82_code 27 = .ok (.invokevirtual 196, 3) := by decide +kernel
theorem d8_cross_30 : decode prog_10_method_82_code 30 = .ok (.ifCond .eq 17, 3) := by decide +kernel
theorem d8_cross_33 : decode prog_10_method_82_code 33 = .ok (.aload_n 0, 1) := by decide +kernel
theorem d8_cross_34 : decode prog_10_method_82_code 34 = .ok (.iload_n 3, 1) := by decide +kernel
theorem d8_cross_35 : decode prog_10_method_82_code 35 = .ok (.iconst 0, 1) := by decide +kernel
theorem d8_cross_36 : decode prog_10_method_82_code 36 = .ok (.invokevirtual 175, 3) := by decide +kernel
theorem d8_cross_39 : decode prog_10_method_82_code 39 = .ok (.iconst 5, 1) := by decide +kernel
theorem d8_cross_40 : decode prog_10_method_82_code 40 = .ok (.if_icmp .ne 7, 3) := by decide +kernel
theorem d8_cross_43 : decode prog_10_method_82_code 43 = .ok (.iconst 1, 1) := by decide +kernel
theorem d8_cross_44 : decode prog_10_method_82_code 44 = .ok (.goto 4, 3) := by decide +kernel
theorem d8_cross_47 : decode prog_10_method_82_code 47 = .ok (.iconst 0, 1) := by decide +kernel
theorem d8_cross_48 : decode prog_10_method_82_code 48 = .ok (.iadd, 1) := by decide +kernel
theorem d8_cross_49 : decode prog_10_method_82_code 49 = .ok (.istore_n 2, 1) := by decide +kernel
theorem d8_cross_50 : decode prog_10_method_82_code 50 = .ok (.iinc 3 1, 3) := by decide +kernel
theorem d8_cross_53 : decode prog_10_method_82_code 53 = .ok (.goto (-37), 3) := by decide +kernel
theorem d8_cross_56 : decode prog_10_method_82_code 56 = .ok (.iconst 0, 1) := by decide +kernel
theorem d8_cross_57 : decode prog_10_method_82_code 57 = .ok (.istore_n 3, 1) := by decide +kernel
theorem d8_cross_58 : decode prog_10_method_82_code 58 = .ok (.bipush (-9), 2) := by decide +kernel
theorem d8_cross_60 : decode prog_10_method_82_code 60 = .ok (.istore 4, 2) := by decide +kernel
theorem d8_cross_62 : decode prog_10_method_82_code 62 = .ok (.bipush (-9), 2) := by decide +kernel
theorem d8_cross_64 : decode prog_10_method_82_code 64 = .ok (.istore 5, 2) := by decide +kernel
theorem d8_cross_66 : decode prog_10_method_82_code 66 = .ok (.iconst 0, 1) := by decide +kernel
theorem d8_cross_67 : decode prog_10_method_82_code 67 = .ok (.istore 6, 2) := by decide +kernel
theorem d8_cross_69 : decode prog_10_method_82_code 69 = .ok (.iload 6, 2) := by decide +kernel
theorem d8_cross_71 : decode prog_10_method_82_code 71 = .ok (.bipush 120, 2) := by decide +kernel
theorem d8_cross_73 : decode prog_10_method_82_code 73 = .ok (.if_icmp .ge 128, 3) := by decide +kernel
theorem d8_cross_76 : decode prog_10_method_82_code 76 = .ok (.iconst 0, 1) := by decide +kernel
theorem d8_cross_77 : decode prog_10_method_82_code 77 = .ok (.istore 7, 2) := by decide +kernel
theorem d8_cross_79 : decode prog_10_method_82_code 79 = .ok (.iconst 0, 1) := by decide +kernel
theorem d8_cross_80 : decode prog_10_method_82_code 80 = .ok (.istore 8, 2) := by decide +kernel
theorem d8_cross_82 : decode prog_10_method_82_code 82 = .ok (.iload 8, 2) := by decide +kernel
theorem d8_cross_84 : decode prog_10_method_82_code 84 = .ok (.aload_n 0, 1) := by decide +kernel
theorem d8_cross_85 : decode prog_10_method_82_code 85 = .ok (.getfield 161, 3) := by decide +kernel
theorem d8_cross_88 : decode prog_10_method_82_code 88 = .ok (.if_icmp .ge 61, 3) := by decide +kernel
theorem d8_cross_91 : decode prog_10_method_82_code 91 = .ok (.iload 7, 2) := by decide +kernel
theorem d8_cross_93 : decode prog_10_method_82_code 93 = .ok (.aload_n 0, 1) := by decide +kernel
theorem d8_cross_94 : decode prog_10_method_82_code 94 = .ok (.iload 8, 2) := by decide +kernel
theorem d8_cross_96 : decode prog_10_method_82_code 96 = .ok (.invokevirtual 196, 3) := by decide +kernel
theorem d8_cross_99 : decode prog_10_method_82_code 99 = .ok (.ifCond .eq 40, 3) := by decide +kernel
theorem d8_cross_102 : decode prog_10_method_82_code 102 = .ok (.aload_n 0, 1) := by decide +kernel
theorem d8_cross_103 : decode prog_10_method_82_code 103 = .ok (.iload 8, 2) := by decide +kernel
theorem d8_cross_105 : decode prog_10_method_82_code 105 = .ok (.iconst 0, 1) := by decide +kernel
theorem d8_cross_106 : decode prog_10_method_82_code 106 = .ok (.invokevirtual 175, 3) := by decide +kernel
theorem d8_cross_109 : decode prog_10_method_82_code 109 = .ok (.iconst 5, 1) := by decide +kernel
theorem d8_cross_110 : decode prog_10_method_82_code 110 = .ok (.if_icmp .ne 29, 3) := by decide +kernel
theorem d8_cross_113 : decode prog_10_method_82_code 113 = .ok (.aload_n 0, 1) := by decide +kernel
theorem d8_cross_114 : decode prog_10_method_82_code 114 = .ok (.iload 8, 2) := by decide +kernel
theorem d8_cross_116 : decode prog_10_method_82_code 116 = .ok (.iconst 1, 1) := by decide +kernel
theorem d8_cross_117 : decode prog_10_method_82_code 117 = .ok (.invokevirtual 175, 3) := by decide +kernel
theorem d8_cross_120 : decode prog_10_method_82_code 120 = .ok (.iload 6, 2) := by decide +kernel
theorem d8_cross_122 : decode prog_10_method_82_code 122 = .ok (.invokestatic 120, 3) := by decide +kernel
theorem d8_cross_125 : decode prog_10_method_82_code 125 = .ok (.aload_n 0, 1) := by decide +kernel
theorem d8_cross_126 : decode prog_10_method_82_code 126 = .ok (.iload 8, 2) := by decide +kernel
theorem d8_cross_128 : decode prog_10_method_82_code 128 = .ok (.iconst 2, 1) := by decide +kernel
theorem d8_cross_129 : decode prog_10_method_82_code 129 = .ok (.invokevirtual 175, 3) := by decide +kernel
theorem d8_cross_132 : decode prog_10_method_82_code 132 = .ok (.if_icmp .ne 7, 3) := by decide +kernel
theorem d8_cross_135 : decode prog_10_method_82_code 135 = .ok (.iconst 1, 1) := by decide +kernel
theorem d8_cross_136 : decode prog_10_method_82_code 136 = .ok (.goto 4, 3) := by decide +kernel
theorem d8_cross_139 : decode prog_10_method_82_code 139 = .ok (.iconst 0, 1) := by decide +kernel
theorem d8_cross_140 : decode prog_10_method_82_code 140 = .ok (.iadd, 1) := by decide +kernel
theorem d8_cross_141 : decode prog_10_method_82_code 141 = .ok (.istore 7, 2) := by decide +kernel
theorem d8_cross_143 : decode prog_10_method_82_code 143 = .ok (.iinc 8 1, 3) := by decide +kernel
theorem d8_cross_146 : decode prog_10_method_82_code 146 = .ok (.goto (-64), 3) := by decide +kernel
theorem d8_cross_149 : decode prog_10_method_82_code 149 = .ok (.iload_n 3, 1) := by decide +kernel
theorem d8_cross_150 : decode prog_10_method_82_code 150 = .ok (.iload 7, 2) := by decide +kernel
theorem d8_cross_152 : decode prog_10_method_82_code 152 = .ok (.iload_n 1, 1) := by decide +kernel
theorem d8_cross_153 : decode prog_10_method_82_code 153 = .ok (.if_icmp .lt 7, 3) := by decide +kernel
theorem d8_cross_156 : decode prog_10_method_82_code 156 = .ok (.iconst 1, 1) := by decide +kernel
theorem d8_cross_157 : decode prog_10_method_82_code 157 = .ok (.goto 4, 3) := by decide +kernel
theorem d8_cross_160 : decode prog_10_method_82_code 160 = .ok (.iconst 0, 1) := by decide +kernel
theorem d8_cross_161 : decode prog_10_method_82_code 161 = .ok (.iadd, 1) := by decide +kernel
theorem d8_cross_162 : decode prog_10_method_82_code 162 = .ok (.istore_n 3, 1) := by decide +kernel
theorem d8_cross_163 : decode prog_10_method_82_code 163 = .ok (.iload 7, 2) := by decide +kernel
theorem d8_cross_165 : decode prog_10_method_82_code 165 = .ok (.iload 5, 2) := by decide +kernel
theorem d8_cross_167 : decode prog_10_method_82_code 167 = .ok (.if_icmp .le 8, 3) := by decide +kernel
theorem d8_cross_170 : decode prog_10_method_82_code 170 = .ok (.iload 6, 2) := by decide +kernel
theorem d8_cross_172 : decode prog_10_method_82_code 172 = .ok (.goto 5, 3) := by decide +kernel
theorem d8_cross_175 : decode prog_10_method_82_code 175 = .ok (.iload 4, 2) := by decide +kernel
theorem d8_cross_177 : decode prog_10_method_82_code 177 = .ok (.istore 4, 2) := by decide +kernel
theorem d8_cross_179 : decode prog_10_method_82_code 179 = .ok (.iload 7, 2) := by decide +kernel
theorem d8_cross_181 : decode prog_10_method_82_code 181 = .ok (.iload 5, 2) := by decide +kernel
theorem d8_cross_183 : decode prog_10_method_82_code 183 = .ok (.if_icmp .le 8, 3) := by decide +kernel
theorem d8_cross_186 : decode prog_10_method_82_code 186 = .ok (.iload 7, 2) := by decide +kernel
theorem d8_cross_188 : decode prog_10_method_82_code 188 = .ok (.goto 5, 3) := by decide +kernel
theorem d8_cross_191 : decode prog_10_method_82_code 191 = .ok (.iload 5, 2) := by decide +kernel
theorem d8_cross_193 : decode prog_10_method_82_code 193 = .ok (.istore 5, 2) := by decide +kernel
theorem d8_cross_195 : decode prog_10_method_82_code 195 = .ok (.iinc 6 1, 3) := by decide +kernel
theorem d8_cross_198 : decode prog_10_method_82_code 198 = .ok (.goto (-129), 3) := by decide +kernel
theorem d8_cross_201 : decode prog_10_method_82_code 201 = .ok (.aload_n 0, 1) := by decide +kernel
theorem d8_cross_202 : decode prog_10_method_82_code 202 = .ok (.iload_n 2, 1) := by decide +kernel
theorem d8_cross_203 : decode prog_10_method_82_code 203 = .ok (.ifCond .ne 8, 3) := by decide +kernel
theorem d8_cross_206 : decode prog_10_method_82_code 206 = .ok (.bipush (-9), 2) := by decide +kernel
theorem d8_cross_208 : decode prog_10_method_82_code 208 = .ok (.goto 5, 3) := by decide +kernel
theorem d8_cross_211 : decode prog_10_method_82_code 211 = .ok (.iload 4, 2) := by decide +kernel
theorem d8_cross_213 : decode prog_10_method_82_code 213 = .ok (.iload_n 3, 1) := by decide +kernel
theorem d8_cross_214 : decode prog_10_method_82_code 214 = .ok (.invokevirtual 102, 3) := by decide +kernel
theorem d8_cross_217 : decode prog_10_method_82_code 217 = .ok (.ireturn, 1) := by decide +kernel
theorem d2_bare_0 : decode prog_4_method_4_code 0 = .ok (.lconst 0, 1) := by decide +kernel
theorem d2_bare_1 : decode prog_4_method_4_code 1 = .ok (.lstore_n 2, 1) := by decide +kernel
theorem d2_bare_2 : decode prog_4_method_4_code 2 = .ok (.iload_n 1, 1) := by decide +kernel
theorem d2_bare_3 : decode prog_4_method_4_code 3 = .ok (.ifCond .ne 50, 3) := by decide +kernel
theorem d2_bare_6 : decode prog_4_method_4_code 6 = .ok (.iconst 0, 1) := by decide +kernel
theorem d2_bare_7 : decode prog_4_method_4_code 7 = .ok (.istore 4, 2) := by decide +kernel
theorem d2_bare_9 : decode prog_4_method_4_code 9 = .ok (.iload 4, 2) := by decide +kernel
theorem d2_bare_11 : decode prog_4_method_4_code 11 = .ok (.aload_n 0, 1) := by decide +kernel
theorem d2_bare_12 : decode prog_4_method_4_code 12 = .ok (.getfield 12, 3) := by decide +kernel
theorem d2_bare_15 : decode prog_4_method_4_code 15 = .ok (.getfield 60, 3) := by decide +kernel
theorem d2_bare_18 : decode prog_4_method_4_code 18 = .ok (.if_icmp .gt 23, 3) := by decide +kernel
theorem d2_bare_21 : decode prog_4_method_4_code 21 = .ok (.lload_n 2, 1) := by decide +kernel
theorem d2_bare_22 : decode prog_4_method_4_code 22 = .ok (.aload_n 0, 1) := by decide +kernel
theorem d2_bare_23 : decode prog_4_method_4_code 23 = .ok (.getfield 12, 3) := by decide +kernel
theorem d2_bare_26 : decode prog_4_method_4_code 26 = .ok (.getfield 64, 3) := by decide +kernel
theorem d2_bare_29 : decode prog_4_method_4_code 29 = .ok (.iload 4, 2) := by decide +kernel
theorem d2_bare_31 : decode prog_4_method_4_code 31 = .ok (.iaload, 1) := by decide +kernel
theorem d2_bare_32 : decode prog_4_method_4_code 32 = .ok (.i2l, 1) := by decide +kernel
theorem d2_bare_33 : decode prog_4_method_4_code 33 = .ok (.ladd, 1) := by decide +kernel
theorem d2_bare_34 : decode prog_4_method_4_code 34 = .ok (.lstore_n 2, 1) := by decide +kernel
theorem d2_bare_35 : decode prog_4_method_4_code 35 = .ok (.iinc 4 1, 3) := by decide +kernel
theorem d2_bare_38 : decode prog_4_method_4_code 38 = .ok (.goto (-29), 3) := by decide +kernel
theorem d2_bare_41 : decode prog_4_method_4_code 41 = .ok (.lload_n 2, 1) := by decide +kernel
theorem d2_bare_42 : decode prog_4_method_4_code 42 = .ok (.iconst 2, 1) := by decide +kernel
theorem d2_bare_43 : decode prog_4_method_4_code 43 = .ok (.aload_n 0, 1) := by decide +kernel
theorem d2_bare_44 : decode prog_4_method_4_code 44 = .ok (.getfield 12, 3) := by decide +kernel
theorem d2_bare_47 : decode prog_4_method_4_code 47 = .ok (.getfield 60, 3) := by decide +kernel
theorem d2_bare_50 : decode prog_4_method_4_code 50 = .ok (.imul, 1) := by decide +kernel
theorem d2_bare_51 : decode prog_4_method_4_code 51 = .ok (.lshl, 1) := by decide +kernel
theorem d2_bare_52 : decode prog_4_method_4_code 52 = .ok (.lreturn, 1) := by decide +kernel
theorem d2_bare_53 : decode prog_4_method_4_code 53 = .ok (.iconst 0, 1) := by decide +kernel
theorem d2_bare_54 : decode prog_4_method_4_code 54 = .ok (.istore 4, 2) := by decide +kernel
theorem d2_bare_56 : decode prog_4_method_4_code 56 = .ok (.iload 4, 2) := by decide +kernel
theorem d2_bare_58 : decode prog_4_method_4_code 58 = .ok (.bipush 120, 2) := by decide +kernel
theorem d2_bare_60 : decode prog_4_method_4_code 60 = .ok (.if_icmp .ge 24, 3) := by decide +kernel
theorem d2_bare_63 : decode prog_4_method_4_code 63 = .ok (.lload_n 2, 1) := by decide +kernel
theorem d2_bare_64 : decode prog_4_method_4_code 64 = .ok (.aload_n 0, 1) := by decide +kernel
theorem d2_bare_65 : decode prog_4_method_4_code 65 = .ok (.getfield 29, 3) := by decide +kernel
theorem d2_bare_68 : decode prog_4_method_4_code 68 = .ok (.iload_n 1, 1) := by decide +kernel
theorem d2_bare_69 : decode prog_4_method_4_code 69 = .ok (.iconst 1, 1) := by decide +kernel
theorem d2_bare_70 : decode prog_4_method_4_code 70 = .ok (.isub, 1) := by decide +kernel
theorem d2_bare_71 : decode prog_4_method_4_code 71 = .ok (.aaload, 1) := by decide +kernel
theorem d2_bare_72 : decode prog_4_method_4_code 72 = .ok (.iload 4, 2) := by decide +kernel
theorem d2_bare_74 : decode prog_4_method_4_code 74 = .ok (.iaload, 1) := by decide +kernel
theorem d2_bare_75 : decode prog_4_method_4_code 75 = .ok (.i2l, 1) := by decide +kernel
theorem d2_bare_76 : decode prog_4_method_4_code 76 = .ok (.ladd, 1) := by decide +kernel
theorem d2_bare_77 : decode prog_4_method_4_code 77 = .ok (.lstore_n 2, 1) := by decide +kernel
theorem d2_bare_78 : decode prog_4_method_4_code 78 = .ok (.iinc 4 1, 3) := by decide +kernel
theorem d2_bare_81 : decode prog_4_method_4_code 81 = .ok (.goto (-25), 3) := by decide +kernel
theorem d2_bare_84 : decode prog_4_method_4_code 84 = .ok (.lload_n 2, 1) := by decide +kernel
theorem d2_bare_85 : decode prog_4_method_4_code 85 = .ok (.lreturn, 1) := by decide +kernel
theorem d7_likelier_0 : decode prog_1_method_34_code 0 = .ok (.iload_n 1, 1) := by decide +kernel
theorem d7_likelier_1 : decode prog_1_method_34_code 1 = .ok (.invokestatic 214, 3) := by decide +kernel
theorem d7_likelier_4 : decode prog_1_method_34_code 4 = .ok (.ifCond .eq 10, 3) := by decide +kernel
theorem d7_likelier_7 : decode prog_1_method_34_code 7 = .ok (.iload_n 2, 1) := by decide +kernel
theorem d7_likelier_8 : decode prog_1_method_34_code 8 = .ok (.invokestatic 214, 3) := by decide +kernel
theorem d7_likelier_11 : decode prog_1_method_34_code 11 = .ok (.ifCond .ne 5, 3) := by decide +kernel
theorem d7_likelier_14 : decode prog_1_method_34_code 14 = .ok (.iconst (-1), 1) := by decide +kernel
theorem d7_likelier_15 : decode prog_1_method_34_code 15 = .ok (.ireturn, 1) := by decide +kernel
theorem d7_likelier_16 : decode prog_1_method_34_code 16 = .ok (.aload_n 0, 1) := by decide +kernel
theorem d7_likelier_17 : decode prog_1_method_34_code 17 = .ok (.iload_n 1, 1) := by decide +kernel
theorem d7_likelier_18 : decode prog_1_method_34_code 18 = .ok (.invokevirtual 160, 3) := by decide +kernel
theorem d7_likelier_21 : decode prog_1_method_34_code 21 = .ok (.ifCond .ne 11, 3) := by decide +kernel
theorem d7_likelier_24 : decode prog_1_method_34_code 24 = .ok (.aload_n 0, 1) := by decide +kernel
theorem d7_likelier_25 : decode prog_1_method_34_code 25 = .ok (.iload_n 2, 1) := by decide +kernel
theorem d7_likelier_26 : decode prog_1_method_34_code 26 = .ok (.invokevirtual 160, 3) := by decide +kernel
theorem d7_likelier_29 : decode prog_1_method_34_code 29 = .ok (.ifCond .eq 9, 3) := by decide +kernel
theorem d7_likelier_32 : decode prog_1_method_34_code 32 = .ok (.aload_n 0, 1) := by decide +kernel
theorem d7_likelier_33 : decode prog_1_method_34_code 33 = .ok (.iconst 1, 1) := by decide +kernel
theorem d7_likelier_34 : decode prog_1_method_34_code 34 = .ok (.invokevirtual 92, 3) := by decide +kernel
theorem d7_likelier_37 : decode prog_1_method_34_code 37 = .ok (.ireturn, 1) := by decide +kernel
theorem d7_likelier_38 : decode prog_1_method_34_code 38 = .ok (.aload_n 0, 1) := by decide +kernel
theorem d7_likelier_39 : decode prog_1_method_34_code 39 = .ok (.getfield 42, 3) := by decide +kernel
theorem d7_likelier_42 : decode prog_1_method_34_code 42 = .ok (.invokevirtual 260, 3) := by decide +kernel
theorem d7_likelier_45 : decode prog_1_method_34_code 45 = .ok (.bipush 6, 2) := by decide +kernel
theorem d7_likelier_47 : decode prog_1_method_34_code 47 = .ok (.if_icmp .le 6, 3) := by decide +kernel
theorem d7_likelier_50 : decode prog_1_method_34_code 50 = .ok (.bipush (-6), 2) := by decide +kernel
theorem d7_likelier_52 : decode prog_1_method_34_code 52 = .ok (.ireturn, 1) := by decide +kernel
theorem d7_likelier_53 : decode prog_1_method_34_code 53 = .ok (.aload_n 0, 1) := by decide +kernel
theorem d7_likelier_54 : decode prog_1_method_34_code 54 = .ok (.getfield 29, 3) := by decide +kernel
theorem d7_likelier_57 : decode prog_1_method_34_code 57 = .ok (.iload_n 1, 1) := by decide +kernel
theorem d7_likelier_58 : decode prog_1_method_34_code 58 = .ok (.invokevirtual 263, 3) := by decide +kernel
theorem d7_likelier_61 : decode prog_1_method_34_code 61 = .ok (.lstore_n 3, 1) := by decide +kernel
theorem d7_likelier_62 : decode prog_1_method_34_code 62 = .ok (.aload_n 0, 1) := by decide +kernel
theorem d7_likelier_63 : decode prog_1_method_34_code 63 = .ok (.getfield 29, 3) := by decide +kernel
theorem d7_likelier_66 : decode prog_1_method_34_code 66 = .ok (.iload_n 2, 1) := by decide +kernel
theorem d7_likelier_67 : decode prog_1_method_34_code 67 = .ok (.invokevirtual 263, 3) := by decide +kernel
theorem d7_likelier_70 : decode prog_1_method_34_code 70 = .ok (.lstore 5, 2) := by decide +kernel
theorem d7_likelier_72 : decode prog_1_method_34_code 72 = .ok (.aload_n 0, 1) := by decide +kernel
theorem d7_likelier_73 : decode prog_1_method_34_code 73 = .ok (.getfield 29, 3) := by decide +kernel
theorem d7_likelier_76 : decode prog_1_method_34_code 76 = .ok (.iload_n 1, 1) := by decide +kernel
theorem d7_likelier_77 : decode prog_1_method_34_code 77 = .ok (.bipush (-9), 2) := by decide +kernel
theorem d7_likelier_79 : decode prog_1_method_34_code 79 = .ok (.invokevirtual 244, 3) := by decide +kernel
theorem d7_likelier_82 : decode prog_1_method_34_code 82 = .ok (.lstore 7, 2) := by decide +kernel
theorem d7_likelier_84 : decode prog_1_method_34_code 84 = .ok (.aload_n 0, 1) := by decide +kernel
theorem d7_likelier_85 : decode prog_1_method_34_code 85 = .ok (.getfield 29, 3) := by decide +kernel
theorem d7_likelier_88 : decode prog_1_method_34_code 88 = .ok (.iload_n 2, 1) := by decide +kernel
theorem d7_likelier_89 : decode prog_1_method_34_code 89 = .ok (.bipush (-9), 2) := by decide +kernel
theorem d7_likelier_91 : decode prog_1_method_34_code 91 = .ok (.invokevirtual 244, 3) := by decide +kernel
theorem d7_likelier_94 : decode prog_1_method_34_code 94 = .ok (.lstore 9, 2) := by decide +kernel
theorem d7_likelier_96 : decode prog_1_method_34_code 96 = .ok (.lload 9, 2) := by decide +kernel
theorem d7_likelier_98 : decode prog_1_method_34_code 98 = .ok (.lconst 0, 1) := by decide +kernel
theorem d7_likelier_99 : decode prog_1_method_34_code 99 = .ok (.lcmp, 1) := by decide +kernel
theorem d7_likelier_100 : decode prog_1_method_34_code 100 = .ok (.ifCond .le 16, 3) := by decide +kernel
theorem d7_likelier_103 : decode prog_1_method_34_code 103 = .ok (.lload_n 3, 1) := by decide +kernel
theorem d7_likelier_104 : decode prog_1_method_34_code 104 = .ok (.lconst 0, 1) := by decide +kernel
theorem d7_likelier_105 : decode prog_1_method_34_code 105 = .ok (.lcmp, 1) := by decide +kernel
theorem d7_likelier_106 : decode prog_1_method_34_code 106 = .ok (.ifCond .le 10, 3) := by decide +kernel
theorem d7_likelier_109 : decode prog_1_method_34_code 109 = .ok (.lload 5, 2) := by decide +kernel
theorem d7_likelier_111 : decode prog_1_method_34_code 111 = .ok (.lconst 0, 1) := by decide +kernel
theorem d7_likelier_112 : decode prog_1_method_34_code 112 = .ok (.lcmp, 1) := by decide +kernel
theorem d7_likelier_113 : decode prog_1_method_34_code 113 = .ok (.ifCond .gt 9, 3) := by decide +kernel
theorem d7_likelier_116 : decode prog_1_method_34_code 116 = .ok (.aload_n 0, 1) := by decide +kernel
theorem d7_likelier_117 : decode prog_1_method_34_code 117 = .ok (.iconst 4, 1) := by decide +kernel
theorem d7_likelier_118 : decode prog_1_method_34_code 118 = .ok (.invokevirtual 92, 3) := by decide +kernel
theorem d7_likelier_121 : decode prog_1_method_34_code 121 = .ok (.ireturn, 1) := by decide +kernel
theorem d7_likelier_122 : decode prog_1_method_34_code 122 = .ok (.lload 7, 2) := by decide +kernel
theorem d7_likelier_124 : decode prog_1_method_34_code 124 = .ok (.lload 5, 2) := by decide +kernel
theorem d7_likelier_126 : decode prog_1_method_34_code 126 = .ok (.lmul, 1) := by decide +kernel
theorem d7_likelier_127 : decode prog_1_method_34_code 127 = .ok (.lstore 11, 2) := by decide +kernel
theorem d7_likelier_129 : decode prog_1_method_34_code 129 = .ok (.lload 9, 2) := by decide +kernel
theorem d7_likelier_131 : decode prog_1_method_34_code 131 = .ok (.lload_n 3, 1) := by decide +kernel
theorem d7_likelier_132 : decode prog_1_method_34_code 132 = .ok (.lmul, 1) := by decide +kernel
theorem d7_likelier_133 : decode prog_1_method_34_code 133 = .ok (.lstore 13, 2) := by decide +kernel
theorem d7_likelier_135 : decode prog_1_method_34_code 135 = .ok (.aload_n 0, 1) := by decide +kernel
theorem d7_likelier_136 : decode prog_1_method_34_code 136 = .ok (.lload 11, 2) := by decide +kernel
theorem d7_likelier_138 : decode prog_1_method_34_code 138 = .ok (.lload 13, 2) := by decide +kernel
theorem d7_likelier_140 : decode prog_1_method_34_code 140 = .ok (.invokevirtual 226, 3) := by decide +kernel
theorem d7_likelier_143 : decode prog_1_method_34_code 143 = .ok (.lload 11, 2) := by decide +kernel
theorem d7_likelier_145 : decode prog_1_method_34_code 145 = .ok (.lload 13, 2) := by decide +kernel
theorem d7_likelier_147 : decode prog_1_method_34_code 147 = .ok (.lcmp, 1) := by decide +kernel
theorem d7_likelier_148 : decode prog_1_method_34_code 148 = .ok (.ifCond .le 7, 3) := by decide +kernel
theorem d7_likelier_151 : decode prog_1_method_34_code 151 = .ok (.iconst 2, 1) := by decide +kernel
theorem d7_likelier_152 : decode prog_1_method_34_code 152 = .ok (.goto 16, 3) := by decide +kernel
theorem d7_likelier_155 : decode prog_1_method_34_code 155 = .ok (.lload 11, 2) := by decide +kernel
theorem d7_likelier_157 : decode prog_1_method_34_code 157 = .ok (.lload 13, 2) := by decide +kernel
theorem d7_likelier_159 : decode prog_1_method_34_code 159 = .ok (.lcmp, 1) := by decide +kernel
theorem d7_likelier_160 : decode prog_1_method_34_code 160 = .ok (.ifCond .ne 7, 3) := by decide +kernel
theorem d7_likelier_163 : decode prog_1_method_34_code 163 = .ok (.iconst 1, 1) := by decide +kernel
theorem d7_likelier_164 : decode prog_1_method_34_code 164 = .ok (.goto 4, 3) := by decide +kernel
theorem d7_likelier_167 : decode prog_1_method_34_code 167 = .ok (.iconst 0, 1) := by decide +kernel
theorem d7_likelier_168 : decode prog_1_method_34_code 168 = .ok (.ireturn, 1) := by decide +kernel
theorem d8_bare_0 : decode prog_10_method_83_code 0 = .ok (.lconst 0, 1) := by decide +kernel
theorem d8_bare_1 : decode prog_10_method_83_code 1 = .ok (.lstore_n 2, 1) := by decide +kernel
theorem d8_bare_2 : decode prog_10_method_83_code 2 = .ok (.iconst 0, 1) := by decide +kernel
theorem d8_bare_3 : decode prog_10_method_83_code 3 = .ok (.istore 4, 2) := by decide +kernel
theorem d8_bare_5 : decode prog_10_method_83_code 5 = .ok (.iload 4, 2) := by decide +kernel
theorem d8_bare_7 : decode prog_10_method_83_code 7 = .ok (.bipush 120, 2) := by decide +kernel
theorem d8_bare_9 : decode prog_10_method_83_code 9 = .ok (.if_icmp .ge 29, 3) := by decide +kernel
theorem d8_bare_12 : decode prog_10_method_83_code 12 = .ok (.iload_n 1, 1) := by decide +kernel
theorem d8_bare_13 : decode prog_10_method_83_code 13 = .ok (.ifCond .le 25, 3) := by decide +kernel
theorem d8_bare_16 : decode prog_10_method_83_code 16 = .ok (.lload_n 2, 1) := by decide +kernel
theorem d8_bare_17 : decode prog_10_method_83_code 17 = .ok (.aload_n 0, 1) := by decide +kernel
theorem d8_bare_18 : decode prog_10_method_83_code 18 = .ok (.getfield 39, 3) := by decide +kernel
theorem d8_bare_21 : decode prog_10_method_83_code 21 = .ok (.bipush 120, 2) := by decide +kernel
theorem d8_bare_23 : decode prog_10_method_83_code 23 = .ok (.iload_n 1, 1) := by decide +kernel
theorem d8_bare_24 : decode prog_10_method_83_code 24 = .ok (.imul, 1) := by decide +kernel
theorem d8_bare_25 : decode prog_10_method_83_code 25 = .ok (.iload 4, 2) := by decide +kernel
theorem d8_bare_27 : decode prog_10_method_83_code 27 = .ok (.iadd, 1) := by decide +kernel
theorem d8_bare_28 : decode prog_10_method_83_code 28 = .ok (.iaload, 1) := by decide +kernel
theorem d8_bare_29 : decode prog_10_method_83_code 29 = .ok (.i2l, 1) := by decide +kernel
theorem d8_bare_30 : decode prog_10_method_83_code 30 = .ok (.ladd, 1) := by decide +kernel
theorem d8_bare_31 : decode prog_10_method_83_code 31 = .ok (.lstore_n 2, 1) := by decide +kernel
theorem d8_bare_32 : decode prog_10_method_83_code 32 = .ok (.iinc 4 1, 3) := by decide +kernel
theorem d8_bare_35 : decode prog_10_method_83_code 35 = .ok (.goto (-30), 3) := by decide +kernel
theorem d8_bare_38 : decode prog_10_method_83_code 38 = .ok (.iconst 0, 1) := by decide +kernel
theorem d8_bare_39 : decode prog_10_method_83_code 39 = .ok (.istore 4, 2) := by decide +kernel
theorem d8_bare_41 : decode prog_10_method_83_code 41 = .ok (.iload 4, 2) := by decide +kernel
theorem d8_bare_43 : decode prog_10_method_83_code 43 = .ok (.aload_n 0, 1) := by decide +kernel
theorem d8_bare_44 : decode prog_10_method_83_code 44 = .ok (.invokevirtual 129, 3) := by decide +kernel
