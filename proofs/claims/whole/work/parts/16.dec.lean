theorem d7_on_43 : decode prog_1_method_40_code 43 = .ok (.getfield 11, 3) := by decide +kernel
theorem d7_on_46 : decode prog_1_method_40_code 46 = .ok (.iload_n 1, 1) := by decide +kernel
theorem d7_on_47 : decode prog_1_method_40_code 47 = .ok (.aaload, 1) := by decide +kernel
theorem d7_on_48 : decode prog_1_method_40_code 48 = .ok (.astore_n 2, 1) := by decide +kernel
theorem d7_on_49 : decode prog_1_method_40_code 49 = .ok (.aload_n 2, 1) := by decide +kernel
theorem d7_on_50 : decode prog_1_method_40_code 50 = .ok (.invokestatic 311, 3) := by decide +kernel
theorem d7_on_53 : decode prog_1_method_40_code 53 = .ok (.ifCond .eq 26, 3) := by decide +kernel
theorem d7_on_56 : decode prog_1_method_40_code 56 = .ok (.aload_n 2, 1) := by decide +kernel
theorem d7_on_57 : decode prog_1_method_40_code 57 = .ok (.bipush 15, 2) := by decide +kernel
theorem d7_on_59 : decode prog_1_method_40_code 59 = .ok (.iaload, 1) := by decide +kernel
theorem d7_on_60 : decode prog_1_method_40_code 60 = .ok (.ifCond .lt 19, 3) := by decide +kernel
theorem d7_on_63 : decode prog_1_method_40_code 63 = .ok (.aload_n 2, 1) := by decide +kernel
theorem d7_on_64 : decode prog_1_method_40_code 64 = .ok (.bipush 15, 2) := by decide +kernel
theorem d7_on_66 : decode prog_1_method_40_code 66 = .ok (.iaload, 1) := by decide +kernel
theorem d7_on_67 : decode prog_1_method_40_code 67 = .ok (.iconst 1, 1) := by decide +kernel
theorem d7_on_68 : decode prog_1_method_40_code 68 = .ok (.aload_n 0, 1) := by decide +kernel
theorem d7_on_69 : decode prog_1_method_40_code 69 = .ok (.getfield 42, 3) := by decide +kernel
theorem d7_on_72 : decode prog_1_method_40_code 72 = .ok (.getfield 175, 3) := by decide +kernel
theorem d7_on_75 : decode prog_1_method_40_code 75 = .ok (.ishl, 1) := by decide +kernel
theorem d7_on_76 : decode prog_1_method_40_code 76 = .ok (.if_icmp .lt 9, 3) := by decide +kernel
theorem d7_on_79 : decode prog_1_method_40_code 79 = .ok (.aload_n 0, 1) := by decide +kernel
theorem d7_on_80 : decode prog_1_method_40_code 80 = .ok (.iconst 3, 1) := by decide +kernel
theorem d7_on_81 : decode prog_1_method_40_code 81 = .ok (.invokevirtual 92, 3) := by decide +kernel
theorem d7_on_84 : decode prog_1_method_40_code 84 = .ok (.ireturn, 1) := by decide +kernel
theorem d7_on_85 : decode prog_1_method_40_code 85 = .ok (.aload_n 0, 1) := by decide +kernel
theorem d7_on_86 : decode prog_1_method_40_code 86 = .ok (.getfield 37, 3) := by decide +kernel
theorem d7_on_89 : decode prog_1_method_40_code 89 = .ok (.aload_n 2, 1) := by decide +kernel
theorem d7_on_90 : decode prog_1_method_40_code 90 = .ok (.invokevirtual 315, 3) := by decide +kernel
theorem d7_on_93 : decode prog_1_method_40_code 93 = .ok (.aload_n 0, 1) := by decide +kernel
theorem d7_on_94 : decode prog_1_method_40_code 94 = .ok (.getfield 42, 3) := by decide +kernel
theorem d7_on_97 : decode prog_1_method_40_code 97 = .ok (.aload_n 2, 1) := by decide +kernel
theorem d7_on_98 : decode prog_1_method_40_code 98 = .ok (.bipush 15, 2) := by decide +kernel
theorem d7_on_100 : decode prog_1_method_40_code 100 = .ok (.iaload, 1) := by decide +kernel
theorem d7_on_101 : decode prog_1_method_40_code 101 = .ok (.invokevirtual 319, 3) := by decide +kernel
theorem d7_on_104 : decode prog_1_method_40_code 104 = .ok (.iconst 1, 1) := by decide +kernel
theorem d7_on_105 : decode prog_1_method_40_code 105 = .ok (.ireturn, 1) := by decide +kernel
theorem d8_isImage_0 : decode prog_10_method_94_code 0 = .ok (.aload_n 0, 1) := by decide +kernel
theorem d8_isImage_1 : decode prog_10_method_94_code 1 = .ok (.iload_n 1, 1) := by decide +kernel
theorem d8_isImage_2 : decode prog_10_method_94_code 2 = .ok (.iconst 1, 1) := by decide +kernel
theorem d8_isImage_3 : decode prog_10_method_94_code 3 = .ok (.invokevirtual 98, 3) := by decide +kernel
theorem d8_isImage_6 : decode prog_10_method_94_code 6 = .ok (.istore_n 2, 1) := by decide +kernel
theorem d8_isImage_7 : decode prog_10_method_94_code 7 = .ok (.aload_n 0, 1) := by decide +kernel
theorem d8_isImage_8 : decode prog_10_method_94_code 8 = .ok (.iload_n 1, 1) := by decide +kernel
theorem d8_isImage_9 : decode prog_10_method_94_code 9 = .ok (.iconst 0, 1) := by decide +kernel
theorem d8_isImage_10 : decode prog_10_method_94_code 10 = .ok (.invokevirtual 98, 3) := by decide +kernel
theorem d8_isImage_13 : decode prog_10_method_94_code 13 = .ok (.invokestatic 117, 3) := by decide +kernel
theorem d8_isImage_16 : decode prog_10_method_94_code 16 = .ok (.ifCond .eq 39, 3) := by decide +kernel
theorem d8_isImage_19 : decode prog_10_method_94_code 19 = .ok (.iload_n 2, 1) := by decide +kernel
theorem d8_isImage_20 : decode prog_10_method_94_code 20 = .ok (.iconst 0, 1) := by decide +kernel
theorem d8_isImage_21 : decode prog_10_method_94_code 21 = .ok (.bipush 6, 2) := by decide +kernel
theorem d8_isImage_23 : decode prog_10_method_94_code 23 = .ok (.invokestatic 80, 3) := by decide +kernel
theorem d8_isImage_26 : decode prog_10_method_94_code 26 = .ok (.ifCond .eq 29, 3) := by decide +kernel
theorem d8_isImage_29 : decode prog_10_method_94_code 29 = .ok (.aload_n 0, 1) := by decide +kernel
theorem d8_isImage_30 : decode prog_10_method_94_code 30 = .ok (.iload_n 1, 1) := by decide +kernel
theorem d8_isImage_31 : decode prog_10_method_94_code 31 = .ok (.bipush 15, 2) := by decide +kernel
theorem d8_isImage_33 : decode prog_10_method_94_code 33 = .ok (.invokevirtual 98, 3) := by decide +kernel
theorem d8_isImage_36 : decode prog_10_method_94_code 36 = .ok (.iconst 0, 1) := by decide +kernel
theorem d8_isImage_37 : decode prog_10_method_94_code 37 = .ok (.iconst 1, 1) := by decide +kernel
theorem d8_isImage_38 : decode prog_10_method_94_code 38 = .ok (.aload_n 0, 1) := by decide +kernel
theorem d8_isImage_39 : decode prog_10_method_94_code 39 = .ok (.getfield 161, 3) := by decide +kernel
theorem d8_isImage_42 : decode prog_10_method_94_code 42 = .ok (.ishl, 1) := by decide +kernel
theorem d8_isImage_43 : decode prog_10_method_94_code 43 = .ok (.iconst 1, 1) := by decide +kernel
theorem d8_isImage_44 : decode prog_10_method_94_code 44 = .ok (.isub, 1) := by decide +kernel
theorem d8_isImage_45 : decode prog_10_method_94_code 45 = .ok (.invokestatic 80, 3) := by decide +kernel
theorem d8_isImage_48 : decode prog_10_method_94_code 48 = .ok (.ifCond .eq 7, 3) := by decide +kernel
theorem d8_isImage_51 : decode prog_10_method_94_code 51 = .ok (.iconst 1, 1) := by decide +kernel
theorem d8_isImage_52 : decode prog_10_method_94_code 52 = .ok (.goto 4, 3) := by decide +kernel
theorem d8_isImage_55 : decode prog_10_method_94_code 55 = .ok (.iconst 0, 1) := by decide +kernel
theorem d8_isImage_56 : decode prog_10_method_94_code 56 = .ok (.istore_n 3, 1) := by decide +kernel
theorem d8_isImage_57 : decode prog_10_method_94_code 57 = .ok (.iconst 0, 1) := by decide +kernel
theorem d8_isImage_58 : decode prog_10_method_94_code 58 = .ok (.istore 4, 2) := by decide +kernel
theorem d8_isImage_60 : decode prog_10_method_94_code 60 = .ok (.iconst 0, 1) := by decide +kernel
theorem d8_isImage_61 : decode prog_10_method_94_code 61 = .ok (.istore 5, 2) := by decide +kernel
theorem d8_isImage_63 : decode prog_10_method_94_code 63 = .ok (.iload 5, 2) := by decide +kernel
theorem d8_isImage_65 : decode prog_10_method_94_code 65 = .ok (.bipush 6, 2) := by decide +kernel
theorem d8_isImage_67 : decode prog_10_method_94_code 67 = .ok (.if_icmp .ge 54, 3) := by decide +kernel
theorem d8_isImage_70 : decode prog_10_method_94_code 70 = .ok (.iload_n 3, 1) := by decide +kernel
theorem d8_isImage_71 : decode prog_10_method_94_code 71 = .ok (.ifCond .eq 50, 3) := by decide +kernel
theorem d8_isImage_74 : decode prog_10_method_94_code 74 = .ok (.iload 5, 2) := by decide +kernel
theorem d8_isImage_76 : decode prog_10_method_94_code 76 = .ok (.iload_n 2, 1) := by decide +kernel
theorem d8_isImage_77 : decode prog_10_method_94_code 77 = .ok (.if_icmp .ge 18, 3) := by decide +kernel
theorem d8_isImage_80 : decode prog_10_method_94_code 80 = .ok (.aload_n 0, 1) := by decide +kernel
theorem d8_isImage_81 : decode prog_10_method_94_code 81 = .ok (.iload_n 1, 1) := by decide +kernel
theorem d8_isImage_82 : decode prog_10_method_94_code 82 = .ok (.iconst 2, 1) := by decide +kernel
theorem d8_isImage_83 : decode prog_10_method_94_code 83 = .ok (.iload 5, 2) := by decide +kernel
theorem d8_isImage_85 : decode prog_10_method_94_code 85 = .ok (.iadd, 1) := by decide +kernel
theorem d8_isImage_86 : decode prog_10_method_94_code 86 = .ok (.invokevirtual 98, 3) := by decide +kernel
theorem d8_isImage_89 : decode prog_10_method_94_code 89 = .ok (.invokestatic 126, 3) := by decide +kernel
theorem d8_isImage_92 : decode prog_10_method_94_code 92 = .ok (.goto 22, 3) := by decide +kernel
theorem d8_isImage_95 : decode prog_10_method_94_code 95 = .ok (.aload_n 0, 1) := by decide +kernel
theorem d8_isImage_96 : decode prog_10_method_94_code 96 = .ok (.iload_n 1, 1) := by decide +kernel
theorem d8_isImage_97 : decode prog_10_method_94_code 97 = .ok (.iconst 2, 1) := by decide +kernel
theorem d8_isImage_98 : decode prog_10_method_94_code 98 = .ok (.iload 5, 2) := by decide +kernel
theorem d8_isImage_100 : decode prog_10_method_94_code 100 = .ok (.iadd, 1) := by decide +kernel
theorem d8_isImage_101 : decode prog_10_method_94_code 101 = .ok (.invokevirtual 98, 3) := by decide +kernel
theorem d8_isImage_104 : decode prog_10_method_94_code 104 = .ok (.bipush (-9), 2) := by decide +kernel
theorem d8_isImage_106 : decode prog_10_method_94_code 106 = .ok (.if_icmp .ne 7, 3) := by decide +kernel
theorem d8_isImage_109 : decode prog_10_method_94_code 109 = .ok (.iconst 1, 1) := by decide +kernel
theorem d8_isImage_110 : decode prog_10_method_94_code 110 = .ok (.goto 4, 3) := by decide +kernel
theorem d8_isImage_113 : decode prog_10_method_94_code 113 = .ok (.iconst 0, 1) := by decide +kernel
theorem d8_isImage_114 : decode prog_10_method_94_code 114 = .ok (.istore_n 3, 1) := by decide +kernel
theorem d8_isImage_115 : decode prog_10_method_94_code 115 = .ok (.iinc 5 1, 3) := by decide +kernel
theorem d8_isImage_118 : decode prog_10_method_94_code 118 = .ok (.goto (-55), 3) := by decide +kernel
theorem d8_isImage_121 : decode prog_10_method_94_code 121 = .ok (.iconst 0, 1) := by decide +kernel
theorem d8_isImage_122 : decode prog_10_method_94_code 122 = .ok (.istore 5, 2) := by decide +kernel
theorem d8_isImage_124 : decode prog_10_method_94_code 124 = .ok (.iload 5, 2) := by decide +kernel
theorem d8_isImage_126 : decode prog_10_method_94_code 126 = .ok (.bipush 6, 2) := by decide +kernel
theorem d8_isImage_128 : decode prog_10_method_94_code 128 = .ok (.if_icmp .gt 72, 3) := by decide +kernel
theorem d8_isImage_131 : decode prog_10_method_94_code 131 = .ok (.iload_n 3, 1) := by decide +kernel
theorem d8_isImage_132 : decode prog_10_method_94_code 132 = .ok (.ifCond .eq 68, 3) := by decide +kernel
theorem d8_isImage_135 : decode prog_10_method_94_code 135 = .ok (.aload_n 0, 1) := by decide +kernel
theorem d8_isImage_136 : decode prog_10_method_94_code 136 = .ok (.iload_n 1, 1) := by decide +kernel
theorem d8_isImage_137 : decode prog_10_method_94_code 137 = .ok (.bipush 8, 2) := by decide +kernel
theorem d8_isImage_139 : decode prog_10_method_94_code 139 = .ok (.iload 5, 2) := by decide +kernel
theorem d8_isImage_141 : decode prog_10_method_94_code 141 = .ok (.iadd, 1) := by decide +kernel
theorem d8_isImage_142 : decode prog_10_method_94_code 142 = .ok (.invokevirtual 98, 3) := by decide +kernel
theorem d8_isImage_145 : decode prog_10_method_94_code 145 = .ok (.istore 6, 2) := by decide +kernel
theorem d8_isImage_147 : decode prog_10_method_94_code 147 = .ok (.iload 5, 2) := by decide +kernel
theorem d8_isImage_149 : decode prog_10_method_94_code 149 = .ok (.iload_n 2, 1) := by decide +kernel
theorem d8_isImage_150 : decode prog_10_method_94_code 150 = .ok (.if_icmp .gt 14, 3) := by decide +kernel
theorem d8_isImage_153 : decode prog_10_method_94_code 153 = .ok (.iload 6, 2) := by decide +kernel
theorem d8_isImage_155 : decode prog_10_method_94_code 155 = .ok (.iconst 0, 1) := by decide +kernel
theorem d8_isImage_156 : decode prog_10_method_94_code 156 = .ok (.bipush 9, 2) := by decide +kernel
theorem d8_isImage_158 : decode prog_10_method_94_code 158 = .ok (.invokestatic 80, 3) := by decide +kernel
theorem d8_isImage_161 : decode prog_10_method_94_code 161 = .ok (.goto 15, 3) := by decide +kernel
theorem d8_isImage_164 : decode prog_10_method_94_code 164 = .ok (.iload 6, 2) := by decide +kernel
theorem d8_isImage_166 : decode prog_10_method_94_code 166 = .ok (.bipush (-9), 2) := by decide +kernel
theorem d8_isImage_168 : decode prog_10_method_94_code 168 = .ok (.if_icmp .ne 7, 3) := by decide +kernel
theorem d8_isImage_171 : decode prog_10_method_94_code 171 = .ok (.iconst 1, 1) := by decide +kernel
theorem d8_isImage_172 : decode prog_10_method_94_code 172 = .ok (.goto 4, 3) := by decide +kernel
theorem d8_isImage_175 : decode prog_10_method_94_code 175 = .ok (.iconst 0, 1) := by decide +kernel
theorem d8_isImage_176 : decode prog_10_method_94_code 176 = .ok (.istore_n 3, 1) := by decide +kernel
theorem d8_isImage_177 : decode prog_10_method_94_code 177 = .ok (.iload 4, 2) := by decide +kernel
theorem d8_isImage_179 : decode prog_10_method_94_code 179 = .ok (.iload 5, 2) := by decide +kernel
theorem d8_isImage_181 : decode prog_10_method_94_code 181 = .ok (.iload_n 2, 1) := by decide +kernel
theorem d8_isImage_182 : decode prog_10_method_94_code 182 = .ok (.if_icmp .gt 8, 3) := by decide +kernel
theorem d8_isImage_185 : decode prog_10_method_94_code 185 = .ok (.iload 6, 2) := by decide +kernel
theorem d8_isImage_187 : decode prog_10_method_94_code 187 = .ok (.goto 4, 3) := by decide +kernel
theorem d8_isImage_190 : decode prog_10_method_94_code 190 = .ok (.iconst 0, 1) := by decide +kernel
theorem d8_isImage_191 : decode prog_10_method_94_code 191 = .ok (.iadd, 1) := by decide +kernel
theorem d8_isImage_192 : decode prog_10_method_94_code 192 = .ok (.istore 4, 2) := by decide +kernel
theorem d8_isImage_194 : decode prog_10_method_94_code 194 = .ok (.iinc 5 1, 3) := by decide +kernel
theorem d8_isImage_197 : decode prog_10_method_94_code 197 = .ok (.goto (-73), 3) := by decide +kernel
theorem d8_isImage_200 : decode prog_10_method_94_code 200 = .ok (.iload_n 3, 1) := by decide +kernel
theorem d8_isImage_201 : decode prog_10_method_94_code 201 = .ok (.ifCond .eq 12, 3) := by decide +kernel
theorem d8_isImage_204 : decode prog_10_method_94_code 204 = .ok (.iload 4, 2) := by decide +kernel
theorem d8_isImage_206 : decode prog_10_method_94_code 206 = .ok (.ifCond .le 7, 3) := by decide +kernel
theorem d8_isImage_209 : decode prog_10_method_94_code 209 = .ok (.iconst 1, 1) := by decide +kernel
theorem d8_isImage_210 : decode prog_10_method_94_code 210 = .ok (.goto 4, 3) := by decide +kernel
theorem d8_isImage_213 : decode prog_10_method_94_code 213 = .ok (.iconst 0, 1) := by decide +kernel
theorem d8_isImage_214 : decode prog_10_method_94_code 214 = .ok (.ireturn, 1) := by decide +kernel
theorem d8_on_0 : decode prog_10_method_95_code 0 = .ok (.aload_n 0, 1) := by decide +kernel
theorem d8_on_1 : decode prog_10_method_95_code 1 = .ok (.iload_n 1, 1) := by decide +kernel
theorem d8_on_2 : decode prog_10_method_95_code 2 = .ok (.invokevirtual 95, 3) := by decide +kernel
theorem d8_on_5 : decode prog_10_method_95_code 5 = .ok (.istore_n 2, 1) := by decide +kernel
theorem d8_on_6 : decode prog_10_method_95_code 6 = .ok (.iload_n 2, 1) := by decide +kernel
theorem d8_on_7 : decode prog_10_method_95_code 7 = .ok (.ifCond .ge 5, 3) := by decide +kernel
theorem d8_on_10 : decode prog_10_method_95_code 10 = .ok (.iload_n 2, 1) := by decide +kernel
theorem d8_on_11 : decode prog_10_method_95_code 11 = .ok (.ireturn, 1) := by decide +kernel
theorem d8_on_12 : decode prog_10_method_95_code 12 = .ok (.aload_n 0, 1) := by decide +kernel
theorem d8_on_13 : decode prog_10_method_95_code 13 = .ok (.getfield 17, 3) := by decide +kernel
theorem d8_on_16 : decode prog_10_method_95_code 16 = .ok (.iload_n 1, 1) := by decide +kernel
theorem d8_on_17 : decode prog_10_method_95_code 17 = .ok (.iaload, 1) := by decide +kernel
theorem d8_on_18 : decode prog_10_method_95_code 18 = .ok (.bipush 16, 2) := by decide +kernel
theorem d8_on_20 : decode prog_10_method_95_code 20 = .ok (.if_icmp .eq 9, 3) := by decide +kernel
theorem d8_on_23 : decode prog_10_method_95_code 23 = .ok (.aload_n 0, 1) := by decide +kernel
theorem d8_on_24 : decode prog_10_method_95_code 24 = .ok (.iconst 5, 1) := by decide +kernel
theorem d8_on_25 : decode prog_10_method_95_code 25 = .ok (.invokevirtual 88, 3) := by decide +kernel
theorem d8_on_28 : decode prog_10_method_95_code 28 = .ok (.ireturn, 1) := by decide +kernel
theorem d8_on_29 : decode prog_10_method_95_code 29 = .ok (.aload_n 0, 1) := by decide +kernel
theorem d8_on_30 : decode prog_10_method_95_code 30 = .ok (.iload_n 1, 1) := by decide +kernel
theorem d8_on_31 : decode prog_10_method_95_code 31 = .ok (.invokevirtual 292, 3) := by decide +kernel
theorem d8_on_34 : decode prog_10_method_95_code 34 = .ok (.ifCond .ne 9, 3) := by decide +kernel
theorem d8_on_37 : decode prog_10_method_95_code 37 = .ok (.aload_n 0, 1) := by decide +kernel
theorem d8_on_38 : decode prog_10_method_95_code 38 = .ok (.iconst 3, 1) := by decide +kernel
theorem d8_on_39 : decode prog_10_method_95_code 39 = .ok (.invokevirtual 88, 3) := by decide +kernel
theorem d8_on_42 : decode prog_10_method_95_code 42 = .ok (.ireturn, 1) := by decide +kernel
theorem d8_on_43 : decode prog_10_method_95_code 43 = .ok (.iconst 0, 1) := by decide +kernel
theorem d8_on_44 : decode prog_10_method_95_code 44 = .ok (.istore_n 3, 1) := by decide +kernel
theorem d8_on_45 : decode prog_10_method_95_code 45 = .ok (.iload_n 3, 1) := by decide +kernel
theorem d8_on_46 : decode prog_10_method_95_code 46 = .ok (.bipush 15, 2) := by decide +kernel
theorem d8_on_48 : decode prog_10_method_95_code 48 = .ok (.if_icmp .ge 21, 3) := by decide +kernel
theorem d8_on_51 : decode prog_10_method_95_code 51 = .ok (.aload_n 0, 1) := by decide +kernel
theorem d8_on_52 : decode prog_10_method_95_code 52 = .ok (.getfield 32, 3) := by decide +kernel
theorem d8_on_55 : decode prog_10_method_95_code 55 = .ok (.iload_n 3, 1) := by decide +kernel
theorem d8_on_56 : decode prog_10_method_95_code 56 = .ok (.aload_n 0, 1) := by decide +kernel
theorem d8_on_57 : decode prog_10_method_95_code 57 = .ok (.iload_n 1, 1) := by decide +kernel
theorem d8_on_58 : decode prog_10_method_95_code 58 = .ok (.iload_n 3, 1) := by decide +kernel
theorem d8_on_59 : decode prog_10_method_95_code 59 = .ok (.invokevirtual 98, 3) := by decide +kernel
theorem d8_on_62 : decode prog_10_method_95_code 62 = .ok (.iastore, 1) := by decide +kernel
theorem d8_on_63 : decode prog_10_method_95_code 63 = .ok (.iinc 3 1, 3) := by decide +kernel
theorem d8_on_66 : decode prog_10_method_95_code 66 = .ok (.goto (-21), 3) := by decide +kernel
theorem d8_on_69 : decode prog_10_method_95_code 69 = .ok (.iconst 0, 1) := by decide +kernel
theorem d8_on_70 : decode prog_10_method_95_code 70 = .ok (.istore_n 3, 1) := by decide +kernel
theorem d8_on_71 : decode prog_10_method_95_code 71 = .ok (.iload_n 3, 1) := by decide +kernel
theorem d8_on_72 : decode prog_10_method_95_code 72 = .ok (.aload_n 0, 1) := by decide +kernel
theorem d8_on_73 : decode prog_10_method_95_code 73 = .ok (.getfield 161, 3) := by decide +kernel
theorem d8_on_76 : decode prog_10_method_95_code 76 = .ok (.if_icmp .ge 30, 3) := by decide +kernel
theorem d8_on_79 : decode prog_10_method_95_code 79 = .ok (.aload_n 0, 1) := by decide +kernel
theorem d8_on_80 : decode prog_10_method_95_code 80 = .ok (.getfield 45, 3) := by decide +kernel
theorem d8_on_83 : decode prog_10_method_95_code 83 = .ok (.iconst 5, 1) := by decide +kernel
theorem d8_on_84 : decode prog_10_method_95_code 84 = .ok (.iload_n 3, 1) := by decide +kernel
theorem d8_on_85 : decode prog_10_method_95_code 85 = .ok (.imul, 1) := by decide +kernel
theorem d8_on_86 : decode prog_10_method_95_code 86 = .ok (.iconst 4, 1) := by decide +kernel
theorem d8_on_87 : decode prog_10_method_95_code 87 = .ok (.iadd, 1) := by decide +kernel
theorem d8_on_88 : decode prog_10_method_95_code 88 = .ok (.aload_n 0, 1) := by decide +kernel
theorem d8_on_89 : decode prog_10_method_95_code 89 = .ok (.iload_n 1, 1) := by decide +kernel
theorem d8_on_90 : decode prog_10_method_95_code 90 = .ok (.bipush 15, 2) := by decide +kernel
theorem d8_on_92 : decode prog_10_method_95_code 92 = .ok (.invokevirtual 98, 3) := by decide +kernel
theorem d8_on_95 : decode prog_10_method_95_code 95 = .ok (.iload_n 3, 1) := by decide +kernel
theorem d8_on_96 : decode prog_10_method_95_code 96 = .ok (.ishr, 1) := by decide +kernel
theorem d8_on_97 : decode prog_10_method_95_code 97 = .ok (.iconst 1, 1) := by decide +kernel
theorem d8_on_98 : decode prog_10_method_95_code 98 = .ok (.iand, 1) := by decide +kernel
theorem d8_on_99 : decode prog_10_method_95_code 99 = .ok (.iastore, 1) := by decide +kernel
theorem d8_on_100 : decode prog_10_method_95_code 100 = .ok (.iinc 3 1, 3) := by decide +kernel
theorem d8_on_103 : decode prog_10_method_95_code 103 = .ok (.goto (-32), 3) := by decide +kernel
theorem d8_on_106 : decode prog_10_method_95_code 106 = .ok (.iconst 1, 1) := by decide +kernel
theorem d8_on_107 : decode prog_10_method_95_code 107 = .ok (.ireturn, 1) := by decide +kernel
theorem d7_asked_0 : decode prog_1_method_41_code 0 = .ok (.aload_n 0, 1) := by decide +kernel
theorem d7_asked_1 : decode prog_1_method_41_code 1 = .ok (.getfield 65, 3) := by decide +kernel
theorem d7_asked_4 : decode prog_1_method_41_code 4 = .ok (.ireturn, 1) := by decide +kernel
theorem d8_asked_0 : decode prog_10_method_96_code 0 = .ok (.aload_n 0, 1) := by decide +kernel
theorem d8_asked_1 : decode prog_10_method_96_code 1 = .ok (.getfield 74, 3) := by decide +kernel
theorem d8_asked_4 : decode prog_10_method_96_code 4 = .ok (.ireturn, 1) := by decide +kernel
theorem d7_upper_0 : decode prog_1_method_42_code 0 = .ok (.aload_n 0, 1) := by decide +kernel
theorem d7_upper_1 : decode prog_1_method_42_code 1 = .ok (.getfield 69, 3) := by decide +kernel
theorem d7_upper_4 : decode prog_1_method_42_code 4 = .ok (.lreturn, 1) := by decide +kernel
theorem d8_upper_0 : decode prog_10_method_97_code 0 = .ok (.aload_n 0, 1) := by decide +kernel
theorem d8_upper_1 : decode prog_10_method_97_code 1 = .ok (.getfield 77, 3) := by decide +kernel
theorem d8_upper_4 : decode prog_10_method_97_code 4 = .ok (.lreturn, 1) := by decide +kernel
theorem d7_lower_0 : decode prog_1_method_43_code 0 = .ok (.aload_n 0, 1) := by decide +kernel
theorem d7_lower_1 : decode prog_1_method_43_code 1 = .ok (.getfield 73, 3) := by decide +kernel
theorem d7_lower_4 : decode prog_1_method_43_code 4 = .ok (.lreturn, 1) := by decide +kernel
theorem d8_lower_0 : decode prog_10_method_98_code 0 = .ok (.aload_n 0, 1) := by decide +kernel
theorem d8_lower_1 : decode prog_10_method_98_code 1 = .ok (.getfield 13, 3) := by decide +kernel
theorem d8_lower_4 : decode prog_10_method_98_code 4 = .ok (.lreturn, 1) := by decide +kernel
theorem d7_storiesThere_0 : decode prog_1_method_62_code 0 = .ok (.iconst 0, 1) := by decide +kernel
theorem d7_storiesThere_1 : decode prog_1_method_62_code 1 = .ok (.istore_n 1, 1) := by decide +kernel
theorem d7_storiesThere_2 : decode prog_1_method_62_code 2 = .ok (.iconst 0, 1) := by decide +kernel
theorem d7_storiesThere_3 : decode prog_1_method_62_code 3 = .ok (.istore_n 2, 1) := by decide +kernel
theorem d7_storiesThere_4 : decode prog_1_method_62_code 4 = .ok (.iload_n 2, 1) := by decide +kernel
theorem d7_storiesThere_5 : decode prog_1_method_62_code 5 = .ok (.iconst 3, 1) := by decide +kernel
theorem d7_storiesThere_6 : decode prog_1_method_62_code 6 = .ok (.if_icmp .ge 26, 3) := by decide +kernel
theorem d7_storiesThere_9 : decode prog_1_method_62_code 9 = .ok (.iload_n 1, 1) := by decide +kernel
theorem d7_storiesThere_10 : decode prog_1_method_62_code 10 = .ok (.aload_n 0, 1) := by decide +kernel
theorem d7_storiesThere_11 : decode prog_1_method_62_code 11 = .ok (.getfield 47, 3) := by decide +kernel
theorem d7_storiesThere_14 : decode prog_1_method_62_code 14 = .ok (.iload_n 2, 1) := by decide +kernel
theorem d7_storiesThere_15 : decode prog_1_method_62_code 15 = .ok (.baload, 1) := by decide +kernel
theorem d7_storiesThere_16 : decode prog_1_method_62_code 16 = .ok (.ifCond .eq 7, 3) := by decide +kernel
theorem d7_storiesThere_19 : decode prog_1_method_62_code 19 = .ok (.iconst 1, 1) := by decide +kernel
theorem d7_storiesThere_20 : decode prog_1_method_62_code 20 = .ok (.goto 4, 3) := by decide +kernel
theorem d7_storiesThere_23 : decode prog_1_method_62_code 23 = .ok (.iconst 0, 1) := by decide +kernel
theorem d7_storiesThere_24 : decode prog_1_method_62_code 24 = .ok (.iadd, 1) := by decide +kernel
theorem d7_storiesThere_25 : decode prog_1_method_62_code 25 = .ok (.istore_n 1, 1) := by decide +kernel
theorem d7_storiesThere_26 : decode prog_1_method_62_code 26 = .ok (.iinc 2 1, 3) := by decide +kernel
theorem d7_storiesThere_29 : decode prog_1_method_62_code 29 = .ok (.goto (-25), 3) := by decide +kernel
theorem d7_storiesThere_32 : decode prog_1_method_62_code 32 = .ok (.iload_n 1, 1) := by decide +kernel
theorem d7_storiesThere_33 : decode prog_1_method_62_code 33 = .ok (.ireturn, 1) := by decide +kernel
theorem d0_voices_0 : decode prog_2_method_5_code 0 = .ok (.iconst 0, 1) := by decide +kernel
theorem d0_voices_1 : decode prog_2_method_5_code 1 = .ok (.istore_n 1, 1) := by decide +kernel
theorem d0_voices_2 : decode prog_2_method_5_code 2 = .ok (.iconst 0, 1) := by decide +kernel
theorem d0_voices_3 : decode prog_2_method_5_code 3 = .ok (.istore_n 2, 1) := by decide +kernel
theorem d0_voices_4 : decode prog_2_method_5_code 4 = .ok (.iload_n 2, 1) := by decide +kernel
theorem d0_voices_5 : decode prog_2_method_5_code 5 = .ok (.aload_n 0, 1) := by decide +kernel
theorem d0_voices_6 : decode prog_2_method_5_code 6 = .ok (.getfield 17, 3) := by decide +kernel
theorem d0_voices_9 : decode prog_2_method_5_code 9 = .ok (.if_icmp .ge 30, 3) := by decide +kernel
theorem d0_voices_12 : decode prog_2_method_5_code 12 = .ok (.iload_n 1, 1) := by decide +kernel
theorem d0_voices_13 : decode prog_2_method_5_code 13 = .ok (.aload_n 0, 1) := by decide +kernel
theorem d0_voices_14 : decode prog_2_method_5_code 14 = .ok (.getfield 13, 3) := by decide +kernel
theorem d0_voices_17 : decode prog_2_method_5_code 17 = .ok (.iload_n 2, 1) := by decide +kernel
theorem d0_voices_18 : decode prog_2_method_5_code 18 = .ok (.aaload, 1) := by decide +kernel
theorem d0_voices_19 : decode prog_2_method_5_code 19 = .ok (.iconst 5, 1) := by decide +kernel
theorem d0_voices_20 : decode prog_2_method_5_code 20 = .ok (.invokevirtual 30, 3) := by decide +kernel
theorem d0_voices_23 : decode prog_2_method_5_code 23 = .ok (.ifCond .eq 7, 3) := by decide +kernel
theorem d0_voices_26 : decode prog_2_method_5_code 26 = .ok (.iconst 1, 1) := by decide +kernel
theorem d0_voices_27 : decode prog_2_method_5_code 27 = .ok (.goto 4, 3) := by decide +kernel
theorem d0_voices_30 : decode prog_2_method_5_code 30 = .ok (.iconst 0, 1) := by decide +kernel
theorem d0_voices_31 : decode prog_2_method_5_code 31 = .ok (.iadd, 1) := by decide +kernel
theorem d0_voices_32 : decode prog_2_method_5_code 32 = .ok (.istore_n 1, 1) := by decide +kernel
theorem d0_voices_33 : decode prog_2_method_5_code 33 = .ok (.iinc 2 1, 3) := by decide +kernel
theorem d0_voices_36 : decode prog_2_method_5_code 36 = .ok (.goto (-32), 3) := by decide +kernel
theorem d0_voices_39 : decode prog_2_method_5_code 39 = .ok (.iload_n 1, 1) := by decide +kernel
theorem d0_voices_40 : decode prog_2_method_5_code 40 = .ok (.ireturn, 1) := by decide +kernel
theorem dJ_bitCount_0 : decode prog_11_method_49_code 0 = .ok (.iload_n 0, 1) := by decide +kernel
theorem dJ_bitCount_1 : decode prog_11_method_49_code 1 = .ok (.iload_n 0, 1) := by decide +kernel
theorem dJ_bitCount_2 : decode prog_11_method_49_code 2 = .ok (.iconst 1, 1) := by decide +kernel
theorem dJ_bitCount_3 : decode prog_11_method_49_code 3 = .ok (.iushr, 1) := by decide +kernel
theorem dJ_bitCount_4 : decode prog_11_method_49_code 4 = .ok (.ldc_w 265, 3) := by decide +kernel
theorem dJ_bitCount_7 : decode prog_11_method_49_code 7 = .ok (.iand, 1) := by decide +kernel
theorem dJ_bitCount_8 : decode prog_11_method_49_code 8 = .ok (.isub, 1) := by decide +kernel
theorem dJ_bitCount_9 : decode prog_11_method_49_code 9 = .ok (.istore_n 0, 1) := by decide +kernel
theorem dJ_bitCount_10 : decode prog_11_method_49_code 10 = .ok (.iload_n 0, 1) := by decide +kernel
theorem dJ_bitCount_11 : decode prog_11_method_49_code 11 = .ok (.ldc_w 266, 3) := by decide +kernel
theorem dJ_bitCount_14 : decode prog_11_method_49_code 14 = .ok (.iand, 1) := by decide +kernel
theorem dJ_bitCount_15 : decode prog_11_method_49_code 15 = .ok (.iload_n 0, 1) := by decide +kernel
theorem dJ_bitCount_16 : decode prog_11_method_49_code 16 = .ok (.iconst 2, 1) := by decide +kernel
theorem dJ_bitCount_17 : decode prog_11_method_49_code 17 = .ok (.iushr, 1) := by decide +kernel
theorem dJ_bitCount_18 : decode prog_11_method_49_code 18 = .ok (.ldc_w 266, 3) := by decide +kernel
theorem dJ_bitCount_21 : decode prog_11_method_49_code 21 = .ok (.iand, 1) := by decide +kernel
theorem dJ_bitCount_22 : decode prog_11_method_49_code 22 = .ok (.iadd, 1) := by decide +kernel
theorem dJ_bitCount_23 : decode prog_11_method_49_code 23 = .ok (.istore_n 0, 1) := by decide +kernel
theorem dJ_bitCount_24 : decode prog_11_method_49_code 24 = .ok (.iload_n 0, 1) := by decide +kernel
theorem dJ_bitCount_25 : decode prog_11_method_49_code 25 = .ok (.iload_n 0, 1) := by decide +kernel
theorem dJ_bitCount_26 : decode prog_11_method_49_code 26 = .ok (.iconst 4, 1) := by decide +kernel
theorem dJ_bitCount_27 : decode prog_11_method_49_code 27 = .ok (.iushr, 1) := by decide +kernel
theorem dJ_bitCount_28 : decode prog_11_method_49_code 28 = .ok (.iadd, 1) := by decide +kernel
theorem dJ_bitCount_29 : decode prog_11_method_49_code 29 = .ok (.ldc_w 267, 3) := by decide +kernel
theorem dJ_bitCount_32 : decode prog_11_method_49_code 32 = .ok (.iand, 1) := by decide +kernel
theorem dJ_bitCount_33 : decode prog_11_method_49_code 33 = .ok (.istore_n 0, 1) := by decide +kernel
theorem dJ_bitCount_34 : decode prog_11_method_49_code 34 = .ok (.iload_n 0, 1) := by decide +kernel
theorem dJ_bitCount_35 : decode prog_11_method_49_code 35 = .ok (.iload_n 0, 1) := by decide +kernel
theorem dJ_bitCount_36 : decode prog_11_method_49_code 36 = .ok (.bipush 8, 2) := by decide +kernel
theorem dJ_bitCount_38 : decode prog_11_method_49_code 38 = .ok (.iushr, 1) := by decide +kernel
theorem dJ_bitCount_39 : decode prog_11_method_49_code 39 = .ok (.iadd, 1) := by decide +kernel
theorem dJ_bitCount_40 : decode prog_11_method_49_code 40 = .ok (.istore_n 0, 1) := by decide +kernel
theorem dJ_bitCount_41 : decode prog_11_method_49_code 41 = .ok (.iload_n 0, 1) := by decide +kernel
theorem dJ_bitCount_42 : decode prog_11_method_49_code 42 = .ok (.iload_n 0, 1) := by decide +kernel
theorem dJ_bitCount_43 : decode prog_11_method_49_code 43 = .ok (.bipush 16, 2) := by decide +kernel
theorem dJ_bitCount_45 : decode prog_11_method_49_code 45 = .ok (.iushr, 1) := by decide +kernel
theorem dJ_bitCount_46 : decode prog_11_method_49_code 46 = .ok (.iadd, 1) := by decide +kernel
theorem dJ_bitCount_47 : decode prog_11_method_49_code 47 = .ok (.istore_n 0, 1) := by decide +kernel
theorem dJ_bitCount_48 : decode prog_11_method_49_code 48 = .ok (.iload_n 0, 1) := by decide +kernel
theorem dJ_bitCount_49 : decode prog_11_method_49_code 49 = .ok (.bipush 63, 2) := by decide +kernel
theorem dJ_bitCount_51 : decode prog_11_method_49_code 51 = .ok (.iand, 1) := by decide +kernel
theorem dJ_bitCount_52 : decode prog_11_method_49_code 52 = .ok (.ireturn, 1) := by decide +kernel
theorem d7_howManyThere_0 : decode prog_1_method_63_code 0 = .ok (.iconst 0, 1) := by decide +kernel
theorem d7_howManyThere_1 : decode prog_1_method_63_code 1 = .ok (.istore_n 1, 1) := by decide +kernel
theorem d7_howManyThere_2 : decode prog_1_method_63_code 2 = .ok (.iconst 0, 1) := by decide +kernel
theorem d7_howManyThere_3 : decode prog_1_method_63_code 3 = .ok (.istore_n 2, 1) := by decide +kernel
theorem d7_howManyThere_4 : decode prog_1_method_63_code 4 = .ok (.iload_n 2, 1) := by decide +kernel
theorem d7_howManyThere_5 : decode prog_1_method_63_code 5 = .ok (.aload_n 0, 1) := by decide +kernel
theorem d7_howManyThere_6 : decode prog_1_method_63_code 6 = .ok (.arraylength, 1) := by decide +kernel
theorem d7_howManyThere_7 : decode prog_1_method_63_code 7 = .ok (.if_icmp .ge 24, 3) := by decide +kernel
theorem d7_howManyThere_10 : decode prog_1_method_63_code 10 = .ok (.iload_n 1, 1) := by decide +kernel
theorem d7_howManyThere_11 : decode prog_1_method_63_code 11 = .ok (.aload_n 0, 1) := by decide +kernel
theorem d7_howManyThere_12 : decode prog_1_method_63_code 12 = .ok (.iload_n 2, 1) := by decide +kernel
theorem d7_howManyThere_13 : decode prog_1_method_63_code 13 = .ok (.iaload, 1) := by decide +kernel
theorem d7_howManyThere_14 : decode prog_1_method_63_code 14 = .ok (.iconst (-1), 1) := by decide +kernel
theorem d7_howManyThere_15 : decode prog_1_method_63_code 15 = .ok (.if_icmp .eq 7, 3) := by decide +kernel
theorem d7_howManyThere_18 : decode prog_1_method_63_code 18 = .ok (.iconst 1, 1) := by decide +kernel
theorem d7_howManyThere_19 : decode prog_1_method_63_code 19 = .ok (.goto 4, 3) := by decide +kernel
theorem d7_howManyThere_22 : decode prog_1_method_63_code 22 = .ok (.iconst 0, 1) := by decide +kernel
theorem d7_howManyThere_23 : decode prog_1_method_63_code 23 = .ok (.iadd, 1) := by decide +kernel
theorem d7_howManyThere_24 : decode prog_1_method_63_code 24 = .ok (.istore_n 1, 1) := by decide +kernel
theorem d7_howManyThere_25 : decode prog_1_method_63_code 25 = .ok (.iinc 2 1, 3) := by decide +kernel
theorem d7_howManyThere_28 : decode prog_1_method_63_code 28 = .ok (.goto (-24), 3) := by decide +kernel
theorem d7_howManyThere_31 : decode prog_1_method_63_code 31 = .ok (.iload_n 1, 1) := by decide +kernel
theorem d7_howManyThere_32 : decode prog_1_method_63_code 32 = .ok (.ireturn, 1) := by decide +kernel
theorem d7_count_0 : decode prog_1_method_44_code 0 = .ok (.iload_n 1, 1) := by decide +kernel
theorem d7_count_1 : decode prog_1_method_44_code 1 = .ok (.tableswitch 99 0 6 #[43, 51, 56, 64, 72, 83, 91], 43) := by decide +kernel
theorem d7_count_44 : decode prog_1_method_44_code 44 = .ok (.aload_n 0, 1) := by decide +kernel
theorem d7_count_45 : decode prog_1_method_44_code 45 = .ok (.getfield 37, 3) := by decide +kernel
theorem d7_count_48 : decode prog_1_method_44_code 48 = .ok (.getfield 134, 3) := by decide +kernel
theorem d7_count_51 : decode prog_1_method_44_code 51 = .ok (.ireturn, 1) := by decide +kernel
theorem d7_count_52 : decode prog_1_method_44_code 52 = .ok (.aload_n 0, 1) := by decide +kernel
theorem d7_count_53 : decode prog_1_method_44_code 53 = .ok (.invokevirtual 323, 3) := by decide +kernel
theorem d7_count_56 : decode prog_1_method_44_code 56 = .ok (.ireturn, 1) := by decide +kernel
theorem d7_count_57 : decode prog_1_method_44_code 57 = .ok (.aload_n 0, 1) := by decide +kernel
theorem d7_count_58 : decode prog_1_method_44_code 58 = .ok (.getfield 42, 3) := by decide +kernel
theorem d7_count_61 : decode prog_1_method_44_code 61 = .ok (.getfield 175, 3) := by decide +kernel
theorem d7_count_64 : decode prog_1_method_44_code 64 = .ok (.ireturn, 1) := by decide +kernel
theorem d7_count_65 : decode prog_1_method_44_code 65 = .ok (.aload_n 0, 1) := by decide +kernel
theorem d7_count_66 : decode prog_1_method_44_code 66 = .ok (.getfield 42, 3) := by decide +kernel
theorem d7_count_69 : decode prog_1_method_44_code 69 = .ok (.invokevirtual 326, 3) := by decide +kernel
theorem d7_count_72 : decode prog_1_method_44_code 72 = .ok (.ireturn, 1) := by decide +kernel
theorem d7_count_73 : decode prog_1_method_44_code 73 = .ok (.aload_n 0, 1) := by decide +kernel
theorem d7_count_74 : decode prog_1_method_44_code 74 = .ok (.getfield 42, 3) := by decide +kernel
theorem d7_count_77 : decode prog_1_method_44_code 77 = .ok (.invokevirtual 308, 3) := by decide +kernel
theorem d7_count_80 : decode prog_1_method_44_code 80 = .ok (.invokestatic 329, 3) := by decide +kernel
theorem d7_count_83 : decode prog_1_method_44_code 83 = .ok (.ireturn, 1) := by decide +kernel
theorem d7_count_84 : decode prog_1_method_44_code 84 = .ok (.aload_n 0, 1) := by decide +kernel
theorem d7_count_85 : decode prog_1_method_44_code 85 = .ok (.getfield 14, 3) := by decide +kernel
theorem d7_count_88 : decode prog_1_method_44_code 88 = .ok (.invokestatic 334, 3) := by decide +kernel
theorem d7_count_91 : decode prog_1_method_44_code 91 = .ok (.ireturn, 1) := by decide +kernel
theorem d7_count_92 : decode prog_1_method_44_code 92 = .ok (.aload_n 0, 1) := by decide +kernel
theorem d7_count_93 : decode prog_1_method_44_code 93 = .ok (.getfield 23, 3) := by decide +kernel
theorem d7_count_96 : decode prog_1_method_44_code 96 = .ok (.invokestatic 334, 3) := by decide +kernel
theorem d7_count_99 : decode prog_1_method_44_code 99 = .ok (.ireturn, 1) := by decide +kernel
theorem d7_count_100 : decode prog_1_method_44_code 100 = .ok (.iconst (-1), 1) := by decide +kernel
theorem d7_count_101 : decode prog_1_method_44_code 101 = .ok (.ireturn, 1) := by decide +kernel
theorem d8_countsOf_0 : decode prog_10_method_99_code 0 = .ok (.iconst 0, 1) := by decide +kernel
theorem d8_countsOf_1 : decode prog_10_method_99_code 1 = .ok (.istore_n 2, 1) := by decide +kernel
theorem d8_countsOf_2 : decode prog_10_method_99_code 2 = .ok (.iconst 0, 1) := by decide +kernel
theorem d8_countsOf_3 : decode prog_10_method_99_code 3 = .ok (.istore_n 3, 1) := by decide +kernel
theorem d8_countsOf_4 : decode prog_10_method_99_code 4 = .ok (.iload_n 3, 1) := by decide +kernel
theorem d8_countsOf_5 : decode prog_10_method_99_code 5 = .ok (.bipush 6, 2) := by decide +kernel
theorem d8_countsOf_7 : decode prog_10_method_99_code 7 = .ok (.if_icmp .ge 70, 3) := by decide +kernel
theorem d8_countsOf_10 : decode prog_10_method_99_code 10 = .ok (.iload_n 2, 1) := by decide +kernel
theorem d8_countsOf_11 : decode prog_10_method_99_code 11 = .ok (.iload_n 1, 1) := by decide +kernel
theorem d8_countsOf_12 : decode prog_10_method_99_code 12 = .ok (.iconst 1, 1) := by decide +kernel
theorem d8_countsOf_13 : decode prog_10_method_99_code 13 = .ok (.if_icmp .ne 17, 3) := by decide +kernel
theorem d8_countsOf_16 : decode prog_10_method_99_code 16 = .ok (.iload_n 3, 1) := by decide +kernel
theorem d8_countsOf_17 : decode prog_10_method_99_code 17 = .ok (.iconst 4, 1) := by decide +kernel
theorem d8_countsOf_18 : decode prog_10_method_99_code 18 = .ok (.if_icmp .ge 12, 3) := by decide +kernel
theorem d8_countsOf_21 : decode prog_10_method_99_code 21 = .ok (.aload_n 0, 1) := by decide +kernel
theorem d8_countsOf_22 : decode prog_10_method_99_code 22 = .ok (.getfield 35, 3) := by decide +kernel
theorem d8_countsOf_25 : decode prog_10_method_99_code 25 = .ok (.iload_n 3, 1) := by decide +kernel
theorem d8_countsOf_26 : decode prog_10_method_99_code 26 = .ok (.baload, 1) := by decide +kernel
theorem d8_countsOf_27 : decode prog_10_method_99_code 27 = .ok (.ifCond .ne 37, 3) := by decide +kernel
theorem d8_countsOf_30 : decode prog_10_method_99_code 30 = .ok (.iload_n 1, 1) := by decide +kernel
theorem d8_countsOf_31 : decode prog_10_method_99_code 31 = .ok (.iconst 5, 1) := by decide +kernel
theorem d8_countsOf_32 : decode prog_10_method_99_code 32 = .ok (.if_icmp .ne 12, 3) := by decide +kernel
theorem d8_countsOf_35 : decode prog_10_method_99_code 35 = .ok (.aload_n 0, 1) := by decide +kernel
theorem d8_countsOf_36 : decode prog_10_method_99_code 36 = .ok (.getfield 17, 3) := by decide +kernel
theorem d8_countsOf_39 : decode prog_10_method_99_code 39 = .ok (.iload_n 3, 1) := by decide +kernel
theorem d8_countsOf_40 : decode prog_10_method_99_code 40 = .ok (.iaload, 1) := by decide +kernel
theorem d8_countsOf_41 : decode prog_10_method_99_code 41 = .ok (.ifCond .ge 23, 3) := by decide +kernel
theorem d8_countsOf_44 : decode prog_10_method_99_code 44 = .ok (.iload_n 1, 1) := by decide +kernel
theorem d8_countsOf_45 : decode prog_10_method_99_code 45 = .ok (.bipush 6, 2) := by decide +kernel
theorem d8_countsOf_47 : decode prog_10_method_99_code 47 = .ok (.if_icmp .ne 21, 3) := by decide +kernel
theorem d8_countsOf_50 : decode prog_10_method_99_code 50 = .ok (.iload_n 3, 1) := by decide +kernel
theorem d8_countsOf_51 : decode prog_10_method_99_code 51 = .ok (.iconst 4, 1) := by decide +kernel
theorem d8_countsOf_52 : decode prog_10_method_99_code 52 = .ok (.if_icmp .ge 16, 3) := by decide +kernel
theorem d8_countsOf_55 : decode prog_10_method_99_code 55 = .ok (.aload_n 0, 1) := by decide +kernel
theorem d8_countsOf_56 : decode prog_10_method_99_code 56 = .ok (.getfield 26, 3) := by decide +kernel
theorem d8_countsOf_59 : decode prog_10_method_99_code 59 = .ok (.iload_n 3, 1) := by decide +kernel
theorem d8_countsOf_60 : decode prog_10_method_99_code 60 = .ok (.iaload, 1) := by decide +kernel
theorem d8_countsOf_61 : decode prog_10_method_99_code 61 = .ok (.ifCond .lt 7, 3) := by decide +kernel
theorem d8_countsOf_64 : decode prog_10_method_99_code 64 = .ok (.iconst 1, 1) := by decide +kernel
theorem d8_countsOf_65 : decode prog_10_method_99_code 65 = .ok (.goto 4, 3) := by decide +kernel
theorem d8_countsOf_68 : decode prog_10_method_99_code 68 = .ok (.iconst 0, 1) := by decide +kernel
theorem d8_countsOf_69 : decode prog_10_method_99_code 69 = .ok (.iadd, 1) := by decide +kernel
theorem d8_countsOf_70 : decode prog_10_method_99_code 70 = .ok (.istore_n 2, 1) := by decide +kernel
theorem d8_countsOf_71 : decode prog_10_method_99_code 71 = .ok (.iinc 3 1, 3) := by decide +kernel
theorem d8_countsOf_74 : decode prog_10_method_99_code 74 = .ok (.goto (-70), 3) := by decide +kernel
theorem d8_countsOf_77 : decode prog_10_method_99_code 77 = .ok (.iconst 0, 1) := by decide +kernel
theorem d8_countsOf_78 : decode prog_10_method_99_code 78 = .ok (.istore_n 3, 1) := by decide +kernel
theorem d8_countsOf_79 : decode prog_10_method_99_code 79 = .ok (.iload_n 3, 1) := by decide +kernel
theorem d8_countsOf_80 : decode prog_10_method_99_code 80 = .ok (.aload_n 0, 1) := by decide +kernel
theorem d8_countsOf_81 : decode prog_10_method_99_code 81 = .ok (.getfield 161, 3) := by decide +kernel
theorem d8_countsOf_84 : decode prog_10_method_99_code 84 = .ok (.if_icmp .ge 54, 3) := by decide +kernel
theorem d8_countsOf_87 : decode prog_10_method_99_code 87 = .ok (.iload_n 2, 1) := by decide +kernel
theorem d8_countsOf_88 : decode prog_10_method_99_code 88 = .ok (.iload_n 1, 1) := by decide +kernel
theorem d8_countsOf_89 : decode prog_10_method_99_code 89 = .ok (.iconst 2, 1) := by decide +kernel
theorem d8_countsOf_90 : decode prog_10_method_99_code 90 = .ok (.if_icmp .eq 35, 3) := by decide +kernel
theorem d8_countsOf_93 : decode prog_10_method_99_code 93 = .ok (.iload_n 1, 1) := by decide +kernel
theorem d8_countsOf_94 : decode prog_10_method_99_code 94 = .ok (.iconst 3, 1) := by decide +kernel
theorem d8_countsOf_95 : decode prog_10_method_99_code 95 = .ok (.if_icmp .ne 15, 3) := by decide +kernel
theorem d8_countsOf_98 : decode prog_10_method_99_code 98 = .ok (.aload_n 0, 1) := by decide +kernel
theorem d8_countsOf_99 : decode prog_10_method_99_code 99 = .ok (.iload_n 3, 1) := by decide +kernel
theorem d8_countsOf_100 : decode prog_10_method_99_code 100 = .ok (.iconst 0, 1) := by decide +kernel
theorem d8_countsOf_101 : decode prog_10_method_99_code 101 = .ok (.invokevirtual 175, 3) := by decide +kernel
theorem d8_countsOf_104 : decode prog_10_method_99_code 104 = .ok (.invokestatic 257, 3) := by decide +kernel
theorem d8_countsOf_107 : decode prog_10_method_99_code 107 = .ok (.ifCond .ne 18, 3) := by decide +kernel
theorem d8_countsOf_110 : decode prog_10_method_99_code 110 = .ok (.iload_n 1, 1) := by decide +kernel
theorem d8_countsOf_111 : decode prog_10_method_99_code 111 = .ok (.iconst 4, 1) := by decide +kernel
theorem d8_countsOf_112 : decode prog_10_method_99_code 112 = .ok (.if_icmp .ne 17, 3) := by decide +kernel
theorem d8_countsOf_115 : decode prog_10_method_99_code 115 = .ok (.aload_n 0, 1) := by decide +kernel
theorem d8_countsOf_116 : decode prog_10_method_99_code 116 = .ok (.iload_n 3, 1) := by decide +kernel
theorem d8_countsOf_117 : decode prog_10_method_99_code 117 = .ok (.iconst 4, 1) := by decide +kernel
theorem d8_countsOf_118 : decode prog_10_method_99_code 118 = .ok (.invokevirtual 175, 3) := by decide +kernel
theorem d8_countsOf_121 : decode prog_10_method_99_code 121 = .ok (.iconst 1, 1) := by decide +kernel
theorem d8_countsOf_122 : decode prog_10_method_99_code 122 = .ok (.if_icmp .ne 7, 3) := by decide +kernel
theorem d8_countsOf_125 : decode prog_10_method_99_code 125 = .ok (.iconst 1, 1) := by decide +kernel
theorem d8_countsOf_126 : decode prog_10_method_99_code 126 = .ok (.goto 4, 3) := by decide +kernel
theorem d8_countsOf_129 : decode prog_10_method_99_code 129 = .ok (.iconst 0, 1) := by decide +kernel
theorem d8_countsOf_130 : decode prog_10_method_99_code 130 = .ok (.iadd, 1) := by decide +kernel
theorem d8_countsOf_131 : decode prog_10_method_99_code 131 = .ok (.istore_n 2, 1) := by decide +kernel
theorem d8_countsOf_132 : decode prog_10_method_99_code 132 = .ok (.iinc 3 1, 3) := by decide +kernel
theorem d8_countsOf_135 : decode prog_10_method_99_code 135 = .ok (.goto (-56), 3) := by decide +kernel
theorem d8_countsOf_138 : decode prog_10_method_99_code 138 = .ok (.iload_n 1, 1) := by decide +kernel
theorem d8_countsOf_139 : decode prog_10_method_99_code 139 = .ok (.ifCond .ne 10, 3) := by decide +kernel
theorem d8_countsOf_142 : decode prog_10_method_99_code 142 = .ok (.aload_n 0, 1) := by decide +kernel
theorem d8_countsOf_143 : decode prog_10_method_99_code 143 = .ok (.invokevirtual 129, 3) := by decide +kernel
theorem d8_countsOf_146 : decode prog_10_method_99_code 146 = .ok (.goto 4, 3) := by decide +kernel
theorem d8_countsOf_149 : decode prog_10_method_99_code 149 = .ok (.iload_n 2, 1) := by decide +kernel
theorem d8_countsOf_150 : decode prog_10_method_99_code 150 = .ok (.ireturn, 1) := by decide +kernel
theorem d8_count_0 : decode prog_10_method_100_code 0 = .ok (.iload_n 1, 1) := by decide +kernel
theorem d8_count_1 : decode prog_10_method_100_code 1 = .ok (.iconst 0, 1) := by decide +kernel
theorem d8_count_2 : decode prog_10_method_100_code 2 = .ok (.bipush 6, 2) := by decide +kernel
theorem d8_count_4 : decode prog_10_method_100_code 4 = .ok (.invokestatic 80, 3) := by decide +kernel
theorem d8_count_7 : decode prog_10_method_100_code 7 = .ok (.ifCond .eq 11, 3) := by decide +kernel
theorem d8_count_10 : decode prog_10_method_100_code 10 = .ok (.aload_n 0, 1) := by decide +kernel
theorem d8_count_11 : decode prog_10_method_100_code 11 = .ok (.iload_n 1, 1) := by decide +kernel
theorem d8_count_12 : decode prog_10_method_100_code 12 = .ok (.invokevirtual 295, 3) := by decide +kernel
theorem d8_count_15 : decode prog_10_method_100_code 15 = .ok (.goto 4, 3) := by decide +kernel
theorem d8_count_18 : decode prog_10_method_100_code 18 = .ok (.iconst (-1), 1) := by decide +kernel
theorem d8_count_19 : decode prog_10_method_100_code 19 = .ok (.ireturn, 1) := by decide +kernel
theorem d7_finding_0 : decode prog_1_method_45_code 0 = .ok (.aload_n 0, 1) := by decide +kernel
theorem d7_finding_1 : decode prog_1_method_45_code 1 = .ok (.getfield 76, 3) := by decide +kernel
theorem d7_finding_4 : decode prog_1_method_45_code 4 = .ok (.ireturn, 1) := by decide +kernel
theorem d8_finding_0 : decode prog_10_method_101_code 0 = .ok (.aload_n 0, 1) := by decide +kernel
theorem d8_finding_1 : decode prog_10_method_101_code 1 = .ok (.getfield 71, 3) := by decide +kernel
theorem d8_finding_4 : decode prog_10_method_101_code 4 = .ok (.ireturn, 1) := by decide +kernel
theorem d7_findings_0 : decode prog_1_method_46_code 0 = .ok (.iload_n 1, 1) := by decide +kernel
theorem d7_findings_1 : decode prog_1_method_46_code 1 = .ok (.iconst 1, 1) := by decide +kernel
theorem d7_findings_2 : decode prog_1_method_46_code 2 = .ok (.if_icmp .lt 8, 3) := by decide +kernel
theorem d7_findings_5 : decode prog_1_method_46_code 5 = .ok (.iload_n 1, 1) := by decide +kernel
theorem d7_findings_6 : decode prog_1_method_46_code 6 = .ok (.iconst 5, 1) := by decide +kernel
theorem d7_findings_7 : decode prog_1_method_46_code 7 = .ok (.if_icmp .le 5, 3) := by decide +kernel
theorem d7_findings_10 : decode prog_1_method_46_code 10 = .ok (.iconst (-1), 1) := by decide +kernel
theorem d7_findings_11 : decode prog_1_method_46_code 11 = .ok (.ireturn, 1) := by decide +kernel
theorem d7_findings_12 : decode prog_1_method_46_code 12 = .ok (.aload_n 0, 1) := by decide +kernel
theorem d7_findings_13 : decode prog_1_method_46_code 13 = .ok (.getfield 79, 3) := by decide +kernel
theorem d7_findings_16 : decode prog_1_method_46_code 16 = .ok (.iload_n 1, 1) := by decide +kernel
theorem d7_findings_17 : decode prog_1_method_46_code 17 = .ok (.iaload, 1) := by decide +kernel
theorem d7_findings_18 : decode prog_1_method_46_code 18 = .ok (.ireturn, 1) := by decide +kernel
theorem d8_findings_0 : decode prog_10_method_102_code 0 = .ok (.iload_n 1, 1) := by decide +kernel
theorem d8_findings_1 : decode prog_10_method_102_code 1 = .ok (.iconst 1, 1) := by decide +kernel
theorem d8_findings_2 : decode prog_10_method_102_code 2 = .ok (.iconst 5, 1) := by decide +kernel
theorem d8_findings_3 : decode prog_10_method_102_code 3 = .ok (.invokestatic 80, 3) := by decide +kernel
theorem d8_findings_6 : decode prog_10_method_102_code 6 = .ok (.ifCond .eq 12, 3) := by decide +kernel
theorem d8_findings_9 : decode prog_10_method_102_code 9 = .ok (.aload_n 0, 1) := by decide +kernel
theorem d8_findings_10 : decode prog_10_method_102_code 10 = .ok (.getfield 7, 3) := by decide +kernel
theorem d8_findings_13 : decode prog_10_method_102_code 13 = .ok (.iload_n 1, 1) := by decide +kernel
theorem d8_findings_14 : decode prog_10_method_102_code 14 = .ok (.iaload, 1) := by decide +kernel
theorem d8_findings_15 : decode prog_10_method_102_code 15 = .ok (.goto 4, 3) := by decide +kernel
theorem d8_findings_18 : decode prog_10_method_102_code 18 = .ok (.iconst (-1), 1) := by decide +kernel
theorem d8_findings_19 : decode prog_10_method_102_code 19 = .ok (.ireturn, 1) := by decide +kernel
theorem d7_digestInts_0 : decode prog_1_method_48_code 0 = .ok (.lload_n 0, 1) := by decide +kernel
theorem d7_digestInts_1 : decode prog_1_method_48_code 1 = .ok (.lstore 4, 2) := by decide +kernel
theorem d7_digestInts_3 : decode prog_1_method_48_code 3 = .ok (.iconst 0, 1) := by decide +kernel
theorem d7_digestInts_4 : decode prog_1_method_48_code 4 = .ok (.istore 6, 2) := by decide +kernel
theorem d7_digestInts_6 : decode prog_1_method_48_code 6 = .ok (.iload 6, 2) := by decide +kernel
theorem d7_digestInts_8 : decode prog_1_method_48_code 8 = .ok (.iload_n 3, 1) := by decide +kernel
theorem d7_digestInts_9 : decode prog_1_method_48_code 9 = .ok (.if_icmp .ge 23, 3) := by decide +kernel
theorem d7_digestInts_12 : decode prog_1_method_48_code 12 = .ok (.ldc2_w 340, 3) := by decide +kernel
theorem d7_digestInts_15 : decode prog_1_method_48_code 15 = .ok (.lload 4, 2) := by decide +kernel
theorem d7_digestInts_17 : decode prog_1_method_48_code 17 = .ok (.lmul, 1) := by decide +kernel
theorem d7_digestInts_18 : decode prog_1_method_48_code 18 = .ok (.aload_n 2, 1) := by decide +kernel
theorem d7_digestInts_19 : decode prog_1_method_48_code 19 = .ok (.iload 6, 2) := by decide +kernel
theorem d7_digestInts_21 : decode prog_1_method_48_code 21 = .ok (.iaload, 1) := by decide +kernel
theorem d7_digestInts_22 : decode prog_1_method_48_code 22 = .ok (.i2l, 1) := by decide +kernel
theorem d7_digestInts_23 : decode prog_1_method_48_code 23 = .ok (.ladd, 1) := by decide +kernel
theorem d7_digestInts_24 : decode prog_1_method_48_code 24 = .ok (.lstore 4, 2) := by decide +kernel
theorem d7_digestInts_26 : decode prog_1_method_48_code 26 = .ok (.iinc 6 1, 3) := by decide +kernel
theorem d7_digestInts_29 : decode prog_1_method_48_code 29 = .ok (.goto (-23), 3) := by decide +kernel
theorem d7_digestInts_32 : decode prog_1_method_48_code 32 = .ok (.lload 4, 2) := by decide +kernel
theorem d7_digestInts_34 : decode prog_1_method_48_code 34 = .ok (.lreturn, 1) := by decide +kernel
theorem d7_digest_0 : decode prog_1_method_47_code 0 = .ok (.ldc2_w 338, 3) := by decide +kernel
theorem d7_digest_3 : decode prog_1_method_47_code 3 = .ok (.lstore_n 1, 1) := by decide +kernel
theorem d7_digest_4 : decode prog_1_method_47_code 4 = .ok (.iconst 0, 1) := by decide +kernel
theorem d7_digest_5 : decode prog_1_method_47_code 5 = .ok (.istore_n 3, 1) := by decide +kernel
theorem d7_digest_6 : decode prog_1_method_47_code 6 = .ok (.iload_n 3, 1) := by decide +kernel
theorem d7_digest_7 : decode prog_1_method_47_code 7 = .ok (.bipush 6, 2) := by decide +kernel
theorem d7_digest_9 : decode prog_1_method_47_code 9 = .ok (.if_icmp .gt 22, 3) := by decide +kernel
theorem d7_digest_12 : decode prog_1_method_47_code 12 = .ok (.ldc2_w 340, 3) := by decide +kernel
theorem d7_digest_15 : decode prog_1_method_47_code 15 = .ok (.lload_n 1, 1) := by decide +kernel
theorem d7_digest_16 : decode prog_1_method_47_code 16 = .ok (.lmul, 1) := by decide +kernel
theorem d7_digest_17 : decode prog_1_method_47_code 17 = .ok (.aload_n 0, 1) := by decide +kernel
theorem d7_digest_18 : decode prog_1_method_47_code 18 = .ok (.iload_n 3, 1) := by decide +kernel
theorem d7_digest_19 : decode prog_1_method_47_code 19 = .ok (.invokevirtual 342, 3) := by decide +kernel
theorem d7_digest_22 : decode prog_1_method_47_code 22 = .ok (.i2l, 1) := by decide +kernel
theorem d7_digest_23 : decode prog_1_method_47_code 23 = .ok (.ladd, 1) := by decide +kernel
theorem d7_digest_24 : decode prog_1_method_47_code 24 = .ok (.lstore_n 1, 1) := by decide +kernel
theorem d7_digest_25 : decode prog_1_method_47_code 25 = .ok (.iinc 3 1, 3) := by decide +kernel
theorem d7_digest_28 : decode prog_1_method_47_code 28 = .ok (.goto (-22), 3) := by decide +kernel
theorem d7_digest_31 : decode prog_1_method_47_code 31 = .ok (.iconst 0, 1) := by decide +kernel
theorem d7_digest_32 : decode prog_1_method_47_code 32 = .ok (.istore_n 3, 1) := by decide +kernel
theorem d7_digest_33 : decode prog_1_method_47_code 33 = .ok (.iload_n 3, 1) := by decide +kernel
theorem d7_digest_34 : decode prog_1_method_47_code 34 = .ok (.bipush 15, 2) := by decide +kernel
theorem d7_digest_36 : decode prog_1_method_47_code 36 = .ok (.if_icmp .ge 25, 3) := by decide +kernel
theorem d7_digest_39 : decode prog_1_method_47_code 39 = .ok (.ldc2_w 340, 3) := by decide +kernel
theorem d7_digest_42 : decode prog_1_method_47_code 42 = .ok (.lload_n 1, 1) := by decide +kernel
theorem d7_digest_43 : decode prog_1_method_47_code 43 = .ok (.lmul, 1) := by decide +kernel
theorem d7_digest_44 : decode prog_1_method_47_code 44 = .ok (.aload_n 0, 1) := by decide +kernel
theorem d7_digest_45 : decode prog_1_method_47_code 45 = .ok (.getfield 37, 3) := by decide +kernel
theorem d7_digest_48 : decode prog_1_method_47_code 48 = .ok (.iload_n 3, 1) := by decide +kernel
theorem d7_digest_49 : decode prog_1_method_47_code 49 = .ok (.invokevirtual 147, 3) := by decide +kernel
theorem d7_digest_52 : decode prog_1_method_47_code 52 = .ok (.i2l, 1) := by decide +kernel
theorem d7_digest_53 : decode prog_1_method_47_code 53 = .ok (.ladd, 1) := by decide +kernel
theorem d7_digest_54 : decode prog_1_method_47_code 54 = .ok (.lstore_n 1, 1) := by decide +kernel
theorem d7_digest_55 : decode prog_1_method_47_code 55 = .ok (.iinc 3 1, 3) := by decide +kernel
theorem d7_digest_58 : decode prog_1_method_47_code 58 = .ok (.goto (-25), 3) := by decide +kernel
theorem d7_digest_61 : decode prog_1_method_47_code 61 = .ok (.iconst 0, 1) := by decide +kernel
theorem d7_digest_62 : decode prog_1_method_47_code 62 = .ok (.istore_n 3, 1) := by decide +kernel
theorem d7_digest_63 : decode prog_1_method_47_code 63 = .ok (.iload_n 3, 1) := by decide +kernel
theorem d7_digest_64 : decode prog_1_method_47_code 64 = .ok (.iconst 3, 1) := by decide +kernel
theorem d7_digest_65 : decode prog_1_method_47_code 65 = .ok (.if_icmp .ge 43, 3) := by decide +kernel
theorem d7_digest_68 : decode prog_1_method_47_code 68 = .ok (.aload_n 0, 1) := by decide +kernel
theorem d7_digest_69 : decode prog_1_method_47_code 69 = .ok (.getfield 47, 3) := by decide +kernel
theorem d7_digest_72 : decode prog_1_method_47_code 72 = .ok (.iload_n 3, 1) := by decide +kernel
theorem d7_digest_73 : decode prog_1_method_47_code 73 = .ok (.baload, 1) := by decide +kernel
theorem d7_digest_74 : decode prog_1_method_47_code 74 = .ok (.ifCond .eq 18, 3) := by decide +kernel
theorem d7_digest_77 : decode prog_1_method_47_code 77 = .ok (.lload_n 1, 1) := by decide +kernel
theorem d7_digest_78 : decode prog_1_method_47_code 78 = .ok (.aload_n 0, 1) := by decide +kernel
theorem d7_digest_79 : decode prog_1_method_47_code 79 = .ok (.getfield 46, 3) := by decide +kernel
theorem d7_digest_82 : decode prog_1_method_47_code 82 = .ok (.iload_n 3, 1) := by decide +kernel
theorem d7_digest_83 : decode prog_1_method_47_code 83 = .ok (.aaload, 1) := by decide +kernel
theorem d7_digest_84 : decode prog_1_method_47_code 84 = .ok (.bipush 120, 2) := by decide +kernel
theorem d7_digest_86 : decode prog_1_method_47_code 86 = .ok (.invokestatic 345, 3) := by decide +kernel
theorem d7_digest_89 : decode prog_1_method_47_code 89 = .ok (.goto 12, 3) := by decide +kernel
theorem d7_digest_92 : decode prog_1_method_47_code 92 = .ok (.ldc2_w 340, 3) := by decide +kernel
theorem d7_digest_95 : decode prog_1_method_47_code 95 = .ok (.lload_n 1, 1) := by decide +kernel
theorem d7_digest_96 : decode prog_1_method_47_code 96 = .ok (.lmul, 1) := by decide +kernel
theorem d7_digest_97 : decode prog_1_method_47_code 97 = .ok (.ldc2_w 349, 3) := by decide +kernel
theorem d7_digest_100 : decode prog_1_method_47_code 100 = .ok (.ladd, 1) := by decide +kernel
theorem d7_digest_101 : decode prog_1_method_47_code 101 = .ok (.lstore_n 1, 1) := by decide +kernel
theorem d7_digest_102 : decode prog_1_method_47_code 102 = .ok (.iinc 3 1, 3) := by decide +kernel
theorem d7_digest_105 : decode prog_1_method_47_code 105 = .ok (.goto (-42), 3) := by decide +kernel
theorem d7_digest_108 : decode prog_1_method_47_code 108 = .ok (.iconst 0, 1) := by decide +kernel
theorem d7_digest_109 : decode prog_1_method_47_code 109 = .ok (.istore_n 3, 1) := by decide +kernel
theorem d7_digest_110 : decode prog_1_method_47_code 110 = .ok (.iload_n 3, 1) := by decide +kernel
theorem d7_digest_111 : decode prog_1_method_47_code 111 = .ok (.aload_n 0, 1) := by decide +kernel
theorem d7_digest_112 : decode prog_1_method_47_code 112 = .ok (.getfield 42, 3) := by decide +kernel
theorem d7_digest_115 : decode prog_1_method_47_code 115 = .ok (.getfield 175, 3) := by decide +kernel
theorem d7_digest_118 : decode prog_1_method_47_code 118 = .ok (.if_icmp .ge 46, 3) := by decide +kernel
theorem d7_digest_121 : decode prog_1_method_47_code 121 = .ok (.iconst 0, 1) := by decide +kernel
theorem d7_digest_122 : decode prog_1_method_47_code 122 = .ok (.istore 4, 2) := by decide +kernel
theorem d7_digest_124 : decode prog_1_method_47_code 124 = .ok (.iload 4, 2) := by decide +kernel
theorem d7_digest_126 : decode prog_1_method_47_code 126 = .ok (.iconst 4, 1) := by decide +kernel
theorem d7_digest_127 : decode prog_1_method_47_code 127 = .ok (.if_icmp .gt 31, 3) := by decide +kernel
theorem d7_digest_130 : decode prog_1_method_47_code 130 = .ok (.ldc2_w 340, 3) := by decide +kernel
theorem d7_digest_133 : decode prog_1_method_47_code 133 = .ok (.lload_n 1, 1) := by decide +kernel
theorem d7_digest_134 : decode prog_1_method_47_code 134 = .ok (.lmul, 1) := by decide +kernel
theorem d7_digest_135 : decode prog_1_method_47_code 135 = .ok (.aload_n 0, 1) := by decide +kernel
theorem d7_digest_136 : decode prog_1_method_47_code 136 = .ok (.getfield 42, 3) := by decide +kernel
theorem d7_digest_139 : decode prog_1_method_47_code 139 = .ok (.getfield 187, 3) := by decide +kernel
theorem d7_digest_142 : decode prog_1_method_47_code 142 = .ok (.iload_n 3, 1) := by decide +kernel
theorem d7_digest_143 : decode prog_1_method_47_code 143 = .ok (.aaload, 1) := by decide +kernel
theorem d7_digest_144 : decode prog_1_method_47_code 144 = .ok (.iload 4, 2) := by decide +kernel
theorem d7_digest_146 : decode prog_1_method_47_code 146 = .ok (.invokevirtual 195, 3) := by decide +kernel
theorem d7_digest_149 : decode prog_1_method_47_code 149 = .ok (.i2l, 1) := by decide +kernel
theorem d7_digest_150 : decode prog_1_method_47_code 150 = .ok (.ladd, 1) := by decide +kernel
theorem d7_digest_151 : decode prog_1_method_47_code 151 = .ok (.lstore_n 1, 1) := by decide +kernel
theorem d7_digest_152 : decode prog_1_method_47_code 152 = .ok (.iinc 4 1, 3) := by decide +kernel
theorem d7_digest_155 : decode prog_1_method_47_code 155 = .ok (.goto (-31), 3) := by decide +kernel
theorem d7_digest_158 : decode prog_1_method_47_code 158 = .ok (.iinc 3 1, 3) := by decide +kernel
theorem d7_digest_161 : decode prog_1_method_47_code 161 = .ok (.goto (-51), 3) := by decide +kernel
theorem d7_digest_164 : decode prog_1_method_47_code 164 = .ok (.iconst 0, 1) := by decide +kernel
theorem d7_digest_165 : decode prog_1_method_47_code 165 = .ok (.istore_n 3, 1) := by decide +kernel
theorem d7_digest_166 : decode prog_1_method_47_code 166 = .ok (.iload_n 3, 1) := by decide +kernel
theorem d7_digest_167 : decode prog_1_method_47_code 167 = .ok (.bipush 6, 2) := by decide +kernel
theorem d7_digest_169 : decode prog_1_method_47_code 169 = .ok (.if_icmp .ge 38, 3) := by decide +kernel
theorem d7_digest_172 : decode prog_1_method_47_code 172 = .ok (.ldc2_w 340, 3) := by decide +kernel
theorem d7_digest_175 : decode prog_1_method_47_code 175 = .ok (.lload_n 1, 1) := by decide +kernel
theorem d7_digest_176 : decode prog_1_method_47_code 176 = .ok (.lmul, 1) := by decide +kernel
theorem d7_digest_177 : decode prog_1_method_47_code 177 = .ok (.aload_n 0, 1) := by decide +kernel
theorem d7_digest_178 : decode prog_1_method_47_code 178 = .ok (.getfield 14, 3) := by decide +kernel
theorem d7_digest_181 : decode prog_1_method_47_code 181 = .ok (.iload_n 3, 1) := by decide +kernel
theorem d7_digest_182 : decode prog_1_method_47_code 182 = .ok (.iaload, 1) := by decide +kernel
theorem d7_digest_183 : decode prog_1_method_47_code 183 = .ok (.i2l, 1) := by decide +kernel
theorem d7_digest_184 : decode prog_1_method_47_code 184 = .ok (.ladd, 1) := by decide +kernel
theorem d7_digest_185 : decode prog_1_method_47_code 185 = .ok (.aload_n 0, 1) := by decide +kernel
theorem d7_digest_186 : decode prog_1_method_47_code 186 = .ok (.getfield 11, 3) := by decide +kernel
theorem d7_digest_189 : decode prog_1_method_47_code 189 = .ok (.iload_n 3, 1) := by decide +kernel
theorem d7_digest_190 : decode prog_1_method_47_code 190 = .ok (.aaload, 1) := by decide +kernel
theorem d7_digest_191 : decode prog_1_method_47_code 191 = .ok (.aload_n 0, 1) := by decide +kernel
theorem d7_digest_192 : decode prog_1_method_47_code 192 = .ok (.getfield 14, 3) := by decide +kernel
theorem d7_digest_195 : decode prog_1_method_47_code 195 = .ok (.iload_n 3, 1) := by decide +kernel
theorem d7_digest_196 : decode prog_1_method_47_code 196 = .ok (.iaload, 1) := by decide +kernel
theorem d7_digest_197 : decode prog_1_method_47_code 197 = .ok (.invokestatic 345, 3) := by decide +kernel
theorem d7_digest_200 : decode prog_1_method_47_code 200 = .ok (.lstore_n 1, 1) := by decide +kernel
theorem d7_digest_201 : decode prog_1_method_47_code 201 = .ok (.iinc 3 1, 3) := by decide +kernel
theorem d7_digest_204 : decode prog_1_method_47_code 204 = .ok (.goto (-38), 3) := by decide +kernel
theorem d7_digest_207 : decode prog_1_method_47_code 207 = .ok (.iconst 0, 1) := by decide +kernel
theorem d7_digest_208 : decode prog_1_method_47_code 208 = .ok (.istore_n 3, 1) := by decide +kernel
theorem d7_digest_209 : decode prog_1_method_47_code 209 = .ok (.iload_n 3, 1) := by decide +kernel
theorem d7_digest_210 : decode prog_1_method_47_code 210 = .ok (.iconst 4, 1) := by decide +kernel
theorem d7_digest_211 : decode prog_1_method_47_code 211 = .ok (.if_icmp .ge 60, 3) := by decide +kernel
theorem d7_digest_214 : decode prog_1_method_47_code 214 = .ok (.ldc2_w 340, 3) := by decide +kernel
theorem d7_digest_217 : decode prog_1_method_47_code 217 = .ok (.lload_n 1, 1) := by decide +kernel
theorem d7_digest_218 : decode prog_1_method_47_code 218 = .ok (.lmul, 1) := by decide +kernel
theorem d7_digest_219 : decode prog_1_method_47_code 219 = .ok (.aload_n 0, 1) := by decide +kernel
theorem d7_digest_220 : decode prog_1_method_47_code 220 = .ok (.getfield 23, 3) := by decide +kernel
theorem d7_digest_223 : decode prog_1_method_47_code 223 = .ok (.iload_n 3, 1) := by decide +kernel
theorem d7_digest_224 : decode prog_1_method_47_code 224 = .ok (.iaload, 1) := by decide +kernel
theorem d7_digest_225 : decode prog_1_method_47_code 225 = .ok (.i2l, 1) := by decide +kernel
theorem d7_digest_226 : decode prog_1_method_47_code 226 = .ok (.ladd, 1) := by decide +kernel
theorem d7_digest_227 : decode prog_1_method_47_code 227 = .ok (.lstore_n 1, 1) := by decide +kernel
theorem d7_digest_228 : decode prog_1_method_47_code 228 = .ok (.iconst 0, 1) := by decide +kernel
theorem d7_digest_229 : decode prog_1_method_47_code 229 = .ok (.istore 4, 2) := by decide +kernel
theorem d7_digest_231 : decode prog_1_method_47_code 231 = .ok (.iload 4, 2) := by decide +kernel
theorem d7_digest_233 : decode prog_1_method_47_code 233 = .ok (.aload_n 0, 1) := by decide +kernel
theorem d7_digest_234 : decode prog_1_method_47_code 234 = .ok (.getfield 23, 3) := by decide +kernel
theorem d7_digest_237 : decode prog_1_method_47_code 237 = .ok (.iload_n 3, 1) := by decide +kernel
theorem d7_digest_238 : decode prog_1_method_47_code 238 = .ok (.iaload, 1) := by decide +kernel
theorem d7_digest_239 : decode prog_1_method_47_code 239 = .ok (.if_icmp .ge 26, 3) := by decide +kernel
theorem d7_digest_242 : decode prog_1_method_47_code 242 = .ok (.ldc2_w 340, 3) := by decide +kernel
theorem d7_digest_245 : decode prog_1_method_47_code 245 = .ok (.lload_n 1, 1) := by decide +kernel
theorem d7_digest_246 : decode prog_1_method_47_code 246 = .ok (.lmul, 1) := by decide +kernel
theorem d7_digest_247 : decode prog_1_method_47_code 247 = .ok (.aload_n 0, 1) := by decide +kernel
theorem d7_digest_248 : decode prog_1_method_47_code 248 = .ok (.getfield 20, 3) := by decide +kernel
theorem d7_digest_251 : decode prog_1_method_47_code 251 = .ok (.iload_n 3, 1) := by decide +kernel
theorem d7_digest_252 : decode prog_1_method_47_code 252 = .ok (.aaload, 1) := by decide +kernel
theorem d7_digest_253 : decode prog_1_method_47_code 253 = .ok (.iload 4, 2) := by decide +kernel
theorem d7_digest_255 : decode prog_1_method_47_code 255 = .ok (.baload, 1) := by decide +kernel
theorem d7_digest_256 : decode prog_1_method_47_code 256 = .ok (.i2l, 1) := by decide +kernel
theorem d7_digest_257 : decode prog_1_method_47_code 257 = .ok (.ladd, 1) := by decide +kernel
theorem d7_digest_258 : decode prog_1_method_47_code 258 = .ok (.lstore_n 1, 1) := by decide +kernel
theorem d7_digest_259 : decode prog_1_method_47_code 259 = .ok (.iinc 4 1, 3) := by decide +kernel
theorem d7_digest_262 : decode prog_1_method_47_code 262 = .ok (.goto (-31), 3) := by decide +kernel
theorem d7_digest_265 : decode prog_1_method_47_code 265 = .ok (.iinc 3 1, 3) := by decide +kernel
theorem d7_digest_268 : decode prog_1_method_47_code 268 = .ok (.goto (-59), 3) := by decide +kernel
theorem d7_digest_271 : decode prog_1_method_47_code 271 = .ok (.lload_n 1, 1) := by decide +kernel
theorem d7_digest_272 : decode prog_1_method_47_code 272 = .ok (.lreturn, 1) := by decide +kernel
theorem d8_mix_0 : decode prog_10_method_103_code 0 = .ok (.aload_n 0, 1) := by decide +kernel
theorem d8_mix_1 : decode prog_10_method_103_code 1 = .ok (.ldc2_w 298, 3) := by decide +kernel
theorem d8_mix_4 : decode prog_10_method_103_code 4 = .ok (.aload_n 0, 1) := by decide +kernel
theorem d8_mix_5 : decode prog_10_method_103_code 5 = .ok (.getfield 300, 3) := by decide +kernel
theorem d8_mix_8 : decode prog_10_method_103_code 8 = .ok (.lmul, 1) := by decide +kernel
theorem d8_mix_9 : decode prog_10_method_103_code 9 = .ok (.iload_n 1, 1) := by decide +kernel
theorem d8_mix_10 : decode prog_10_method_103_code 10 = .ok (.i2l, 1) := by decide +kernel
theorem d8_mix_11 : decode prog_10_method_103_code 11 = .ok (.ladd, 1) := by decide +kernel
theorem d8_mix_12 : decode prog_10_method_103_code 12 = .ok (.putfield 300, 3) := by decide +kernel
theorem d8_mix_15 : decode prog_10_method_103_code 15 = .ok (.return_, 1) := by decide +kernel
theorem d8_mixFlight_0 : decode prog_10_method_104_code 0 = .ok (.iconst 0, 1) := by decide +kernel
theorem d8_mixFlight_1 : decode prog_10_method_104_code 1 = .ok (.istore_n 1, 1) := by decide +kernel
theorem d8_mixFlight_2 : decode prog_10_method_104_code 2 = .ok (.iload_n 1, 1) := by decide +kernel
theorem d8_mixFlight_3 : decode prog_10_method_104_code 3 = .ok (.bipush 15, 2) := by decide +kernel
theorem d8_mixFlight_5 : decode prog_10_method_104_code 5 = .ok (.if_icmp .ge 19, 3) := by decide +kernel
theorem d8_mixFlight_8 : decode prog_10_method_104_code 8 = .ok (.aload_n 0, 1) := by decide +kernel
theorem d8_mixFlight_9 : decode prog_10_method_104_code 9 = .ok (.aload_n 0, 1) := by decide +kernel
theorem d8_mixFlight_10 : decode prog_10_method_104_code 10 = .ok (.getfield 32, 3) := by decide +kernel
theorem d8_mixFlight_13 : decode prog_10_method_104_code 13 = .ok (.iload_n 1, 1) := by decide +kernel
theorem d8_mixFlight_14 : decode prog_10_method_104_code 14 = .ok (.iaload, 1) := by decide +kernel
theorem d8_mixFlight_15 : decode prog_10_method_104_code 15 = .ok (.invokevirtual 303, 3) := by decide +kernel
theorem d8_mixFlight_18 : decode prog_10_method_104_code 18 = .ok (.iinc 1 1, 3) := by decide +kernel
theorem d8_mixFlight_21 : decode prog_10_method_104_code 21 = .ok (.goto (-19), 3) := by decide +kernel
theorem d8_mixFlight_24 : decode prog_10_method_104_code 24 = .ok (.iconst 1, 1) := by decide +kernel
theorem d8_mixFlight_25 : decode prog_10_method_104_code 25 = .ok (.istore_n 1, 1) := by decide +kernel
theorem d8_mixFlight_26 : decode prog_10_method_104_code 26 = .ok (.iload_n 1, 1) := by decide +kernel
theorem d8_mixFlight_27 : decode prog_10_method_104_code 27 = .ok (.iconst 4, 1) := by decide +kernel
theorem d8_mixFlight_28 : decode prog_10_method_104_code 28 = .ok (.if_icmp .ge 61, 3) := by decide +kernel
theorem d8_mixFlight_31 : decode prog_10_method_104_code 31 = .ok (.aload_n 0, 1) := by decide +kernel
theorem d8_mixFlight_32 : decode prog_10_method_104_code 32 = .ok (.getfield 35, 3) := by decide +kernel
theorem d8_mixFlight_35 : decode prog_10_method_104_code 35 = .ok (.iload_n 1, 1) := by decide +kernel
theorem d8_mixFlight_36 : decode prog_10_method_104_code 36 = .ok (.baload, 1) := by decide +kernel
theorem d8_mixFlight_37 : decode prog_10_method_104_code 37 = .ok (.ifCond .ne 8, 3) := by decide +kernel
theorem d8_mixFlight_40 : decode prog_10_method_104_code 40 = .ok (.aload_n 0, 1) := by decide +kernel
theorem d8_mixFlight_41 : decode prog_10_method_104_code 41 = .ok (.iconst (-1), 1) := by decide +kernel
theorem d8_mixFlight_42 : decode prog_10_method_104_code 42 = .ok (.invokevirtual 303, 3) := by decide +kernel
theorem d8_mixFlight_45 : decode prog_10_method_104_code 45 = .ok (.iconst 0, 1) := by decide +kernel
theorem d8_mixFlight_46 : decode prog_10_method_104_code 46 = .ok (.istore_n 2, 1) := by decide +kernel
theorem d8_mixFlight_47 : decode prog_10_method_104_code 47 = .ok (.iload_n 2, 1) := by decide +kernel
theorem d8_mixFlight_48 : decode prog_10_method_104_code 48 = .ok (.bipush 120, 2) := by decide +kernel
theorem d8_mixFlight_50 : decode prog_10_method_104_code 50 = .ok (.if_icmp .ge 33, 3) := by decide +kernel
theorem d8_mixFlight_53 : decode prog_10_method_104_code 53 = .ok (.aload_n 0, 1) := by decide +kernel
theorem d8_mixFlight_54 : decode prog_10_method_104_code 54 = .ok (.getfield 35, 3) := by decide +kernel
theorem d8_mixFlight_57 : decode prog_10_method_104_code 57 = .ok (.iload_n 1, 1) := by decide +kernel
theorem d8_mixFlight_58 : decode prog_10_method_104_code 58 = .ok (.baload, 1) := by decide +kernel
theorem d8_mixFlight_59 : decode prog_10_method_104_code 59 = .ok (.ifCond .eq 24, 3) := by decide +kernel
theorem d8_mixFlight_62 : decode prog_10_method_104_code 62 = .ok (.aload_n 0, 1) := by decide +kernel
theorem d8_mixFlight_63 : decode prog_10_method_104_code 63 = .ok (.aload_n 0, 1) := by decide +kernel
theorem d8_mixFlight_64 : decode prog_10_method_104_code 64 = .ok (.getfield 39, 3) := by decide +kernel
theorem d8_mixFlight_67 : decode prog_10_method_104_code 67 = .ok (.bipush 120, 2) := by decide +kernel
theorem d8_mixFlight_69 : decode prog_10_method_104_code 69 = .ok (.iload_n 1, 1) := by decide +kernel
theorem d8_mixFlight_70 : decode prog_10_method_104_code 70 = .ok (.imul, 1) := by decide +kernel
theorem d8_mixFlight_71 : decode prog_10_method_104_code 71 = .ok (.iload_n 2, 1) := by decide +kernel
theorem d8_mixFlight_72 : decode prog_10_method_104_code 72 = .ok (.iadd, 1) := by decide +kernel
theorem d8_mixFlight_73 : decode prog_10_method_104_code 73 = .ok (.iaload, 1) := by decide +kernel
theorem d8_mixFlight_74 : decode prog_10_method_104_code 74 = .ok (.invokevirtual 303, 3) := by decide +kernel
theorem d8_mixFlight_77 : decode prog_10_method_104_code 77 = .ok (.iinc 2 1, 3) := by decide +kernel
theorem d8_mixFlight_80 : decode prog_10_method_104_code 80 = .ok (.goto (-33), 3) := by decide +kernel
theorem d8_mixFlight_83 : decode prog_10_method_104_code 83 = .ok (.iinc 1 1, 3) := by decide +kernel
theorem d8_mixFlight_86 : decode prog_10_method_104_code 86 = .ok (.goto (-60), 3) := by decide +kernel
theorem d8_mixFlight_89 : decode prog_10_method_104_code 89 = .ok (.iconst 0, 1) := by decide +kernel
theorem d8_mixFlight_90 : decode prog_10_method_104_code 90 = .ok (.istore_n 1, 1) := by decide +kernel
theorem d8_mixFlight_91 : decode prog_10_method_104_code 91 = .ok (.iload_n 1, 1) := by decide +kernel
theorem d8_mixFlight_92 : decode prog_10_method_104_code 92 = .ok (.iconst 5, 1) := by decide +kernel
theorem d8_mixFlight_93 : decode prog_10_method_104_code 93 = .ok (.aload_n 0, 1) := by decide +kernel
theorem d8_mixFlight_94 : decode prog_10_method_104_code 94 = .ok (.getfield 161, 3) := by decide +kernel
theorem d8_mixFlight_97 : decode prog_10_method_104_code 97 = .ok (.imul, 1) := by decide +kernel
theorem d8_mixFlight_98 : decode prog_10_method_104_code 98 = .ok (.if_icmp .ge 19, 3) := by decide +kernel
theorem d8_mixFlight_101 : decode prog_10_method_104_code 101 = .ok (.aload_n 0, 1) := by decide +kernel
theorem d8_mixFlight_102 : decode prog_10_method_104_code 102 = .ok (.aload_n 0, 1) := by decide +kernel
theorem d8_mixFlight_103 : decode prog_10_method_104_code 103 = .ok (.getfield 45, 3) := by decide +kernel
theorem d8_mixFlight_106 : decode prog_10_method_104_code 106 = .ok (.iload_n 1, 1) := by decide +kernel
theorem d8_mixFlight_107 : decode prog_10_method_104_code 107 = .ok (.iaload, 1) := by decide +kernel
theorem d8_mixFlight_108 : decode prog_10_method_104_code 108 = .ok (.invokevirtual 303, 3) := by decide +kernel
theorem d8_mixFlight_111 : decode prog_10_method_104_code 111 = .ok (.iinc 1 1, 3) := by decide +kernel
theorem d8_mixFlight_114 : decode prog_10_method_104_code 114 = .ok (.goto (-23), 3) := by decide +kernel
theorem d8_mixFlight_117 : decode prog_10_method_104_code 117 = .ok (.return_, 1) := by decide +kernel
theorem d8_digest_0 : decode prog_10_method_105_code 0 = .ok (.aload_n 0, 1) := by decide +kernel
theorem d8_digest_1 : decode prog_10_method_105_code 1 = .ok (.ldc2_w 306, 3) := by decide +kernel
theorem d8_digest_4 : decode prog_10_method_105_code 4 = .ok (.putfield 300, 3) := by decide +kernel
theorem d8_digest_7 : decode prog_10_method_105_code 7 = .ok (.iconst 0, 1) := by decide +kernel
theorem d8_digest_8 : decode prog_10_method_105_code 8 = .ok (.istore_n 1, 1) := by decide +kernel
theorem d8_digest_9 : decode prog_10_method_105_code 9 = .ok (.iload_n 1, 1) := by decide +kernel
theorem d8_digest_10 : decode prog_10_method_105_code 10 = .ok (.bipush 6, 2) := by decide +kernel
theorem d8_digest_12 : decode prog_10_method_105_code 12 = .ok (.if_icmp .gt 18, 3) := by decide +kernel
theorem d8_digest_15 : decode prog_10_method_105_code 15 = .ok (.aload_n 0, 1) := by decide +kernel
theorem d8_digest_16 : decode prog_10_method_105_code 16 = .ok (.aload_n 0, 1) := by decide +kernel
theorem d8_digest_17 : decode prog_10_method_105_code 17 = .ok (.iload_n 1, 1) := by decide +kernel
theorem d8_digest_18 : decode prog_10_method_105_code 18 = .ok (.invokevirtual 295, 3) := by decide +kernel
theorem d8_digest_21 : decode prog_10_method_105_code 21 = .ok (.invokevirtual 303, 3) := by decide +kernel
theorem d8_digest_24 : decode prog_10_method_105_code 24 = .ok (.iinc 1 1, 3) := by decide +kernel
theorem d8_digest_27 : decode prog_10_method_105_code 27 = .ok (.goto (-18), 3) := by decide +kernel
theorem d8_digest_30 : decode prog_10_method_105_code 30 = .ok (.aload_n 0, 1) := by decide +kernel
theorem d8_digest_31 : decode prog_10_method_105_code 31 = .ok (.invokevirtual 308, 3) := by decide +kernel
theorem d8_digest_34 : decode prog_10_method_105_code 34 = .ok (.iconst 0, 1) := by decide +kernel
theorem d8_digest_35 : decode prog_10_method_105_code 35 = .ok (.istore_n 1, 1) := by decide +kernel
theorem d8_digest_36 : decode prog_10_method_105_code 36 = .ok (.iload_n 1, 1) := by decide +kernel
theorem d8_digest_37 : decode prog_10_method_105_code 37 = .ok (.bipush 6, 2) := by decide +kernel
theorem d8_digest_39 : decode prog_10_method_105_code 39 = .ok (.if_icmp .ge 60, 3) := by decide +kernel
theorem d8_digest_42 : decode prog_10_method_105_code 42 = .ok (.aload_n 0, 1) := by decide +kernel
theorem d8_digest_43 : decode prog_10_method_105_code 43 = .ok (.aload_n 0, 1) := by decide +kernel
theorem d8_digest_44 : decode prog_10_method_105_code 44 = .ok (.getfield 17, 3) := by decide +kernel
theorem d8_digest_47 : decode prog_10_method_105_code 47 = .ok (.iload_n 1, 1) := by decide +kernel
theorem d8_digest_48 : decode prog_10_method_105_code 48 = .ok (.iaload, 1) := by decide +kernel
theorem d8_digest_49 : decode prog_10_method_105_code 49 = .ok (.ifCond .ge 7, 3) := by decide +kernel
theorem d8_digest_52 : decode prog_10_method_105_code 52 = .ok (.iconst (-1), 1) := by decide +kernel
theorem d8_digest_53 : decode prog_10_method_105_code 53 = .ok (.goto 9, 3) := by decide +kernel
theorem d8_digest_56 : decode prog_10_method_105_code 56 = .ok (.aload_n 0, 1) := by decide +kernel
theorem d8_digest_57 : decode prog_10_method_105_code 57 = .ok (.getfield 17, 3) := by decide +kernel
theorem d8_digest_60 : decode prog_10_method_105_code 60 = .ok (.iload_n 1, 1) := by decide +kernel
theorem d8_digest_61 : decode prog_10_method_105_code 61 = .ok (.iaload, 1) := by decide +kernel
theorem d8_digest_62 : decode prog_10_method_105_code 62 = .ok (.invokevirtual 303, 3) := by decide +kernel
theorem d8_digest_65 : decode prog_10_method_105_code 65 = .ok (.iconst 0, 1) := by decide +kernel
theorem d8_digest_66 : decode prog_10_method_105_code 66 = .ok (.istore_n 2, 1) := by decide +kernel
theorem d8_digest_67 : decode prog_10_method_105_code 67 = .ok (.iload_n 2, 1) := by decide +kernel
theorem d8_digest_68 : decode prog_10_method_105_code 68 = .ok (.aload_n 0, 1) := by decide +kernel
theorem d8_digest_69 : decode prog_10_method_105_code 69 = .ok (.getfield 17, 3) := by decide +kernel
theorem d8_digest_72 : decode prog_10_method_105_code 72 = .ok (.iload_n 1, 1) := by decide +kernel
theorem d8_digest_73 : decode prog_10_method_105_code 73 = .ok (.iaload, 1) := by decide +kernel
theorem d8_digest_74 : decode prog_10_method_105_code 74 = .ok (.if_icmp .ge 19, 3) := by decide +kernel
theorem d8_digest_77 : decode prog_10_method_105_code 77 = .ok (.aload_n 0, 1) := by decide +kernel
theorem d8_digest_78 : decode prog_10_method_105_code 78 = .ok (.aload_n 0, 1) := by decide +kernel
theorem d8_digest_79 : decode prog_10_method_105_code 79 = .ok (.iload_n 1, 1) := by decide +kernel
theorem d8_digest_80 : decode prog_10_method_105_code 80 = .ok (.iload_n 2, 1) := by decide +kernel
theorem d8_digest_81 : decode prog_10_method_105_code 81 = .ok (.invokevirtual 98, 3) := by decide +kernel
theorem d8_digest_84 : decode prog_10_method_105_code 84 = .ok (.invokevirtual 303, 3) := by decide +kernel
theorem d8_digest_87 : decode prog_10_method_105_code 87 = .ok (.iinc 2 1, 3) := by decide +kernel
theorem d8_digest_90 : decode prog_10_method_105_code 90 = .ok (.goto (-23), 3) := by decide +kernel
theorem d8_digest_93 : decode prog_10_method_105_code 93 = .ok (.iinc 1 1, 3) := by decide +kernel
theorem d8_digest_96 : decode prog_10_method_105_code 96 = .ok (.goto (-60), 3) := by decide +kernel
theorem d8_digest_99 : decode prog_10_method_105_code 99 = .ok (.iconst 0, 1) := by decide +kernel
theorem d8_digest_100 : decode prog_10_method_105_code 100 = .ok (.istore_n 1, 1) := by decide +kernel
theorem d8_digest_101 : decode prog_10_method_105_code 101 = .ok (.iload_n 1, 1) := by decide +kernel
theorem d8_digest_102 : decode prog_10_method_105_code 102 = .ok (.iconst 4, 1) := by decide +kernel
theorem d8_digest_103 : decode prog_10_method_105_code 103 = .ok (.if_icmp .ge 65, 3) := by decide +kernel
theorem d8_digest_106 : decode prog_10_method_105_code 106 = .ok (.aload_n 0, 1) := by decide +kernel
theorem d8_digest_107 : decode prog_10_method_105_code 107 = .ok (.aload_n 0, 1) := by decide +kernel
theorem d8_digest_108 : decode prog_10_method_105_code 108 = .ok (.getfield 26, 3) := by decide +kernel
theorem d8_digest_111 : decode prog_10_method_105_code 111 = .ok (.iload_n 1, 1) := by decide +kernel
theorem d8_digest_112 : decode prog_10_method_105_code 112 = .ok (.iaload, 1) := by decide +kernel
theorem d8_digest_113 : decode prog_10_method_105_code 113 = .ok (.ifCond .ge 7, 3) := by decide +kernel
theorem d8_digest_116 : decode prog_10_method_105_code 116 = .ok (.iconst (-1), 1) := by decide +kernel
theorem d8_digest_117 : decode prog_10_method_105_code 117 = .ok (.goto 9, 3) := by decide +kernel
theorem d8_digest_120 : decode prog_10_method_105_code 120 = .ok (.aload_n 0, 1) := by decide +kernel
theorem d8_digest_121 : decode prog_10_method_105_code 121 = .ok (.getfield 26, 3) := by decide +kernel
theorem d8_digest_124 : decode prog_10_method_105_code 124 = .ok (.iload_n 1, 1) := by decide +kernel
theorem d8_digest_125 : decode prog_10_method_105_code 125 = .ok (.iaload, 1) := by decide +kernel
theorem d8_digest_126 : decode prog_10_method_105_code 126 = .ok (.invokevirtual 303, 3) := by decide +kernel
theorem d8_digest_129 : decode prog_10_method_105_code 129 = .ok (.iconst 0, 1) := by decide +kernel
theorem d8_digest_130 : decode prog_10_method_105_code 130 = .ok (.istore_n 2, 1) := by decide +kernel
theorem d8_digest_131 : decode prog_10_method_105_code 131 = .ok (.iload_n 2, 1) := by decide +kernel
theorem d8_digest_132 : decode prog_10_method_105_code 132 = .ok (.aload_n 0, 1) := by decide +kernel
theorem d8_digest_133 : decode prog_10_method_105_code 133 = .ok (.getfield 26, 3) := by decide +kernel
theorem d8_digest_136 : decode prog_10_method_105_code 136 = .ok (.iload_n 1, 1) := by decide +kernel
theorem d8_digest_137 : decode prog_10_method_105_code 137 = .ok (.iaload, 1) := by decide +kernel
theorem d8_digest_138 : decode prog_10_method_105_code 138 = .ok (.if_icmp .ge 24, 3) := by decide +kernel
theorem d8_digest_141 : decode prog_10_method_105_code 141 = .ok (.aload_n 0, 1) := by decide +kernel
theorem d8_digest_142 : decode prog_10_method_105_code 142 = .ok (.aload_n 0, 1) := by decide +kernel
theorem d8_digest_143 : decode prog_10_method_105_code 143 = .ok (.getfield 29, 3) := by decide +kernel
theorem d8_digest_146 : decode prog_10_method_105_code 146 = .ok (.bipush 80, 2) := by decide +kernel
theorem d8_digest_148 : decode prog_10_method_105_code 148 = .ok (.iload_n 1, 1) := by decide +kernel
theorem d8_digest_149 : decode prog_10_method_105_code 149 = .ok (.imul, 1) := by decide +kernel
theorem d8_digest_150 : decode prog_10_method_105_code 150 = .ok (.iload_n 2, 1) := by decide +kernel
theorem d8_digest_151 : decode prog_10_method_105_code 151 = .ok (.iadd, 1) := by decide +kernel
theorem d8_digest_152 : decode prog_10_method_105_code 152 = .ok (.iaload, 1) := by decide +kernel
theorem d8_digest_153 : decode prog_10_method_105_code 153 = .ok (.invokevirtual 303, 3) := by decide +kernel
theorem d8_digest_156 : decode prog_10_method_105_code 156 = .ok (.iinc 2 1, 3) := by decide +kernel
theorem d8_digest_159 : decode prog_10_method_105_code 159 = .ok (.goto (-28), 3) := by decide +kernel
theorem d8_digest_162 : decode prog_10_method_105_code 162 = .ok (.iinc 1 1, 3) := by decide +kernel
theorem d8_digest_165 : decode prog_10_method_105_code 165 = .ok (.goto (-64), 3) := by decide +kernel
theorem d8_digest_168 : decode prog_10_method_105_code 168 = .ok (.aload_n 0, 1) := by decide +kernel
theorem d8_digest_169 : decode prog_10_method_105_code 169 = .ok (.getfield 300, 3) := by decide +kernel
theorem d8_digest_172 : decode prog_10_method_105_code 172 = .ok (.lreturn, 1) := by decide +kernel
