theorem d4_readLine_26 : decode prog_6_method_6_code 26 = .ok (.invokevirtual 50, 3) := by decide +kernel
theorem d4_readLine_29 : decode prog_6_method_6_code 29 = .ok (.istore_n 3, 1) := by decide +kernel
theorem d4_readLine_30 : decode prog_6_method_6_code 30 = .ok (.iconst 0, 1) := by decide +kernel
theorem d4_readLine_31 : decode prog_6_method_6_code 31 = .ok (.istore 4, 2) := by decide +kernel
theorem d4_readLine_33 : decode prog_6_method_6_code 33 = .ok (.iload 4, 2) := by decide +kernel
theorem d4_readLine_35 : decode prog_6_method_6_code 35 = .ok (.bipush 12, 2) := by decide +kernel
theorem d4_readLine_37 : decode prog_6_method_6_code 37 = .ok (.if_icmp .ge 37, 3) := by decide +kernel
theorem d4_readLine_40 : decode prog_6_method_6_code 40 = .ok (.iload_n 1, 1) := by decide +kernel
theorem d4_readLine_41 : decode prog_6_method_6_code 41 = .ok (.bipush (-9), 2) := by decide +kernel
theorem d4_readLine_43 : decode prog_6_method_6_code 43 = .ok (.if_icmp .eq 31, 3) := by decide +kernel
theorem d4_readLine_46 : decode prog_6_method_6_code 46 = .ok (.aload_n 0, 1) := by decide +kernel
theorem d4_readLine_47 : decode prog_6_method_6_code 47 = .ok (.getfield 22, 3) := by decide +kernel
theorem d4_readLine_50 : decode prog_6_method_6_code 50 = .ok (.bipush (-9), 2) := by decide +kernel
theorem d4_readLine_52 : decode prog_6_method_6_code 52 = .ok (.if_icmp .ne 22, 3) := by decide +kernel
theorem d4_readLine_55 : decode prog_6_method_6_code 55 = .ok (.aload_n 0, 1) := by decide +kernel
theorem d4_readLine_56 : decode prog_6_method_6_code 56 = .ok (.getfield 27, 3) := by decide +kernel
theorem d4_readLine_59 : decode prog_6_method_6_code 59 = .ok (.iload_n 1, 1) := by decide +kernel
theorem d4_readLine_60 : decode prog_6_method_6_code 60 = .ok (.iload_n 3, 1) := by decide +kernel
theorem d4_readLine_61 : decode prog_6_method_6_code 61 = .ok (.iastore, 1) := by decide +kernel
theorem d4_readLine_62 : decode prog_6_method_6_code 62 = .ok (.iload_n 1, 1) := by decide +kernel
theorem d4_readLine_63 : decode prog_6_method_6_code 63 = .ok (.iload_n 2, 1) := by decide +kernel
theorem d4_readLine_64 : decode prog_6_method_6_code 64 = .ok (.invokestatic 71, 3) := by decide +kernel
theorem d4_readLine_67 : decode prog_6_method_6_code 67 = .ok (.istore_n 1, 1) := by decide +kernel
theorem d4_readLine_68 : decode prog_6_method_6_code 68 = .ok (.iinc 4 1, 3) := by decide +kernel
theorem d4_readLine_71 : decode prog_6_method_6_code 71 = .ok (.goto (-38), 3) := by decide +kernel
theorem d4_readLine_74 : decode prog_6_method_6_code 74 = .ok (.return_, 1) := by decide +kernel
theorem d4_readItem_0 : decode prog_6_method_4_code 0 = .ok (.aload_n 0, 1) := by decide +kernel
theorem d4_readItem_1 : decode prog_6_method_4_code 1 = .ok (.getfield 9, 3) := by decide +kernel
theorem d4_readItem_4 : decode prog_6_method_4_code 4 = .ok (.aload_n 0, 1) := by decide +kernel
theorem d4_readItem_5 : decode prog_6_method_4_code 5 = .ok (.getfield 19, 3) := by decide +kernel
theorem d4_readItem_8 : decode prog_6_method_4_code 8 = .ok (.baload, 1) := by decide +kernel
theorem d4_readItem_9 : decode prog_6_method_4_code 9 = .ok (.bipush 97, 2) := by decide +kernel
theorem d4_readItem_11 : decode prog_6_method_4_code 11 = .ok (.if_icmp .ne 45, 3) := by decide +kernel
theorem d4_readItem_14 : decode prog_6_method_4_code 14 = .ok (.aload_n 0, 1) := by decide +kernel
theorem d4_readItem_15 : decode prog_6_method_4_code 15 = .ok (.dup, 1) := by decide +kernel
theorem d4_readItem_16 : decode prog_6_method_4_code 16 = .ok (.getfield 19, 3) := by decide +kernel
theorem d4_readItem_19 : decode prog_6_method_4_code 19 = .ok (.iconst 1, 1) := by decide +kernel
theorem d4_readItem_20 : decode prog_6_method_4_code 20 = .ok (.iadd, 1) := by decide +kernel
theorem d4_readItem_21 : decode prog_6_method_4_code 21 = .ok (.putfield 19, 3) := by decide +kernel
theorem d4_readItem_24 : decode prog_6_method_4_code 24 = .ok (.aload_n 0, 1) := by decide +kernel
theorem d4_readItem_25 : decode prog_6_method_4_code 25 = .ok (.bipush 61, 2) := by decide +kernel
theorem d4_readItem_27 : decode prog_6_method_4_code 27 = .ok (.invokevirtual 46, 3) := by decide +kernel
theorem d4_readItem_30 : decode prog_6_method_4_code 30 = .ok (.aload_n 0, 1) := by decide +kernel
theorem d4_readItem_31 : decode prog_6_method_4_code 31 = .ok (.iconst 2, 1) := by decide +kernel
theorem d4_readItem_32 : decode prog_6_method_4_code 32 = .ok (.invokevirtual 50, 3) := by decide +kernel
theorem d4_readItem_35 : decode prog_6_method_4_code 35 = .ok (.istore_n 1, 1) := by decide +kernel
theorem d4_readItem_36 : decode prog_6_method_4_code 36 = .ok (.aload_n 0, 1) := by decide +kernel
theorem d4_readItem_37 : decode prog_6_method_4_code 37 = .ok (.getfield 22, 3) := by decide +kernel
theorem d4_readItem_40 : decode prog_6_method_4_code 40 = .ok (.bipush (-9), 2) := by decide +kernel
theorem d4_readItem_42 : decode prog_6_method_4_code 42 = .ok (.if_icmp .ne 11, 3) := by decide +kernel
theorem d4_readItem_45 : decode prog_6_method_4_code 45 = .ok (.aload_n 0, 1) := by decide +kernel
theorem d4_readItem_46 : decode prog_6_method_4_code 46 = .ok (.getfield 27, 3) := by decide +kernel
theorem d4_readItem_49 : decode prog_6_method_4_code 49 = .ok (.iload_n 1, 1) := by decide +kernel
theorem d4_readItem_50 : decode prog_6_method_4_code 50 = .ok (.invokestatic 34, 3) := by decide +kernel
theorem d4_readItem_53 : decode prog_6_method_4_code 53 = .ok (.goto 73, 3) := by decide +kernel
theorem d4_readItem_56 : decode prog_6_method_4_code 56 = .ok (.aload_n 0, 1) := by decide +kernel
theorem d4_readItem_57 : decode prog_6_method_4_code 57 = .ok (.getfield 9, 3) := by decide +kernel
theorem d4_readItem_60 : decode prog_6_method_4_code 60 = .ok (.aload_n 0, 1) := by decide +kernel
theorem d4_readItem_61 : decode prog_6_method_4_code 61 = .ok (.getfield 19, 3) := by decide +kernel
theorem d4_readItem_64 : decode prog_6_method_4_code 64 = .ok (.baload, 1) := by decide +kernel
theorem d4_readItem_65 : decode prog_6_method_4_code 65 = .ok (.bipush 114, 2) := by decide +kernel
theorem d4_readItem_67 : decode prog_6_method_4_code 67 = .ok (.if_icmp .ne 20, 3) := by decide +kernel
theorem d4_readItem_70 : decode prog_6_method_4_code 70 = .ok (.aload_n 0, 1) := by decide +kernel
theorem d4_readItem_71 : decode prog_6_method_4_code 71 = .ok (.dup, 1) := by decide +kernel
theorem d4_readItem_72 : decode prog_6_method_4_code 72 = .ok (.getfield 19, 3) := by decide +kernel
theorem d4_readItem_75 : decode prog_6_method_4_code 75 = .ok (.iconst 1, 1) := by decide +kernel
theorem d4_readItem_76 : decode prog_6_method_4_code 76 = .ok (.iadd, 1) := by decide +kernel
theorem d4_readItem_77 : decode prog_6_method_4_code 77 = .ok (.putfield 19, 3) := by decide +kernel
theorem d4_readItem_80 : decode prog_6_method_4_code 80 = .ok (.aload_n 0, 1) := by decide +kernel
theorem d4_readItem_81 : decode prog_6_method_4_code 81 = .ok (.invokevirtual 54, 3) := by decide +kernel
theorem d4_readItem_84 : decode prog_6_method_4_code 84 = .ok (.goto 42, 3) := by decide +kernel
theorem d4_readItem_87 : decode prog_6_method_4_code 87 = .ok (.aload_n 0, 1) := by decide +kernel
theorem d4_readItem_88 : decode prog_6_method_4_code 88 = .ok (.getfield 9, 3) := by decide +kernel
theorem d4_readItem_91 : decode prog_6_method_4_code 91 = .ok (.aload_n 0, 1) := by decide +kernel
theorem d4_readItem_92 : decode prog_6_method_4_code 92 = .ok (.getfield 19, 3) := by decide +kernel
theorem d4_readItem_95 : decode prog_6_method_4_code 95 = .ok (.baload, 1) := by decide +kernel
theorem d4_readItem_96 : decode prog_6_method_4_code 96 = .ok (.bipush 108, 2) := by decide +kernel
theorem d4_readItem_98 : decode prog_6_method_4_code 98 = .ok (.if_icmp .ne 20, 3) := by decide +kernel
theorem d4_readItem_101 : decode prog_6_method_4_code 101 = .ok (.aload_n 0, 1) := by decide +kernel
theorem d4_readItem_102 : decode prog_6_method_4_code 102 = .ok (.dup, 1) := by decide +kernel
theorem d4_readItem_103 : decode prog_6_method_4_code 103 = .ok (.getfield 19, 3) := by decide +kernel
theorem d4_readItem_106 : decode prog_6_method_4_code 106 = .ok (.iconst 1, 1) := by decide +kernel
theorem d4_readItem_107 : decode prog_6_method_4_code 107 = .ok (.iadd, 1) := by decide +kernel
theorem d4_readItem_108 : decode prog_6_method_4_code 108 = .ok (.putfield 19, 3) := by decide +kernel
theorem d4_readItem_111 : decode prog_6_method_4_code 111 = .ok (.aload_n 0, 1) := by decide +kernel
theorem d4_readItem_112 : decode prog_6_method_4_code 112 = .ok (.invokevirtual 57, 3) := by decide +kernel
theorem d4_readItem_115 : decode prog_6_method_4_code 115 = .ok (.goto 11, 3) := by decide +kernel
theorem d4_readItem_118 : decode prog_6_method_4_code 118 = .ok (.aload_n 0, 1) := by decide +kernel
theorem d4_readItem_119 : decode prog_6_method_4_code 119 = .ok (.aload_n 0, 1) := by decide +kernel
theorem d4_readItem_120 : decode prog_6_method_4_code 120 = .ok (.getfield 19, 3) := by decide +kernel
theorem d4_readItem_123 : decode prog_6_method_4_code 123 = .ok (.putfield 22, 3) := by decide +kernel
theorem d4_readItem_126 : decode prog_6_method_4_code 126 = .ok (.return_, 1) := by decide +kernel
theorem d4_read_0 : decode prog_6_method_2_code 0 = .ok (.aload_n 0, 1) := by decide +kernel
theorem d4_read_1 : decode prog_6_method_2_code 1 = .ok (.aload_n 1, 1) := by decide +kernel
theorem d4_read_2 : decode prog_6_method_2_code 2 = .ok (.putfield 9, 3) := by decide +kernel
theorem d4_read_5 : decode prog_6_method_2_code 5 = .ok (.aload_n 0, 1) := by decide +kernel
theorem d4_read_6 : decode prog_6_method_2_code 6 = .ok (.iload_n 2, 1) := by decide +kernel
theorem d4_read_7 : decode prog_6_method_2_code 7 = .ok (.putfield 15, 3) := by decide +kernel
theorem d4_read_10 : decode prog_6_method_2_code 10 = .ok (.aload_n 0, 1) := by decide +kernel
theorem d4_read_11 : decode prog_6_method_2_code 11 = .ok (.iconst 0, 1) := by decide +kernel
theorem d4_read_12 : decode prog_6_method_2_code 12 = .ok (.putfield 19, 3) := by decide +kernel
theorem d4_read_15 : decode prog_6_method_2_code 15 = .ok (.aload_n 0, 1) := by decide +kernel
theorem d4_read_16 : decode prog_6_method_2_code 16 = .ok (.bipush (-9), 2) := by decide +kernel
theorem d4_read_18 : decode prog_6_method_2_code 18 = .ok (.putfield 22, 3) := by decide +kernel
theorem d4_read_21 : decode prog_6_method_2_code 21 = .ok (.aload_n 0, 1) := by decide +kernel
theorem d4_read_22 : decode prog_6_method_2_code 22 = .ok (.iconst 0, 1) := by decide +kernel
theorem d4_read_23 : decode prog_6_method_2_code 23 = .ok (.putfield 31, 3) := by decide +kernel
theorem d4_read_26 : decode prog_6_method_2_code 26 = .ok (.aload_n 0, 1) := by decide +kernel
theorem d4_read_27 : decode prog_6_method_2_code 27 = .ok (.getfield 27, 3) := by decide +kernel
theorem d4_read_30 : decode prog_6_method_2_code 30 = .ok (.iconst 0, 1) := by decide +kernel
theorem d4_read_31 : decode prog_6_method_2_code 31 = .ok (.invokestatic 34, 3) := by decide +kernel
theorem d4_read_34 : decode prog_6_method_2_code 34 = .ok (.aload_n 0, 1) := by decide +kernel
theorem d4_read_35 : decode prog_6_method_2_code 35 = .ok (.invokevirtual 40, 3) := by decide +kernel
theorem d4_read_38 : decode prog_6_method_2_code 38 = .ok (.iconst 0, 1) := by decide +kernel
theorem d4_read_39 : decode prog_6_method_2_code 39 = .ok (.istore_n 3, 1) := by decide +kernel
theorem d4_read_40 : decode prog_6_method_2_code 40 = .ok (.iload_n 3, 1) := by decide +kernel
theorem d4_read_41 : decode prog_6_method_2_code 41 = .ok (.aload_n 0, 1) := by decide +kernel
theorem d4_read_42 : decode prog_6_method_2_code 42 = .ok (.getfield 15, 3) := by decide +kernel
theorem d4_read_45 : decode prog_6_method_2_code 45 = .ok (.if_icmp .ge 47, 3) := by decide +kernel
theorem d4_read_48 : decode prog_6_method_2_code 48 = .ok (.aload_n 0, 1) := by decide +kernel
theorem d4_read_49 : decode prog_6_method_2_code 49 = .ok (.getfield 19, 3) := by decide +kernel
theorem d4_read_52 : decode prog_6_method_2_code 52 = .ok (.aload_n 0, 1) := by decide +kernel
theorem d4_read_53 : decode prog_6_method_2_code 53 = .ok (.getfield 15, 3) := by decide +kernel
theorem d4_read_56 : decode prog_6_method_2_code 56 = .ok (.if_icmp .ge 36, 3) := by decide +kernel
theorem d4_read_59 : decode prog_6_method_2_code 59 = .ok (.aload_n 0, 1) := by decide +kernel
theorem d4_read_60 : decode prog_6_method_2_code 60 = .ok (.getfield 22, 3) := by decide +kernel
theorem d4_read_63 : decode prog_6_method_2_code 63 = .ok (.bipush (-9), 2) := by decide +kernel
theorem d4_read_65 : decode prog_6_method_2_code 65 = .ok (.if_icmp .ne 27, 3) := by decide +kernel
theorem d4_read_68 : decode prog_6_method_2_code 68 = .ok (.aload_n 0, 1) := by decide +kernel
theorem d4_read_69 : decode prog_6_method_2_code 69 = .ok (.invokevirtual 43, 3) := by decide +kernel
theorem d4_read_72 : decode prog_6_method_2_code 72 = .ok (.aload_n 0, 1) := by decide +kernel
theorem d4_read_73 : decode prog_6_method_2_code 73 = .ok (.dup, 1) := by decide +kernel
theorem d4_read_74 : decode prog_6_method_2_code 74 = .ok (.getfield 31, 3) := by decide +kernel
theorem d4_read_77 : decode prog_6_method_2_code 77 = .ok (.iconst 1, 1) := by decide +kernel
theorem d4_read_78 : decode prog_6_method_2_code 78 = .ok (.iadd, 1) := by decide +kernel
theorem d4_read_79 : decode prog_6_method_2_code 79 = .ok (.putfield 31, 3) := by decide +kernel
theorem d4_read_82 : decode prog_6_method_2_code 82 = .ok (.aload_n 0, 1) := by decide +kernel
theorem d4_read_83 : decode prog_6_method_2_code 83 = .ok (.invokevirtual 40, 3) := by decide +kernel
theorem d4_read_86 : decode prog_6_method_2_code 86 = .ok (.iinc 3 1, 3) := by decide +kernel
theorem d4_read_89 : decode prog_6_method_2_code 89 = .ok (.goto (-49), 3) := by decide +kernel
theorem d4_read_92 : decode prog_6_method_2_code 92 = .ok (.aload_n 0, 1) := by decide +kernel
theorem d4_read_93 : decode prog_6_method_2_code 93 = .ok (.getfield 22, 3) := by decide +kernel
theorem d4_read_96 : decode prog_6_method_2_code 96 = .ok (.ireturn, 1) := by decide +kernel
theorem d7_fault_0 : decode prog_1_method_14_code 0 = .ok (.iload_n 1, 1) := by decide +kernel
theorem d7_fault_1 : decode prog_1_method_14_code 1 = .ok (.invokestatic 114, 3) := by decide +kernel
theorem d7_fault_4 : decode prog_1_method_14_code 4 = .ok (.ifCond .ne 5, 3) := by decide +kernel
theorem d7_fault_7 : decode prog_1_method_14_code 7 = .ok (.iconst (-1), 1) := by decide +kernel
theorem d7_fault_8 : decode prog_1_method_14_code 8 = .ok (.ireturn, 1) := by decide +kernel
theorem d7_fault_9 : decode prog_1_method_14_code 9 = .ok (.aload_n 0, 1) := by decide +kernel
theorem d7_fault_10 : decode prog_1_method_14_code 10 = .ok (.getfield 23, 3) := by decide +kernel
theorem d7_fault_13 : decode prog_1_method_14_code 13 = .ok (.iload_n 1, 1) := by decide +kernel
theorem d7_fault_14 : decode prog_1_method_14_code 14 = .ok (.iaload, 1) := by decide +kernel
theorem d7_fault_15 : decode prog_1_method_14_code 15 = .ok (.iconst (-1), 1) := by decide +kernel
theorem d7_fault_16 : decode prog_1_method_14_code 16 = .ok (.if_icmp .ne 9, 3) := by decide +kernel
theorem d7_fault_19 : decode prog_1_method_14_code 19 = .ok (.aload_n 0, 1) := by decide +kernel
theorem d7_fault_20 : decode prog_1_method_14_code 20 = .ok (.iconst 1, 1) := by decide +kernel
theorem d7_fault_21 : decode prog_1_method_14_code 21 = .ok (.invokevirtual 92, 3) := by decide +kernel
theorem d7_fault_24 : decode prog_1_method_14_code 24 = .ok (.ireturn, 1) := by decide +kernel
theorem d7_fault_25 : decode prog_1_method_14_code 25 = .ok (.aload_n 0, 1) := by decide +kernel
theorem d7_fault_26 : decode prog_1_method_14_code 26 = .ok (.getfield 54, 3) := by decide +kernel
theorem d7_fault_29 : decode prog_1_method_14_code 29 = .ok (.aload_n 0, 1) := by decide +kernel
theorem d7_fault_30 : decode prog_1_method_14_code 30 = .ok (.getfield 20, 3) := by decide +kernel
theorem d7_fault_33 : decode prog_1_method_14_code 33 = .ok (.iload_n 1, 1) := by decide +kernel
theorem d7_fault_34 : decode prog_1_method_14_code 34 = .ok (.aaload, 1) := by decide +kernel
theorem d7_fault_35 : decode prog_1_method_14_code 35 = .ok (.aload_n 0, 1) := by decide +kernel
theorem d7_fault_36 : decode prog_1_method_14_code 36 = .ok (.getfield 23, 3) := by decide +kernel
theorem d7_fault_39 : decode prog_1_method_14_code 39 = .ok (.iload_n 1, 1) := by decide +kernel
theorem d7_fault_40 : decode prog_1_method_14_code 40 = .ok (.iaload, 1) := by decide +kernel
theorem d7_fault_41 : decode prog_1_method_14_code 41 = .ok (.invokevirtual 150, 3) := by decide +kernel
theorem d7_fault_44 : decode prog_1_method_14_code 44 = .ok (.ireturn, 1) := by decide +kernel
theorem d8_here_0 : decode prog_10_method_35_code 0 = .ok (.aload_n 0, 1) := by decide +kernel
theorem d8_here_1 : decode prog_10_method_35_code 1 = .ok (.getfield 136, 3) := by decide +kernel
theorem d8_here_4 : decode prog_10_method_35_code 4 = .ok (.aload_n 0, 1) := by decide +kernel
theorem d8_here_5 : decode prog_10_method_35_code 5 = .ok (.getfield 26, 3) := by decide +kernel
theorem d8_here_8 : decode prog_10_method_35_code 8 = .ok (.iload_n 1, 1) := by decide +kernel
theorem d8_here_9 : decode prog_10_method_35_code 9 = .ok (.iaload, 1) := by decide +kernel
theorem d8_here_10 : decode prog_10_method_35_code 10 = .ok (.if_icmp .ge 20, 3) := by decide +kernel
theorem d8_here_13 : decode prog_10_method_35_code 13 = .ok (.aload_n 0, 1) := by decide +kernel
theorem d8_here_14 : decode prog_10_method_35_code 14 = .ok (.getfield 29, 3) := by decide +kernel
theorem d8_here_17 : decode prog_10_method_35_code 17 = .ok (.bipush 80, 2) := by decide +kernel
theorem d8_here_19 : decode prog_10_method_35_code 19 = .ok (.iload_n 1, 1) := by decide +kernel
theorem d8_here_20 : decode prog_10_method_35_code 20 = .ok (.imul, 1) := by decide +kernel
theorem d8_here_21 : decode prog_10_method_35_code 21 = .ok (.aload_n 0, 1) := by decide +kernel
theorem d8_here_22 : decode prog_10_method_35_code 22 = .ok (.getfield 136, 3) := by decide +kernel
theorem d8_here_25 : decode prog_10_method_35_code 25 = .ok (.iadd, 1) := by decide +kernel
theorem d8_here_26 : decode prog_10_method_35_code 26 = .ok (.iaload, 1) := by decide +kernel
theorem d8_here_27 : decode prog_10_method_35_code 27 = .ok (.goto 5, 3) := by decide +kernel
theorem d8_here_30 : decode prog_10_method_35_code 30 = .ok (.bipush (-9), 2) := by decide +kernel
theorem d8_here_32 : decode prog_10_method_35_code 32 = .ok (.ireturn, 1) := by decide +kernel
theorem d8_reads_0 : decode prog_10_method_36_code 0 = .ok (.aload_n 0, 1) := by decide +kernel
theorem d8_reads_1 : decode prog_10_method_36_code 1 = .ok (.iload_n 1, 1) := by decide +kernel
theorem d8_reads_2 : decode prog_10_method_36_code 2 = .ok (.invokevirtual 139, 3) := by decide +kernel
theorem d8_reads_5 : decode prog_10_method_36_code 5 = .ok (.iload_n 2, 1) := by decide +kernel
theorem d8_reads_6 : decode prog_10_method_36_code 6 = .ok (.if_icmp .ne 7, 3) := by decide +kernel
theorem d8_reads_9 : decode prog_10_method_36_code 9 = .ok (.iconst 1, 1) := by decide +kernel
theorem d8_reads_10 : decode prog_10_method_36_code 10 = .ok (.goto 4, 3) := by decide +kernel
theorem d8_reads_13 : decode prog_10_method_36_code 13 = .ok (.iconst 0, 1) := by decide +kernel
theorem d8_reads_14 : decode prog_10_method_36_code 14 = .ok (.istore_n 3, 1) := by decide +kernel
theorem d8_reads_15 : decode prog_10_method_36_code 15 = .ok (.aload_n 0, 1) := by decide +kernel
theorem d8_reads_16 : decode prog_10_method_36_code 16 = .ok (.dup, 1) := by decide +kernel
theorem d8_reads_17 : decode prog_10_method_36_code 17 = .ok (.getfield 136, 3) := by decide +kernel
theorem d8_reads_20 : decode prog_10_method_36_code 20 = .ok (.iload_n 3, 1) := by decide +kernel
theorem d8_reads_21 : decode prog_10_method_36_code 21 = .ok (.ifCond .eq 7, 3) := by decide +kernel
theorem d8_reads_24 : decode prog_10_method_36_code 24 = .ok (.iconst 1, 1) := by decide +kernel
theorem d8_reads_25 : decode prog_10_method_36_code 25 = .ok (.goto 4, 3) := by decide +kernel
theorem d8_reads_28 : decode prog_10_method_36_code 28 = .ok (.iconst 0, 1) := by decide +kernel
theorem d8_reads_29 : decode prog_10_method_36_code 29 = .ok (.iadd, 1) := by decide +kernel
theorem d8_reads_30 : decode prog_10_method_36_code 30 = .ok (.putfield 136, 3) := by decide +kernel
theorem d8_reads_33 : decode prog_10_method_36_code 33 = .ok (.iload_n 3, 1) := by decide +kernel
theorem d8_reads_34 : decode prog_10_method_36_code 34 = .ok (.ireturn, 1) := by decide +kernel
theorem d8_readsNumber_0 : decode prog_10_method_37_code 0 = .ok (.aload_n 0, 1) := by decide +kernel
theorem d8_readsNumber_1 : decode prog_10_method_37_code 1 = .ok (.getfield 136, 3) := by decide +kernel
theorem d8_readsNumber_4 : decode prog_10_method_37_code 4 = .ok (.istore 4, 2) := by decide +kernel
theorem d8_readsNumber_6 : decode prog_10_method_37_code 6 = .ok (.aload_n 0, 1) := by decide +kernel
theorem d8_readsNumber_7 : decode prog_10_method_37_code 7 = .ok (.iconst 0, 1) := by decide +kernel
theorem d8_readsNumber_8 : decode prog_10_method_37_code 8 = .ok (.putfield 142, 3) := by decide +kernel
theorem d8_readsNumber_11 : decode prog_10_method_37_code 11 = .ok (.aload_n 0, 1) := by decide +kernel
theorem d8_readsNumber_12 : decode prog_10_method_37_code 12 = .ok (.getfield 136, 3) := by decide +kernel
theorem d8_readsNumber_15 : decode prog_10_method_37_code 15 = .ok (.iload 4, 2) := by decide +kernel
theorem d8_readsNumber_17 : decode prog_10_method_37_code 17 = .ok (.isub, 1) := by decide +kernel
theorem d8_readsNumber_18 : decode prog_10_method_37_code 18 = .ok (.iload_n 2, 1) := by decide +kernel
theorem d8_readsNumber_19 : decode prog_10_method_37_code 19 = .ok (.if_icmp .ge 51, 3) := by decide +kernel
theorem d8_readsNumber_22 : decode prog_10_method_37_code 22 = .ok (.aload_n 0, 1) := by decide +kernel
theorem d8_readsNumber_23 : decode prog_10_method_37_code 23 = .ok (.iload_n 1, 1) := by decide +kernel
theorem d8_readsNumber_24 : decode prog_10_method_37_code 24 = .ok (.invokevirtual 139, 3) := by decide +kernel
theorem d8_readsNumber_27 : decode prog_10_method_37_code 27 = .ok (.bipush 48, 2) := by decide +kernel
theorem d8_readsNumber_29 : decode prog_10_method_37_code 29 = .ok (.bipush 57, 2) := by decide +kernel
theorem d8_readsNumber_31 : decode prog_10_method_37_code 31 = .ok (.invokestatic 80, 3) := by decide +kernel
theorem d8_readsNumber_34 : decode prog_10_method_37_code 34 = .ok (.ifCond .eq 36, 3) := by decide +kernel
theorem d8_readsNumber_37 : decode prog_10_method_37_code 37 = .ok (.aload_n 0, 1) := by decide +kernel
theorem d8_readsNumber_38 : decode prog_10_method_37_code 38 = .ok (.bipush 10, 2) := by decide +kernel
theorem d8_readsNumber_40 : decode prog_10_method_37_code 40 = .ok (.aload_n 0, 1) := by decide +kernel
theorem d8_readsNumber_41 : decode prog_10_method_37_code 41 = .ok (.getfield 142, 3) := by decide +kernel
theorem d8_readsNumber_44 : decode prog_10_method_37_code 44 = .ok (.imul, 1) := by decide +kernel
theorem d8_readsNumber_45 : decode prog_10_method_37_code 45 = .ok (.aload_n 0, 1) := by decide +kernel
theorem d8_readsNumber_46 : decode prog_10_method_37_code 46 = .ok (.iload_n 1, 1) := by decide +kernel
theorem d8_readsNumber_47 : decode prog_10_method_37_code 47 = .ok (.invokevirtual 139, 3) := by decide +kernel
theorem d8_readsNumber_50 : decode prog_10_method_37_code 50 = .ok (.iadd, 1) := by decide +kernel
theorem d8_readsNumber_51 : decode prog_10_method_37_code 51 = .ok (.bipush 48, 2) := by decide +kernel
theorem d8_readsNumber_53 : decode prog_10_method_37_code 53 = .ok (.isub, 1) := by decide +kernel
theorem d8_readsNumber_54 : decode prog_10_method_37_code 54 = .ok (.putfield 142, 3) := by decide +kernel
theorem d8_readsNumber_57 : decode prog_10_method_37_code 57 = .ok (.aload_n 0, 1) := by decide +kernel
theorem d8_readsNumber_58 : decode prog_10_method_37_code 58 = .ok (.dup, 1) := by decide +kernel
theorem d8_readsNumber_59 : decode prog_10_method_37_code 59 = .ok (.getfield 136, 3) := by decide +kernel
theorem d8_readsNumber_62 : decode prog_10_method_37_code 62 = .ok (.iconst 1, 1) := by decide +kernel
theorem d8_readsNumber_63 : decode prog_10_method_37_code 63 = .ok (.iadd, 1) := by decide +kernel
theorem d8_readsNumber_64 : decode prog_10_method_37_code 64 = .ok (.putfield 136, 3) := by decide +kernel
theorem d8_readsNumber_67 : decode prog_10_method_37_code 67 = .ok (.goto (-56), 3) := by decide +kernel
theorem d8_readsNumber_70 : decode prog_10_method_37_code 70 = .ok (.aload_n 0, 1) := by decide +kernel
theorem d8_readsNumber_71 : decode prog_10_method_37_code 71 = .ok (.getfield 136, 3) := by decide +kernel
theorem d8_readsNumber_74 : decode prog_10_method_37_code 74 = .ok (.iload 4, 2) := by decide +kernel
theorem d8_readsNumber_76 : decode prog_10_method_37_code 76 = .ok (.if_icmp .le 15, 3) := by decide +kernel
theorem d8_readsNumber_79 : decode prog_10_method_37_code 79 = .ok (.aload_n 0, 1) := by decide +kernel
theorem d8_readsNumber_80 : decode prog_10_method_37_code 80 = .ok (.getfield 142, 3) := by decide +kernel
theorem d8_readsNumber_83 : decode prog_10_method_37_code 83 = .ok (.iload_n 3, 1) := by decide +kernel
theorem d8_readsNumber_84 : decode prog_10_method_37_code 84 = .ok (.if_icmp .gt 7, 3) := by decide +kernel
theorem d8_readsNumber_87 : decode prog_10_method_37_code 87 = .ok (.iconst 1, 1) := by decide +kernel
theorem d8_readsNumber_88 : decode prog_10_method_37_code 88 = .ok (.goto 4, 3) := by decide +kernel
theorem d8_readsNumber_91 : decode prog_10_method_37_code 91 = .ok (.iconst 0, 1) := by decide +kernel
theorem d8_readsNumber_92 : decode prog_10_method_37_code 92 = .ok (.ireturn, 1) := by decide +kernel
theorem d8_abs_0 : decode prog_10_method_7_code 0 = .ok (.iload_n 0, 1) := by decide +kernel
theorem d8_abs_1 : decode prog_10_method_7_code 1 = .ok (.ifCond .ge 8, 3) := by decide +kernel
theorem d8_abs_4 : decode prog_10_method_7_code 4 = .ok (.iload_n 0, 1) := by decide +kernel
theorem d8_abs_5 : decode prog_10_method_7_code 5 = .ok (.ineg, 1) := by decide +kernel
theorem d8_abs_6 : decode prog_10_method_7_code 6 = .ok (.goto 4, 3) := by decide +kernel
theorem d8_abs_9 : decode prog_10_method_7_code 9 = .ok (.iload_n 0, 1) := by decide +kernel
theorem d8_abs_10 : decode prog_10_method_7_code 10 = .ok (.ireturn, 1) := by decide +kernel
theorem d8_farOf_0 : decode prog_10_method_23_code 0 = .ok (.iload_n 0, 1) := by decide +kernel
theorem d8_farOf_1 : decode prog_10_method_23_code 1 = .ok (.bipush 12, 2) := by decide +kernel
theorem d8_farOf_3 : decode prog_10_method_23_code 3 = .ok (.irem, 1) := by decide +kernel
theorem d8_farOf_4 : decode prog_10_method_23_code 4 = .ok (.iload_n 1, 1) := by decide +kernel
theorem d8_farOf_5 : decode prog_10_method_23_code 5 = .ok (.bipush 12, 2) := by decide +kernel
theorem d8_farOf_7 : decode prog_10_method_23_code 7 = .ok (.irem, 1) := by decide +kernel
theorem d8_farOf_8 : decode prog_10_method_23_code 8 = .ok (.isub, 1) := by decide +kernel
theorem d8_farOf_9 : decode prog_10_method_23_code 9 = .ok (.invokestatic 111, 3) := by decide +kernel
theorem d8_farOf_12 : decode prog_10_method_23_code 12 = .ok (.istore_n 2, 1) := by decide +kernel
theorem d8_farOf_13 : decode prog_10_method_23_code 13 = .ok (.iload_n 0, 1) := by decide +kernel
theorem d8_farOf_14 : decode prog_10_method_23_code 14 = .ok (.bipush 12, 2) := by decide +kernel
theorem d8_farOf_16 : decode prog_10_method_23_code 16 = .ok (.idiv, 1) := by decide +kernel
theorem d8_farOf_17 : decode prog_10_method_23_code 17 = .ok (.iload_n 1, 1) := by decide +kernel
theorem d8_farOf_18 : decode prog_10_method_23_code 18 = .ok (.bipush 12, 2) := by decide +kernel
theorem d8_farOf_20 : decode prog_10_method_23_code 20 = .ok (.idiv, 1) := by decide +kernel
theorem d8_farOf_21 : decode prog_10_method_23_code 21 = .ok (.isub, 1) := by decide +kernel
theorem d8_farOf_22 : decode prog_10_method_23_code 22 = .ok (.invokestatic 111, 3) := by decide +kernel
theorem d8_farOf_25 : decode prog_10_method_23_code 25 = .ok (.istore_n 3, 1) := by decide +kernel
theorem d8_farOf_26 : decode prog_10_method_23_code 26 = .ok (.iload_n 2, 1) := by decide +kernel
theorem d8_farOf_27 : decode prog_10_method_23_code 27 = .ok (.iload_n 3, 1) := by decide +kernel
theorem d8_farOf_28 : decode prog_10_method_23_code 28 = .ok (.if_icmp .le 7, 3) := by decide +kernel
theorem d8_farOf_31 : decode prog_10_method_23_code 31 = .ok (.iload_n 2, 1) := by decide +kernel
theorem d8_farOf_32 : decode prog_10_method_23_code 32 = .ok (.goto 4, 3) := by decide +kernel
theorem d8_farOf_35 : decode prog_10_method_23_code 35 = .ok (.iload_n 3, 1) := by decide +kernel
theorem d8_farOf_36 : decode prog_10_method_23_code 36 = .ok (.ireturn, 1) := by decide +kernel
theorem d8_nextOf_0 : decode prog_10_method_25_code 0 = .ok (.iload_n 0, 1) := by decide +kernel
theorem d8_nextOf_1 : decode prog_10_method_25_code 1 = .ok (.bipush 12, 2) := by decide +kernel
theorem d8_nextOf_3 : decode prog_10_method_25_code 3 = .ok (.irem, 1) := by decide +kernel
theorem d8_nextOf_4 : decode prog_10_method_25_code 4 = .ok (.iload_n 1, 1) := by decide +kernel
theorem d8_nextOf_5 : decode prog_10_method_25_code 5 = .ok (.iconst 1, 1) := by decide +kernel
theorem d8_nextOf_6 : decode prog_10_method_25_code 6 = .ok (.iconst 3, 1) := by decide +kernel
theorem d8_nextOf_7 : decode prog_10_method_25_code 7 = .ok (.invokestatic 80, 3) := by decide +kernel
theorem d8_nextOf_10 : decode prog_10_method_25_code 10 = .ok (.ifCond .eq 7, 3) := by decide +kernel
theorem d8_nextOf_13 : decode prog_10_method_25_code 13 = .ok (.iconst 1, 1) := by decide +kernel
theorem d8_nextOf_14 : decode prog_10_method_25_code 14 = .ok (.goto 18, 3) := by decide +kernel
theorem d8_nextOf_17 : decode prog_10_method_25_code 17 = .ok (.iload_n 1, 1) := by decide +kernel
theorem d8_nextOf_18 : decode prog_10_method_25_code 18 = .ok (.iconst 5, 1) := by decide +kernel
theorem d8_nextOf_19 : decode prog_10_method_25_code 19 = .ok (.bipush 7, 2) := by decide +kernel
theorem d8_nextOf_21 : decode prog_10_method_25_code 21 = .ok (.invokestatic 80, 3) := by decide +kernel
theorem d8_nextOf_24 : decode prog_10_method_25_code 24 = .ok (.ifCond .eq 7, 3) := by decide +kernel
theorem d8_nextOf_27 : decode prog_10_method_25_code 27 = .ok (.iconst (-1), 1) := by decide +kernel
theorem d8_nextOf_28 : decode prog_10_method_25_code 28 = .ok (.goto 4, 3) := by decide +kernel
theorem d8_nextOf_31 : decode prog_10_method_25_code 31 = .ok (.iconst 0, 1) := by decide +kernel
theorem d8_nextOf_32 : decode prog_10_method_25_code 32 = .ok (.iadd, 1) := by decide +kernel
theorem d8_nextOf_33 : decode prog_10_method_25_code 33 = .ok (.istore_n 2, 1) := by decide +kernel
theorem d8_nextOf_34 : decode prog_10_method_25_code 34 = .ok (.iload_n 0, 1) := by decide +kernel
theorem d8_nextOf_35 : decode prog_10_method_25_code 35 = .ok (.bipush 12, 2) := by decide +kernel
theorem d8_nextOf_37 : decode prog_10_method_25_code 37 = .ok (.idiv, 1) := by decide +kernel
theorem d8_nextOf_38 : decode prog_10_method_25_code 38 = .ok (.iload_n 1, 1) := by decide +kernel
theorem d8_nextOf_39 : decode prog_10_method_25_code 39 = .ok (.iconst 3, 1) := by decide +kernel
theorem d8_nextOf_40 : decode prog_10_method_25_code 40 = .ok (.iconst 5, 1) := by decide +kernel
theorem d8_nextOf_41 : decode prog_10_method_25_code 41 = .ok (.invokestatic 80, 3) := by decide +kernel
theorem d8_nextOf_44 : decode prog_10_method_25_code 44 = .ok (.ifCond .eq 7, 3) := by decide +kernel
theorem d8_nextOf_47 : decode prog_10_method_25_code 47 = .ok (.iconst 1, 1) := by decide +kernel
theorem d8_nextOf_48 : decode prog_10_method_25_code 48 = .ok (.goto 23, 3) := by decide +kernel
theorem d8_nextOf_51 : decode prog_10_method_25_code 51 = .ok (.iload_n 1, 1) := by decide +kernel
theorem d8_nextOf_52 : decode prog_10_method_25_code 52 = .ok (.ifCond .eq 14, 3) := by decide +kernel
theorem d8_nextOf_55 : decode prog_10_method_25_code 55 = .ok (.iload_n 1, 1) := by decide +kernel
theorem d8_nextOf_56 : decode prog_10_method_25_code 56 = .ok (.iconst 1, 1) := by decide +kernel
theorem d8_nextOf_57 : decode prog_10_method_25_code 57 = .ok (.if_icmp .eq 9, 3) := by decide +kernel
theorem d8_nextOf_60 : decode prog_10_method_25_code 60 = .ok (.iload_n 1, 1) := by decide +kernel
theorem d8_nextOf_61 : decode prog_10_method_25_code 61 = .ok (.bipush 7, 2) := by decide +kernel
theorem d8_nextOf_63 : decode prog_10_method_25_code 63 = .ok (.if_icmp .ne 7, 3) := by decide +kernel
theorem d8_nextOf_66 : decode prog_10_method_25_code 66 = .ok (.iconst (-1), 1) := by decide +kernel
theorem d8_nextOf_67 : decode prog_10_method_25_code 67 = .ok (.goto 4, 3) := by decide +kernel
theorem d8_nextOf_70 : decode prog_10_method_25_code 70 = .ok (.iconst 0, 1) := by decide +kernel
theorem d8_nextOf_71 : decode prog_10_method_25_code 71 = .ok (.iadd, 1) := by decide +kernel
theorem d8_nextOf_72 : decode prog_10_method_25_code 72 = .ok (.istore_n 3, 1) := by decide +kernel
theorem d8_nextOf_73 : decode prog_10_method_25_code 73 = .ok (.iload_n 2, 1) := by decide +kernel
theorem d8_nextOf_74 : decode prog_10_method_25_code 74 = .ok (.iconst 0, 1) := by decide +kernel
theorem d8_nextOf_75 : decode prog_10_method_25_code 75 = .ok (.bipush 11, 2) := by decide +kernel
theorem d8_nextOf_77 : decode prog_10_method_25_code 77 = .ok (.invokestatic 80, 3) := by decide +kernel
theorem d8_nextOf_80 : decode prog_10_method_25_code 80 = .ok (.ifCond .eq 22, 3) := by decide +kernel
theorem d8_nextOf_83 : decode prog_10_method_25_code 83 = .ok (.iload_n 3, 1) := by decide +kernel
theorem d8_nextOf_84 : decode prog_10_method_25_code 84 = .ok (.iconst 0, 1) := by decide +kernel
theorem d8_nextOf_85 : decode prog_10_method_25_code 85 = .ok (.bipush 9, 2) := by decide +kernel
theorem d8_nextOf_87 : decode prog_10_method_25_code 87 = .ok (.invokestatic 80, 3) := by decide +kernel
theorem d8_nextOf_90 : decode prog_10_method_25_code 90 = .ok (.ifCond .eq 12, 3) := by decide +kernel
theorem d8_nextOf_93 : decode prog_10_method_25_code 93 = .ok (.bipush 12, 2) := by decide +kernel
theorem d8_nextOf_95 : decode prog_10_method_25_code 95 = .ok (.iload_n 3, 1) := by decide +kernel
theorem d8_nextOf_96 : decode prog_10_method_25_code 96 = .ok (.imul, 1) := by decide +kernel
theorem d8_nextOf_97 : decode prog_10_method_25_code 97 = .ok (.iload_n 2, 1) := by decide +kernel
theorem d8_nextOf_98 : decode prog_10_method_25_code 98 = .ok (.iadd, 1) := by decide +kernel
theorem d8_nextOf_99 : decode prog_10_method_25_code 99 = .ok (.goto 5, 3) := by decide +kernel
theorem d8_nextOf_102 : decode prog_10_method_25_code 102 = .ok (.bipush (-9), 2) := by decide +kernel
theorem d8_nextOf_104 : decode prog_10_method_25_code 104 = .ok (.ireturn, 1) := by decide +kernel
theorem d8_readsItem_0 : decode prog_10_method_38_code 0 = .ok (.aload_n 0, 1) := by decide +kernel
theorem d8_readsItem_1 : decode prog_10_method_38_code 1 = .ok (.iload_n 1, 1) := by decide +kernel
theorem d8_readsItem_2 : decode prog_10_method_38_code 2 = .ok (.invokevirtual 139, 3) := by decide +kernel
theorem d8_readsItem_5 : decode prog_10_method_38_code 5 = .ok (.istore_n 2, 1) := by decide +kernel
theorem d8_readsItem_6 : decode prog_10_method_38_code 6 = .ok (.aload_n 0, 1) := by decide +kernel
theorem d8_readsItem_7 : decode prog_10_method_38_code 7 = .ok (.iload_n 1, 1) := by decide +kernel
theorem d8_readsItem_8 : decode prog_10_method_38_code 8 = .ok (.bipush 114, 2) := by decide +kernel
theorem d8_readsItem_10 : decode prog_10_method_38_code 10 = .ok (.invokevirtual 145, 3) := by decide +kernel
theorem d8_readsItem_13 : decode prog_10_method_38_code 13 = .ok (.ifCond .ne 25, 3) := by decide +kernel
theorem d8_readsItem_16 : decode prog_10_method_38_code 16 = .ok (.aload_n 0, 1) := by decide +kernel
theorem d8_readsItem_17 : decode prog_10_method_38_code 17 = .ok (.iload_n 1, 1) := by decide +kernel
theorem d8_readsItem_18 : decode prog_10_method_38_code 18 = .ok (.bipush 108, 2) := by decide +kernel
theorem d8_readsItem_20 : decode prog_10_method_38_code 20 = .ok (.invokevirtual 145, 3) := by decide +kernel
theorem d8_readsItem_23 : decode prog_10_method_38_code 23 = .ok (.ifCond .ne 15, 3) := by decide +kernel
theorem d8_readsItem_26 : decode prog_10_method_38_code 26 = .ok (.aload_n 0, 1) := by decide +kernel
theorem d8_readsItem_27 : decode prog_10_method_38_code 27 = .ok (.iload_n 1, 1) := by decide +kernel
theorem d8_readsItem_28 : decode prog_10_method_38_code 28 = .ok (.bipush 97, 2) := by decide +kernel
theorem d8_readsItem_30 : decode prog_10_method_38_code 30 = .ok (.invokevirtual 145, 3) := by decide +kernel
theorem d8_readsItem_33 : decode prog_10_method_38_code 33 = .ok (.ifCond .ne 5, 3) := by decide +kernel
theorem d8_readsItem_36 : decode prog_10_method_38_code 36 = .ok (.iconst 0, 1) := by decide +kernel
theorem d8_readsItem_37 : decode prog_10_method_38_code 37 = .ok (.ireturn, 1) := by decide +kernel
theorem d8_readsItem_38 : decode prog_10_method_38_code 38 = .ok (.iconst 0, 1) := by decide +kernel
theorem d8_readsItem_39 : decode prog_10_method_38_code 39 = .ok (.istore_n 3, 1) := by decide +kernel
theorem d8_readsItem_40 : decode prog_10_method_38_code 40 = .ok (.iconst 0, 1) := by decide +kernel
theorem d8_readsItem_41 : decode prog_10_method_38_code 41 = .ok (.istore 4, 2) := by decide +kernel
theorem d8_readsItem_43 : decode prog_10_method_38_code 43 = .ok (.iload_n 2, 1) := by decide +kernel
theorem d8_readsItem_44 : decode prog_10_method_38_code 44 = .ok (.bipush 97, 2) := by decide +kernel
theorem d8_readsItem_46 : decode prog_10_method_38_code 46 = .ok (.if_icmp .eq 86, 3) := by decide +kernel
theorem d8_readsItem_49 : decode prog_10_method_38_code 49 = .ok (.aload_n 0, 1) := by decide +kernel
theorem d8_readsItem_50 : decode prog_10_method_38_code 50 = .ok (.iload_n 1, 1) := by decide +kernel
theorem d8_readsItem_51 : decode prog_10_method_38_code 51 = .ok (.iconst 3, 1) := by decide +kernel
theorem d8_readsItem_52 : decode prog_10_method_38_code 52 = .ok (.bipush 119, 2) := by decide +kernel
theorem d8_readsItem_54 : decode prog_10_method_38_code 54 = .ok (.invokevirtual 149, 3) := by decide +kernel
theorem d8_readsItem_57 : decode prog_10_method_38_code 57 = .ok (.ifCond .ne 5, 3) := by decide +kernel
theorem d8_readsItem_60 : decode prog_10_method_38_code 60 = .ok (.iconst 0, 1) := by decide +kernel
theorem d8_readsItem_61 : decode prog_10_method_38_code 61 = .ok (.ireturn, 1) := by decide +kernel
theorem d8_readsItem_62 : decode prog_10_method_38_code 62 = .ok (.aload_n 0, 1) := by decide +kernel
theorem d8_readsItem_63 : decode prog_10_method_38_code 63 = .ok (.getfield 142, 3) := by decide +kernel
theorem d8_readsItem_66 : decode prog_10_method_38_code 66 = .ok (.istore_n 3, 1) := by decide +kernel
theorem d8_readsItem_67 : decode prog_10_method_38_code 67 = .ok (.aload_n 0, 1) := by decide +kernel
theorem d8_readsItem_68 : decode prog_10_method_38_code 68 = .ok (.iload_n 1, 1) := by decide +kernel
theorem d8_readsItem_69 : decode prog_10_method_38_code 69 = .ok (.bipush 58, 2) := by decide +kernel
theorem d8_readsItem_71 : decode prog_10_method_38_code 71 = .ok (.invokevirtual 145, 3) := by decide +kernel
theorem d8_readsItem_74 : decode prog_10_method_38_code 74 = .ok (.ifCond .eq 25, 3) := by decide +kernel
theorem d8_readsItem_77 : decode prog_10_method_38_code 77 = .ok (.aload_n 0, 1) := by decide +kernel
theorem d8_readsItem_78 : decode prog_10_method_38_code 78 = .ok (.iload_n 1, 1) := by decide +kernel
theorem d8_readsItem_79 : decode prog_10_method_38_code 79 = .ok (.iconst 1, 1) := by decide +kernel
theorem d8_readsItem_80 : decode prog_10_method_38_code 80 = .ok (.iload_n 2, 1) := by decide +kernel
theorem d8_readsItem_81 : decode prog_10_method_38_code 81 = .ok (.bipush 114, 2) := by decide +kernel
theorem d8_readsItem_83 : decode prog_10_method_38_code 83 = .ok (.if_icmp .ne 8, 3) := by decide +kernel
theorem d8_readsItem_86 : decode prog_10_method_38_code 86 = .ok (.bipush 9, 2) := by decide +kernel
theorem d8_readsItem_88 : decode prog_10_method_38_code 88 = .ok (.goto 5, 3) := by decide +kernel
theorem d8_readsItem_91 : decode prog_10_method_38_code 91 = .ok (.bipush 99, 2) := by decide +kernel
theorem d8_readsItem_93 : decode prog_10_method_38_code 93 = .ok (.invokevirtual 149, 3) := by decide +kernel
theorem d8_readsItem_96 : decode prog_10_method_38_code 96 = .ok (.ifCond .ne 5, 3) := by decide +kernel
theorem d8_readsItem_99 : decode prog_10_method_38_code 99 = .ok (.iconst 0, 1) := by decide +kernel
theorem d8_readsItem_100 : decode prog_10_method_38_code 100 = .ok (.ireturn, 1) := by decide +kernel
theorem d8_readsItem_101 : decode prog_10_method_38_code 101 = .ok (.aload_n 0, 1) := by decide +kernel
theorem d8_readsItem_102 : decode prog_10_method_38_code 102 = .ok (.getfield 142, 3) := by decide +kernel
theorem d8_readsItem_105 : decode prog_10_method_38_code 105 = .ok (.istore 4, 2) := by decide +kernel
theorem d8_readsItem_107 : decode prog_10_method_38_code 107 = .ok (.iload_n 2, 1) := by decide +kernel
theorem d8_readsItem_108 : decode prog_10_method_38_code 108 = .ok (.bipush 108, 2) := by decide +kernel
theorem d8_readsItem_110 : decode prog_10_method_38_code 110 = .ok (.if_icmp .ne 22, 3) := by decide +kernel
theorem d8_readsItem_113 : decode prog_10_method_38_code 113 = .ok (.iload 4, 2) := by decide +kernel
theorem d8_readsItem_115 : decode prog_10_method_38_code 115 = .ok (.bipush 7, 2) := by decide +kernel
theorem d8_readsItem_117 : decode prog_10_method_38_code 117 = .ok (.if_icmp .le 15, 3) := by decide +kernel
theorem d8_readsItem_120 : decode prog_10_method_38_code 120 = .ok (.aload_n 0, 1) := by decide +kernel
theorem d8_readsItem_121 : decode prog_10_method_38_code 121 = .ok (.dup, 1) := by decide +kernel
theorem d8_readsItem_122 : decode prog_10_method_38_code 122 = .ok (.getfield 136, 3) := by decide +kernel
theorem d8_readsItem_125 : decode prog_10_method_38_code 125 = .ok (.iconst 1, 1) := by decide +kernel
theorem d8_readsItem_126 : decode prog_10_method_38_code 126 = .ok (.isub, 1) := by decide +kernel
theorem d8_readsItem_127 : decode prog_10_method_38_code 127 = .ok (.putfield 136, 3) := by decide +kernel
theorem d8_readsItem_130 : decode prog_10_method_38_code 130 = .ok (.iconst 0, 1) := by decide +kernel
theorem d8_readsItem_131 : decode prog_10_method_38_code 131 = .ok (.ireturn, 1) := by decide +kernel
theorem d8_readsItem_132 : decode prog_10_method_38_code 132 = .ok (.aload_n 0, 1) := by decide +kernel
theorem d8_readsItem_133 : decode prog_10_method_38_code 133 = .ok (.iload_n 1, 1) := by decide +kernel
theorem d8_readsItem_134 : decode prog_10_method_38_code 134 = .ok (.bipush 61, 2) := by decide +kernel
theorem d8_readsItem_136 : decode prog_10_method_38_code 136 = .ok (.invokevirtual 145, 3) := by decide +kernel
theorem d8_readsItem_139 : decode prog_10_method_38_code 139 = .ok (.ifCond .eq 14, 3) := by decide +kernel
theorem d8_readsItem_142 : decode prog_10_method_38_code 142 = .ok (.aload_n 0, 1) := by decide +kernel
theorem d8_readsItem_143 : decode prog_10_method_38_code 143 = .ok (.iload_n 1, 1) := by decide +kernel
theorem d8_readsItem_144 : decode prog_10_method_38_code 144 = .ok (.iconst 2, 1) := by decide +kernel
theorem d8_readsItem_145 : decode prog_10_method_38_code 145 = .ok (.bipush 99, 2) := by decide +kernel
theorem d8_readsItem_147 : decode prog_10_method_38_code 147 = .ok (.invokevirtual 149, 3) := by decide +kernel
theorem d8_readsItem_150 : decode prog_10_method_38_code 150 = .ok (.ifCond .ne 5, 3) := by decide +kernel
theorem d8_readsItem_153 : decode prog_10_method_38_code 153 = .ok (.iconst 0, 1) := by decide +kernel
theorem d8_readsItem_154 : decode prog_10_method_38_code 154 = .ok (.ireturn, 1) := by decide +kernel
theorem d8_readsItem_155 : decode prog_10_method_38_code 155 = .ok (.iconst 0, 1) := by decide +kernel
theorem d8_readsItem_156 : decode prog_10_method_38_code 156 = .ok (.istore 5, 2) := by decide +kernel
theorem d8_readsItem_158 : decode prog_10_method_38_code 158 = .ok (.iload 5, 2) := by decide +kernel
theorem d8_readsItem_160 : decode prog_10_method_38_code 160 = .ok (.bipush 120, 2) := by decide +kernel
theorem d8_readsItem_162 : decode prog_10_method_38_code 162 = .ok (.if_icmp .ge 53, 3) := by decide +kernel
theorem d8_readsItem_165 : decode prog_10_method_38_code 165 = .ok (.aload_n 0, 1) := by decide +kernel
theorem d8_readsItem_166 : decode prog_10_method_38_code 166 = .ok (.getfield 42, 3) := by decide +kernel
theorem d8_readsItem_169 : decode prog_10_method_38_code 169 = .ok (.iload 5, 2) := by decide +kernel
theorem d8_readsItem_171 : decode prog_10_method_38_code 171 = .ok (.iload_n 2, 1) := by decide +kernel
theorem d8_readsItem_172 : decode prog_10_method_38_code 172 = .ok (.bipush 97, 2) := by decide +kernel
theorem d8_readsItem_174 : decode prog_10_method_38_code 174 = .ok (.if_icmp .eq 20, 3) := by decide +kernel
theorem d8_readsItem_177 : decode prog_10_method_38_code 177 = .ok (.iload_n 2, 1) := by decide +kernel
theorem d8_readsItem_178 : decode prog_10_method_38_code 178 = .ok (.bipush 114, 2) := by decide +kernel
theorem d8_readsItem_180 : decode prog_10_method_38_code 180 = .ok (.if_icmp .ne 21, 3) := by decide +kernel
theorem d8_readsItem_183 : decode prog_10_method_38_code 183 = .ok (.iload_n 3, 1) := by decide +kernel
theorem d8_readsItem_184 : decode prog_10_method_38_code 184 = .ok (.iload 5, 2) := by decide +kernel
theorem d8_readsItem_186 : decode prog_10_method_38_code 186 = .ok (.invokestatic 123, 3) := by decide +kernel
theorem d8_readsItem_189 : decode prog_10_method_38_code 189 = .ok (.iload 4, 2) := by decide +kernel
theorem d8_readsItem_191 : decode prog_10_method_38_code 191 = .ok (.if_icmp .gt 10, 3) := by decide +kernel
theorem d8_readsItem_194 : decode prog_10_method_38_code 194 = .ok (.aload_n 0, 1) := by decide +kernel
theorem d8_readsItem_195 : decode prog_10_method_38_code 195 = .ok (.getfield 142, 3) := by decide +kernel
theorem d8_readsItem_198 : decode prog_10_method_38_code 198 = .ok (.goto 10, 3) := by decide +kernel
theorem d8_readsItem_201 : decode prog_10_method_38_code 201 = .ok (.aload_n 0, 1) := by decide +kernel
theorem d8_readsItem_202 : decode prog_10_method_38_code 202 = .ok (.getfield 42, 3) := by decide +kernel
theorem d8_readsItem_205 : decode prog_10_method_38_code 205 = .ok (.iload 5, 2) := by decide +kernel
theorem d8_readsItem_207 : decode prog_10_method_38_code 207 = .ok (.iaload, 1) := by decide +kernel
theorem d8_readsItem_208 : decode prog_10_method_38_code 208 = .ok (.iastore, 1) := by decide +kernel
theorem d8_readsItem_209 : decode prog_10_method_38_code 209 = .ok (.iinc 5 1, 3) := by decide +kernel
theorem d8_readsItem_212 : decode prog_10_method_38_code 212 = .ok (.goto (-54), 3) := by decide +kernel
theorem d8_readsItem_215 : decode prog_10_method_38_code 215 = .ok (.iload_n 2, 1) := by decide +kernel
theorem d8_readsItem_216 : decode prog_10_method_38_code 216 = .ok (.bipush 108, 2) := by decide +kernel
theorem d8_readsItem_218 : decode prog_10_method_38_code 218 = .ok (.if_icmp .ne 27, 3) := by decide +kernel
theorem d8_readsItem_221 : decode prog_10_method_38_code 221 = .ok (.iload_n 3, 1) := by decide +kernel
theorem d8_readsItem_222 : decode prog_10_method_38_code 222 = .ok (.ifCond .lt 23, 3) := by decide +kernel
theorem d8_readsItem_225 : decode prog_10_method_38_code 225 = .ok (.aload_n 0, 1) := by decide +kernel
theorem d8_readsItem_226 : decode prog_10_method_38_code 226 = .ok (.getfield 42, 3) := by decide +kernel
theorem d8_readsItem_229 : decode prog_10_method_38_code 229 = .ok (.iload_n 3, 1) := by decide +kernel
theorem d8_readsItem_230 : decode prog_10_method_38_code 230 = .ok (.aload_n 0, 1) := by decide +kernel
theorem d8_readsItem_231 : decode prog_10_method_38_code 231 = .ok (.getfield 142, 3) := by decide +kernel
theorem d8_readsItem_234 : decode prog_10_method_38_code 234 = .ok (.iastore, 1) := by decide +kernel
theorem d8_readsItem_235 : decode prog_10_method_38_code 235 = .ok (.iload_n 3, 1) := by decide +kernel
theorem d8_readsItem_236 : decode prog_10_method_38_code 236 = .ok (.iload 4, 2) := by decide +kernel
theorem d8_readsItem_238 : decode prog_10_method_38_code 238 = .ok (.invokestatic 114, 3) := by decide +kernel
theorem d8_readsItem_241 : decode prog_10_method_38_code 241 = .ok (.istore_n 3, 1) := by decide +kernel
theorem d8_readsItem_242 : decode prog_10_method_38_code 242 = .ok (.goto (-27), 3) := by decide +kernel
theorem d8_readsItem_245 : decode prog_10_method_38_code 245 = .ok (.iconst 1, 1) := by decide +kernel
theorem d8_readsItem_246 : decode prog_10_method_38_code 246 = .ok (.ireturn, 1) := by decide +kernel
theorem d8_goesOn_0 : decode prog_10_method_39_code 0 = .ok (.aload_n 0, 1) := by decide +kernel
theorem d8_goesOn_1 : decode prog_10_method_39_code 1 = .ok (.iconst 0, 1) := by decide +kernel
theorem d8_goesOn_2 : decode prog_10_method_39_code 2 = .ok (.putfield 136, 3) := by decide +kernel
theorem d8_goesOn_5 : decode prog_10_method_39_code 5 = .ok (.aload_n 0, 1) := by decide +kernel
theorem d8_goesOn_6 : decode prog_10_method_39_code 6 = .ok (.iconst 0, 1) := by decide +kernel
theorem d8_goesOn_7 : decode prog_10_method_39_code 7 = .ok (.putfield 152, 3) := by decide +kernel
theorem d8_goesOn_10 : decode prog_10_method_39_code 10 = .ok (.iconst 0, 1) := by decide +kernel
theorem d8_goesOn_11 : decode prog_10_method_39_code 11 = .ok (.istore_n 2, 1) := by decide +kernel
theorem d8_goesOn_12 : decode prog_10_method_39_code 12 = .ok (.iload_n 2, 1) := by decide +kernel
theorem d8_goesOn_13 : decode prog_10_method_39_code 13 = .ok (.bipush 120, 2) := by decide +kernel
theorem d8_goesOn_15 : decode prog_10_method_39_code 15 = .ok (.if_icmp .ge 16, 3) := by decide +kernel
theorem d8_goesOn_18 : decode prog_10_method_39_code 18 = .ok (.aload_n 0, 1) := by decide +kernel
theorem d8_goesOn_19 : decode prog_10_method_39_code 19 = .ok (.getfield 42, 3) := by decide +kernel
theorem d8_goesOn_22 : decode prog_10_method_39_code 22 = .ok (.iload_n 2, 1) := by decide +kernel
theorem d8_goesOn_23 : decode prog_10_method_39_code 23 = .ok (.iconst 0, 1) := by decide +kernel
theorem d8_goesOn_24 : decode prog_10_method_39_code 24 = .ok (.iastore, 1) := by decide +kernel
theorem d8_goesOn_25 : decode prog_10_method_39_code 25 = .ok (.iinc 2 1, 3) := by decide +kernel
theorem d8_goesOn_28 : decode prog_10_method_39_code 28 = .ok (.goto (-16), 3) := by decide +kernel
theorem d8_goesOn_31 : decode prog_10_method_39_code 31 = .ok (.aload_n 0, 1) := by decide +kernel
theorem d8_goesOn_32 : decode prog_10_method_39_code 32 = .ok (.getfield 136, 3) := by decide +kernel
theorem d8_goesOn_35 : decode prog_10_method_39_code 35 = .ok (.aload_n 0, 1) := by decide +kernel
theorem d8_goesOn_36 : decode prog_10_method_39_code 36 = .ok (.getfield 26, 3) := by decide +kernel
theorem d8_goesOn_39 : decode prog_10_method_39_code 39 = .ok (.iload_n 1, 1) := by decide +kernel
theorem d8_goesOn_40 : decode prog_10_method_39_code 40 = .ok (.iaload, 1) := by decide +kernel
theorem d8_goesOn_41 : decode prog_10_method_39_code 41 = .ok (.if_icmp .ge 52, 3) := by decide +kernel
theorem d8_goesOn_44 : decode prog_10_method_39_code 44 = .ok (.aload_n 0, 1) := by decide +kernel
theorem d8_goesOn_45 : decode prog_10_method_39_code 45 = .ok (.iload_n 1, 1) := by decide +kernel
theorem d8_goesOn_46 : decode prog_10_method_39_code 46 = .ok (.invokevirtual 139, 3) := by decide +kernel
theorem d8_goesOn_49 : decode prog_10_method_39_code 49 = .ok (.bipush 32, 2) := by decide +kernel
theorem d8_goesOn_51 : decode prog_10_method_39_code 51 = .ok (.if_icmp .ne 16, 3) := by decide +kernel
theorem d8_goesOn_54 : decode prog_10_method_39_code 54 = .ok (.aload_n 0, 1) := by decide +kernel
theorem d8_goesOn_55 : decode prog_10_method_39_code 55 = .ok (.dup, 1) := by decide +kernel
theorem d8_goesOn_56 : decode prog_10_method_39_code 56 = .ok (.getfield 136, 3) := by decide +kernel
theorem d8_goesOn_59 : decode prog_10_method_39_code 59 = .ok (.iconst 1, 1) := by decide +kernel
theorem d8_goesOn_60 : decode prog_10_method_39_code 60 = .ok (.iadd, 1) := by decide +kernel
theorem d8_goesOn_61 : decode prog_10_method_39_code 61 = .ok (.putfield 136, 3) := by decide +kernel
theorem d8_goesOn_64 : decode prog_10_method_39_code 64 = .ok (.goto (-33), 3) := by decide +kernel
theorem d8_goesOn_67 : decode prog_10_method_39_code 67 = .ok (.aload_n 0, 1) := by decide +kernel
theorem d8_goesOn_68 : decode prog_10_method_39_code 68 = .ok (.iload_n 1, 1) := by decide +kernel
theorem d8_goesOn_69 : decode prog_10_method_39_code 69 = .ok (.invokevirtual 155, 3) := by decide +kernel
theorem d8_goesOn_72 : decode prog_10_method_39_code 72 = .ok (.ifCond .ne 8, 3) := by decide +kernel
theorem d8_goesOn_75 : decode prog_10_method_39_code 75 = .ok (.aload_n 0, 1) := by decide +kernel
theorem d8_goesOn_76 : decode prog_10_method_39_code 76 = .ok (.getfield 136, 3) := by decide +kernel
theorem d8_goesOn_79 : decode prog_10_method_39_code 79 = .ok (.ireturn, 1) := by decide +kernel
theorem d8_goesOn_80 : decode prog_10_method_39_code 80 = .ok (.aload_n 0, 1) := by decide +kernel
theorem d8_goesOn_81 : decode prog_10_method_39_code 81 = .ok (.dup, 1) := by decide +kernel
theorem d8_goesOn_82 : decode prog_10_method_39_code 82 = .ok (.getfield 152, 3) := by decide +kernel
theorem d8_goesOn_85 : decode prog_10_method_39_code 85 = .ok (.iconst 1, 1) := by decide +kernel
theorem d8_goesOn_86 : decode prog_10_method_39_code 86 = .ok (.iadd, 1) := by decide +kernel
theorem d8_goesOn_87 : decode prog_10_method_39_code 87 = .ok (.putfield 152, 3) := by decide +kernel
theorem d8_goesOn_90 : decode prog_10_method_39_code 90 = .ok (.goto (-59), 3) := by decide +kernel
theorem d8_goesOn_93 : decode prog_10_method_39_code 93 = .ok (.bipush (-9), 2) := by decide +kernel
theorem d8_goesOn_95 : decode prog_10_method_39_code 95 = .ok (.ireturn, 1) := by decide +kernel
theorem d8_fault_0 : decode prog_10_method_40_code 0 = .ok (.aload_n 0, 1) := by decide +kernel
theorem d8_fault_1 : decode prog_10_method_40_code 1 = .ok (.iload_n 1, 1) := by decide +kernel
theorem d8_fault_2 : decode prog_10_method_40_code 2 = .ok (.invokevirtual 108, 3) := by decide +kernel
theorem d8_fault_5 : decode prog_10_method_40_code 5 = .ok (.istore_n 2, 1) := by decide +kernel
theorem d8_fault_6 : decode prog_10_method_40_code 6 = .ok (.iload_n 2, 1) := by decide +kernel
theorem d8_fault_7 : decode prog_10_method_40_code 7 = .ok (.ifCond .ge 7, 3) := by decide +kernel
theorem d8_fault_10 : decode prog_10_method_40_code 10 = .ok (.iload_n 2, 1) := by decide +kernel
theorem d8_fault_11 : decode prog_10_method_40_code 11 = .ok (.goto 8, 3) := by decide +kernel
theorem d8_fault_14 : decode prog_10_method_40_code 14 = .ok (.aload_n 0, 1) := by decide +kernel
theorem d8_fault_15 : decode prog_10_method_40_code 15 = .ok (.iload_n 1, 1) := by decide +kernel
theorem d8_fault_16 : decode prog_10_method_40_code 16 = .ok (.invokevirtual 158, 3) := by decide +kernel
theorem d8_fault_19 : decode prog_10_method_40_code 19 = .ok (.ireturn, 1) := by decide +kernel
theorem d7_story_0 : decode prog_1_method_15_code 0 = .ok (.iload_n 1, 1) := by decide +kernel
theorem d7_story_1 : decode prog_1_method_15_code 1 = .ok (.iconst 1, 1) := by decide +kernel
theorem d7_story_2 : decode prog_1_method_15_code 2 = .ok (.if_icmp .lt 15, 3) := by decide +kernel
theorem d7_story_5 : decode prog_1_method_15_code 5 = .ok (.iload_n 1, 1) := by decide +kernel
theorem d7_story_6 : decode prog_1_method_15_code 6 = .ok (.iconst 3, 1) := by decide +kernel
theorem d7_story_7 : decode prog_1_method_15_code 7 = .ok (.if_icmp .gt 10, 3) := by decide +kernel
theorem d7_story_10 : decode prog_1_method_15_code 10 = .ok (.iload_n 2, 1) := by decide +kernel
theorem d7_story_11 : decode prog_1_method_15_code 11 = .ok (.invokestatic 114, 3) := by decide +kernel
theorem d7_story_14 : decode prog_1_method_15_code 14 = .ok (.ifCond .ne 5, 3) := by decide +kernel
theorem d7_story_17 : decode prog_1_method_15_code 17 = .ok (.iconst (-1), 1) := by decide +kernel
theorem d7_story_18 : decode prog_1_method_15_code 18 = .ok (.ireturn, 1) := by decide +kernel
theorem d7_story_19 : decode prog_1_method_15_code 19 = .ok (.aload_n 0, 1) := by decide +kernel
theorem d7_story_20 : decode prog_1_method_15_code 20 = .ok (.getfield 23, 3) := by decide +kernel
theorem d7_story_23 : decode prog_1_method_15_code 23 = .ok (.iload_n 2, 1) := by decide +kernel
theorem d7_story_24 : decode prog_1_method_15_code 24 = .ok (.iaload, 1) := by decide +kernel
theorem d7_story_25 : decode prog_1_method_15_code 25 = .ok (.iconst (-1), 1) := by decide +kernel
theorem d7_story_26 : decode prog_1_method_15_code 26 = .ok (.if_icmp .ne 9, 3) := by decide +kernel
theorem d7_story_29 : decode prog_1_method_15_code 29 = .ok (.aload_n 0, 1) := by decide +kernel
theorem d7_story_30 : decode prog_1_method_15_code 30 = .ok (.iconst 1, 1) := by decide +kernel
theorem d7_story_31 : decode prog_1_method_15_code 31 = .ok (.invokevirtual 92, 3) := by decide +kernel
theorem d7_story_34 : decode prog_1_method_15_code 34 = .ok (.ireturn, 1) := by decide +kernel
theorem d7_story_35 : decode prog_1_method_15_code 35 = .ok (.aload_n 0, 1) := by decide +kernel
theorem d7_story_36 : decode prog_1_method_15_code 36 = .ok (.getfield 54, 3) := by decide +kernel
theorem d7_story_39 : decode prog_1_method_15_code 39 = .ok (.aload_n 0, 1) := by decide +kernel
theorem d7_story_40 : decode prog_1_method_15_code 40 = .ok (.getfield 20, 3) := by decide +kernel
theorem d7_story_43 : decode prog_1_method_15_code 43 = .ok (.iload_n 2, 1) := by decide +kernel
theorem d7_story_44 : decode prog_1_method_15_code 44 = .ok (.aaload, 1) := by decide +kernel
theorem d7_story_45 : decode prog_1_method_15_code 45 = .ok (.aload_n 0, 1) := by decide +kernel
theorem d7_story_46 : decode prog_1_method_15_code 46 = .ok (.getfield 23, 3) := by decide +kernel
theorem d7_story_49 : decode prog_1_method_15_code 49 = .ok (.iload_n 2, 1) := by decide +kernel
theorem d7_story_50 : decode prog_1_method_15_code 50 = .ok (.iaload, 1) := by decide +kernel
theorem d7_story_51 : decode prog_1_method_15_code 51 = .ok (.invokevirtual 150, 3) := by decide +kernel
theorem d7_story_54 : decode prog_1_method_15_code 54 = .ok (.bipush (-9), 2) := by decide +kernel
theorem d7_story_56 : decode prog_1_method_15_code 56 = .ok (.if_icmp .eq 6, 3) := by decide +kernel
theorem d7_story_59 : decode prog_1_method_15_code 59 = .ok (.bipush (-4), 2) := by decide +kernel
theorem d7_story_61 : decode prog_1_method_15_code 61 = .ok (.ireturn, 1) := by decide +kernel
theorem d7_story_62 : decode prog_1_method_15_code 62 = .ok (.aload_n 0, 1) := by decide +kernel
theorem d7_story_63 : decode prog_1_method_15_code 63 = .ok (.getfield 54, 3) := by decide +kernel
theorem d7_story_66 : decode prog_1_method_15_code 66 = .ok (.getfield 154, 3) := by decide +kernel
theorem d7_story_69 : decode prog_1_method_15_code 69 = .ok (.iconst 0, 1) := by decide +kernel
theorem d7_story_70 : decode prog_1_method_15_code 70 = .ok (.aload_n 0, 1) := by decide +kernel
theorem d7_story_71 : decode prog_1_method_15_code 71 = .ok (.getfield 46, 3) := by decide +kernel
theorem d7_story_74 : decode prog_1_method_15_code 74 = .ok (.iload_n 1, 1) := by decide +kernel
theorem d7_story_75 : decode prog_1_method_15_code 75 = .ok (.iconst 1, 1) := by decide +kernel
theorem d7_story_76 : decode prog_1_method_15_code 76 = .ok (.isub, 1) := by decide +kernel
theorem d7_story_77 : decode prog_1_method_15_code 77 = .ok (.aaload, 1) := by decide +kernel
theorem d7_story_78 : decode prog_1_method_15_code 78 = .ok (.iconst 0, 1) := by decide +kernel
theorem d7_story_79 : decode prog_1_method_15_code 79 = .ok (.bipush 120, 2) := by decide +kernel
theorem d7_story_81 : decode prog_1_method_15_code 81 = .ok (.invokestatic 108, 3) := by decide +kernel
theorem d7_story_84 : decode prog_1_method_15_code 84 = .ok (.aload_n 0, 1) := by decide +kernel
theorem d7_story_85 : decode prog_1_method_15_code 85 = .ok (.getfield 47, 3) := by decide +kernel
theorem d7_story_88 : decode prog_1_method_15_code 88 = .ok (.iload_n 1, 1) := by decide +kernel
theorem d7_story_89 : decode prog_1_method_15_code 89 = .ok (.iconst 1, 1) := by decide +kernel
theorem d7_story_90 : decode prog_1_method_15_code 90 = .ok (.isub, 1) := by decide +kernel
theorem d7_story_91 : decode prog_1_method_15_code 91 = .ok (.iconst 1, 1) := by decide +kernel
theorem d7_story_92 : decode prog_1_method_15_code 92 = .ok (.bastore, 1) := by decide +kernel
theorem d7_story_93 : decode prog_1_method_15_code 93 = .ok (.aload_n 0, 1) := by decide +kernel
theorem d7_story_94 : decode prog_1_method_15_code 94 = .ok (.getfield 54, 3) := by decide +kernel
theorem d7_story_97 : decode prog_1_method_15_code 97 = .ok (.getfield 157, 3) := by decide +kernel
theorem d7_story_100 : decode prog_1_method_15_code 100 = .ok (.ireturn, 1) := by decide +kernel
theorem d8_story_0 : decode prog_10_method_41_code 0 = .ok (.iload_n 1, 1) := by decide +kernel
theorem d8_story_1 : decode prog_10_method_41_code 1 = .ok (.iconst 1, 1) := by decide +kernel
theorem d8_story_2 : decode prog_10_method_41_code 2 = .ok (.iconst 3, 1) := by decide +kernel
theorem d8_story_3 : decode prog_10_method_41_code 3 = .ok (.invokestatic 80, 3) := by decide +kernel
theorem d8_story_6 : decode prog_10_method_41_code 6 = .ok (.ifCond .ne 5, 3) := by decide +kernel
theorem d8_story_9 : decode prog_10_method_41_code 9 = .ok (.iconst (-1), 1) := by decide +kernel
theorem d8_story_10 : decode prog_10_method_41_code 10 = .ok (.ireturn, 1) := by decide +kernel
theorem d8_story_11 : decode prog_10_method_41_code 11 = .ok (.aload_n 0, 1) := by decide +kernel
theorem d8_story_12 : decode prog_10_method_41_code 12 = .ok (.iload_n 2, 1) := by decide +kernel
theorem d8_story_13 : decode prog_10_method_41_code 13 = .ok (.invokevirtual 108, 3) := by decide +kernel
theorem d8_story_16 : decode prog_10_method_41_code 16 = .ok (.istore_n 3, 1) := by decide +kernel
theorem d8_story_17 : decode prog_10_method_41_code 17 = .ok (.iload_n 3, 1) := by decide +kernel
theorem d8_story_18 : decode prog_10_method_41_code 18 = .ok (.ifCond .ge 5, 3) := by decide +kernel
theorem d8_story_21 : decode prog_10_method_41_code 21 = .ok (.iload_n 3, 1) := by decide +kernel
theorem d8_story_22 : decode prog_10_method_41_code 22 = .ok (.ireturn, 1) := by decide +kernel
theorem d8_story_23 : decode prog_10_method_41_code 23 = .ok (.aload_n 0, 1) := by decide +kernel
theorem d8_story_24 : decode prog_10_method_41_code 24 = .ok (.iload_n 2, 1) := by decide +kernel
theorem d8_story_25 : decode prog_10_method_41_code 25 = .ok (.invokevirtual 158, 3) := by decide +kernel
theorem d8_story_28 : decode prog_10_method_41_code 28 = .ok (.bipush (-9), 2) := by decide +kernel
theorem d8_story_30 : decode prog_10_method_41_code 30 = .ok (.if_icmp .eq 6, 3) := by decide +kernel
theorem d8_story_33 : decode prog_10_method_41_code 33 = .ok (.bipush (-4), 2) := by decide +kernel
theorem d8_story_35 : decode prog_10_method_41_code 35 = .ok (.ireturn, 1) := by decide +kernel
theorem d8_story_36 : decode prog_10_method_41_code 36 = .ok (.aload_n 0, 1) := by decide +kernel
theorem d8_story_37 : decode prog_10_method_41_code 37 = .ok (.getfield 35, 3) := by decide +kernel
theorem d8_story_40 : decode prog_10_method_41_code 40 = .ok (.iload_n 1, 1) := by decide +kernel
theorem d8_story_41 : decode prog_10_method_41_code 41 = .ok (.iconst 1, 1) := by decide +kernel
theorem d8_story_42 : decode prog_10_method_41_code 42 = .ok (.bastore, 1) := by decide +kernel
theorem d8_story_43 : decode prog_10_method_41_code 43 = .ok (.iconst 0, 1) := by decide +kernel
theorem d8_story_44 : decode prog_10_method_41_code 44 = .ok (.istore 4, 2) := by decide +kernel
theorem d8_story_46 : decode prog_10_method_41_code 46 = .ok (.iload 4, 2) := by decide +kernel
theorem d8_story_48 : decode prog_10_method_41_code 48 = .ok (.bipush 120, 2) := by decide +kernel
theorem d8_story_50 : decode prog_10_method_41_code 50 = .ok (.if_icmp .ge 28, 3) := by decide +kernel
theorem d8_story_53 : decode prog_10_method_41_code 53 = .ok (.aload_n 0, 1) := by decide +kernel
theorem d8_story_54 : decode prog_10_method_41_code 54 = .ok (.getfield 39, 3) := by decide +kernel
theorem d8_story_57 : decode prog_10_method_41_code 57 = .ok (.bipush 120, 2) := by decide +kernel
theorem d8_story_59 : decode prog_10_method_41_code 59 = .ok (.iload_n 1, 1) := by decide +kernel
theorem d8_story_60 : decode prog_10_method_41_code 60 = .ok (.imul, 1) := by decide +kernel
theorem d8_story_61 : decode prog_10_method_41_code 61 = .ok (.iload 4, 2) := by decide +kernel
theorem d8_story_63 : decode prog_10_method_41_code 63 = .ok (.iadd, 1) := by decide +kernel
theorem d8_story_64 : decode prog_10_method_41_code 64 = .ok (.aload_n 0, 1) := by decide +kernel
theorem d8_story_65 : decode prog_10_method_41_code 65 = .ok (.getfield 42, 3) := by decide +kernel
theorem d8_story_68 : decode prog_10_method_41_code 68 = .ok (.iload 4, 2) := by decide +kernel
theorem d8_story_70 : decode prog_10_method_41_code 70 = .ok (.iaload, 1) := by decide +kernel
theorem d8_story_71 : decode prog_10_method_41_code 71 = .ok (.iastore, 1) := by decide +kernel
theorem d8_story_72 : decode prog_10_method_41_code 72 = .ok (.iinc 4 1, 3) := by decide +kernel
theorem d8_story_75 : decode prog_10_method_41_code 75 = .ok (.goto (-29), 3) := by decide +kernel
theorem d8_story_78 : decode prog_10_method_41_code 78 = .ok (.aload_n 0, 1) := by decide +kernel
theorem d8_story_79 : decode prog_10_method_41_code 79 = .ok (.getfield 152, 3) := by decide +kernel
theorem d8_story_82 : decode prog_10_method_41_code 82 = .ok (.ireturn, 1) := by decide +kernel
theorem d7_isMissing_0 : decode prog_1_method_53_code 0 = .ok (.iload_n 1, 1) := by decide +kernel
theorem d7_isMissing_1 : decode prog_1_method_53_code 1 = .ok (.ifCond .le 23, 3) := by decide +kernel
theorem d7_isMissing_4 : decode prog_1_method_53_code 4 = .ok (.iload_n 1, 1) := by decide +kernel
theorem d7_isMissing_5 : decode prog_1_method_53_code 5 = .ok (.iconst 3, 1) := by decide +kernel
theorem d7_isMissing_6 : decode prog_1_method_53_code 6 = .ok (.if_icmp .gt 18, 3) := by decide +kernel
theorem d7_isMissing_9 : decode prog_1_method_53_code 9 = .ok (.aload_n 0, 1) := by decide +kernel
theorem d7_isMissing_10 : decode prog_1_method_53_code 10 = .ok (.getfield 47, 3) := by decide +kernel
theorem d7_isMissing_13 : decode prog_1_method_53_code 13 = .ok (.iload_n 1, 1) := by decide +kernel
theorem d7_isMissing_14 : decode prog_1_method_53_code 14 = .ok (.iconst 1, 1) := by decide +kernel
theorem d7_isMissing_15 : decode prog_1_method_53_code 15 = .ok (.isub, 1) := by decide +kernel
theorem d7_isMissing_16 : decode prog_1_method_53_code 16 = .ok (.baload, 1) := by decide +kernel
theorem d7_isMissing_17 : decode prog_1_method_53_code 17 = .ok (.ifCond .ne 7, 3) := by decide +kernel
theorem d7_isMissing_20 : decode prog_1_method_53_code 20 = .ok (.iconst 1, 1) := by decide +kernel
theorem d7_isMissing_21 : decode prog_1_method_53_code 21 = .ok (.goto 4, 3) := by decide +kernel
theorem d7_isMissing_24 : decode prog_1_method_53_code 24 = .ok (.iconst 0, 1) := by decide +kernel
theorem d7_isMissing_25 : decode prog_1_method_53_code 25 = .ok (.ireturn, 1) := by decide +kernel
theorem d7_lies_0 : decode prog_1_method_16_code 0 = .ok (.iload_n 1, 1) := by decide +kernel
theorem d7_lies_1 : decode prog_1_method_16_code 1 = .ok (.iconst 1, 1) := by decide +kernel
theorem d7_lies_2 : decode prog_1_method_16_code 2 = .ok (.if_icmp .lt 15, 3) := by decide +kernel
theorem d7_lies_5 : decode prog_1_method_16_code 5 = .ok (.iload_n 1, 1) := by decide +kernel
theorem d7_lies_6 : decode prog_1_method_16_code 6 = .ok (.iconst 3, 1) := by decide +kernel
theorem d7_lies_7 : decode prog_1_method_16_code 7 = .ok (.if_icmp .gt 10, 3) := by decide +kernel
theorem d7_lies_10 : decode prog_1_method_16_code 10 = .ok (.iload_n 2, 1) := by decide +kernel
theorem d7_lies_11 : decode prog_1_method_16_code 11 = .ok (.invokestatic 120, 3) := by decide +kernel
theorem d7_lies_14 : decode prog_1_method_16_code 14 = .ok (.ifCond .ne 5, 3) := by decide +kernel
theorem d7_lies_17 : decode prog_1_method_16_code 17 = .ok (.iconst (-1), 1) := by decide +kernel
theorem d7_lies_18 : decode prog_1_method_16_code 18 = .ok (.ireturn, 1) := by decide +kernel
theorem d7_lies_19 : decode prog_1_method_16_code 19 = .ok (.aload_n 0, 1) := by decide +kernel
theorem d7_lies_20 : decode prog_1_method_16_code 20 = .ok (.iload_n 1, 1) := by decide +kernel
theorem d7_lies_21 : decode prog_1_method_16_code 21 = .ok (.invokevirtual 160, 3) := by decide +kernel
theorem d7_lies_24 : decode prog_1_method_16_code 24 = .ok (.ifCond .eq 9, 3) := by decide +kernel
theorem d7_lies_27 : decode prog_1_method_16_code 27 = .ok (.aload_n 0, 1) := by decide +kernel
theorem d7_lies_28 : decode prog_1_method_16_code 28 = .ok (.iconst 1, 1) := by decide +kernel
theorem d7_lies_29 : decode prog_1_method_16_code 29 = .ok (.invokevirtual 92, 3) := by decide +kernel
theorem d7_lies_32 : decode prog_1_method_16_code 32 = .ok (.ireturn, 1) := by decide +kernel
theorem d7_lies_33 : decode prog_1_method_16_code 33 = .ok (.aload_n 0, 1) := by decide +kernel
theorem d7_lies_34 : decode prog_1_method_16_code 34 = .ok (.getfield 46, 3) := by decide +kernel
theorem d7_lies_37 : decode prog_1_method_16_code 37 = .ok (.iload_n 1, 1) := by decide +kernel
theorem d7_lies_38 : decode prog_1_method_16_code 38 = .ok (.iconst 1, 1) := by decide +kernel
theorem d7_lies_39 : decode prog_1_method_16_code 39 = .ok (.isub, 1) := by decide +kernel
theorem d7_lies_40 : decode prog_1_method_16_code 40 = .ok (.aaload, 1) := by decide +kernel
theorem d7_lies_41 : decode prog_1_method_16_code 41 = .ok (.iload_n 2, 1) := by decide +kernel
theorem d7_lies_42 : decode prog_1_method_16_code 42 = .ok (.iaload, 1) := by decide +kernel
theorem d7_lies_43 : decode prog_1_method_16_code 43 = .ok (.ireturn, 1) := by decide +kernel
theorem d8_lies_0 : decode prog_10_method_42_code 0 = .ok (.iload_n 1, 1) := by decide +kernel
theorem d8_lies_1 : decode prog_10_method_42_code 1 = .ok (.iconst 1, 1) := by decide +kernel
theorem d8_lies_2 : decode prog_10_method_42_code 2 = .ok (.iconst 3, 1) := by decide +kernel
theorem d8_lies_3 : decode prog_10_method_42_code 3 = .ok (.invokestatic 80, 3) := by decide +kernel
theorem d8_lies_6 : decode prog_10_method_42_code 6 = .ok (.ifCond .eq 10, 3) := by decide +kernel
theorem d8_lies_9 : decode prog_10_method_42_code 9 = .ok (.iload_n 2, 1) := by decide +kernel
theorem d8_lies_10 : decode prog_10_method_42_code 10 = .ok (.invokestatic 117, 3) := by decide +kernel
theorem d8_lies_13 : decode prog_10_method_42_code 13 = .ok (.ifCond .ne 5, 3) := by decide +kernel
theorem d8_lies_16 : decode prog_10_method_42_code 16 = .ok (.iconst (-1), 1) := by decide +kernel
theorem d8_lies_17 : decode prog_10_method_42_code 17 = .ok (.ireturn, 1) := by decide +kernel
theorem d8_lies_18 : decode prog_10_method_42_code 18 = .ok (.aload_n 0, 1) := by decide +kernel
theorem d8_lies_19 : decode prog_10_method_42_code 19 = .ok (.getfield 35, 3) := by decide +kernel
theorem d8_lies_22 : decode prog_10_method_42_code 22 = .ok (.iload_n 1, 1) := by decide +kernel
theorem d8_lies_23 : decode prog_10_method_42_code 23 = .ok (.baload, 1) := by decide +kernel
theorem d8_lies_24 : decode prog_10_method_42_code 24 = .ok (.ifCond .eq 17, 3) := by decide +kernel
theorem d8_lies_27 : decode prog_10_method_42_code 27 = .ok (.aload_n 0, 1) := by decide +kernel
theorem d8_lies_28 : decode prog_10_method_42_code 28 = .ok (.getfield 39, 3) := by decide +kernel
theorem d8_lies_31 : decode prog_10_method_42_code 31 = .ok (.bipush 120, 2) := by decide +kernel
theorem d8_lies_33 : decode prog_10_method_42_code 33 = .ok (.iload_n 1, 1) := by decide +kernel
theorem d8_lies_34 : decode prog_10_method_42_code 34 = .ok (.imul, 1) := by decide +kernel
theorem d8_lies_35 : decode prog_10_method_42_code 35 = .ok (.iload_n 2, 1) := by decide +kernel
theorem d8_lies_36 : decode prog_10_method_42_code 36 = .ok (.iadd, 1) := by decide +kernel
theorem d8_lies_37 : decode prog_10_method_42_code 37 = .ok (.iaload, 1) := by decide +kernel
theorem d8_lies_38 : decode prog_10_method_42_code 38 = .ok (.goto 8, 3) := by decide +kernel
theorem d8_lies_41 : decode prog_10_method_42_code 41 = .ok (.aload_n 0, 1) := by decide +kernel
theorem d8_lies_42 : decode prog_10_method_42_code 42 = .ok (.iconst 1, 1) := by decide +kernel
theorem d8_lies_43 : decode prog_10_method_42_code 43 = .ok (.invokevirtual 88, 3) := by decide +kernel
theorem d8_lies_46 : decode prog_10_method_42_code 46 = .ok (.ireturn, 1) := by decide +kernel
theorem d1_sideOn_0 : decode prog_3_method_5_code 0 = .ok (.iload_n 1, 1) := by decide +kernel
theorem d1_sideOn_1 : decode prog_3_method_5_code 1 = .ok (.bipush 12, 2) := by decide +kernel
theorem d1_sideOn_3 : decode prog_3_method_5_code 3 = .ok (.irem, 1) := by decide +kernel
theorem d1_sideOn_4 : decode prog_3_method_5_code 4 = .ok (.iload_n 0, 1) := by decide +kernel
theorem d1_sideOn_5 : decode prog_3_method_5_code 5 = .ok (.bipush 12, 2) := by decide +kernel
theorem d1_sideOn_7 : decode prog_3_method_5_code 7 = .ok (.irem, 1) := by decide +kernel
theorem d1_sideOn_8 : decode prog_3_method_5_code 8 = .ok (.isub, 1) := by decide +kernel
theorem d1_sideOn_9 : decode prog_3_method_5_code 9 = .ok (.istore_n 2, 1) := by decide +kernel
theorem d1_sideOn_10 : decode prog_3_method_5_code 10 = .ok (.iload_n 1, 1) := by decide +kernel
theorem d1_sideOn_11 : decode prog_3_method_5_code 11 = .ok (.bipush 12, 2) := by decide +kernel
theorem d1_sideOn_13 : decode prog_3_method_5_code 13 = .ok (.idiv, 1) := by decide +kernel
theorem d1_sideOn_14 : decode prog_3_method_5_code 14 = .ok (.iload_n 0, 1) := by decide +kernel
theorem d1_sideOn_15 : decode prog_3_method_5_code 15 = .ok (.bipush 12, 2) := by decide +kernel
theorem d1_sideOn_17 : decode prog_3_method_5_code 17 = .ok (.idiv, 1) := by decide +kernel
theorem d1_sideOn_18 : decode prog_3_method_5_code 18 = .ok (.isub, 1) := by decide +kernel
theorem d1_sideOn_19 : decode prog_3_method_5_code 19 = .ok (.istore_n 3, 1) := by decide +kernel
theorem d1_sideOn_20 : decode prog_3_method_5_code 20 = .ok (.iload_n 2, 1) := by decide +kernel
theorem d1_sideOn_21 : decode prog_3_method_5_code 21 = .ok (.ifCond .ne 10, 3) := by decide +kernel
theorem d1_sideOn_24 : decode prog_3_method_5_code 24 = .ok (.iload_n 3, 1) := by decide +kernel
theorem d1_sideOn_25 : decode prog_3_method_5_code 25 = .ok (.ifCond .ne 6, 3) := by decide +kernel
theorem d1_sideOn_28 : decode prog_3_method_5_code 28 = .ok (.bipush (-9), 2) := by decide +kernel
theorem d1_sideOn_30 : decode prog_3_method_5_code 30 = .ok (.ireturn, 1) := by decide +kernel
theorem d1_sideOn_31 : decode prog_3_method_5_code 31 = .ok (.iload_n 2, 1) := by decide +kernel
theorem d1_sideOn_32 : decode prog_3_method_5_code 32 = .ok (.iload_n 2, 1) := by decide +kernel
theorem d1_sideOn_33 : decode prog_3_method_5_code 33 = .ok (.imul, 1) := by decide +kernel
theorem d1_sideOn_34 : decode prog_3_method_5_code 34 = .ok (.iconst 4, 1) := by decide +kernel
theorem d1_sideOn_35 : decode prog_3_method_5_code 35 = .ok (.iload_n 3, 1) := by decide +kernel
theorem d1_sideOn_36 : decode prog_3_method_5_code 36 = .ok (.imul, 1) := by decide +kernel
theorem d1_sideOn_37 : decode prog_3_method_5_code 37 = .ok (.iload_n 3, 1) := by decide +kernel
theorem d1_sideOn_38 : decode prog_3_method_5_code 38 = .ok (.imul, 1) := by decide +kernel
theorem d1_sideOn_39 : decode prog_3_method_5_code 39 = .ok (.if_icmp .lt 14, 3) := by decide +kernel
theorem d1_sideOn_42 : decode prog_3_method_5_code 42 = .ok (.iload_n 2, 1) := by decide +kernel
theorem d1_sideOn_43 : decode prog_3_method_5_code 43 = .ok (.ifCond .le 7, 3) := by decide +kernel
theorem d1_sideOn_46 : decode prog_3_method_5_code 46 = .ok (.iconst 2, 1) := by decide +kernel
theorem d1_sideOn_47 : decode prog_3_method_5_code 47 = .ok (.goto 5, 3) := by decide +kernel
theorem d1_sideOn_50 : decode prog_3_method_5_code 50 = .ok (.bipush 6, 2) := by decide +kernel
theorem d1_sideOn_52 : decode prog_3_method_5_code 52 = .ok (.ireturn, 1) := by decide +kernel
theorem d1_sideOn_53 : decode prog_3_method_5_code 53 = .ok (.iload_n 3, 1) := by decide +kernel
theorem d1_sideOn_54 : decode prog_3_method_5_code 54 = .ok (.iload_n 3, 1) := by decide +kernel
theorem d1_sideOn_55 : decode prog_3_method_5_code 55 = .ok (.imul, 1) := by decide +kernel
theorem d1_sideOn_56 : decode prog_3_method_5_code 56 = .ok (.iconst 4, 1) := by decide +kernel
theorem d1_sideOn_57 : decode prog_3_method_5_code 57 = .ok (.iload_n 2, 1) := by decide +kernel
theorem d1_sideOn_58 : decode prog_3_method_5_code 58 = .ok (.imul, 1) := by decide +kernel
theorem d1_sideOn_59 : decode prog_3_method_5_code 59 = .ok (.iload_n 2, 1) := by decide +kernel
theorem d1_sideOn_60 : decode prog_3_method_5_code 60 = .ok (.imul, 1) := by decide +kernel
theorem d1_sideOn_61 : decode prog_3_method_5_code 61 = .ok (.if_icmp .lt 13, 3) := by decide +kernel
theorem d1_sideOn_64 : decode prog_3_method_5_code 64 = .ok (.iload_n 3, 1) := by decide +kernel
theorem d1_sideOn_65 : decode prog_3_method_5_code 65 = .ok (.ifCond .le 7, 3) := by decide +kernel
theorem d1_sideOn_68 : decode prog_3_method_5_code 68 = .ok (.iconst 4, 1) := by decide +kernel
theorem d1_sideOn_69 : decode prog_3_method_5_code 69 = .ok (.goto 4, 3) := by decide +kernel
theorem d1_sideOn_72 : decode prog_3_method_5_code 72 = .ok (.iconst 0, 1) := by decide +kernel
theorem d1_sideOn_73 : decode prog_3_method_5_code 73 = .ok (.ireturn, 1) := by decide +kernel
theorem d1_sideOn_74 : decode prog_3_method_5_code 74 = .ok (.iload_n 2, 1) := by decide +kernel
theorem d1_sideOn_75 : decode prog_3_method_5_code 75 = .ok (.ifCond .le 13, 3) := by decide +kernel
theorem d1_sideOn_78 : decode prog_3_method_5_code 78 = .ok (.iload_n 3, 1) := by decide +kernel
theorem d1_sideOn_79 : decode prog_3_method_5_code 79 = .ok (.ifCond .le 7, 3) := by decide +kernel
theorem d1_sideOn_82 : decode prog_3_method_5_code 82 = .ok (.iconst 3, 1) := by decide +kernel
theorem d1_sideOn_83 : decode prog_3_method_5_code 83 = .ok (.goto 4, 3) := by decide +kernel
theorem d1_sideOn_86 : decode prog_3_method_5_code 86 = .ok (.iconst 1, 1) := by decide +kernel
theorem d1_sideOn_87 : decode prog_3_method_5_code 87 = .ok (.ireturn, 1) := by decide +kernel
theorem d1_sideOn_88 : decode prog_3_method_5_code 88 = .ok (.iload_n 3, 1) := by decide +kernel
theorem d1_sideOn_89 : decode prog_3_method_5_code 89 = .ok (.ifCond .le 7, 3) := by decide +kernel
theorem d1_sideOn_92 : decode prog_3_method_5_code 92 = .ok (.iconst 5, 1) := by decide +kernel
theorem d1_sideOn_93 : decode prog_3_method_5_code 93 = .ok (.goto 5, 3) := by decide +kernel
theorem d1_sideOn_96 : decode prog_3_method_5_code 96 = .ok (.bipush 7, 2) := by decide +kernel
theorem d1_sideOn_98 : decode prog_3_method_5_code 98 = .ok (.ireturn, 1) := by decide +kernel
theorem d7_far_0 : decode prog_1_method_17_code 0 = .ok (.iload_n 1, 1) := by decide +kernel
theorem d7_far_1 : decode prog_1_method_17_code 1 = .ok (.invokestatic 120, 3) := by decide +kernel
theorem d7_far_4 : decode prog_1_method_17_code 4 = .ok (.ifCond .eq 10, 3) := by decide +kernel
theorem d7_far_7 : decode prog_1_method_17_code 7 = .ok (.iload_n 2, 1) := by decide +kernel
theorem d7_far_8 : decode prog_1_method_17_code 8 = .ok (.invokestatic 120, 3) := by decide +kernel
theorem d7_far_11 : decode prog_1_method_17_code 11 = .ok (.ifCond .ne 5, 3) := by decide +kernel
theorem d7_far_14 : decode prog_1_method_17_code 14 = .ok (.iconst (-1), 1) := by decide +kernel
theorem d7_far_15 : decode prog_1_method_17_code 15 = .ok (.ireturn, 1) := by decide +kernel
theorem d7_far_16 : decode prog_1_method_17_code 16 = .ok (.aload_n 0, 1) := by decide +kernel
theorem d7_far_17 : decode prog_1_method_17_code 17 = .ok (.iload_n 1, 1) := by decide +kernel
theorem d7_far_18 : decode prog_1_method_17_code 18 = .ok (.iload_n 2, 1) := by decide +kernel
theorem d7_far_19 : decode prog_1_method_17_code 19 = .ok (.invokestatic 163, 3) := by decide +kernel
theorem d7_far_22 : decode prog_1_method_17_code 22 = .ok (.putfield 65, 3) := by decide +kernel
theorem d7_far_25 : decode prog_1_method_17_code 25 = .ok (.iload_n 1, 1) := by decide +kernel
theorem d7_far_26 : decode prog_1_method_17_code 26 = .ok (.iload_n 2, 1) := by decide +kernel
theorem d7_far_27 : decode prog_1_method_17_code 27 = .ok (.invokestatic 166, 3) := by decide +kernel
theorem d7_far_30 : decode prog_1_method_17_code 30 = .ok (.ireturn, 1) := by decide +kernel
theorem d8_sideOf_0 : decode prog_10_method_24_code 0 = .ok (.iload_n 1, 1) := by decide +kernel
theorem d8_sideOf_1 : decode prog_10_method_24_code 1 = .ok (.bipush 12, 2) := by decide +kernel
theorem d8_sideOf_3 : decode prog_10_method_24_code 3 = .ok (.irem, 1) := by decide +kernel
theorem d8_sideOf_4 : decode prog_10_method_24_code 4 = .ok (.iload_n 0, 1) := by decide +kernel
theorem d8_sideOf_5 : decode prog_10_method_24_code 5 = .ok (.bipush 12, 2) := by decide +kernel
theorem d8_sideOf_7 : decode prog_10_method_24_code 7 = .ok (.irem, 1) := by decide +kernel
theorem d8_sideOf_8 : decode prog_10_method_24_code 8 = .ok (.isub, 1) := by decide +kernel
theorem d8_sideOf_9 : decode prog_10_method_24_code 9 = .ok (.istore_n 2, 1) := by decide +kernel
theorem d8_sideOf_10 : decode prog_10_method_24_code 10 = .ok (.iload_n 1, 1) := by decide +kernel
theorem d8_sideOf_11 : decode prog_10_method_24_code 11 = .ok (.bipush 12, 2) := by decide +kernel
theorem d8_sideOf_13 : decode prog_10_method_24_code 13 = .ok (.idiv, 1) := by decide +kernel
theorem d8_sideOf_14 : decode prog_10_method_24_code 14 = .ok (.iload_n 0, 1) := by decide +kernel
theorem d8_sideOf_15 : decode prog_10_method_24_code 15 = .ok (.bipush 12, 2) := by decide +kernel
theorem d8_sideOf_17 : decode prog_10_method_24_code 17 = .ok (.idiv, 1) := by decide +kernel
theorem d8_sideOf_18 : decode prog_10_method_24_code 18 = .ok (.isub, 1) := by decide +kernel
theorem d8_sideOf_19 : decode prog_10_method_24_code 19 = .ok (.istore_n 3, 1) := by decide +kernel
theorem d8_sideOf_20 : decode prog_10_method_24_code 20 = .ok (.iload_n 2, 1) := by decide +kernel
theorem d8_sideOf_21 : decode prog_10_method_24_code 21 = .ok (.ifCond .ne 10, 3) := by decide +kernel
theorem d8_sideOf_24 : decode prog_10_method_24_code 24 = .ok (.iload_n 3, 1) := by decide +kernel
theorem d8_sideOf_25 : decode prog_10_method_24_code 25 = .ok (.ifCond .ne 6, 3) := by decide +kernel
theorem d8_sideOf_28 : decode prog_10_method_24_code 28 = .ok (.bipush (-9), 2) := by decide +kernel
theorem d8_sideOf_30 : decode prog_10_method_24_code 30 = .ok (.ireturn, 1) := by decide +kernel
theorem d8_sideOf_31 : decode prog_10_method_24_code 31 = .ok (.iload_n 2, 1) := by decide +kernel
theorem d8_sideOf_32 : decode prog_10_method_24_code 32 = .ok (.invokestatic 111, 3) := by decide +kernel
theorem d8_sideOf_35 : decode prog_10_method_24_code 35 = .ok (.iconst 2, 1) := by decide +kernel
theorem d8_sideOf_36 : decode prog_10_method_24_code 36 = .ok (.iload_n 3, 1) := by decide +kernel
theorem d8_sideOf_37 : decode prog_10_method_24_code 37 = .ok (.invokestatic 111, 3) := by decide +kernel
theorem d8_sideOf_40 : decode prog_10_method_24_code 40 = .ok (.imul, 1) := by decide +kernel
theorem d8_sideOf_41 : decode prog_10_method_24_code 41 = .ok (.if_icmp .lt 14, 3) := by decide +kernel
theorem d8_sideOf_44 : decode prog_10_method_24_code 44 = .ok (.iload_n 2, 1) := by decide +kernel
theorem d8_sideOf_45 : decode prog_10_method_24_code 45 = .ok (.ifCond .le 7, 3) := by decide +kernel
theorem d8_sideOf_48 : decode prog_10_method_24_code 48 = .ok (.iconst 2, 1) := by decide +kernel
theorem d8_sideOf_49 : decode prog_10_method_24_code 49 = .ok (.goto 5, 3) := by decide +kernel
theorem d8_sideOf_52 : decode prog_10_method_24_code 52 = .ok (.bipush 6, 2) := by decide +kernel
theorem d8_sideOf_54 : decode prog_10_method_24_code 54 = .ok (.ireturn, 1) := by decide +kernel
theorem d8_sideOf_55 : decode prog_10_method_24_code 55 = .ok (.iload_n 3, 1) := by decide +kernel
theorem d8_sideOf_56 : decode prog_10_method_24_code 56 = .ok (.invokestatic 111, 3) := by decide +kernel
theorem d8_sideOf_59 : decode prog_10_method_24_code 59 = .ok (.iconst 2, 1) := by decide +kernel
theorem d8_sideOf_60 : decode prog_10_method_24_code 60 = .ok (.iload_n 2, 1) := by decide +kernel
theorem d8_sideOf_61 : decode prog_10_method_24_code 61 = .ok (.invokestatic 111, 3) := by decide +kernel
theorem d8_sideOf_64 : decode prog_10_method_24_code 64 = .ok (.imul, 1) := by decide +kernel
theorem d8_sideOf_65 : decode prog_10_method_24_code 65 = .ok (.if_icmp .lt 13, 3) := by decide +kernel
theorem d8_sideOf_68 : decode prog_10_method_24_code 68 = .ok (.iload_n 3, 1) := by decide +kernel
theorem d8_sideOf_69 : decode prog_10_method_24_code 69 = .ok (.ifCond .ge 7, 3) := by decide +kernel
theorem d8_sideOf_72 : decode prog_10_method_24_code 72 = .ok (.iconst 0, 1) := by decide +kernel
theorem d8_sideOf_73 : decode prog_10_method_24_code 73 = .ok (.goto 4, 3) := by decide +kernel
theorem d8_sideOf_76 : decode prog_10_method_24_code 76 = .ok (.iconst 4, 1) := by decide +kernel
theorem d8_sideOf_77 : decode prog_10_method_24_code 77 = .ok (.ireturn, 1) := by decide +kernel
theorem d8_sideOf_78 : decode prog_10_method_24_code 78 = .ok (.iload_n 2, 1) := by decide +kernel
theorem d8_sideOf_79 : decode prog_10_method_24_code 79 = .ok (.ifCond .le 15, 3) := by decide +kernel
theorem d8_sideOf_82 : decode prog_10_method_24_code 82 = .ok (.iload_n 3, 1) := by decide +kernel
theorem d8_sideOf_83 : decode prog_10_method_24_code 83 = .ok (.ifCond .ge 7, 3) := by decide +kernel
theorem d8_sideOf_86 : decode prog_10_method_24_code 86 = .ok (.iconst 1, 1) := by decide +kernel
theorem d8_sideOf_87 : decode prog_10_method_24_code 87 = .ok (.goto 17, 3) := by decide +kernel
theorem d8_sideOf_90 : decode prog_10_method_24_code 90 = .ok (.iconst 3, 1) := by decide +kernel
theorem d8_sideOf_91 : decode prog_10_method_24_code 91 = .ok (.goto 13, 3) := by decide +kernel
theorem d8_sideOf_94 : decode prog_10_method_24_code 94 = .ok (.iload_n 3, 1) := by decide +kernel
theorem d8_sideOf_95 : decode prog_10_method_24_code 95 = .ok (.ifCond .ge 8, 3) := by decide +kernel
theorem d8_sideOf_98 : decode prog_10_method_24_code 98 = .ok (.bipush 7, 2) := by decide +kernel
theorem d8_sideOf_100 : decode prog_10_method_24_code 100 = .ok (.goto 4, 3) := by decide +kernel
theorem d8_sideOf_103 : decode prog_10_method_24_code 103 = .ok (.iconst 5, 1) := by decide +kernel
theorem d8_sideOf_104 : decode prog_10_method_24_code 104 = .ok (.ireturn, 1) := by decide +kernel
theorem d8_far_0 : decode prog_10_method_27_code 0 = .ok (.iload_n 1, 1) := by decide +kernel
theorem d8_far_1 : decode prog_10_method_27_code 1 = .ok (.invokestatic 117, 3) := by decide +kernel
theorem d8_far_4 : decode prog_10_method_27_code 4 = .ok (.ifCond .eq 27, 3) := by decide +kernel
theorem d8_far_7 : decode prog_10_method_27_code 7 = .ok (.iload_n 2, 1) := by decide +kernel
theorem d8_far_8 : decode prog_10_method_27_code 8 = .ok (.invokestatic 117, 3) := by decide +kernel
theorem d8_far_11 : decode prog_10_method_27_code 11 = .ok (.ifCond .eq 20, 3) := by decide +kernel
theorem d8_far_14 : decode prog_10_method_27_code 14 = .ok (.aload_n 0, 1) := by decide +kernel
theorem d8_far_15 : decode prog_10_method_27_code 15 = .ok (.iload_n 1, 1) := by decide +kernel
theorem d8_far_16 : decode prog_10_method_27_code 16 = .ok (.iload_n 2, 1) := by decide +kernel
theorem d8_far_17 : decode prog_10_method_27_code 17 = .ok (.invokestatic 120, 3) := by decide +kernel
theorem d8_far_20 : decode prog_10_method_27_code 20 = .ok (.iload_n 1, 1) := by decide +kernel
theorem d8_far_21 : decode prog_10_method_27_code 21 = .ok (.iload_n 2, 1) := by decide +kernel
theorem d8_far_22 : decode prog_10_method_27_code 22 = .ok (.invokestatic 123, 3) := by decide +kernel
theorem d8_far_25 : decode prog_10_method_27_code 25 = .ok (.invokevirtual 102, 3) := by decide +kernel
theorem d8_far_28 : decode prog_10_method_27_code 28 = .ok (.goto 4, 3) := by decide +kernel
theorem d8_far_31 : decode prog_10_method_27_code 31 = .ok (.iconst (-1), 1) := by decide +kernel
theorem d8_far_32 : decode prog_10_method_27_code 32 = .ok (.ireturn, 1) := by decide +kernel
theorem d6_fits_0 : decode prog_8_method_2_code 0 = .ok (.iload_n 0, 1) := by decide +kernel
theorem d6_fits_1 : decode prog_8_method_2_code 1 = .ok (.tableswitch 205 0 7 #[47, 49, 79, 109, 116, 145, 145, 174], 47) := by decide +kernel
theorem d6_fits_48 : decode prog_8_method_2_code 48 = .ok (.iconst 1, 1) := by decide +kernel
theorem d6_fits_49 : decode prog_8_method_2_code 49 = .ok (.ireturn, 1) := by decide +kernel
theorem d6_fits_50 : decode prog_8_method_2_code 50 = .ok (.iload_n 1, 1) := by decide +kernel
theorem d6_fits_51 : decode prog_8_method_2_code 51 = .ok (.bipush 6, 2) := by decide +kernel
theorem d6_fits_53 : decode prog_8_method_2_code 53 = .ok (.invokestatic 30, 3) := by decide +kernel
theorem d6_fits_56 : decode prog_8_method_2_code 56 = .ok (.ifCond .eq 22, 3) := by decide +kernel
theorem d6_fits_59 : decode prog_8_method_2_code 59 = .ok (.iload_n 2, 1) := by decide +kernel
theorem d6_fits_60 : decode prog_8_method_2_code 60 = .ok (.invokestatic 34, 3) := by decide +kernel
theorem d6_fits_63 : decode prog_8_method_2_code 63 = .ok (.ifCond .eq 15, 3) := by decide +kernel
theorem d6_fits_66 : decode prog_8_method_2_code 66 = .ok (.iload_n 3, 1) := by decide +kernel
theorem d6_fits_67 : decode prog_8_method_2_code 67 = .ok (.iconst 5, 1) := by decide +kernel
theorem d6_fits_68 : decode prog_8_method_2_code 68 = .ok (.invokestatic 30, 3) := by decide +kernel
theorem d6_fits_71 : decode prog_8_method_2_code 71 = .ok (.ifCond .eq 7, 3) := by decide +kernel
theorem d6_fits_74 : decode prog_8_method_2_code 74 = .ok (.iconst 1, 1) := by decide +kernel
theorem d6_fits_75 : decode prog_8_method_2_code 75 = .ok (.goto 4, 3) := by decide +kernel
theorem d6_fits_78 : decode prog_8_method_2_code 78 = .ok (.iconst 0, 1) := by decide +kernel
theorem d6_fits_79 : decode prog_8_method_2_code 79 = .ok (.ireturn, 1) := by decide +kernel
theorem d6_fits_80 : decode prog_8_method_2_code 80 = .ok (.iload_n 1, 1) := by decide +kernel
theorem d6_fits_81 : decode prog_8_method_2_code 81 = .ok (.bipush 6, 2) := by decide +kernel
theorem d6_fits_83 : decode prog_8_method_2_code 83 = .ok (.invokestatic 30, 3) := by decide +kernel
theorem d6_fits_86 : decode prog_8_method_2_code 86 = .ok (.ifCond .eq 22, 3) := by decide +kernel
theorem d6_fits_89 : decode prog_8_method_2_code 89 = .ok (.iload_n 2, 1) := by decide +kernel
theorem d6_fits_90 : decode prog_8_method_2_code 90 = .ok (.invokestatic 34, 3) := by decide +kernel
theorem d6_fits_93 : decode prog_8_method_2_code 93 = .ok (.ifCond .eq 15, 3) := by decide +kernel
theorem d6_fits_96 : decode prog_8_method_2_code 96 = .ok (.iload_n 3, 1) := by decide +kernel
theorem d6_fits_97 : decode prog_8_method_2_code 97 = .ok (.iconst 5, 1) := by decide +kernel
theorem d6_fits_98 : decode prog_8_method_2_code 98 = .ok (.invokestatic 30, 3) := by decide +kernel
theorem d6_fits_101 : decode prog_8_method_2_code 101 = .ok (.ifCond .eq 7, 3) := by decide +kernel
theorem d6_fits_104 : decode prog_8_method_2_code 104 = .ok (.iconst 1, 1) := by decide +kernel
theorem d6_fits_105 : decode prog_8_method_2_code 105 = .ok (.goto 4, 3) := by decide +kernel
theorem d6_fits_108 : decode prog_8_method_2_code 108 = .ok (.iconst 0, 1) := by decide +kernel
theorem d6_fits_109 : decode prog_8_method_2_code 109 = .ok (.ireturn, 1) := by decide +kernel
theorem d6_fits_110 : decode prog_8_method_2_code 110 = .ok (.iload_n 1, 1) := by decide +kernel
theorem d6_fits_111 : decode prog_8_method_2_code 111 = .ok (.bipush 6, 2) := by decide +kernel
theorem d6_fits_113 : decode prog_8_method_2_code 113 = .ok (.invokestatic 30, 3) := by decide +kernel
theorem d6_fits_116 : decode prog_8_method_2_code 116 = .ok (.ireturn, 1) := by decide +kernel
theorem d6_fits_117 : decode prog_8_method_2_code 117 = .ok (.iload_n 1, 1) := by decide +kernel
theorem d6_fits_118 : decode prog_8_method_2_code 118 = .ok (.invokestatic 34, 3) := by decide +kernel
theorem d6_fits_121 : decode prog_8_method_2_code 121 = .ok (.ifCond .eq 23, 3) := by decide +kernel
theorem d6_fits_124 : decode prog_8_method_2_code 124 = .ok (.iload_n 2, 1) := by decide +kernel
theorem d6_fits_125 : decode prog_8_method_2_code 125 = .ok (.invokestatic 34, 3) := by decide +kernel
theorem d6_fits_128 : decode prog_8_method_2_code 128 = .ok (.ifCond .eq 16, 3) := by decide +kernel
theorem d6_fits_131 : decode prog_8_method_2_code 131 = .ok (.iload_n 3, 1) := by decide +kernel
theorem d6_fits_132 : decode prog_8_method_2_code 132 = .ok (.bipush 12, 2) := by decide +kernel
theorem d6_fits_134 : decode prog_8_method_2_code 134 = .ok (.invokestatic 30, 3) := by decide +kernel
theorem d6_fits_137 : decode prog_8_method_2_code 137 = .ok (.ifCond .eq 7, 3) := by decide +kernel
theorem d6_fits_140 : decode prog_8_method_2_code 140 = .ok (.iconst 1, 1) := by decide +kernel
theorem d6_fits_141 : decode prog_8_method_2_code 141 = .ok (.goto 4, 3) := by decide +kernel
theorem d6_fits_144 : decode prog_8_method_2_code 144 = .ok (.iconst 0, 1) := by decide +kernel
theorem d6_fits_145 : decode prog_8_method_2_code 145 = .ok (.ireturn, 1) := by decide +kernel
theorem d6_fits_146 : decode prog_8_method_2_code 146 = .ok (.iload_n 1, 1) := by decide +kernel
theorem d6_fits_147 : decode prog_8_method_2_code 147 = .ok (.invokestatic 34, 3) := by decide +kernel
theorem d6_fits_150 : decode prog_8_method_2_code 150 = .ok (.ifCond .eq 23, 3) := by decide +kernel
theorem d6_fits_153 : decode prog_8_method_2_code 153 = .ok (.iload_n 2, 1) := by decide +kernel
theorem d6_fits_154 : decode prog_8_method_2_code 154 = .ok (.invokestatic 40, 3) := by decide +kernel
theorem d6_fits_157 : decode prog_8_method_2_code 157 = .ok (.ifCond .eq 16, 3) := by decide +kernel
theorem d6_fits_160 : decode prog_8_method_2_code 160 = .ok (.iload_n 3, 1) := by decide +kernel
theorem d6_fits_161 : decode prog_8_method_2_code 161 = .ok (.bipush 12, 2) := by decide +kernel
theorem d6_fits_163 : decode prog_8_method_2_code 163 = .ok (.invokestatic 30, 3) := by decide +kernel
theorem d6_fits_166 : decode prog_8_method_2_code 166 = .ok (.ifCond .eq 7, 3) := by decide +kernel
theorem d6_fits_169 : decode prog_8_method_2_code 169 = .ok (.iconst 1, 1) := by decide +kernel
theorem d6_fits_170 : decode prog_8_method_2_code 170 = .ok (.goto 4, 3) := by decide +kernel
theorem d6_fits_173 : decode prog_8_method_2_code 173 = .ok (.iconst 0, 1) := by decide +kernel
theorem d6_fits_174 : decode prog_8_method_2_code 174 = .ok (.ireturn, 1) := by decide +kernel
theorem d6_fits_175 : decode prog_8_method_2_code 175 = .ok (.iload_n 1, 1) := by decide +kernel
theorem d6_fits_176 : decode prog_8_method_2_code 176 = .ok (.invokestatic 34, 3) := by decide +kernel
theorem d6_fits_179 : decode prog_8_method_2_code 179 = .ok (.ifCond .eq 25, 3) := by decide +kernel
theorem d6_fits_182 : decode prog_8_method_2_code 182 = .ok (.iload_n 2, 1) := by decide +kernel
theorem d6_fits_183 : decode prog_8_method_2_code 183 = .ok (.bipush 9, 2) := by decide +kernel
theorem d6_fits_185 : decode prog_8_method_2_code 185 = .ok (.invokestatic 30, 3) := by decide +kernel
theorem d6_fits_188 : decode prog_8_method_2_code 188 = .ok (.ifCond .eq 16, 3) := by decide +kernel
theorem d6_fits_191 : decode prog_8_method_2_code 191 = .ok (.iload_n 3, 1) := by decide +kernel
theorem d6_fits_192 : decode prog_8_method_2_code 192 = .ok (.bipush 12, 2) := by decide +kernel
theorem d6_fits_194 : decode prog_8_method_2_code 194 = .ok (.invokestatic 30, 3) := by decide +kernel
theorem d6_fits_197 : decode prog_8_method_2_code 197 = .ok (.ifCond .eq 7, 3) := by decide +kernel
theorem d6_fits_200 : decode prog_8_method_2_code 200 = .ok (.iconst 1, 1) := by decide +kernel
theorem d6_fits_201 : decode prog_8_method_2_code 201 = .ok (.goto 4, 3) := by decide +kernel
theorem d6_fits_204 : decode prog_8_method_2_code 204 = .ok (.iconst 0, 1) := by decide +kernel
theorem d6_fits_205 : decode prog_8_method_2_code 205 = .ok (.ireturn, 1) := by decide +kernel
theorem d6_fits_206 : decode prog_8_method_2_code 206 = .ok (.iconst 0, 1) := by decide +kernel
theorem d6_fits_207 : decode prog_8_method_2_code 207 = .ok (.ireturn, 1) := by decide +kernel
theorem d6_become_0 : decode prog_8_method_3_code 0 = .ok (.iload_n 1, 1) := by decide +kernel
theorem d6_become_1 : decode prog_8_method_3_code 1 = .ok (.ifCond .eq 7, 3) := by decide +kernel
theorem d6_become_4 : decode prog_8_method_3_code 4 = .ok (.iconst 1, 1) := by decide +kernel
theorem d6_become_5 : decode prog_8_method_3_code 5 = .ok (.goto 4, 3) := by decide +kernel
theorem d6_become_8 : decode prog_8_method_3_code 8 = .ok (.iconst 0, 1) := by decide +kernel
theorem d6_become_9 : decode prog_8_method_3_code 9 = .ok (.istore 5, 2) := by decide +kernel
theorem d6_become_11 : decode prog_8_method_3_code 11 = .ok (.iload 5, 2) := by decide +kernel
theorem d6_become_13 : decode prog_8_method_3_code 13 = .ok (.ifCond .eq 12, 3) := by decide +kernel
theorem d6_become_16 : decode prog_8_method_3_code 16 = .ok (.iload_n 1, 1) := by decide +kernel
theorem d6_become_17 : decode prog_8_method_3_code 17 = .ok (.iconst 3, 1) := by decide +kernel
theorem d6_become_18 : decode prog_8_method_3_code 18 = .ok (.if_icmp .eq 7, 3) := by decide +kernel
theorem d6_become_21 : decode prog_8_method_3_code 21 = .ok (.iconst 1, 1) := by decide +kernel
theorem d6_become_22 : decode prog_8_method_3_code 22 = .ok (.goto 4, 3) := by decide +kernel
theorem d6_become_25 : decode prog_8_method_3_code 25 = .ok (.iconst 0, 1) := by decide +kernel
theorem d6_become_26 : decode prog_8_method_3_code 26 = .ok (.istore 6, 2) := by decide +kernel
theorem d6_become_28 : decode prog_8_method_3_code 28 = .ok (.aload_n 0, 1) := by decide +kernel
theorem d6_become_29 : decode prog_8_method_3_code 29 = .ok (.iload_n 1, 1) := by decide +kernel
theorem d6_become_30 : decode prog_8_method_3_code 30 = .ok (.putfield 11, 3) := by decide +kernel
theorem d6_become_33 : decode prog_8_method_3_code 33 = .ok (.aload_n 0, 1) := by decide +kernel
theorem d6_become_34 : decode prog_8_method_3_code 34 = .ok (.iload 5, 2) := by decide +kernel
theorem d6_become_36 : decode prog_8_method_3_code 36 = .ok (.ifCond .eq 7, 3) := by decide +kernel
theorem d6_become_39 : decode prog_8_method_3_code 39 = .ok (.iload_n 2, 1) := by decide +kernel
theorem d6_become_40 : decode prog_8_method_3_code 40 = .ok (.goto 4, 3) := by decide +kernel
theorem d6_become_43 : decode prog_8_method_3_code 43 = .ok (.iconst 0, 1) := by decide +kernel
theorem d6_become_44 : decode prog_8_method_3_code 44 = .ok (.putfield 15, 3) := by decide +kernel
theorem d6_become_47 : decode prog_8_method_3_code 47 = .ok (.aload_n 0, 1) := by decide +kernel
theorem d6_become_48 : decode prog_8_method_3_code 48 = .ok (.iload 6, 2) := by decide +kernel
theorem d6_become_50 : decode prog_8_method_3_code 50 = .ok (.ifCond .eq 7, 3) := by decide +kernel
theorem d6_become_53 : decode prog_8_method_3_code 53 = .ok (.iload_n 3, 1) := by decide +kernel
theorem d6_become_54 : decode prog_8_method_3_code 54 = .ok (.goto 4, 3) := by decide +kernel
theorem d6_become_57 : decode prog_8_method_3_code 57 = .ok (.iconst 0, 1) := by decide +kernel
theorem d6_become_58 : decode prog_8_method_3_code 58 = .ok (.putfield 18, 3) := by decide +kernel
theorem d6_become_61 : decode prog_8_method_3_code 61 = .ok (.aload_n 0, 1) := by decide +kernel
theorem d6_become_62 : decode prog_8_method_3_code 62 = .ok (.iload 6, 2) := by decide +kernel
theorem d6_become_64 : decode prog_8_method_3_code 64 = .ok (.ifCond .eq 8, 3) := by decide +kernel
theorem d6_become_67 : decode prog_8_method_3_code 67 = .ok (.iload 4, 2) := by decide +kernel
theorem d6_become_69 : decode prog_8_method_3_code 69 = .ok (.goto 4, 3) := by decide +kernel
theorem d6_become_72 : decode prog_8_method_3_code 72 = .ok (.iconst 0, 1) := by decide +kernel
theorem d6_become_73 : decode prog_8_method_3_code 73 = .ok (.putfield 21, 3) := by decide +kernel
theorem d6_become_76 : decode prog_8_method_3_code 76 = .ok (.aload_n 0, 1) := by decide +kernel
theorem d6_become_77 : decode prog_8_method_3_code 77 = .ok (.iconst 0, 1) := by decide +kernel
theorem d6_become_78 : decode prog_8_method_3_code 78 = .ok (.putfield 24, 3) := by decide +kernel
theorem d6_become_81 : decode prog_8_method_3_code 81 = .ok (.return_, 1) := by decide +kernel
theorem d0_add_0 : decode prog_2_method_3_code 0 = .ok (.aload_n 0, 1) := by decide +kernel
theorem d0_add_1 : decode prog_2_method_3_code 1 = .ok (.getfield 17, 3) := by decide +kernel
theorem d0_add_4 : decode prog_2_method_3_code 4 = .ok (.bipush 12, 2) := by decide +kernel
theorem d0_add_6 : decode prog_2_method_3_code 6 = .ok (.if_icmp .lt 6, 3) := by decide +kernel
theorem d0_add_9 : decode prog_2_method_3_code 9 = .ok (.bipush (-9), 2) := by decide +kernel
theorem d0_add_11 : decode prog_2_method_3_code 11 = .ok (.ireturn, 1) := by decide +kernel
theorem d0_add_12 : decode prog_2_method_3_code 12 = .ok (.aload_n 0, 1) := by decide +kernel
theorem d0_add_13 : decode prog_2_method_3_code 13 = .ok (.getfield 13, 3) := by decide +kernel
theorem d0_add_16 : decode prog_2_method_3_code 16 = .ok (.aload_n 0, 1) := by decide +kernel
theorem d0_add_17 : decode prog_2_method_3_code 17 = .ok (.getfield 17, 3) := by decide +kernel
theorem d0_add_20 : decode prog_2_method_3_code 20 = .ok (.aaload, 1) := by decide +kernel
theorem d0_add_21 : decode prog_2_method_3_code 21 = .ok (.iload_n 1, 1) := by decide +kernel
theorem d0_add_22 : decode prog_2_method_3_code 22 = .ok (.iload_n 2, 1) := by decide +kernel
theorem d0_add_23 : decode prog_2_method_3_code 23 = .ok (.iload_n 3, 1) := by decide +kernel
theorem d0_add_24 : decode prog_2_method_3_code 24 = .ok (.iload 4, 2) := by decide +kernel
theorem d0_add_26 : decode prog_2_method_3_code 26 = .ok (.invokevirtual 22, 3) := by decide +kernel
theorem d0_add_29 : decode prog_2_method_3_code 29 = .ok (.aload_n 0, 1) := by decide +kernel
theorem d0_add_30 : decode prog_2_method_3_code 30 = .ok (.dup, 1) := by decide +kernel
theorem d0_add_31 : decode prog_2_method_3_code 31 = .ok (.getfield 17, 3) := by decide +kernel
theorem d0_add_34 : decode prog_2_method_3_code 34 = .ok (.iconst 1, 1) := by decide +kernel
theorem d0_add_35 : decode prog_2_method_3_code 35 = .ok (.iadd, 1) := by decide +kernel
theorem d0_add_36 : decode prog_2_method_3_code 36 = .ok (.putfield 17, 3) := by decide +kernel
theorem d0_add_39 : decode prog_2_method_3_code 39 = .ok (.aload_n 0, 1) := by decide +kernel
theorem d0_add_40 : decode prog_2_method_3_code 40 = .ok (.getfield 17, 3) := by decide +kernel
theorem d0_add_43 : decode prog_2_method_3_code 43 = .ok (.iconst 1, 1) := by decide +kernel
theorem d0_add_44 : decode prog_2_method_3_code 44 = .ok (.isub, 1) := by decide +kernel
theorem d0_add_45 : decode prog_2_method_3_code 45 = .ok (.ireturn, 1) := by decide +kernel
theorem d7_sign_0 : decode prog_1_method_18_code 0 = .ok (.iload_n 1, 1) := by decide +kernel
theorem d7_sign_1 : decode prog_1_method_18_code 1 = .ok (.iload_n 2, 1) := by decide +kernel
theorem d7_sign_2 : decode prog_1_method_18_code 2 = .ok (.iload_n 3, 1) := by decide +kernel
theorem d7_sign_3 : decode prog_1_method_18_code 3 = .ok (.iload 4, 2) := by decide +kernel
theorem d7_sign_5 : decode prog_1_method_18_code 5 = .ok (.invokestatic 169, 3) := by decide +kernel
theorem d7_sign_8 : decode prog_1_method_18_code 8 = .ok (.ifCond .ne 5, 3) := by decide +kernel
theorem d7_sign_11 : decode prog_1_method_18_code 11 = .ok (.iconst (-1), 1) := by decide +kernel
theorem d7_sign_12 : decode prog_1_method_18_code 12 = .ok (.ireturn, 1) := by decide +kernel
theorem d7_sign_13 : decode prog_1_method_18_code 13 = .ok (.aload_n 0, 1) := by decide +kernel
theorem d7_sign_14 : decode prog_1_method_18_code 14 = .ok (.getfield 42, 3) := by decide +kernel
theorem d7_sign_17 : decode prog_1_method_18_code 17 = .ok (.getfield 175, 3) := by decide +kernel
theorem d7_sign_20 : decode prog_1_method_18_code 20 = .ok (.bipush 12, 2) := by decide +kernel
theorem d7_sign_22 : decode prog_1_method_18_code 22 = .ok (.if_icmp .lt 6, 3) := by decide +kernel
theorem d7_sign_25 : decode prog_1_method_18_code 25 = .ok (.bipush (-2), 2) := by decide +kernel
theorem d7_sign_27 : decode prog_1_method_18_code 27 = .ok (.ireturn, 1) := by decide +kernel
theorem d7_sign_28 : decode prog_1_method_18_code 28 = .ok (.aload_n 0, 1) := by decide +kernel
theorem d7_sign_29 : decode prog_1_method_18_code 29 = .ok (.getfield 42, 3) := by decide +kernel
theorem d7_sign_32 : decode prog_1_method_18_code 32 = .ok (.iload_n 1, 1) := by decide +kernel
theorem d7_sign_33 : decode prog_1_method_18_code 33 = .ok (.iload_n 2, 1) := by decide +kernel
theorem d7_sign_34 : decode prog_1_method_18_code 34 = .ok (.iload_n 3, 1) := by decide +kernel
theorem d7_sign_35 : decode prog_1_method_18_code 35 = .ok (.iload 4, 2) := by decide +kernel
theorem d7_sign_37 : decode prog_1_method_18_code 37 = .ok (.invokevirtual 180, 3) := by decide +kernel
theorem d7_sign_40 : decode prog_1_method_18_code 40 = .ok (.ireturn, 1) := by decide +kernel
theorem d8_isGood_0 : decode prog_10_method_46_code 0 = .ok (.iload_n 0, 1) := by decide +kernel
theorem d8_isGood_1 : decode prog_10_method_46_code 1 = .ok (.tableswitch 182 0 7 #[47, 49, 49, 81, 89, 119, 119, 149], 47) := by decide +kernel
theorem d8_isGood_48 : decode prog_10_method_46_code 48 = .ok (.iconst 1, 1) := by decide +kernel
theorem d8_isGood_49 : decode prog_10_method_46_code 49 = .ok (.ireturn, 1) := by decide +kernel
theorem d8_isGood_50 : decode prog_10_method_46_code 50 = .ok (.iload_n 1, 1) := by decide +kernel
theorem d8_isGood_51 : decode prog_10_method_46_code 51 = .ok (.iconst 0, 1) := by decide +kernel
theorem d8_isGood_52 : decode prog_10_method_46_code 52 = .ok (.bipush 6, 2) := by decide +kernel
theorem d8_isGood_54 : decode prog_10_method_46_code 54 = .ok (.invokestatic 80, 3) := by decide +kernel
theorem d8_isGood_57 : decode prog_10_method_46_code 57 = .ok (.ifCond .eq 23, 3) := by decide +kernel
theorem d8_isGood_60 : decode prog_10_method_46_code 60 = .ok (.iload_n 2, 1) := by decide +kernel
theorem d8_isGood_61 : decode prog_10_method_46_code 61 = .ok (.invokestatic 117, 3) := by decide +kernel
theorem d8_isGood_64 : decode prog_10_method_46_code 64 = .ok (.ifCond .eq 16, 3) := by decide +kernel
theorem d8_isGood_67 : decode prog_10_method_46_code 67 = .ok (.iload_n 3, 1) := by decide +kernel
theorem d8_isGood_68 : decode prog_10_method_46_code 68 = .ok (.iconst 0, 1) := by decide +kernel
theorem d8_isGood_69 : decode prog_10_method_46_code 69 = .ok (.iconst 5, 1) := by decide +kernel
theorem d8_isGood_70 : decode prog_10_method_46_code 70 = .ok (.invokestatic 80, 3) := by decide +kernel
theorem d8_isGood_73 : decode prog_10_method_46_code 73 = .ok (.ifCond .eq 7, 3) := by decide +kernel
theorem d8_isGood_76 : decode prog_10_method_46_code 76 = .ok (.iconst 1, 1) := by decide +kernel
theorem d8_isGood_77 : decode prog_10_method_46_code 77 = .ok (.goto 4, 3) := by decide +kernel
theorem d8_isGood_80 : decode prog_10_method_46_code 80 = .ok (.iconst 0, 1) := by decide +kernel
theorem d8_isGood_81 : decode prog_10_method_46_code 81 = .ok (.ireturn, 1) := by decide +kernel
theorem d8_isGood_82 : decode prog_10_method_46_code 82 = .ok (.iload_n 1, 1) := by decide +kernel
theorem d8_isGood_83 : decode prog_10_method_46_code 83 = .ok (.iconst 0, 1) := by decide +kernel
theorem d8_isGood_84 : decode prog_10_method_46_code 84 = .ok (.bipush 6, 2) := by decide +kernel
theorem d8_isGood_86 : decode prog_10_method_46_code 86 = .ok (.invokestatic 80, 3) := by decide +kernel
theorem d8_isGood_89 : decode prog_10_method_46_code 89 = .ok (.ireturn, 1) := by decide +kernel
theorem d8_isGood_90 : decode prog_10_method_46_code 90 = .ok (.iload_n 1, 1) := by decide +kernel
theorem d8_isGood_91 : decode prog_10_method_46_code 91 = .ok (.invokestatic 117, 3) := by decide +kernel
theorem d8_isGood_94 : decode prog_10_method_46_code 94 = .ok (.ifCond .eq 24, 3) := by decide +kernel
theorem d8_isGood_97 : decode prog_10_method_46_code 97 = .ok (.iload_n 2, 1) := by decide +kernel
theorem d8_isGood_98 : decode prog_10_method_46_code 98 = .ok (.invokestatic 117, 3) := by decide +kernel
theorem d8_isGood_101 : decode prog_10_method_46_code 101 = .ok (.ifCond .eq 17, 3) := by decide +kernel
theorem d8_isGood_104 : decode prog_10_method_46_code 104 = .ok (.iload_n 3, 1) := by decide +kernel
theorem d8_isGood_105 : decode prog_10_method_46_code 105 = .ok (.iconst 0, 1) := by decide +kernel
theorem d8_isGood_106 : decode prog_10_method_46_code 106 = .ok (.bipush 12, 2) := by decide +kernel
theorem d8_isGood_108 : decode prog_10_method_46_code 108 = .ok (.invokestatic 80, 3) := by decide +kernel
theorem d8_isGood_111 : decode prog_10_method_46_code 111 = .ok (.ifCond .eq 7, 3) := by decide +kernel
theorem d8_isGood_114 : decode prog_10_method_46_code 114 = .ok (.iconst 1, 1) := by decide +kernel
theorem d8_isGood_115 : decode prog_10_method_46_code 115 = .ok (.goto 4, 3) := by decide +kernel
theorem d8_isGood_118 : decode prog_10_method_46_code 118 = .ok (.iconst 0, 1) := by decide +kernel
theorem d8_isGood_119 : decode prog_10_method_46_code 119 = .ok (.ireturn, 1) := by decide +kernel
theorem d8_isGood_120 : decode prog_10_method_46_code 120 = .ok (.iload_n 1, 1) := by decide +kernel
theorem d8_isGood_121 : decode prog_10_method_46_code 121 = .ok (.invokestatic 117, 3) := by decide +kernel
theorem d8_isGood_124 : decode prog_10_method_46_code 124 = .ok (.ifCond .eq 24, 3) := by decide +kernel
theorem d8_isGood_127 : decode prog_10_method_46_code 127 = .ok (.iload_n 2, 1) := by decide +kernel
theorem d8_isGood_128 : decode prog_10_method_46_code 128 = .ok (.invokestatic 126, 3) := by decide +kernel
theorem d8_isGood_131 : decode prog_10_method_46_code 131 = .ok (.ifCond .eq 17, 3) := by decide +kernel
theorem d8_isGood_134 : decode prog_10_method_46_code 134 = .ok (.iload_n 3, 1) := by decide +kernel
theorem d8_isGood_135 : decode prog_10_method_46_code 135 = .ok (.iconst 0, 1) := by decide +kernel
theorem d8_isGood_136 : decode prog_10_method_46_code 136 = .ok (.bipush 12, 2) := by decide +kernel
theorem d8_isGood_138 : decode prog_10_method_46_code 138 = .ok (.invokestatic 80, 3) := by decide +kernel
theorem d8_isGood_141 : decode prog_10_method_46_code 141 = .ok (.ifCond .eq 7, 3) := by decide +kernel
theorem d8_isGood_144 : decode prog_10_method_46_code 144 = .ok (.iconst 1, 1) := by decide +kernel
theorem d8_isGood_145 : decode prog_10_method_46_code 145 = .ok (.goto 4, 3) := by decide +kernel
theorem d8_isGood_148 : decode prog_10_method_46_code 148 = .ok (.iconst 0, 1) := by decide +kernel
theorem d8_isGood_149 : decode prog_10_method_46_code 149 = .ok (.ireturn, 1) := by decide +kernel
theorem d8_isGood_150 : decode prog_10_method_46_code 150 = .ok (.iload_n 1, 1) := by decide +kernel
theorem d8_isGood_151 : decode prog_10_method_46_code 151 = .ok (.invokestatic 117, 3) := by decide +kernel
theorem d8_isGood_154 : decode prog_10_method_46_code 154 = .ok (.ifCond .eq 27, 3) := by decide +kernel
theorem d8_isGood_157 : decode prog_10_method_46_code 157 = .ok (.iload_n 2, 1) := by decide +kernel
theorem d8_isGood_158 : decode prog_10_method_46_code 158 = .ok (.iconst 0, 1) := by decide +kernel
theorem d8_isGood_159 : decode prog_10_method_46_code 159 = .ok (.bipush 9, 2) := by decide +kernel
theorem d8_isGood_161 : decode prog_10_method_46_code 161 = .ok (.invokestatic 80, 3) := by decide +kernel
theorem d8_isGood_164 : decode prog_10_method_46_code 164 = .ok (.ifCond .eq 17, 3) := by decide +kernel
theorem d8_isGood_167 : decode prog_10_method_46_code 167 = .ok (.iload_n 3, 1) := by decide +kernel
theorem d8_isGood_168 : decode prog_10_method_46_code 168 = .ok (.iconst 0, 1) := by decide +kernel
theorem d8_isGood_169 : decode prog_10_method_46_code 169 = .ok (.bipush 12, 2) := by decide +kernel
theorem d8_isGood_171 : decode prog_10_method_46_code 171 = .ok (.invokestatic 80, 3) := by decide +kernel
theorem d8_isGood_174 : decode prog_10_method_46_code 174 = .ok (.ifCond .eq 7, 3) := by decide +kernel
theorem d8_isGood_177 : decode prog_10_method_46_code 177 = .ok (.iconst 1, 1) := by decide +kernel
theorem d8_isGood_178 : decode prog_10_method_46_code 178 = .ok (.goto 4, 3) := by decide +kernel
theorem d8_isGood_181 : decode prog_10_method_46_code 181 = .ok (.iconst 0, 1) := by decide +kernel
theorem d8_isGood_182 : decode prog_10_method_46_code 182 = .ok (.ireturn, 1) := by decide +kernel
theorem d8_isGood_183 : decode prog_10_method_46_code 183 = .ok (.iconst 0, 1) := by decide +kernel
theorem d8_isGood_184 : decode prog_10_method_46_code 184 = .ok (.ireturn, 1) := by decide +kernel
theorem d8_newSign_0 : decode prog_10_method_47_code 0 = .ok (.iconst 5, 1) := by decide +kernel
theorem d8_newSign_1 : decode prog_10_method_47_code 1 = .ok (.aload_n 0, 1) := by decide +kernel
theorem d8_newSign_2 : decode prog_10_method_47_code 2 = .ok (.getfield 161, 3) := by decide +kernel
theorem d8_newSign_5 : decode prog_10_method_47_code 5 = .ok (.imul, 1) := by decide +kernel
theorem d8_newSign_6 : decode prog_10_method_47_code 6 = .ok (.istore 5, 2) := by decide +kernel
theorem d8_newSign_8 : decode prog_10_method_47_code 8 = .ok (.aload_n 0, 1) := by decide +kernel
theorem d8_newSign_9 : decode prog_10_method_47_code 9 = .ok (.getfield 45, 3) := by decide +kernel
theorem d8_newSign_12 : decode prog_10_method_47_code 12 = .ok (.iload 5, 2) := by decide +kernel
theorem d8_newSign_14 : decode prog_10_method_47_code 14 = .ok (.iload_n 1, 1) := by decide +kernel
theorem d8_newSign_15 : decode prog_10_method_47_code 15 = .ok (.iastore, 1) := by decide +kernel
theorem d8_newSign_16 : decode prog_10_method_47_code 16 = .ok (.aload_n 0, 1) := by decide +kernel
theorem d8_newSign_17 : decode prog_10_method_47_code 17 = .ok (.getfield 45, 3) := by decide +kernel
theorem d8_newSign_20 : decode prog_10_method_47_code 20 = .ok (.iload 5, 2) := by decide +kernel
theorem d8_newSign_22 : decode prog_10_method_47_code 22 = .ok (.iconst 1, 1) := by decide +kernel
theorem d8_newSign_23 : decode prog_10_method_47_code 23 = .ok (.iadd, 1) := by decide +kernel
theorem d8_newSign_24 : decode prog_10_method_47_code 24 = .ok (.iload_n 1, 1) := by decide +kernel
theorem d8_newSign_25 : decode prog_10_method_47_code 25 = .ok (.ifCond .ne 7, 3) := by decide +kernel
theorem d8_newSign_28 : decode prog_10_method_47_code 28 = .ok (.iconst 0, 1) := by decide +kernel
theorem d8_newSign_29 : decode prog_10_method_47_code 29 = .ok (.goto 4, 3) := by decide +kernel
theorem d8_newSign_32 : decode prog_10_method_47_code 32 = .ok (.iload_n 2, 1) := by decide +kernel
theorem d8_newSign_33 : decode prog_10_method_47_code 33 = .ok (.iastore, 1) := by decide +kernel
theorem d8_newSign_34 : decode prog_10_method_47_code 34 = .ok (.aload_n 0, 1) := by decide +kernel
theorem d8_newSign_35 : decode prog_10_method_47_code 35 = .ok (.getfield 45, 3) := by decide +kernel
theorem d8_newSign_38 : decode prog_10_method_47_code 38 = .ok (.iload 5, 2) := by decide +kernel
theorem d8_newSign_40 : decode prog_10_method_47_code 40 = .ok (.iconst 2, 1) := by decide +kernel
theorem d8_newSign_41 : decode prog_10_method_47_code 41 = .ok (.iadd, 1) := by decide +kernel
theorem d8_newSign_42 : decode prog_10_method_47_code 42 = .ok (.iload_n 1, 1) := by decide +kernel
theorem d8_newSign_43 : decode prog_10_method_47_code 43 = .ok (.ifCond .eq 8, 3) := by decide +kernel
theorem d8_newSign_46 : decode prog_10_method_47_code 46 = .ok (.iload_n 1, 1) := by decide +kernel
theorem d8_newSign_47 : decode prog_10_method_47_code 47 = .ok (.iconst 3, 1) := by decide +kernel
theorem d8_newSign_48 : decode prog_10_method_47_code 48 = .ok (.if_icmp .ne 7, 3) := by decide +kernel
theorem d8_newSign_51 : decode prog_10_method_47_code 51 = .ok (.iconst 0, 1) := by decide +kernel
theorem d8_newSign_52 : decode prog_10_method_47_code 52 = .ok (.goto 4, 3) := by decide +kernel
theorem d8_newSign_55 : decode prog_10_method_47_code 55 = .ok (.iload_n 3, 1) := by decide +kernel
theorem d8_newSign_56 : decode prog_10_method_47_code 56 = .ok (.iastore, 1) := by decide +kernel
theorem d8_newSign_57 : decode prog_10_method_47_code 57 = .ok (.aload_n 0, 1) := by decide +kernel
theorem d8_newSign_58 : decode prog_10_method_47_code 58 = .ok (.getfield 45, 3) := by decide +kernel
theorem d8_newSign_61 : decode prog_10_method_47_code 61 = .ok (.iload 5, 2) := by decide +kernel
theorem d8_newSign_63 : decode prog_10_method_47_code 63 = .ok (.iconst 3, 1) := by decide +kernel
theorem d8_newSign_64 : decode prog_10_method_47_code 64 = .ok (.iadd, 1) := by decide +kernel
theorem d8_newSign_65 : decode prog_10_method_47_code 65 = .ok (.iload_n 1, 1) := by decide +kernel
theorem d8_newSign_66 : decode prog_10_method_47_code 66 = .ok (.ifCond .eq 8, 3) := by decide +kernel
theorem d8_newSign_69 : decode prog_10_method_47_code 69 = .ok (.iload_n 1, 1) := by decide +kernel
theorem d8_newSign_70 : decode prog_10_method_47_code 70 = .ok (.iconst 3, 1) := by decide +kernel
theorem d8_newSign_71 : decode prog_10_method_47_code 71 = .ok (.if_icmp .ne 7, 3) := by decide +kernel
theorem d8_newSign_74 : decode prog_10_method_47_code 74 = .ok (.iconst 0, 1) := by decide +kernel
theorem d8_newSign_75 : decode prog_10_method_47_code 75 = .ok (.goto 5, 3) := by decide +kernel
theorem d8_newSign_78 : decode prog_10_method_47_code 78 = .ok (.iload 4, 2) := by decide +kernel
theorem d8_newSign_80 : decode prog_10_method_47_code 80 = .ok (.iastore, 1) := by decide +kernel
theorem d8_newSign_81 : decode prog_10_method_47_code 81 = .ok (.aload_n 0, 1) := by decide +kernel
theorem d8_newSign_82 : decode prog_10_method_47_code 82 = .ok (.getfield 45, 3) := by decide +kernel
theorem d8_newSign_85 : decode prog_10_method_47_code 85 = .ok (.iload 5, 2) := by decide +kernel
theorem d8_newSign_87 : decode prog_10_method_47_code 87 = .ok (.iconst 4, 1) := by decide +kernel
theorem d8_newSign_88 : decode prog_10_method_47_code 88 = .ok (.iadd, 1) := by decide +kernel
theorem d8_newSign_89 : decode prog_10_method_47_code 89 = .ok (.iconst 0, 1) := by decide +kernel
theorem d8_newSign_90 : decode prog_10_method_47_code 90 = .ok (.iastore, 1) := by decide +kernel
theorem d8_newSign_91 : decode prog_10_method_47_code 91 = .ok (.aload_n 0, 1) := by decide +kernel
theorem d8_newSign_92 : decode prog_10_method_47_code 92 = .ok (.dup, 1) := by decide +kernel
theorem d8_newSign_93 : decode prog_10_method_47_code 93 = .ok (.getfield 161, 3) := by decide +kernel
theorem d8_newSign_96 : decode prog_10_method_47_code 96 = .ok (.iconst 1, 1) := by decide +kernel
theorem d8_newSign_97 : decode prog_10_method_47_code 97 = .ok (.iadd, 1) := by decide +kernel
theorem d8_newSign_98 : decode prog_10_method_47_code 98 = .ok (.putfield 161, 3) := by decide +kernel
theorem d8_newSign_101 : decode prog_10_method_47_code 101 = .ok (.aload_n 0, 1) := by decide +kernel
theorem d8_newSign_102 : decode prog_10_method_47_code 102 = .ok (.getfield 161, 3) := by decide +kernel
theorem d8_newSign_105 : decode prog_10_method_47_code 105 = .ok (.iconst 1, 1) := by decide +kernel
theorem d8_newSign_106 : decode prog_10_method_47_code 106 = .ok (.isub, 1) := by decide +kernel
theorem d8_newSign_107 : decode prog_10_method_47_code 107 = .ok (.ireturn, 1) := by decide +kernel
theorem d8_sign_0 : decode prog_10_method_48_code 0 = .ok (.iload_n 1, 1) := by decide +kernel
theorem d8_sign_1 : decode prog_10_method_48_code 1 = .ok (.iload_n 2, 1) := by decide +kernel
theorem d8_sign_2 : decode prog_10_method_48_code 2 = .ok (.iload_n 3, 1) := by decide +kernel
theorem d8_sign_3 : decode prog_10_method_48_code 3 = .ok (.iload 4, 2) := by decide +kernel
theorem d8_sign_5 : decode prog_10_method_48_code 5 = .ok (.invokestatic 164, 3) := by decide +kernel
theorem d8_sign_8 : decode prog_10_method_48_code 8 = .ok (.ifCond .ne 7, 3) := by decide +kernel
theorem d8_sign_11 : decode prog_10_method_48_code 11 = .ok (.iconst (-1), 1) := by decide +kernel
theorem d8_sign_12 : decode prog_10_method_48_code 12 = .ok (.goto 26, 3) := by decide +kernel
theorem d8_sign_15 : decode prog_10_method_48_code 15 = .ok (.aload_n 0, 1) := by decide +kernel
theorem d8_sign_16 : decode prog_10_method_48_code 16 = .ok (.getfield 161, 3) := by decide +kernel
theorem d8_sign_19 : decode prog_10_method_48_code 19 = .ok (.bipush 12, 2) := by decide +kernel
theorem d8_sign_21 : decode prog_10_method_48_code 21 = .ok (.if_icmp .ne 8, 3) := by decide +kernel
theorem d8_sign_24 : decode prog_10_method_48_code 24 = .ok (.bipush (-2), 2) := by decide +kernel
theorem d8_sign_26 : decode prog_10_method_48_code 26 = .ok (.goto 12, 3) := by decide +kernel
theorem d8_sign_29 : decode prog_10_method_48_code 29 = .ok (.aload_n 0, 1) := by decide +kernel
theorem d8_sign_30 : decode prog_10_method_48_code 30 = .ok (.iload_n 1, 1) := by decide +kernel
theorem d8_sign_31 : decode prog_10_method_48_code 31 = .ok (.iload_n 2, 1) := by decide +kernel
theorem d8_sign_32 : decode prog_10_method_48_code 32 = .ok (.iload_n 3, 1) := by decide +kernel
theorem d8_sign_33 : decode prog_10_method_48_code 33 = .ok (.iload 4, 2) := by decide +kernel
theorem d8_sign_35 : decode prog_10_method_48_code 35 = .ok (.invokevirtual 168, 3) := by decide +kernel
theorem d8_sign_38 : decode prog_10_method_48_code 38 = .ok (.ireturn, 1) := by decide +kernel
theorem d7_signs_0 : decode prog_1_method_19_code 0 = .ok (.iload_n 1, 1) := by decide +kernel
theorem d7_signs_1 : decode prog_1_method_19_code 1 = .ok (.invokestatic 88, 3) := by decide +kernel
theorem d7_signs_4 : decode prog_1_method_19_code 4 = .ok (.ifCond .ne 5, 3) := by decide +kernel
theorem d7_signs_7 : decode prog_1_method_19_code 7 = .ok (.iconst (-1), 1) := by decide +kernel
theorem d7_signs_8 : decode prog_1_method_19_code 8 = .ok (.ireturn, 1) := by decide +kernel
theorem d7_signs_9 : decode prog_1_method_19_code 9 = .ok (.aload_n 0, 1) := by decide +kernel
theorem d7_signs_10 : decode prog_1_method_19_code 10 = .ok (.getfield 14, 3) := by decide +kernel
theorem d7_signs_13 : decode prog_1_method_19_code 13 = .ok (.iload_n 1, 1) := by decide +kernel
theorem d7_signs_14 : decode prog_1_method_19_code 14 = .ok (.iaload, 1) := by decide +kernel
theorem d7_signs_15 : decode prog_1_method_19_code 15 = .ok (.istore_n 2, 1) := by decide +kernel
theorem d7_signs_16 : decode prog_1_method_19_code 16 = .ok (.iload_n 2, 1) := by decide +kernel
theorem d7_signs_17 : decode prog_1_method_19_code 17 = .ok (.iconst (-1), 1) := by decide +kernel
theorem d7_signs_18 : decode prog_1_method_19_code 18 = .ok (.if_icmp .ne 9, 3) := by decide +kernel
theorem d7_signs_21 : decode prog_1_method_19_code 21 = .ok (.aload_n 0, 1) := by decide +kernel
theorem d7_signs_22 : decode prog_1_method_19_code 22 = .ok (.iconst 1, 1) := by decide +kernel
theorem d7_signs_23 : decode prog_1_method_19_code 23 = .ok (.invokevirtual 92, 3) := by decide +kernel
theorem d7_signs_26 : decode prog_1_method_19_code 26 = .ok (.ireturn, 1) := by decide +kernel
theorem d7_signs_27 : decode prog_1_method_19_code 27 = .ok (.iload_n 2, 1) := by decide +kernel
theorem d7_signs_28 : decode prog_1_method_19_code 28 = .ok (.iconst 4, 1) := by decide +kernel
theorem d7_signs_29 : decode prog_1_method_19_code 29 = .ok (.irem, 1) := by decide +kernel
theorem d7_signs_30 : decode prog_1_method_19_code 30 = .ok (.ifCond .eq 9, 3) := by decide +kernel
theorem d7_signs_33 : decode prog_1_method_19_code 33 = .ok (.aload_n 0, 1) := by decide +kernel
theorem d7_signs_34 : decode prog_1_method_19_code 34 = .ok (.iconst 5, 1) := by decide +kernel
theorem d7_signs_35 : decode prog_1_method_19_code 35 = .ok (.invokevirtual 92, 3) := by decide +kernel
theorem d7_signs_38 : decode prog_1_method_19_code 38 = .ok (.ireturn, 1) := by decide +kernel
theorem d7_signs_39 : decode prog_1_method_19_code 39 = .ok (.aload_n 0, 1) := by decide +kernel
theorem d7_signs_40 : decode prog_1_method_19_code 40 = .ok (.getfield 42, 3) := by decide +kernel
theorem d7_signs_43 : decode prog_1_method_19_code 43 = .ok (.getfield 175, 3) := by decide +kernel
theorem d7_signs_46 : decode prog_1_method_19_code 46 = .ok (.iload_n 2, 1) := by decide +kernel
theorem d7_signs_47 : decode prog_1_method_19_code 47 = .ok (.iconst 4, 1) := by decide +kernel
theorem d7_signs_48 : decode prog_1_method_19_code 48 = .ok (.idiv, 1) := by decide +kernel
theorem d7_signs_49 : decode prog_1_method_19_code 49 = .ok (.iadd, 1) := by decide +kernel
theorem d7_signs_50 : decode prog_1_method_19_code 50 = .ok (.bipush 12, 2) := by decide +kernel
theorem d7_signs_52 : decode prog_1_method_19_code 52 = .ok (.if_icmp .le 6, 3) := by decide +kernel
theorem d7_signs_55 : decode prog_1_method_19_code 55 = .ok (.bipush (-2), 2) := by decide +kernel
theorem d7_signs_57 : decode prog_1_method_19_code 57 = .ok (.ireturn, 1) := by decide +kernel
theorem d7_signs_58 : decode prog_1_method_19_code 58 = .ok (.aload_n 0, 1) := by decide +kernel
theorem d7_signs_59 : decode prog_1_method_19_code 59 = .ok (.getfield 11, 3) := by decide +kernel
theorem d7_signs_62 : decode prog_1_method_19_code 62 = .ok (.iload_n 1, 1) := by decide +kernel
theorem d7_signs_63 : decode prog_1_method_19_code 63 = .ok (.aaload, 1) := by decide +kernel
theorem d7_signs_64 : decode prog_1_method_19_code 64 = .ok (.astore_n 3, 1) := by decide +kernel
theorem d7_signs_65 : decode prog_1_method_19_code 65 = .ok (.iconst 0, 1) := by decide +kernel
theorem d7_signs_66 : decode prog_1_method_19_code 66 = .ok (.istore 4, 2) := by decide +kernel
theorem d7_signs_68 : decode prog_1_method_19_code 68 = .ok (.iload 4, 2) := by decide +kernel
theorem d7_signs_70 : decode prog_1_method_19_code 70 = .ok (.iconst 3, 1) := by decide +kernel
theorem d7_signs_71 : decode prog_1_method_19_code 71 = .ok (.iadd, 1) := by decide +kernel
theorem d7_signs_72 : decode prog_1_method_19_code 72 = .ok (.iload_n 2, 1) := by decide +kernel
theorem d7_signs_73 : decode prog_1_method_19_code 73 = .ok (.if_icmp .ge 43, 3) := by decide +kernel
theorem d7_signs_76 : decode prog_1_method_19_code 76 = .ok (.aload_n 3, 1) := by decide +kernel
theorem d7_signs_77 : decode prog_1_method_19_code 77 = .ok (.iload 4, 2) := by decide +kernel
theorem d7_signs_79 : decode prog_1_method_19_code 79 = .ok (.iaload, 1) := by decide +kernel
theorem d7_signs_80 : decode prog_1_method_19_code 80 = .ok (.aload_n 3, 1) := by decide +kernel
theorem d7_signs_81 : decode prog_1_method_19_code 81 = .ok (.iload 4, 2) := by decide +kernel
theorem d7_signs_83 : decode prog_1_method_19_code 83 = .ok (.iconst 1, 1) := by decide +kernel
theorem d7_signs_84 : decode prog_1_method_19_code 84 = .ok (.iadd, 1) := by decide +kernel
theorem d7_signs_85 : decode prog_1_method_19_code 85 = .ok (.iaload, 1) := by decide +kernel
theorem d7_signs_86 : decode prog_1_method_19_code 86 = .ok (.aload_n 3, 1) := by decide +kernel
theorem d7_signs_87 : decode prog_1_method_19_code 87 = .ok (.iload 4, 2) := by decide +kernel
theorem d7_signs_89 : decode prog_1_method_19_code 89 = .ok (.iconst 2, 1) := by decide +kernel
theorem d7_signs_90 : decode prog_1_method_19_code 90 = .ok (.iadd, 1) := by decide +kernel
theorem d7_signs_91 : decode prog_1_method_19_code 91 = .ok (.iaload, 1) := by decide +kernel
theorem d7_signs_92 : decode prog_1_method_19_code 92 = .ok (.aload_n 3, 1) := by decide +kernel
theorem d7_signs_93 : decode prog_1_method_19_code 93 = .ok (.iload 4, 2) := by decide +kernel
theorem d7_signs_95 : decode prog_1_method_19_code 95 = .ok (.iconst 3, 1) := by decide +kernel
theorem d7_signs_96 : decode prog_1_method_19_code 96 = .ok (.iadd, 1) := by decide +kernel
theorem d7_signs_97 : decode prog_1_method_19_code 97 = .ok (.iaload, 1) := by decide +kernel
theorem d7_signs_98 : decode prog_1_method_19_code 98 = .ok (.invokestatic 169, 3) := by decide +kernel
theorem d7_signs_101 : decode prog_1_method_19_code 101 = .ok (.ifCond .ne 9, 3) := by decide +kernel
theorem d7_signs_104 : decode prog_1_method_19_code 104 = .ok (.aload_n 0, 1) := by decide +kernel
theorem d7_signs_105 : decode prog_1_method_19_code 105 = .ok (.iconst 3, 1) := by decide +kernel
theorem d7_signs_106 : decode prog_1_method_19_code 106 = .ok (.invokevirtual 92, 3) := by decide +kernel
theorem d7_signs_109 : decode prog_1_method_19_code 109 = .ok (.ireturn, 1) := by decide +kernel
theorem d7_signs_110 : decode prog_1_method_19_code 110 = .ok (.iinc 4 4, 3) := by decide +kernel
theorem d7_signs_113 : decode prog_1_method_19_code 113 = .ok (.goto (-45), 3) := by decide +kernel
theorem d7_signs_116 : decode prog_1_method_19_code 116 = .ok (.iconst 0, 1) := by decide +kernel
theorem d7_signs_117 : decode prog_1_method_19_code 117 = .ok (.istore 4, 2) := by decide +kernel
theorem d7_signs_119 : decode prog_1_method_19_code 119 = .ok (.iload 4, 2) := by decide +kernel
theorem d7_signs_121 : decode prog_1_method_19_code 121 = .ok (.iconst 3, 1) := by decide +kernel
theorem d7_signs_122 : decode prog_1_method_19_code 122 = .ok (.iadd, 1) := by decide +kernel
theorem d7_signs_123 : decode prog_1_method_19_code 123 = .ok (.iload_n 2, 1) := by decide +kernel
theorem d7_signs_124 : decode prog_1_method_19_code 124 = .ok (.if_icmp .ge 39, 3) := by decide +kernel
theorem d7_signs_127 : decode prog_1_method_19_code 127 = .ok (.aload_n 0, 1) := by decide +kernel
theorem d7_signs_128 : decode prog_1_method_19_code 128 = .ok (.getfield 42, 3) := by decide +kernel
theorem d7_signs_131 : decode prog_1_method_19_code 131 = .ok (.aload_n 3, 1) := by decide +kernel
theorem d7_signs_132 : decode prog_1_method_19_code 132 = .ok (.iload 4, 2) := by decide +kernel
theorem d7_signs_134 : decode prog_1_method_19_code 134 = .ok (.iaload, 1) := by decide +kernel
theorem d7_signs_135 : decode prog_1_method_19_code 135 = .ok (.aload_n 3, 1) := by decide +kernel
theorem d7_signs_136 : decode prog_1_method_19_code 136 = .ok (.iload 4, 2) := by decide +kernel
theorem d7_signs_138 : decode prog_1_method_19_code 138 = .ok (.iconst 1, 1) := by decide +kernel
theorem d7_signs_139 : decode prog_1_method_19_code 139 = .ok (.iadd, 1) := by decide +kernel
theorem d7_signs_140 : decode prog_1_method_19_code 140 = .ok (.iaload, 1) := by decide +kernel
theorem d7_signs_141 : decode prog_1_method_19_code 141 = .ok (.aload_n 3, 1) := by decide +kernel
theorem d7_signs_142 : decode prog_1_method_19_code 142 = .ok (.iload 4, 2) := by decide +kernel
theorem d7_signs_144 : decode prog_1_method_19_code 144 = .ok (.iconst 2, 1) := by decide +kernel
theorem d7_signs_145 : decode prog_1_method_19_code 145 = .ok (.iadd, 1) := by decide +kernel
theorem d7_signs_146 : decode prog_1_method_19_code 146 = .ok (.iaload, 1) := by decide +kernel
theorem d7_signs_147 : decode prog_1_method_19_code 147 = .ok (.aload_n 3, 1) := by decide +kernel
theorem d7_signs_148 : decode prog_1_method_19_code 148 = .ok (.iload 4, 2) := by decide +kernel
theorem d7_signs_150 : decode prog_1_method_19_code 150 = .ok (.iconst 3, 1) := by decide +kernel
theorem d7_signs_151 : decode prog_1_method_19_code 151 = .ok (.iadd, 1) := by decide +kernel
theorem d7_signs_152 : decode prog_1_method_19_code 152 = .ok (.iaload, 1) := by decide +kernel
theorem d7_signs_153 : decode prog_1_method_19_code 153 = .ok (.invokevirtual 180, 3) := by decide +kernel
theorem d7_signs_156 : decode prog_1_method_19_code 156 = .ok (.pop, 1) := by decide +kernel
theorem d7_signs_157 : decode prog_1_method_19_code 157 = .ok (.iinc 4 4, 3) := by decide +kernel
theorem d7_signs_160 : decode prog_1_method_19_code 160 = .ok (.goto (-41), 3) := by decide +kernel
theorem d7_signs_163 : decode prog_1_method_19_code 163 = .ok (.iload_n 2, 1) := by decide +kernel
theorem d7_signs_164 : decode prog_1_method_19_code 164 = .ok (.iconst 4, 1) := by decide +kernel
theorem d7_signs_165 : decode prog_1_method_19_code 165 = .ok (.idiv, 1) := by decide +kernel
theorem d7_signs_166 : decode prog_1_method_19_code 166 = .ok (.ireturn, 1) := by decide +kernel
theorem d8_signs_0 : decode prog_10_method_49_code 0 = .ok (.aload_n 0, 1) := by decide +kernel
theorem d8_signs_1 : decode prog_10_method_49_code 1 = .ok (.iload_n 1, 1) := by decide +kernel
theorem d8_signs_2 : decode prog_10_method_49_code 2 = .ok (.invokevirtual 95, 3) := by decide +kernel
theorem d8_signs_5 : decode prog_10_method_49_code 5 = .ok (.istore_n 2, 1) := by decide +kernel
theorem d8_signs_6 : decode prog_10_method_49_code 6 = .ok (.iload_n 2, 1) := by decide +kernel
theorem d8_signs_7 : decode prog_10_method_49_code 7 = .ok (.ifCond .ge 5, 3) := by decide +kernel
theorem d8_signs_10 : decode prog_10_method_49_code 10 = .ok (.iload_n 2, 1) := by decide +kernel
theorem d8_signs_11 : decode prog_10_method_49_code 11 = .ok (.ireturn, 1) := by decide +kernel
theorem d8_signs_12 : decode prog_10_method_49_code 12 = .ok (.aload_n 0, 1) := by decide +kernel
theorem d8_signs_13 : decode prog_10_method_49_code 13 = .ok (.getfield 17, 3) := by decide +kernel
theorem d8_signs_16 : decode prog_10_method_49_code 16 = .ok (.iload_n 1, 1) := by decide +kernel
theorem d8_signs_17 : decode prog_10_method_49_code 17 = .ok (.iaload, 1) := by decide +kernel
theorem d8_signs_18 : decode prog_10_method_49_code 18 = .ok (.iconst 4, 1) := by decide +kernel
theorem d8_signs_19 : decode prog_10_method_49_code 19 = .ok (.idiv, 1) := by decide +kernel
theorem d8_signs_20 : decode prog_10_method_49_code 20 = .ok (.istore_n 3, 1) := by decide +kernel
theorem d8_signs_21 : decode prog_10_method_49_code 21 = .ok (.aload_n 0, 1) := by decide +kernel
theorem d8_signs_22 : decode prog_10_method_49_code 22 = .ok (.getfield 17, 3) := by decide +kernel
theorem d8_signs_25 : decode prog_10_method_49_code 25 = .ok (.iload_n 1, 1) := by decide +kernel
theorem d8_signs_26 : decode prog_10_method_49_code 26 = .ok (.iaload, 1) := by decide +kernel
theorem d8_signs_27 : decode prog_10_method_49_code 27 = .ok (.iconst 4, 1) := by decide +kernel
theorem d8_signs_28 : decode prog_10_method_49_code 28 = .ok (.iload_n 3, 1) := by decide +kernel
theorem d8_signs_29 : decode prog_10_method_49_code 29 = .ok (.imul, 1) := by decide +kernel
theorem d8_signs_30 : decode prog_10_method_49_code 30 = .ok (.if_icmp .eq 9, 3) := by decide +kernel
theorem d8_signs_33 : decode prog_10_method_49_code 33 = .ok (.aload_n 0, 1) := by decide +kernel
theorem d8_signs_34 : decode prog_10_method_49_code 34 = .ok (.iconst 5, 1) := by decide +kernel
theorem d8_signs_35 : decode prog_10_method_49_code 35 = .ok (.invokevirtual 88, 3) := by decide +kernel
theorem d8_signs_38 : decode prog_10_method_49_code 38 = .ok (.ireturn, 1) := by decide +kernel
theorem d8_signs_39 : decode prog_10_method_49_code 39 = .ok (.aload_n 0, 1) := by decide +kernel
theorem d8_signs_40 : decode prog_10_method_49_code 40 = .ok (.getfield 161, 3) := by decide +kernel
theorem d8_signs_43 : decode prog_10_method_49_code 43 = .ok (.iload_n 3, 1) := by decide +kernel
theorem d8_signs_44 : decode prog_10_method_49_code 44 = .ok (.iadd, 1) := by decide +kernel
theorem d8_signs_45 : decode prog_10_method_49_code 45 = .ok (.bipush 12, 2) := by decide +kernel
theorem d8_signs_47 : decode prog_10_method_49_code 47 = .ok (.if_icmp .le 6, 3) := by decide +kernel
theorem d8_signs_50 : decode prog_10_method_49_code 50 = .ok (.bipush (-2), 2) := by decide +kernel
theorem d8_signs_52 : decode prog_10_method_49_code 52 = .ok (.ireturn, 1) := by decide +kernel
theorem d8_signs_53 : decode prog_10_method_49_code 53 = .ok (.iconst 0, 1) := by decide +kernel
theorem d8_signs_54 : decode prog_10_method_49_code 54 = .ok (.istore 4, 2) := by decide +kernel
theorem d8_signs_56 : decode prog_10_method_49_code 56 = .ok (.iload 4, 2) := by decide +kernel
theorem d8_signs_58 : decode prog_10_method_49_code 58 = .ok (.iload_n 3, 1) := by decide +kernel
theorem d8_signs_59 : decode prog_10_method_49_code 59 = .ok (.if_icmp .ge 63, 3) := by decide +kernel
theorem d8_signs_62 : decode prog_10_method_49_code 62 = .ok (.aload_n 0, 1) := by decide +kernel
theorem d8_signs_63 : decode prog_10_method_49_code 63 = .ok (.iload_n 1, 1) := by decide +kernel
theorem d8_signs_64 : decode prog_10_method_49_code 64 = .ok (.iconst 4, 1) := by decide +kernel
theorem d8_signs_65 : decode prog_10_method_49_code 65 = .ok (.iload 4, 2) := by decide +kernel
theorem d8_signs_67 : decode prog_10_method_49_code 67 = .ok (.imul, 1) := by decide +kernel
theorem d8_signs_68 : decode prog_10_method_49_code 68 = .ok (.invokevirtual 98, 3) := by decide +kernel
theorem d8_signs_71 : decode prog_10_method_49_code 71 = .ok (.aload_n 0, 1) := by decide +kernel
theorem d8_signs_72 : decode prog_10_method_49_code 72 = .ok (.iload_n 1, 1) := by decide +kernel
theorem d8_signs_73 : decode prog_10_method_49_code 73 = .ok (.iconst 4, 1) := by decide +kernel
theorem d8_signs_74 : decode prog_10_method_49_code 74 = .ok (.iload 4, 2) := by decide +kernel
theorem d8_signs_76 : decode prog_10_method_49_code 76 = .ok (.imul, 1) := by decide +kernel
theorem d8_signs_77 : decode prog_10_method_49_code 77 = .ok (.iconst 1, 1) := by decide +kernel
theorem d8_signs_78 : decode prog_10_method_49_code 78 = .ok (.iadd, 1) := by decide +kernel
theorem d8_signs_79 : decode prog_10_method_49_code 79 = .ok (.invokevirtual 98, 3) := by decide +kernel
theorem d8_signs_82 : decode prog_10_method_49_code 82 = .ok (.aload_n 0, 1) := by decide +kernel
theorem d8_signs_83 : decode prog_10_method_49_code 83 = .ok (.iload_n 1, 1) := by decide +kernel
theorem d8_signs_84 : decode prog_10_method_49_code 84 = .ok (.iconst 4, 1) := by decide +kernel
theorem d8_signs_85 : decode prog_10_method_49_code 85 = .ok (.iload 4, 2) := by decide +kernel
theorem d8_signs_87 : decode prog_10_method_49_code 87 = .ok (.imul, 1) := by decide +kernel
theorem d8_signs_88 : decode prog_10_method_49_code 88 = .ok (.iconst 2, 1) := by decide +kernel
theorem d8_signs_89 : decode prog_10_method_49_code 89 = .ok (.iadd, 1) := by decide +kernel
theorem d8_signs_90 : decode prog_10_method_49_code 90 = .ok (.invokevirtual 98, 3) := by decide +kernel
theorem d8_signs_93 : decode prog_10_method_49_code 93 = .ok (.aload_n 0, 1) := by decide +kernel
theorem d8_signs_94 : decode prog_10_method_49_code 94 = .ok (.iload_n 1, 1) := by decide +kernel
theorem d8_signs_95 : decode prog_10_method_49_code 95 = .ok (.iconst 4, 1) := by decide +kernel
theorem d8_signs_96 : decode prog_10_method_49_code 96 = .ok (.iload 4, 2) := by decide +kernel
theorem d8_signs_98 : decode prog_10_method_49_code 98 = .ok (.imul, 1) := by decide +kernel
theorem d8_signs_99 : decode prog_10_method_49_code 99 = .ok (.iconst 3, 1) := by decide +kernel
theorem d8_signs_100 : decode prog_10_method_49_code 100 = .ok (.iadd, 1) := by decide +kernel
theorem d8_signs_101 : decode prog_10_method_49_code 101 = .ok (.invokevirtual 98, 3) := by decide +kernel
theorem d8_signs_104 : decode prog_10_method_49_code 104 = .ok (.invokestatic 164, 3) := by decide +kernel
theorem d8_signs_107 : decode prog_10_method_49_code 107 = .ok (.ifCond .ne 9, 3) := by decide +kernel
theorem d8_signs_110 : decode prog_10_method_49_code 110 = .ok (.aload_n 0, 1) := by decide +kernel
theorem d8_signs_111 : decode prog_10_method_49_code 111 = .ok (.iconst 3, 1) := by decide +kernel
theorem d8_signs_112 : decode prog_10_method_49_code 112 = .ok (.invokevirtual 88, 3) := by decide +kernel
theorem d8_signs_115 : decode prog_10_method_49_code 115 = .ok (.ireturn, 1) := by decide +kernel
theorem d8_signs_116 : decode prog_10_method_49_code 116 = .ok (.iinc 4 1, 3) := by decide +kernel
theorem d8_signs_119 : decode prog_10_method_49_code 119 = .ok (.goto (-63), 3) := by decide +kernel
theorem d8_signs_122 : decode prog_10_method_49_code 122 = .ok (.iconst 0, 1) := by decide +kernel
theorem d8_signs_123 : decode prog_10_method_49_code 123 = .ok (.istore 4, 2) := by decide +kernel
theorem d8_signs_125 : decode prog_10_method_49_code 125 = .ok (.iload 4, 2) := by decide +kernel
theorem d8_signs_127 : decode prog_10_method_49_code 127 = .ok (.iload_n 3, 1) := by decide +kernel
theorem d8_signs_128 : decode prog_10_method_49_code 128 = .ok (.if_icmp .ge 56, 3) := by decide +kernel
theorem d8_signs_131 : decode prog_10_method_49_code 131 = .ok (.aload_n 0, 1) := by decide +kernel
theorem d8_signs_132 : decode prog_10_method_49_code 132 = .ok (.aload_n 0, 1) := by decide +kernel
theorem d8_signs_133 : decode prog_10_method_49_code 133 = .ok (.iload_n 1, 1) := by decide +kernel
theorem d8_signs_134 : decode prog_10_method_49_code 134 = .ok (.iconst 4, 1) := by decide +kernel
theorem d8_signs_135 : decode prog_10_method_49_code 135 = .ok (.iload 4, 2) := by decide +kernel
theorem d8_signs_137 : decode prog_10_method_49_code 137 = .ok (.imul, 1) := by decide +kernel
theorem d8_signs_138 : decode prog_10_method_49_code 138 = .ok (.invokevirtual 98, 3) := by decide +kernel
theorem d8_signs_141 : decode prog_10_method_49_code 141 = .ok (.aload_n 0, 1) := by decide +kernel
theorem d8_signs_142 : decode prog_10_method_49_code 142 = .ok (.iload_n 1, 1) := by decide +kernel
theorem d8_signs_143 : decode prog_10_method_49_code 143 = .ok (.iconst 4, 1) := by decide +kernel
theorem d8_signs_144 : decode prog_10_method_49_code 144 = .ok (.iload 4, 2) := by decide +kernel
theorem d8_signs_146 : decode prog_10_method_49_code 146 = .ok (.imul, 1) := by decide +kernel
theorem d8_signs_147 : decode prog_10_method_49_code 147 = .ok (.iconst 1, 1) := by decide +kernel
theorem d8_signs_148 : decode prog_10_method_49_code 148 = .ok (.iadd, 1) := by decide +kernel
theorem d8_signs_149 : decode prog_10_method_49_code 149 = .ok (.invokevirtual 98, 3) := by decide +kernel
theorem d8_signs_152 : decode prog_10_method_49_code 152 = .ok (.aload_n 0, 1) := by decide +kernel
theorem d8_signs_153 : decode prog_10_method_49_code 153 = .ok (.iload_n 1, 1) := by decide +kernel
theorem d8_signs_154 : decode prog_10_method_49_code 154 = .ok (.iconst 4, 1) := by decide +kernel
theorem d8_signs_155 : decode prog_10_method_49_code 155 = .ok (.iload 4, 2) := by decide +kernel
theorem d8_signs_157 : decode prog_10_method_49_code 157 = .ok (.imul, 1) := by decide +kernel
theorem d8_signs_158 : decode prog_10_method_49_code 158 = .ok (.iconst 2, 1) := by decide +kernel
theorem d8_signs_159 : decode prog_10_method_49_code 159 = .ok (.iadd, 1) := by decide +kernel
theorem d8_signs_160 : decode prog_10_method_49_code 160 = .ok (.invokevirtual 98, 3) := by decide +kernel
theorem d8_signs_163 : decode prog_10_method_49_code 163 = .ok (.aload_n 0, 1) := by decide +kernel
theorem d8_signs_164 : decode prog_10_method_49_code 164 = .ok (.iload_n 1, 1) := by decide +kernel
theorem d8_signs_165 : decode prog_10_method_49_code 165 = .ok (.iconst 4, 1) := by decide +kernel
theorem d8_signs_166 : decode prog_10_method_49_code 166 = .ok (.iload 4, 2) := by decide +kernel
theorem d8_signs_168 : decode prog_10_method_49_code 168 = .ok (.imul, 1) := by decide +kernel
theorem d8_signs_169 : decode prog_10_method_49_code 169 = .ok (.iconst 3, 1) := by decide +kernel
theorem d8_signs_170 : decode prog_10_method_49_code 170 = .ok (.iadd, 1) := by decide +kernel
theorem d8_signs_171 : decode prog_10_method_49_code 171 = .ok (.invokevirtual 98, 3) := by decide +kernel
theorem d8_signs_174 : decode prog_10_method_49_code 174 = .ok (.invokevirtual 168, 3) := by decide +kernel
theorem d8_signs_177 : decode prog_10_method_49_code 177 = .ok (.pop, 1) := by decide +kernel
theorem d8_signs_178 : decode prog_10_method_49_code 178 = .ok (.iinc 4 1, 3) := by decide +kernel
theorem d8_signs_181 : decode prog_10_method_49_code 181 = .ok (.goto (-56), 3) := by decide +kernel
theorem d8_signs_184 : decode prog_10_method_49_code 184 = .ok (.iload_n 3, 1) := by decide +kernel
theorem d8_signs_185 : decode prog_10_method_49_code 185 = .ok (.ireturn, 1) := by decide +kernel
theorem d0_has_0 : decode prog_2_method_2_code 0 = .ok (.iload_n 1, 1) := by decide +kernel
theorem d0_has_1 : decode prog_2_method_2_code 1 = .ok (.ifCond .lt 15, 3) := by decide +kernel
theorem d0_has_4 : decode prog_2_method_2_code 4 = .ok (.iload_n 1, 1) := by decide +kernel
theorem d0_has_5 : decode prog_2_method_2_code 5 = .ok (.aload_n 0, 1) := by decide +kernel
theorem d0_has_6 : decode prog_2_method_2_code 6 = .ok (.getfield 17, 3) := by decide +kernel
theorem d0_has_9 : decode prog_2_method_2_code 9 = .ok (.if_icmp .ge 7, 3) := by decide +kernel
theorem d0_has_12 : decode prog_2_method_2_code 12 = .ok (.iconst 1, 1) := by decide +kernel
theorem d0_has_13 : decode prog_2_method_2_code 13 = .ok (.goto 4, 3) := by decide +kernel
theorem d0_has_16 : decode prog_2_method_2_code 16 = .ok (.iconst 0, 1) := by decide +kernel
theorem d0_has_17 : decode prog_2_method_2_code 17 = .ok (.ireturn, 1) := by decide +kernel
theorem d7_undo_0 : decode prog_1_method_20_code 0 = .ok (.aload_n 0, 1) := by decide +kernel
theorem d7_undo_1 : decode prog_1_method_20_code 1 = .ok (.getfield 42, 3) := by decide +kernel
theorem d7_undo_4 : decode prog_1_method_20_code 4 = .ok (.iload_n 1, 1) := by decide +kernel
theorem d7_undo_5 : decode prog_1_method_20_code 5 = .ok (.invokevirtual 184, 3) := by decide +kernel
theorem d7_undo_8 : decode prog_1_method_20_code 8 = .ok (.ifCond .eq 11, 3) := by decide +kernel
theorem d7_undo_11 : decode prog_1_method_20_code 11 = .ok (.iload_n 2, 1) := by decide +kernel
theorem d7_undo_12 : decode prog_1_method_20_code 12 = .ok (.iconst 1, 1) := by decide +kernel
theorem d7_undo_13 : decode prog_1_method_20_code 13 = .ok (.invokestatic 137, 3) := by decide +kernel
theorem d7_undo_16 : decode prog_1_method_20_code 16 = .ok (.ifCond .ne 5, 3) := by decide +kernel
theorem d7_undo_19 : decode prog_1_method_20_code 19 = .ok (.iconst (-1), 1) := by decide +kernel
theorem d7_undo_20 : decode prog_1_method_20_code 20 = .ok (.ireturn, 1) := by decide +kernel
theorem d7_undo_21 : decode prog_1_method_20_code 21 = .ok (.aload_n 0, 1) := by decide +kernel
theorem d7_undo_22 : decode prog_1_method_20_code 22 = .ok (.getfield 42, 3) := by decide +kernel
theorem d7_undo_25 : decode prog_1_method_20_code 25 = .ok (.getfield 187, 3) := by decide +kernel
theorem d7_undo_28 : decode prog_1_method_20_code 28 = .ok (.iload_n 1, 1) := by decide +kernel
theorem d7_undo_29 : decode prog_1_method_20_code 29 = .ok (.aaload, 1) := by decide +kernel
theorem d7_undo_30 : decode prog_1_method_20_code 30 = .ok (.getfield 191, 3) := by decide +kernel
theorem d7_undo_33 : decode prog_1_method_20_code 33 = .ok (.ifCond .eq 7, 3) := by decide +kernel
theorem d7_undo_36 : decode prog_1_method_20_code 36 = .ok (.iconst 1, 1) := by decide +kernel
theorem d7_undo_37 : decode prog_1_method_20_code 37 = .ok (.goto 4, 3) := by decide +kernel
theorem d7_undo_40 : decode prog_1_method_20_code 40 = .ok (.iconst 0, 1) := by decide +kernel
theorem d7_undo_41 : decode prog_1_method_20_code 41 = .ok (.istore_n 3, 1) := by decide +kernel
theorem d7_undo_42 : decode prog_1_method_20_code 42 = .ok (.aload_n 0, 1) := by decide +kernel
theorem d7_undo_43 : decode prog_1_method_20_code 43 = .ok (.getfield 42, 3) := by decide +kernel
theorem d7_undo_46 : decode prog_1_method_20_code 46 = .ok (.getfield 187, 3) := by decide +kernel
theorem d7_undo_49 : decode prog_1_method_20_code 49 = .ok (.iload_n 1, 1) := by decide +kernel
theorem d7_undo_50 : decode prog_1_method_20_code 50 = .ok (.aaload, 1) := by decide +kernel
theorem d7_undo_51 : decode prog_1_method_20_code 51 = .ok (.iload_n 2, 1) := by decide +kernel
theorem d7_undo_52 : decode prog_1_method_20_code 52 = .ok (.iconst 1, 1) := by decide +kernel
theorem d7_undo_53 : decode prog_1_method_20_code 53 = .ok (.if_icmp .ne 7, 3) := by decide +kernel
theorem d7_undo_56 : decode prog_1_method_20_code 56 = .ok (.iconst 1, 1) := by decide +kernel
theorem d7_undo_57 : decode prog_1_method_20_code 57 = .ok (.goto 4, 3) := by decide +kernel
theorem d7_undo_60 : decode prog_1_method_20_code 60 = .ok (.iconst 0, 1) := by decide +kernel
theorem d7_undo_61 : decode prog_1_method_20_code 61 = .ok (.putfield 191, 3) := by decide +kernel
theorem d7_undo_64 : decode prog_1_method_20_code 64 = .ok (.iload_n 3, 1) := by decide +kernel
theorem d7_undo_65 : decode prog_1_method_20_code 65 = .ok (.ireturn, 1) := by decide +kernel
theorem d8_isSign_0 : decode prog_10_method_43_code 0 = .ok (.iload_n 1, 1) := by decide +kernel
theorem d8_isSign_1 : decode prog_10_method_43_code 1 = .ok (.iconst 0, 1) := by decide +kernel
theorem d8_isSign_2 : decode prog_10_method_43_code 2 = .ok (.aload_n 0, 1) := by decide +kernel
theorem d8_isSign_3 : decode prog_10_method_43_code 3 = .ok (.getfield 161, 3) := by decide +kernel
theorem d8_isSign_6 : decode prog_10_method_43_code 6 = .ok (.iconst 1, 1) := by decide +kernel
theorem d8_isSign_7 : decode prog_10_method_43_code 7 = .ok (.isub, 1) := by decide +kernel
theorem d8_isSign_8 : decode prog_10_method_43_code 8 = .ok (.invokestatic 80, 3) := by decide +kernel
theorem d8_isSign_11 : decode prog_10_method_43_code 11 = .ok (.ireturn, 1) := by decide +kernel
theorem d8_tell_0 : decode prog_10_method_44_code 0 = .ok (.aload_n 0, 1) := by decide +kernel
theorem d8_tell_1 : decode prog_10_method_44_code 1 = .ok (.getfield 45, 3) := by decide +kernel
theorem d8_tell_4 : decode prog_10_method_44_code 4 = .ok (.iconst 5, 1) := by decide +kernel
theorem d8_tell_5 : decode prog_10_method_44_code 5 = .ok (.iload_n 1, 1) := by decide +kernel
theorem d8_tell_6 : decode prog_10_method_44_code 6 = .ok (.imul, 1) := by decide +kernel
theorem d8_tell_7 : decode prog_10_method_44_code 7 = .ok (.iload_n 2, 1) := by decide +kernel
theorem d8_tell_8 : decode prog_10_method_44_code 8 = .ok (.iadd, 1) := by decide +kernel
theorem d8_tell_9 : decode prog_10_method_44_code 9 = .ok (.iaload, 1) := by decide +kernel
theorem d8_tell_10 : decode prog_10_method_44_code 10 = .ok (.ireturn, 1) := by decide +kernel
theorem d8_undo_0 : decode prog_10_method_50_code 0 = .ok (.aload_n 0, 1) := by decide +kernel
theorem d8_undo_1 : decode prog_10_method_50_code 1 = .ok (.iload_n 1, 1) := by decide +kernel
theorem d8_undo_2 : decode prog_10_method_50_code 2 = .ok (.invokevirtual 172, 3) := by decide +kernel
theorem d8_undo_5 : decode prog_10_method_50_code 5 = .ok (.ifCond .eq 12, 3) := by decide +kernel
theorem d8_undo_8 : decode prog_10_method_50_code 8 = .ok (.iload_n 2, 1) := by decide +kernel
theorem d8_undo_9 : decode prog_10_method_50_code 9 = .ok (.iconst 0, 1) := by decide +kernel
theorem d8_undo_10 : decode prog_10_method_50_code 10 = .ok (.iconst 1, 1) := by decide +kernel
theorem d8_undo_11 : decode prog_10_method_50_code 11 = .ok (.invokestatic 80, 3) := by decide +kernel
theorem d8_undo_14 : decode prog_10_method_50_code 14 = .ok (.ifCond .ne 5, 3) := by decide +kernel
theorem d8_undo_17 : decode prog_10_method_50_code 17 = .ok (.iconst (-1), 1) := by decide +kernel
theorem d8_undo_18 : decode prog_10_method_50_code 18 = .ok (.ireturn, 1) := by decide +kernel
theorem d8_undo_19 : decode prog_10_method_50_code 19 = .ok (.aload_n 0, 1) := by decide +kernel
theorem d8_undo_20 : decode prog_10_method_50_code 20 = .ok (.iload_n 1, 1) := by decide +kernel
theorem d8_undo_21 : decode prog_10_method_50_code 21 = .ok (.iconst 4, 1) := by decide +kernel
theorem d8_undo_22 : decode prog_10_method_50_code 22 = .ok (.invokevirtual 175, 3) := by decide +kernel
theorem d8_undo_25 : decode prog_10_method_50_code 25 = .ok (.istore_n 3, 1) := by decide +kernel
theorem d8_undo_26 : decode prog_10_method_50_code 26 = .ok (.aload_n 0, 1) := by decide +kernel
theorem d8_undo_27 : decode prog_10_method_50_code 27 = .ok (.getfield 45, 3) := by decide +kernel
theorem d8_undo_30 : decode prog_10_method_50_code 30 = .ok (.iconst 5, 1) := by decide +kernel
theorem d8_undo_31 : decode prog_10_method_50_code 31 = .ok (.iload_n 1, 1) := by decide +kernel
theorem d8_undo_32 : decode prog_10_method_50_code 32 = .ok (.imul, 1) := by decide +kernel
theorem d8_undo_33 : decode prog_10_method_50_code 33 = .ok (.iconst 4, 1) := by decide +kernel
theorem d8_undo_34 : decode prog_10_method_50_code 34 = .ok (.iadd, 1) := by decide +kernel
theorem d8_undo_35 : decode prog_10_method_50_code 35 = .ok (.iload_n 2, 1) := by decide +kernel
theorem d8_undo_36 : decode prog_10_method_50_code 36 = .ok (.iastore, 1) := by decide +kernel
theorem d8_undo_37 : decode prog_10_method_50_code 37 = .ok (.iload_n 3, 1) := by decide +kernel
theorem d8_undo_38 : decode prog_10_method_50_code 38 = .ok (.ireturn, 1) := by decide +kernel
theorem d6_number_0 : decode prog_8_method_4_code 0 = .ok (.iload_n 1, 1) := by decide +kernel
theorem d6_number_1 : decode prog_8_method_4_code 1 = .ok (.tableswitch 51 0 3 #[31, 36, 41, 46], 31) := by decide +kernel
theorem d6_number_32 : decode prog_8_method_4_code 32 = .ok (.aload_n 0, 1) := by decide +kernel
theorem d6_number_33 : decode prog_8_method_4_code 33 = .ok (.getfield 11, 3) := by decide +kernel
theorem d6_number_36 : decode prog_8_method_4_code 36 = .ok (.ireturn, 1) := by decide +kernel
theorem d6_number_37 : decode prog_8_method_4_code 37 = .ok (.aload_n 0, 1) := by decide +kernel
theorem d6_number_38 : decode prog_8_method_4_code 38 = .ok (.getfield 15, 3) := by decide +kernel
theorem d6_number_41 : decode prog_8_method_4_code 41 = .ok (.ireturn, 1) := by decide +kernel
theorem d6_number_42 : decode prog_8_method_4_code 42 = .ok (.aload_n 0, 1) := by decide +kernel
theorem d6_number_43 : decode prog_8_method_4_code 43 = .ok (.getfield 18, 3) := by decide +kernel
theorem d6_number_46 : decode prog_8_method_4_code 46 = .ok (.ireturn, 1) := by decide +kernel
theorem d6_number_47 : decode prog_8_method_4_code 47 = .ok (.aload_n 0, 1) := by decide +kernel
theorem d6_number_48 : decode prog_8_method_4_code 48 = .ok (.getfield 21, 3) := by decide +kernel
theorem d6_number_51 : decode prog_8_method_4_code 51 = .ok (.ireturn, 1) := by decide +kernel
theorem d6_number_52 : decode prog_8_method_4_code 52 = .ok (.aload_n 0, 1) := by decide +kernel
theorem d6_number_53 : decode prog_8_method_4_code 53 = .ok (.getfield 24, 3) := by decide +kernel
theorem d6_number_56 : decode prog_8_method_4_code 56 = .ok (.ifCond .eq 7, 3) := by decide +kernel
theorem d6_number_59 : decode prog_8_method_4_code 59 = .ok (.iconst 1, 1) := by decide +kernel
theorem d6_number_60 : decode prog_8_method_4_code 60 = .ok (.goto 4, 3) := by decide +kernel
theorem d6_number_63 : decode prog_8_method_4_code 63 = .ok (.iconst 0, 1) := by decide +kernel
theorem d6_number_64 : decode prog_8_method_4_code 64 = .ok (.ireturn, 1) := by decide +kernel
theorem d7_told_0 : decode prog_1_method_21_code 0 = .ok (.aload_n 0, 1) := by decide +kernel
theorem d7_told_1 : decode prog_1_method_21_code 1 = .ok (.getfield 42, 3) := by decide +kernel
theorem d7_told_4 : decode prog_1_method_21_code 4 = .ok (.iload_n 1, 1) := by decide +kernel
theorem d7_told_5 : decode prog_1_method_21_code 5 = .ok (.invokevirtual 184, 3) := by decide +kernel
theorem d7_told_8 : decode prog_1_method_21_code 8 = .ok (.ifCond .eq 11, 3) := by decide +kernel
theorem d7_told_11 : decode prog_1_method_21_code 11 = .ok (.iload_n 2, 1) := by decide +kernel
theorem d7_told_12 : decode prog_1_method_21_code 12 = .ok (.iconst 4, 1) := by decide +kernel
theorem d7_told_13 : decode prog_1_method_21_code 13 = .ok (.invokestatic 137, 3) := by decide +kernel
theorem d7_told_16 : decode prog_1_method_21_code 16 = .ok (.ifCond .ne 5, 3) := by decide +kernel
theorem d7_told_19 : decode prog_1_method_21_code 19 = .ok (.iconst (-1), 1) := by decide +kernel
theorem d7_told_20 : decode prog_1_method_21_code 20 = .ok (.ireturn, 1) := by decide +kernel
theorem d7_told_21 : decode prog_1_method_21_code 21 = .ok (.aload_n 0, 1) := by decide +kernel
theorem d7_told_22 : decode prog_1_method_21_code 22 = .ok (.aload_n 0, 1) := by decide +kernel
theorem d7_told_23 : decode prog_1_method_21_code 23 = .ok (.getfield 42, 3) := by decide +kernel
theorem d7_told_26 : decode prog_1_method_21_code 26 = .ok (.getfield 187, 3) := by decide +kernel
theorem d7_told_29 : decode prog_1_method_21_code 29 = .ok (.iload_n 1, 1) := by decide +kernel
theorem d7_told_30 : decode prog_1_method_21_code 30 = .ok (.aaload, 1) := by decide +kernel
theorem d7_told_31 : decode prog_1_method_21_code 31 = .ok (.iload_n 2, 1) := by decide +kernel
theorem d7_told_32 : decode prog_1_method_21_code 32 = .ok (.invokevirtual 195, 3) := by decide +kernel
theorem d7_told_35 : decode prog_1_method_21_code 35 = .ok (.putfield 65, 3) := by decide +kernel
theorem d7_told_38 : decode prog_1_method_21_code 38 = .ok (.iconst 1, 1) := by decide +kernel
theorem d7_told_39 : decode prog_1_method_21_code 39 = .ok (.ireturn, 1) := by decide +kernel
theorem d8_told_0 : decode prog_10_method_51_code 0 = .ok (.aload_n 0, 1) := by decide +kernel
theorem d8_told_1 : decode prog_10_method_51_code 1 = .ok (.iload_n 1, 1) := by decide +kernel
theorem d8_told_2 : decode prog_10_method_51_code 2 = .ok (.invokevirtual 172, 3) := by decide +kernel
theorem d8_told_5 : decode prog_10_method_51_code 5 = .ok (.ifCond .eq 26, 3) := by decide +kernel
