theorem dX12_readPlain_79 : decode cX12_readPlain 79 = .ok (.bipush 41, 2) := by decide +kernel
theorem dX12_readPlain_81 : decode cX12_readPlain 81 = .ok (.invokestatic 193, 3) := by decide +kernel
theorem dX12_readPlain_84 : decode cX12_readPlain 84 = .ok (.invokevirtual 177, 3) := by decide +kernel
theorem dX12_readPlain_87 : decode cX12_readPlain 87 = .ok (.goto 46, 3) := by decide +kernel
theorem dX12_readPlain_90 : decode cX12_readPlain 90 = .ok (.aload_n 0, 1) := by decide +kernel
theorem dX12_readPlain_91 : decode cX12_readPlain 91 = .ok (.iload_n 1, 1) := by decide +kernel
theorem dX12_readPlain_92 : decode cX12_readPlain 92 = .ok (.invokevirtual 181, 3) := by decide +kernel
theorem dX12_readPlain_95 : decode cX12_readPlain 95 = .ok (.aload_n 0, 1) := by decide +kernel
theorem dX12_readPlain_96 : decode cX12_readPlain 96 = .ok (.bipush 60, 2) := by decide +kernel
theorem dX12_readPlain_98 : decode cX12_readPlain 98 = .ok (.invokestatic 193, 3) := by decide +kernel
theorem dX12_readPlain_101 : decode cX12_readPlain 101 = .ok (.invokevirtual 168, 3) := by decide +kernel
theorem dX12_readPlain_104 : decode cX12_readPlain 104 = .ok (.ifCond .ne 24, 3) := by decide +kernel
theorem dX12_readPlain_107 : decode cX12_readPlain 107 = .ok (.aload_n 0, 1) := by decide +kernel
theorem dX12_readPlain_108 : decode cX12_readPlain 108 = .ok (.bipush 62, 2) := by decide +kernel
theorem dX12_readPlain_110 : decode cX12_readPlain 110 = .ok (.invokestatic 193, 3) := by decide +kernel
theorem dX12_readPlain_113 : decode cX12_readPlain 113 = .ok (.invokevirtual 168, 3) := by decide +kernel
theorem dX12_readPlain_116 : decode cX12_readPlain 116 = .ok (.ifCond .ne 12, 3) := by decide +kernel
theorem dX12_readPlain_119 : decode cX12_readPlain 119 = .ok (.aload_n 0, 1) := by decide +kernel
theorem dX12_readPlain_120 : decode cX12_readPlain 120 = .ok (.bipush 61, 2) := by decide +kernel
theorem dX12_readPlain_122 : decode cX12_readPlain 122 = .ok (.invokestatic 193, 3) := by decide +kernel
theorem dX12_readPlain_125 : decode cX12_readPlain 125 = .ok (.invokevirtual 177, 3) := by decide +kernel
theorem dX12_readPlain_128 : decode cX12_readPlain 128 = .ok (.aload_n 0, 1) := by decide +kernel
theorem dX12_readPlain_129 : decode cX12_readPlain 129 = .ok (.iload_n 1, 1) := by decide +kernel
theorem dX12_readPlain_130 : decode cX12_readPlain 130 = .ok (.invokevirtual 181, 3) := by decide +kernel
theorem dX12_readPlain_133 : decode cX12_readPlain 133 = .ok (.return_, 1) := by decide +kernel
theorem dX12_readSum_0 : decode cX12_readSum 0 = .ok (.aload_n 0, 1) := by decide +kernel
theorem dX12_readSum_1 : decode cX12_readSum 1 = .ok (.iload_n 1, 1) := by decide +kernel
theorem dX12_readSum_2 : decode cX12_readSum 2 = .ok (.invokevirtual 197, 3) := by decide +kernel
theorem dX12_readSum_5 : decode cX12_readSum 5 = .ok (.aload_n 0, 1) := by decide +kernel
theorem dX12_readSum_6 : decode cX12_readSum 6 = .ok (.bipush 43, 2) := by decide +kernel
theorem dX12_readSum_8 : decode cX12_readSum 8 = .ok (.invokestatic 193, 3) := by decide +kernel
theorem dX12_readSum_11 : decode cX12_readSum 11 = .ok (.invokevirtual 168, 3) := by decide +kernel
theorem dX12_readSum_14 : decode cX12_readSum 14 = .ok (.ifCond .ne 15, 3) := by decide +kernel
theorem dX12_readSum_17 : decode cX12_readSum 17 = .ok (.aload_n 0, 1) := by decide +kernel
theorem dX12_readSum_18 : decode cX12_readSum 18 = .ok (.bipush 45, 2) := by decide +kernel
theorem dX12_readSum_20 : decode cX12_readSum 20 = .ok (.invokestatic 193, 3) := by decide +kernel
theorem dX12_readSum_23 : decode cX12_readSum 23 = .ok (.invokevirtual 168, 3) := by decide +kernel
theorem dX12_readSum_26 : decode cX12_readSum 26 = .ok (.ifCond .eq 11, 3) := by decide +kernel
theorem dX12_readSum_29 : decode cX12_readSum 29 = .ok (.aload_n 0, 1) := by decide +kernel
theorem dX12_readSum_30 : decode cX12_readSum 30 = .ok (.iload_n 1, 1) := by decide +kernel
theorem dX12_readSum_31 : decode cX12_readSum 31 = .ok (.invokevirtual 197, 3) := by decide +kernel
theorem dX12_readSum_34 : decode cX12_readSum 34 = .ok (.goto (-29), 3) := by decide +kernel
theorem dX12_readSum_37 : decode cX12_readSum 37 = .ok (.return_, 1) := by decide +kernel
theorem dX12_readTerm_0 : decode cX12_readTerm 0 = .ok (.aload_n 0, 1) := by decide +kernel
theorem dX12_readTerm_1 : decode cX12_readTerm 1 = .ok (.iload_n 1, 1) := by decide +kernel
theorem dX12_readTerm_2 : decode cX12_readTerm 2 = .ok (.invokevirtual 200, 3) := by decide +kernel
theorem dX12_readTerm_5 : decode cX12_readTerm 5 = .ok (.aload_n 0, 1) := by decide +kernel
theorem dX12_readTerm_6 : decode cX12_readTerm 6 = .ok (.bipush 42, 2) := by decide +kernel
theorem dX12_readTerm_8 : decode cX12_readTerm 8 = .ok (.invokestatic 193, 3) := by decide +kernel
theorem dX12_readTerm_11 : decode cX12_readTerm 11 = .ok (.invokevirtual 168, 3) := by decide +kernel
theorem dX12_readTerm_14 : decode cX12_readTerm 14 = .ok (.ifCond .ne 15, 3) := by decide +kernel
theorem dX12_readTerm_17 : decode cX12_readTerm 17 = .ok (.aload_n 0, 1) := by decide +kernel
theorem dX12_readTerm_18 : decode cX12_readTerm 18 = .ok (.bipush 47, 2) := by decide +kernel
theorem dX12_readTerm_20 : decode cX12_readTerm 20 = .ok (.invokestatic 193, 3) := by decide +kernel
theorem dX12_readTerm_23 : decode cX12_readTerm 23 = .ok (.invokevirtual 168, 3) := by decide +kernel
theorem dX12_readTerm_26 : decode cX12_readTerm 26 = .ok (.ifCond .eq 11, 3) := by decide +kernel
theorem dX12_readTerm_29 : decode cX12_readTerm 29 = .ok (.aload_n 0, 1) := by decide +kernel
theorem dX12_readTerm_30 : decode cX12_readTerm 30 = .ok (.iload_n 1, 1) := by decide +kernel
theorem dX12_readTerm_31 : decode cX12_readTerm 31 = .ok (.invokevirtual 200, 3) := by decide +kernel
theorem dX12_readTerm_34 : decode cX12_readTerm 34 = .ok (.goto (-29), 3) := by decide +kernel
theorem dX12_readTerm_37 : decode cX12_readTerm 37 = .ok (.return_, 1) := by decide +kernel
theorem dX12_readPart_0 : decode cX12_readPart 0 = .ok (.aload_n 0, 1) := by decide +kernel
theorem dX12_readPart_1 : decode cX12_readPart 1 = .ok (.invokevirtual 161, 3) := by decide +kernel
theorem dX12_readPart_4 : decode cX12_readPart 4 = .ok (.ifCond .ne 4, 3) := by decide +kernel
theorem dX12_readPart_7 : decode cX12_readPart 7 = .ok (.return_, 1) := by decide +kernel
theorem dX12_readPart_8 : decode cX12_readPart 8 = .ok (.aload_n 0, 1) := by decide +kernel
theorem dX12_readPart_9 : decode cX12_readPart 9 = .ok (.getfield 43, 3) := by decide +kernel
theorem dX12_readPart_12 : decode cX12_readPart 12 = .ok (.aload_n 0, 1) := by decide +kernel
theorem dX12_readPart_13 : decode cX12_readPart 13 = .ok (.getfield 165, 3) := by decide +kernel
theorem dX12_readPart_16 : decode cX12_readPart 16 = .ok (.iaload, 1) := by decide +kernel
theorem dX12_readPart_17 : decode cX12_readPart 17 = .ok (.istore_n 2, 1) := by decide +kernel
theorem dX12_readPart_18 : decode cX12_readPart 18 = .ok (.iload_n 2, 1) := by decide +kernel
theorem dX12_readPart_19 : decode cX12_readPart 19 = .ok (.bipush 91, 2) := by decide +kernel
theorem dX12_readPart_21 : decode cX12_readPart 21 = .ok (.invokestatic 193, 3) := by decide +kernel
theorem dX12_readPart_24 : decode cX12_readPart 24 = .ok (.if_icmp .ne 50, 3) := by decide +kernel
theorem dX12_readPart_27 : decode cX12_readPart 27 = .ok (.iload_n 1, 1) := by decide +kernel
theorem dX12_readPart_28 : decode cX12_readPart 28 = .ok (.bipush 8, 2) := by decide +kernel
theorem dX12_readPart_30 : decode cX12_readPart 30 = .ok (.if_icmp .ne 7, 3) := by decide +kernel
theorem dX12_readPart_33 : decode cX12_readPart 33 = .ok (.aload_n 0, 1) := by decide +kernel
theorem dX12_readPart_34 : decode cX12_readPart 34 = .ok (.invokevirtual 171, 3) := by decide +kernel
theorem dX12_readPart_37 : decode cX12_readPart 37 = .ok (.aload_n 0, 1) := by decide +kernel
theorem dX12_readPart_38 : decode cX12_readPart 38 = .ok (.invokevirtual 161, 3) := by decide +kernel
theorem dX12_readPart_41 : decode cX12_readPart 41 = .ok (.ifCond .ne 4, 3) := by decide +kernel
theorem dX12_readPart_44 : decode cX12_readPart 44 = .ok (.return_, 1) := by decide +kernel
theorem dX12_readPart_45 : decode cX12_readPart 45 = .ok (.aload_n 0, 1) := by decide +kernel
theorem dX12_readPart_46 : decode cX12_readPart 46 = .ok (.dup, 1) := by decide +kernel
theorem dX12_readPart_47 : decode cX12_readPart 47 = .ok (.getfield 165, 3) := by decide +kernel
theorem dX12_readPart_50 : decode cX12_readPart 50 = .ok (.iconst 1, 1) := by decide +kernel
theorem dX12_readPart_51 : decode cX12_readPart 51 = .ok (.iadd, 1) := by decide +kernel
theorem dX12_readPart_52 : decode cX12_readPart 52 = .ok (.putfield 165, 3) := by decide +kernel
theorem dX12_readPart_55 : decode cX12_readPart 55 = .ok (.aload_n 0, 1) := by decide +kernel
theorem dX12_readPart_56 : decode cX12_readPart 56 = .ok (.iload_n 1, 1) := by decide +kernel
theorem dX12_readPart_57 : decode cX12_readPart 57 = .ok (.iconst 1, 1) := by decide +kernel
theorem dX12_readPart_58 : decode cX12_readPart 58 = .ok (.iadd, 1) := by decide +kernel
theorem dX12_readPart_59 : decode cX12_readPart 59 = .ok (.invokevirtual 181, 3) := by decide +kernel
theorem dX12_readPart_62 : decode cX12_readPart 62 = .ok (.aload_n 0, 1) := by decide +kernel
theorem dX12_readPart_63 : decode cX12_readPart 63 = .ok (.bipush 93, 2) := by decide +kernel
theorem dX12_readPart_65 : decode cX12_readPart 65 = .ok (.invokestatic 193, 3) := by decide +kernel
theorem dX12_readPart_68 : decode cX12_readPart 68 = .ok (.invokevirtual 177, 3) := by decide +kernel
theorem dX12_readPart_71 : decode cX12_readPart 71 = .ok (.goto 47, 3) := by decide +kernel
theorem dX12_readPart_74 : decode cX12_readPart 74 = .ok (.iload_n 2, 1) := by decide +kernel
theorem dX12_readPart_75 : decode cX12_readPart 75 = .ok (.bipush 50, 2) := by decide +kernel
theorem dX12_readPart_77 : decode cX12_readPart 77 = .ok (.if_icmp .ne 18, 3) := by decide +kernel
theorem dX12_readPart_80 : decode cX12_readPart 80 = .ok (.aload_n 0, 1) := by decide +kernel
theorem dX12_readPart_81 : decode cX12_readPart 81 = .ok (.getfield 46, 3) := by decide +kernel
theorem dX12_readPart_84 : decode cX12_readPart 84 = .ok (.aload_n 0, 1) := by decide +kernel
theorem dX12_readPart_85 : decode cX12_readPart 85 = .ok (.getfield 165, 3) := by decide +kernel
theorem dX12_readPart_88 : decode cX12_readPart 88 = .ok (.iaload, 1) := by decide +kernel
theorem dX12_readPart_89 : decode cX12_readPart 89 = .ok (.sipush 1000, 3) := by decide +kernel
theorem dX12_readPart_92 : decode cX12_readPart 92 = .ok (.if_icmp .le 15, 3) := by decide +kernel
theorem dX12_readPart_95 : decode cX12_readPart 95 = .ok (.iload_n 2, 1) := by decide +kernel
theorem dX12_readPart_96 : decode cX12_readPart 96 = .ok (.bipush 7, 2) := by decide +kernel
theorem dX12_readPart_98 : decode cX12_readPart 98 = .ok (.if_icmp .lt 16, 3) := by decide +kernel
theorem dX12_readPart_101 : decode cX12_readPart 101 = .ok (.iload_n 2, 1) := by decide +kernel
theorem dX12_readPart_102 : decode cX12_readPart 102 = .ok (.bipush 13, 2) := by decide +kernel
theorem dX12_readPart_104 : decode cX12_readPart 104 = .ok (.if_icmp .gt 10, 3) := by decide +kernel
theorem dX12_readPart_107 : decode cX12_readPart 107 = .ok (.aload_n 0, 1) := by decide +kernel
theorem dX12_readPart_108 : decode cX12_readPart 108 = .ok (.invokevirtual 203, 3) := by decide +kernel
theorem dX12_readPart_111 : decode cX12_readPart 111 = .ok (.goto 7, 3) := by decide +kernel
theorem dX12_readPart_114 : decode cX12_readPart 114 = .ok (.aload_n 0, 1) := by decide +kernel
theorem dX12_readPart_115 : decode cX12_readPart 115 = .ok (.invokevirtual 171, 3) := by decide +kernel
theorem dX12_readPart_118 : decode cX12_readPart 118 = .ok (.return_, 1) := by decide +kernel
theorem dX12_reads_0 : decode cX12_reads 0 = .ok (.aload_n 0, 1) := by decide +kernel
theorem dX12_reads_1 : decode cX12_reads 1 = .ok (.aload_n 0, 1) := by decide +kernel
theorem dX12_reads_2 : decode cX12_reads 2 = .ok (.getfield 139, 3) := by decide +kernel
theorem dX12_reads_5 : decode cX12_reads 5 = .ok (.invokevirtual 206, 3) := by decide +kernel
theorem dX12_reads_8 : decode cX12_reads 8 = .ok (.aload_n 0, 1) := by decide +kernel
theorem dX12_reads_9 : decode cX12_reads 9 = .ok (.iconst 0, 1) := by decide +kernel
theorem dX12_reads_10 : decode cX12_reads 10 = .ok (.putfield 139, 3) := by decide +kernel
theorem dX12_reads_13 : decode cX12_reads 13 = .ok (.aload_n 0, 1) := by decide +kernel
theorem dX12_reads_14 : decode cX12_reads 14 = .ok (.iconst 0, 1) := by decide +kernel
theorem dX12_reads_15 : decode cX12_reads 15 = .ok (.putfield 165, 3) := by decide +kernel
theorem dX12_reads_18 : decode cX12_reads 18 = .ok (.aload_n 0, 1) := by decide +kernel
theorem dX12_reads_19 : decode cX12_reads 19 = .ok (.iconst 0, 1) := by decide +kernel
theorem dX12_reads_20 : decode cX12_reads 20 = .ok (.putfield 174, 3) := by decide +kernel
theorem dX12_reads_23 : decode cX12_reads 23 = .ok (.aload_n 0, 1) := by decide +kernel
theorem dX12_reads_24 : decode cX12_reads 24 = .ok (.iconst (-1), 1) := by decide +kernel
theorem dX12_reads_25 : decode cX12_reads 25 = .ok (.putfield 158, 3) := by decide +kernel
theorem dX12_reads_28 : decode cX12_reads 28 = .ok (.aload_n 0, 1) := by decide +kernel
theorem dX12_reads_29 : decode cX12_reads 29 = .ok (.invokevirtual 209, 3) := by decide +kernel
theorem dX12_reads_32 : decode cX12_reads 32 = .ok (.iconst 1, 1) := by decide +kernel
theorem dX12_reads_33 : decode cX12_reads 33 = .ok (.istore_n 1, 1) := by decide +kernel
theorem dX12_reads_34 : decode cX12_reads 34 = .ok (.aload_n 0, 1) := by decide +kernel
theorem dX12_reads_35 : decode cX12_reads 35 = .ok (.bipush 59, 2) := by decide +kernel
theorem dX12_reads_37 : decode cX12_reads 37 = .ok (.invokestatic 193, 3) := by decide +kernel
theorem dX12_reads_40 : decode cX12_reads 40 = .ok (.invokevirtual 168, 3) := by decide +kernel
theorem dX12_reads_43 : decode cX12_reads 43 = .ok (.ifCond .eq 30, 3) := by decide +kernel
theorem dX12_reads_46 : decode cX12_reads 46 = .ok (.iload_n 1, 1) := by decide +kernel
theorem dX12_reads_47 : decode cX12_reads 47 = .ok (.bipush 12, 2) := by decide +kernel
theorem dX12_reads_49 : decode cX12_reads 49 = .ok (.if_icmp .ne 7, 3) := by decide +kernel
theorem dX12_reads_52 : decode cX12_reads 52 = .ok (.aload_n 0, 1) := by decide +kernel
theorem dX12_reads_53 : decode cX12_reads 53 = .ok (.invokevirtual 171, 3) := by decide +kernel
theorem dX12_reads_56 : decode cX12_reads 56 = .ok (.aload_n 0, 1) := by decide +kernel
theorem dX12_reads_57 : decode cX12_reads 57 = .ok (.invokevirtual 161, 3) := by decide +kernel
theorem dX12_reads_60 : decode cX12_reads 60 = .ok (.ifCond .eq 7, 3) := by decide +kernel
theorem dX12_reads_63 : decode cX12_reads 63 = .ok (.aload_n 0, 1) := by decide +kernel
theorem dX12_reads_64 : decode cX12_reads 64 = .ok (.invokevirtual 209, 3) := by decide +kernel
theorem dX12_reads_67 : decode cX12_reads 67 = .ok (.iinc 1 1, 3) := by decide +kernel
theorem dX12_reads_70 : decode cX12_reads 70 = .ok (.goto (-36), 3) := by decide +kernel
theorem dX12_reads_73 : decode cX12_reads 73 = .ok (.aload_n 0, 1) := by decide +kernel
theorem dX12_reads_74 : decode cX12_reads 74 = .ok (.invokevirtual 161, 3) := by decide +kernel
theorem dX12_reads_77 : decode cX12_reads 77 = .ok (.ifCond .eq 18, 3) := by decide +kernel
theorem dX12_reads_80 : decode cX12_reads 80 = .ok (.aload_n 0, 1) := by decide +kernel
theorem dX12_reads_81 : decode cX12_reads 81 = .ok (.getfield 165, 3) := by decide +kernel
theorem dX12_reads_84 : decode cX12_reads 84 = .ok (.aload_n 0, 1) := by decide +kernel
theorem dX12_reads_85 : decode cX12_reads 85 = .ok (.getfield 145, 3) := by decide +kernel
theorem dX12_reads_88 : decode cX12_reads 88 = .ok (.if_icmp .ge 7, 3) := by decide +kernel
theorem dX12_reads_91 : decode cX12_reads 91 = .ok (.aload_n 0, 1) := by decide +kernel
theorem dX12_reads_92 : decode cX12_reads 92 = .ok (.invokevirtual 171, 3) := by decide +kernel
theorem dX12_reads_95 : decode cX12_reads 95 = .ok (.aload_n 0, 1) := by decide +kernel
theorem dX12_reads_96 : decode cX12_reads 96 = .ok (.aload_n 0, 1) := by decide +kernel
theorem dX12_reads_97 : decode cX12_reads 97 = .ok (.getfield 158, 3) := by decide +kernel
theorem dX12_reads_100 : decode cX12_reads 100 = .ok (.putfield 40, 3) := by decide +kernel
theorem dX12_reads_103 : decode cX12_reads 103 = .ok (.aload_n 0, 1) := by decide +kernel
theorem dX12_reads_104 : decode cX12_reads 104 = .ok (.invokevirtual 161, 3) := by decide +kernel
theorem dX12_reads_107 : decode cX12_reads 107 = .ok (.ireturn, 1) := by decide +kernel
theorem dX12_law_0 : decode cX12_law 0 = .ok (.aload_n 0, 1) := by decide +kernel
theorem dX12_law_1 : decode cX12_law 1 = .ok (.getfield 20, 3) := by decide +kernel
theorem dX12_law_4 : decode cX12_law 4 = .ok (.sipush 189, 3) := by decide +kernel
theorem dX12_law_7 : decode cX12_law 7 = .ok (.iaload, 1) := by decide +kernel
theorem dX12_law_8 : decode cX12_law 8 = .ok (.bipush 6, 2) := by decide +kernel
theorem dX12_law_10 : decode cX12_law 10 = .ok (.if_icmp .ne 15, 3) := by decide +kernel
theorem dX12_law_13 : decode cX12_law 13 = .ok (.aload_n 0, 1) := by decide +kernel
theorem dX12_law_14 : decode cX12_law 14 = .ok (.iconst 0, 1) := by decide +kernel
theorem dX12_law_15 : decode cX12_law 15 = .ok (.putfield 139, 3) := by decide +kernel
theorem dX12_law_18 : decode cX12_law 18 = .ok (.aload_n 0, 1) := by decide +kernel
theorem dX12_law_19 : decode cX12_law 19 = .ok (.bipush (-5), 2) := by decide +kernel
theorem dX12_law_21 : decode cX12_law 21 = .ok (.invokevirtual 117, 3) := by decide +kernel
theorem dX12_law_24 : decode cX12_law 24 = .ok (.ireturn, 1) := by decide +kernel
theorem dX12_law_25 : decode cX12_law 25 = .ok (.aload_n 0, 1) := by decide +kernel
theorem dX12_law_26 : decode cX12_law 26 = .ok (.invokevirtual 212, 3) := by decide +kernel
theorem dX12_law_29 : decode cX12_law 29 = .ok (.ifCond .ne 10, 3) := by decide +kernel
theorem dX12_law_32 : decode cX12_law 32 = .ok (.aload_n 0, 1) := by decide +kernel
theorem dX12_law_33 : decode cX12_law 33 = .ok (.bipush (-6), 2) := by decide +kernel
theorem dX12_law_35 : decode cX12_law 35 = .ok (.invokevirtual 117, 3) := by decide +kernel
theorem dX12_law_38 : decode cX12_law 38 = .ok (.ireturn, 1) := by decide +kernel
theorem dX12_law_39 : decode cX12_law 39 = .ok (.aload_n 0, 1) := by decide +kernel
theorem dX12_law_40 : decode cX12_law 40 = .ok (.getfield 20, 3) := by decide +kernel
theorem dX12_law_43 : decode cX12_law 43 = .ok (.sipush 189, 3) := by decide +kernel
theorem dX12_law_46 : decode cX12_law 46 = .ok (.iaload, 1) := by decide +kernel
theorem dX12_law_47 : decode cX12_law 47 = .ok (.istore_n 1, 1) := by decide +kernel
theorem dX12_law_48 : decode cX12_law 48 = .ok (.aload_n 0, 1) := by decide +kernel
theorem dX12_law_49 : decode cX12_law 49 = .ok (.getfield 20, 3) := by decide +kernel
theorem dX12_law_52 : decode cX12_law 52 = .ok (.sipush 192, 3) := by decide +kernel
theorem dX12_law_55 : decode cX12_law 55 = .ok (.iload_n 1, 1) := by decide +kernel
theorem dX12_law_56 : decode cX12_law 56 = .ok (.iadd, 1) := by decide +kernel
theorem dX12_law_57 : decode cX12_law 57 = .ok (.aload_n 0, 1) := by decide +kernel
theorem dX12_law_58 : decode cX12_law 58 = .ok (.getfield 145, 3) := by decide +kernel
theorem dX12_law_61 : decode cX12_law 61 = .ok (.iastore, 1) := by decide +kernel
theorem dX12_law_62 : decode cX12_law 62 = .ok (.iconst 0, 1) := by decide +kernel
theorem dX12_law_63 : decode cX12_law 63 = .ok (.istore_n 2, 1) := by decide +kernel
theorem dX12_law_64 : decode cX12_law 64 = .ok (.iload_n 2, 1) := by decide +kernel
theorem dX12_law_65 : decode cX12_law 65 = .ok (.aload_n 0, 1) := by decide +kernel
theorem dX12_law_66 : decode cX12_law 66 = .ok (.getfield 145, 3) := by decide +kernel
theorem dX12_law_69 : decode cX12_law 69 = .ok (.if_icmp .ge 53, 3) := by decide +kernel
theorem dX12_law_72 : decode cX12_law 72 = .ok (.aload_n 0, 1) := by decide +kernel
theorem dX12_law_73 : decode cX12_law 73 = .ok (.getfield 20, 3) := by decide +kernel
theorem dX12_law_76 : decode cX12_law 76 = .ok (.sipush 198, 3) := by decide +kernel
theorem dX12_law_79 : decode cX12_law 79 = .ok (.sipush 400, 3) := by decide +kernel
theorem dX12_law_82 : decode cX12_law 82 = .ok (.iload_n 1, 1) := by decide +kernel
theorem dX12_law_83 : decode cX12_law 83 = .ok (.imul, 1) := by decide +kernel
theorem dX12_law_84 : decode cX12_law 84 = .ok (.iadd, 1) := by decide +kernel
theorem dX12_law_85 : decode cX12_law 85 = .ok (.iload_n 2, 1) := by decide +kernel
theorem dX12_law_86 : decode cX12_law 86 = .ok (.iadd, 1) := by decide +kernel
theorem dX12_law_87 : decode cX12_law 87 = .ok (.aload_n 0, 1) := by decide +kernel
theorem dX12_law_88 : decode cX12_law 88 = .ok (.getfield 43, 3) := by decide +kernel
theorem dX12_law_91 : decode cX12_law 91 = .ok (.iload_n 2, 1) := by decide +kernel
theorem dX12_law_92 : decode cX12_law 92 = .ok (.iaload, 1) := by decide +kernel
theorem dX12_law_93 : decode cX12_law 93 = .ok (.iastore, 1) := by decide +kernel
theorem dX12_law_94 : decode cX12_law 94 = .ok (.aload_n 0, 1) := by decide +kernel
theorem dX12_law_95 : decode cX12_law 95 = .ok (.getfield 20, 3) := by decide +kernel
theorem dX12_law_98 : decode cX12_law 98 = .ok (.sipush 2598, 3) := by decide +kernel
theorem dX12_law_101 : decode cX12_law 101 = .ok (.sipush 400, 3) := by decide +kernel
theorem dX12_law_104 : decode cX12_law 104 = .ok (.iload_n 1, 1) := by decide +kernel
theorem dX12_law_105 : decode cX12_law 105 = .ok (.imul, 1) := by decide +kernel
theorem dX12_law_106 : decode cX12_law 106 = .ok (.iadd, 1) := by decide +kernel
theorem dX12_law_107 : decode cX12_law 107 = .ok (.iload_n 2, 1) := by decide +kernel
theorem dX12_law_108 : decode cX12_law 108 = .ok (.iadd, 1) := by decide +kernel
theorem dX12_law_109 : decode cX12_law 109 = .ok (.aload_n 0, 1) := by decide +kernel
theorem dX12_law_110 : decode cX12_law 110 = .ok (.getfield 46, 3) := by decide +kernel
theorem dX12_law_113 : decode cX12_law 113 = .ok (.iload_n 2, 1) := by decide +kernel
theorem dX12_law_114 : decode cX12_law 114 = .ok (.iaload, 1) := by decide +kernel
theorem dX12_law_115 : decode cX12_law 115 = .ok (.iastore, 1) := by decide +kernel
theorem dX12_law_116 : decode cX12_law 116 = .ok (.iinc 2 1, 3) := by decide +kernel
theorem dX12_law_119 : decode cX12_law 119 = .ok (.goto (-55), 3) := by decide +kernel
theorem dX12_law_122 : decode cX12_law 122 = .ok (.aload_n 0, 1) := by decide +kernel
theorem dX12_law_123 : decode cX12_law 123 = .ok (.getfield 20, 3) := by decide +kernel
theorem dX12_law_126 : decode cX12_law 126 = .ok (.sipush 189, 3) := by decide +kernel
theorem dX12_law_129 : decode cX12_law 129 = .ok (.dup2, 1) := by decide +kernel
theorem dX12_law_130 : decode cX12_law 130 = .ok (.iaload, 1) := by decide +kernel
theorem dX12_law_131 : decode cX12_law 131 = .ok (.iconst 1, 1) := by decide +kernel
theorem dX12_law_132 : decode cX12_law 132 = .ok (.iadd, 1) := by decide +kernel
theorem dX12_law_133 : decode cX12_law 133 = .ok (.iastore, 1) := by decide +kernel
theorem dX12_law_134 : decode cX12_law 134 = .ok (.aload_n 0, 1) := by decide +kernel
theorem dX12_law_135 : decode cX12_law 135 = .ok (.iload_n 1, 1) := by decide +kernel
theorem dX12_law_136 : decode cX12_law 136 = .ok (.invokevirtual 121, 3) := by decide +kernel
theorem dX12_law_139 : decode cX12_law 139 = .ok (.ireturn, 1) := by decide +kernel
theorem dX12_fault_0 : decode cX12_fault 0 = .ok (.aload_n 0, 1) := by decide +kernel
theorem dX12_fault_1 : decode cX12_fault 1 = .ok (.getfield 40, 3) := by decide +kernel
theorem dX12_fault_4 : decode cX12_fault 4 = .ok (.ireturn, 1) := by decide +kernel
theorem dX12_force_0 : decode cX12_force 0 = .ok (.iload_n 1, 1) := by decide +kernel
theorem dX12_force_1 : decode cX12_force 1 = .ok (.iconst (-1), 1) := by decide +kernel
theorem dX12_force_2 : decode cX12_force 2 = .ok (.if_icmp .eq 28, 3) := by decide +kernel
theorem dX12_force_5 : decode cX12_force 5 = .ok (.iload_n 1, 1) := by decide +kernel
theorem dX12_force_6 : decode cX12_force 6 = .ok (.iconst 0, 1) := by decide +kernel
theorem dX12_force_7 : decode cX12_force 7 = .ok (.aload_n 0, 1) := by decide +kernel
theorem dX12_force_8 : decode cX12_force 8 = .ok (.getfield 20, 3) := by decide +kernel
theorem dX12_force_11 : decode cX12_force 11 = .ok (.sipush 189, 3) := by decide +kernel
theorem dX12_force_14 : decode cX12_force 14 = .ok (.iaload, 1) := by decide +kernel
theorem dX12_force_15 : decode cX12_force 15 = .ok (.iconst 1, 1) := by decide +kernel
theorem dX12_force_16 : decode cX12_force 16 = .ok (.isub, 1) := by decide +kernel
theorem dX12_force_17 : decode cX12_force 17 = .ok (.invokestatic 113, 3) := by decide +kernel
theorem dX12_force_20 : decode cX12_force 20 = .ok (.ifCond .ne 10, 3) := by decide +kernel
theorem dX12_force_23 : decode cX12_force 23 = .ok (.aload_n 0, 1) := by decide +kernel
theorem dX12_force_24 : decode cX12_force 24 = .ok (.bipush (-2), 2) := by decide +kernel
theorem dX12_force_26 : decode cX12_force 26 = .ok (.invokevirtual 117, 3) := by decide +kernel
theorem dX12_force_29 : decode cX12_force 29 = .ok (.ireturn, 1) := by decide +kernel
theorem dX12_force_30 : decode cX12_force 30 = .ok (.aload_n 0, 1) := by decide +kernel
theorem dX12_force_31 : decode cX12_force 31 = .ok (.sipush 190, 3) := by decide +kernel
theorem dX12_force_34 : decode cX12_force 34 = .ok (.iload_n 1, 1) := by decide +kernel
theorem dX12_force_35 : decode cX12_force 35 = .ok (.invokevirtual 128, 3) := by decide +kernel
theorem dX12_force_38 : decode cX12_force 38 = .ok (.ireturn, 1) := by decide +kernel
theorem dX12_codeAt_0 : decode cX12_codeAt 0 = .ok (.iload_n 1, 1) := by decide +kernel
theorem dX12_codeAt_1 : decode cX12_codeAt 1 = .ok (.aload_n 0, 1) := by decide +kernel
theorem dX12_codeAt_2 : decode cX12_codeAt 2 = .ok (.getfield 215, 3) := by decide +kernel
theorem dX12_codeAt_5 : decode cX12_codeAt 5 = .ok (.if_icmp .ge 16, 3) := by decide +kernel
theorem dX12_codeAt_8 : decode cX12_codeAt 8 = .ok (.aload_n 0, 1) := by decide +kernel
theorem dX12_codeAt_9 : decode cX12_codeAt 9 = .ok (.getfield 20, 3) := by decide +kernel
theorem dX12_codeAt_12 : decode cX12_codeAt 12 = .ok (.sipush 198, 3) := by decide +kernel
theorem dX12_codeAt_15 : decode cX12_codeAt 15 = .ok (.iload_n 1, 1) := by decide +kernel
theorem dX12_codeAt_16 : decode cX12_codeAt 16 = .ok (.iadd, 1) := by decide +kernel
theorem dX12_codeAt_17 : decode cX12_codeAt 17 = .ok (.iaload, 1) := by decide +kernel
theorem dX12_codeAt_18 : decode cX12_codeAt 18 = .ok (.goto 4, 3) := by decide +kernel
theorem dX12_codeAt_21 : decode cX12_codeAt 21 = .ok (.iconst 0, 1) := by decide +kernel
theorem dX12_codeAt_22 : decode cX12_codeAt 22 = .ok (.ireturn, 1) := by decide +kernel
theorem dX12_passes0_0 : decode cX12_passes0 0 = .ok (.aload_n 0, 1) := by decide +kernel
theorem dX12_passes0_1 : decode cX12_passes0 1 = .ok (.aload_n 0, 1) := by decide +kernel
theorem dX12_passes0_2 : decode cX12_passes0 2 = .ok (.getfield 218, 3) := by decide +kernel
theorem dX12_passes0_5 : decode cX12_passes0 5 = .ok (.invokevirtual 221, 3) := by decide +kernel
theorem dX12_passes0_8 : decode cX12_passes0 8 = .ok (.iload_n 1, 1) := by decide +kernel
theorem dX12_passes0_9 : decode cX12_passes0 9 = .ok (.if_icmp .ne 7, 3) := by decide +kernel
theorem dX12_passes0_12 : decode cX12_passes0 12 = .ok (.iconst 1, 1) := by decide +kernel
theorem dX12_passes0_13 : decode cX12_passes0 13 = .ok (.goto 4, 3) := by decide +kernel
theorem dX12_passes0_16 : decode cX12_passes0 16 = .ok (.iconst 0, 1) := by decide +kernel
theorem dX12_passes0_17 : decode cX12_passes0 17 = .ok (.istore_n 2, 1) := by decide +kernel
theorem dX12_passes0_18 : decode cX12_passes0 18 = .ok (.iload_n 2, 1) := by decide +kernel
theorem dX12_passes0_19 : decode cX12_passes0 19 = .ok (.ifCond .eq 13, 3) := by decide +kernel
theorem dX12_passes0_22 : decode cX12_passes0 22 = .ok (.aload_n 0, 1) := by decide +kernel
theorem dX12_passes0_23 : decode cX12_passes0 23 = .ok (.dup, 1) := by decide +kernel
theorem dX12_passes0_24 : decode cX12_passes0 24 = .ok (.getfield 218, 3) := by decide +kernel
theorem dX12_passes0_27 : decode cX12_passes0 27 = .ok (.iconst 1, 1) := by decide +kernel
theorem dX12_passes0_28 : decode cX12_passes0 28 = .ok (.iadd, 1) := by decide +kernel
theorem dX12_passes0_29 : decode cX12_passes0 29 = .ok (.putfield 218, 3) := by decide +kernel
theorem dX12_passes0_32 : decode cX12_passes0 32 = .ok (.iload_n 2, 1) := by decide +kernel
theorem dX12_passes0_33 : decode cX12_passes0 33 = .ok (.ireturn, 1) := by decide +kernel
theorem dX12_bounded_0 : decode cX12_bounded 0 = .ok (.iload_n 3, 1) := by decide +kernel
theorem dX12_bounded_1 : decode cX12_bounded 1 = .ok (.ifCond .eq 24, 3) := by decide +kernel
theorem dX12_bounded_4 : decode cX12_bounded 4 = .ok (.lload_n 1, 1) := by decide +kernel
theorem dX12_bounded_5 : decode cX12_bounded 5 = .ok (.ldc2_w 224, 3) := by decide +kernel
theorem dX12_bounded_8 : decode cX12_bounded 8 = .ok (.lcmp, 1) := by decide +kernel
theorem dX12_bounded_9 : decode cX12_bounded 9 = .ok (.ifCond .gt 11, 3) := by decide +kernel
theorem dX12_bounded_12 : decode cX12_bounded 12 = .ok (.lload_n 1, 1) := by decide +kernel
theorem dX12_bounded_13 : decode cX12_bounded 13 = .ok (.ldc2_w 226, 3) := by decide +kernel
theorem dX12_bounded_16 : decode cX12_bounded 16 = .ok (.lcmp, 1) := by decide +kernel
theorem dX12_bounded_17 : decode cX12_bounded 17 = .ok (.ifCond .ge 8, 3) := by decide +kernel
theorem dX12_bounded_20 : decode cX12_bounded 20 = .ok (.aload_n 0, 1) := by decide +kernel
theorem dX12_bounded_21 : decode cX12_bounded 21 = .ok (.iconst 1, 1) := by decide +kernel
theorem dX12_bounded_22 : decode cX12_bounded 22 = .ok (.putfield 228, 3) := by decide +kernel
theorem dX12_bounded_25 : decode cX12_bounded 25 = .ok (.aload_n 0, 1) := by decide +kernel
theorem dX12_bounded_26 : decode cX12_bounded 26 = .ok (.getfield 228, 3) := by decide +kernel
theorem dX12_bounded_29 : decode cX12_bounded 29 = .ok (.ifCond .eq 7, 3) := by decide +kernel
theorem dX12_bounded_32 : decode cX12_bounded 32 = .ok (.lconst 0, 1) := by decide +kernel
theorem dX12_bounded_33 : decode cX12_bounded 33 = .ok (.goto 4, 3) := by decide +kernel
theorem dX12_bounded_36 : decode cX12_bounded 36 = .ok (.lload_n 1, 1) := by decide +kernel
theorem dX12_bounded_37 : decode cX12_bounded 37 = .ok (.lreturn, 1) := by decide +kernel
theorem dX12_sumOf_0 : decode cX12_sumOf 0 = .ok (.aload_n 0, 1) := by decide +kernel
theorem dX12_sumOf_1 : decode cX12_sumOf 1 = .ok (.iload_n 1, 1) := by decide +kernel
theorem dX12_sumOf_2 : decode cX12_sumOf 2 = .ok (.invokevirtual 232, 3) := by decide +kernel
theorem dX12_sumOf_5 : decode cX12_sumOf 5 = .ok (.lstore_n 2, 1) := by decide +kernel
theorem dX12_sumOf_6 : decode cX12_sumOf 6 = .ok (.aload_n 0, 1) := by decide +kernel
theorem dX12_sumOf_7 : decode cX12_sumOf 7 = .ok (.aload_n 0, 1) := by decide +kernel
theorem dX12_sumOf_8 : decode cX12_sumOf 8 = .ok (.getfield 218, 3) := by decide +kernel
theorem dX12_sumOf_11 : decode cX12_sumOf 11 = .ok (.invokevirtual 221, 3) := by decide +kernel
theorem dX12_sumOf_14 : decode cX12_sumOf 14 = .ok (.bipush 43, 2) := by decide +kernel
theorem dX12_sumOf_16 : decode cX12_sumOf 16 = .ok (.invokestatic 193, 3) := by decide +kernel
theorem dX12_sumOf_19 : decode cX12_sumOf 19 = .ok (.if_icmp .eq 19, 3) := by decide +kernel
theorem dX12_sumOf_22 : decode cX12_sumOf 22 = .ok (.aload_n 0, 1) := by decide +kernel
theorem dX12_sumOf_23 : decode cX12_sumOf 23 = .ok (.aload_n 0, 1) := by decide +kernel
theorem dX12_sumOf_24 : decode cX12_sumOf 24 = .ok (.getfield 218, 3) := by decide +kernel
theorem dX12_sumOf_27 : decode cX12_sumOf 27 = .ok (.invokevirtual 221, 3) := by decide +kernel
theorem dX12_sumOf_30 : decode cX12_sumOf 30 = .ok (.bipush 45, 2) := by decide +kernel
theorem dX12_sumOf_32 : decode cX12_sumOf 32 = .ok (.invokestatic 193, 3) := by decide +kernel
theorem dX12_sumOf_35 : decode cX12_sumOf 35 = .ok (.if_icmp .ne 68, 3) := by decide +kernel
theorem dX12_sumOf_38 : decode cX12_sumOf 38 = .ok (.aload_n 0, 1) := by decide +kernel
theorem dX12_sumOf_39 : decode cX12_sumOf 39 = .ok (.aload_n 0, 1) := by decide +kernel
theorem dX12_sumOf_40 : decode cX12_sumOf 40 = .ok (.getfield 218, 3) := by decide +kernel
theorem dX12_sumOf_43 : decode cX12_sumOf 43 = .ok (.invokevirtual 221, 3) := by decide +kernel
theorem dX12_sumOf_46 : decode cX12_sumOf 46 = .ok (.bipush 43, 2) := by decide +kernel
theorem dX12_sumOf_48 : decode cX12_sumOf 48 = .ok (.invokestatic 193, 3) := by decide +kernel
theorem dX12_sumOf_51 : decode cX12_sumOf 51 = .ok (.if_icmp .ne 7, 3) := by decide +kernel
theorem dX12_sumOf_54 : decode cX12_sumOf 54 = .ok (.iconst 1, 1) := by decide +kernel
theorem dX12_sumOf_55 : decode cX12_sumOf 55 = .ok (.goto 4, 3) := by decide +kernel
theorem dX12_sumOf_58 : decode cX12_sumOf 58 = .ok (.iconst 0, 1) := by decide +kernel
theorem dX12_sumOf_59 : decode cX12_sumOf 59 = .ok (.istore 4, 2) := by decide +kernel
theorem dX12_sumOf_61 : decode cX12_sumOf 61 = .ok (.aload_n 0, 1) := by decide +kernel
theorem dX12_sumOf_62 : decode cX12_sumOf 62 = .ok (.dup, 1) := by decide +kernel
theorem dX12_sumOf_63 : decode cX12_sumOf 63 = .ok (.getfield 218, 3) := by decide +kernel
theorem dX12_sumOf_66 : decode cX12_sumOf 66 = .ok (.iconst 1, 1) := by decide +kernel
theorem dX12_sumOf_67 : decode cX12_sumOf 67 = .ok (.iadd, 1) := by decide +kernel
theorem dX12_sumOf_68 : decode cX12_sumOf 68 = .ok (.putfield 218, 3) := by decide +kernel
theorem dX12_sumOf_71 : decode cX12_sumOf 71 = .ok (.aload_n 0, 1) := by decide +kernel
theorem dX12_sumOf_72 : decode cX12_sumOf 72 = .ok (.iload_n 1, 1) := by decide +kernel
theorem dX12_sumOf_73 : decode cX12_sumOf 73 = .ok (.invokevirtual 232, 3) := by decide +kernel
theorem dX12_sumOf_76 : decode cX12_sumOf 76 = .ok (.lstore 5, 2) := by decide +kernel
theorem dX12_sumOf_78 : decode cX12_sumOf 78 = .ok (.aload_n 0, 1) := by decide +kernel
theorem dX12_sumOf_79 : decode cX12_sumOf 79 = .ok (.iload 4, 2) := by decide +kernel
theorem dX12_sumOf_81 : decode cX12_sumOf 81 = .ok (.ifCond .eq 10, 3) := by decide +kernel
theorem dX12_sumOf_84 : decode cX12_sumOf 84 = .ok (.lload_n 2, 1) := by decide +kernel
theorem dX12_sumOf_85 : decode cX12_sumOf 85 = .ok (.lload 5, 2) := by decide +kernel
theorem dX12_sumOf_87 : decode cX12_sumOf 87 = .ok (.ladd, 1) := by decide +kernel
theorem dX12_sumOf_88 : decode cX12_sumOf 88 = .ok (.goto 7, 3) := by decide +kernel
theorem dX12_sumOf_91 : decode cX12_sumOf 91 = .ok (.lload_n 2, 1) := by decide +kernel
theorem dX12_sumOf_92 : decode cX12_sumOf 92 = .ok (.lload 5, 2) := by decide +kernel
theorem dX12_sumOf_94 : decode cX12_sumOf 94 = .ok (.lsub, 1) := by decide +kernel
theorem dX12_sumOf_95 : decode cX12_sumOf 95 = .ok (.iload_n 1, 1) := by decide +kernel
theorem dX12_sumOf_96 : decode cX12_sumOf 96 = .ok (.invokevirtual 236, 3) := by decide +kernel
theorem dX12_sumOf_99 : decode cX12_sumOf 99 = .ok (.lstore_n 2, 1) := by decide +kernel
theorem dX12_sumOf_100 : decode cX12_sumOf 100 = .ok (.goto (-94), 3) := by decide +kernel
theorem dX12_sumOf_103 : decode cX12_sumOf 103 = .ok (.lload_n 2, 1) := by decide +kernel
theorem dX12_sumOf_104 : decode cX12_sumOf 104 = .ok (.lreturn, 1) := by decide +kernel
theorem dX12_termOf_0 : decode cX12_termOf 0 = .ok (.aload_n 0, 1) := by decide +kernel
theorem dX12_termOf_1 : decode cX12_termOf 1 = .ok (.iload_n 1, 1) := by decide +kernel
theorem dX12_termOf_2 : decode cX12_termOf 2 = .ok (.invokevirtual 240, 3) := by decide +kernel
theorem dX12_termOf_5 : decode cX12_termOf 5 = .ok (.lstore_n 2, 1) := by decide +kernel
theorem dX12_termOf_6 : decode cX12_termOf 6 = .ok (.aload_n 0, 1) := by decide +kernel
theorem dX12_termOf_7 : decode cX12_termOf 7 = .ok (.aload_n 0, 1) := by decide +kernel
theorem dX12_termOf_8 : decode cX12_termOf 8 = .ok (.getfield 218, 3) := by decide +kernel
theorem dX12_termOf_11 : decode cX12_termOf 11 = .ok (.invokevirtual 221, 3) := by decide +kernel
theorem dX12_termOf_14 : decode cX12_termOf 14 = .ok (.bipush 42, 2) := by decide +kernel
theorem dX12_termOf_16 : decode cX12_termOf 16 = .ok (.invokestatic 193, 3) := by decide +kernel
theorem dX12_termOf_19 : decode cX12_termOf 19 = .ok (.if_icmp .eq 19, 3) := by decide +kernel
theorem dX12_termOf_22 : decode cX12_termOf 22 = .ok (.aload_n 0, 1) := by decide +kernel
theorem dX12_termOf_23 : decode cX12_termOf 23 = .ok (.aload_n 0, 1) := by decide +kernel
theorem dX12_termOf_24 : decode cX12_termOf 24 = .ok (.getfield 218, 3) := by decide +kernel
theorem dX12_termOf_27 : decode cX12_termOf 27 = .ok (.invokevirtual 221, 3) := by decide +kernel
theorem dX12_termOf_30 : decode cX12_termOf 30 = .ok (.bipush 47, 2) := by decide +kernel
theorem dX12_termOf_32 : decode cX12_termOf 32 = .ok (.invokestatic 193, 3) := by decide +kernel
theorem dX12_termOf_35 : decode cX12_termOf 35 = .ok (.if_icmp .ne 103, 3) := by decide +kernel
theorem dX12_termOf_38 : decode cX12_termOf 38 = .ok (.aload_n 0, 1) := by decide +kernel
theorem dX12_termOf_39 : decode cX12_termOf 39 = .ok (.aload_n 0, 1) := by decide +kernel
theorem dX12_termOf_40 : decode cX12_termOf 40 = .ok (.getfield 218, 3) := by decide +kernel
theorem dX12_termOf_43 : decode cX12_termOf 43 = .ok (.invokevirtual 221, 3) := by decide +kernel
theorem dX12_termOf_46 : decode cX12_termOf 46 = .ok (.bipush 42, 2) := by decide +kernel
theorem dX12_termOf_48 : decode cX12_termOf 48 = .ok (.invokestatic 193, 3) := by decide +kernel
theorem dX12_termOf_51 : decode cX12_termOf 51 = .ok (.if_icmp .ne 7, 3) := by decide +kernel
theorem dX12_termOf_54 : decode cX12_termOf 54 = .ok (.iconst 1, 1) := by decide +kernel
theorem dX12_termOf_55 : decode cX12_termOf 55 = .ok (.goto 4, 3) := by decide +kernel
theorem dX12_termOf_58 : decode cX12_termOf 58 = .ok (.iconst 0, 1) := by decide +kernel
theorem dX12_termOf_59 : decode cX12_termOf 59 = .ok (.istore 4, 2) := by decide +kernel
theorem dX12_termOf_61 : decode cX12_termOf 61 = .ok (.aload_n 0, 1) := by decide +kernel
theorem dX12_termOf_62 : decode cX12_termOf 62 = .ok (.dup, 1) := by decide +kernel
theorem dX12_termOf_63 : decode cX12_termOf 63 = .ok (.getfield 218, 3) := by decide +kernel
theorem dX12_termOf_66 : decode cX12_termOf 66 = .ok (.iconst 1, 1) := by decide +kernel
theorem dX12_termOf_67 : decode cX12_termOf 67 = .ok (.iadd, 1) := by decide +kernel
theorem dX12_termOf_68 : decode cX12_termOf 68 = .ok (.putfield 218, 3) := by decide +kernel
theorem dX12_termOf_71 : decode cX12_termOf 71 = .ok (.aload_n 0, 1) := by decide +kernel
theorem dX12_termOf_72 : decode cX12_termOf 72 = .ok (.iload_n 1, 1) := by decide +kernel
theorem dX12_termOf_73 : decode cX12_termOf 73 = .ok (.invokevirtual 240, 3) := by decide +kernel
theorem dX12_termOf_76 : decode cX12_termOf 76 = .ok (.lstore 5, 2) := by decide +kernel
theorem dX12_termOf_78 : decode cX12_termOf 78 = .ok (.iload 4, 2) := by decide +kernel
theorem dX12_termOf_80 : decode cX12_termOf 80 = .ok (.ifCond .ne 33, 3) := by decide +kernel
theorem dX12_termOf_83 : decode cX12_termOf 83 = .ok (.lload 5, 2) := by decide +kernel
theorem dX12_termOf_85 : decode cX12_termOf 85 = .ok (.lconst 0, 1) := by decide +kernel
theorem dX12_termOf_86 : decode cX12_termOf 86 = .ok (.lcmp, 1) := by decide +kernel
theorem dX12_termOf_87 : decode cX12_termOf 87 = .ok (.ifCond .ne 26, 3) := by decide +kernel
theorem dX12_termOf_90 : decode cX12_termOf 90 = .ok (.aload_n 0, 1) := by decide +kernel
theorem dX12_termOf_91 : decode cX12_termOf 91 = .ok (.aload_n 0, 1) := by decide +kernel
theorem dX12_termOf_92 : decode cX12_termOf 92 = .ok (.getfield 228, 3) := by decide +kernel
theorem dX12_termOf_95 : decode cX12_termOf 95 = .ok (.ifCond .ne 7, 3) := by decide +kernel
theorem dX12_termOf_98 : decode cX12_termOf 98 = .ok (.iload_n 1, 1) := by decide +kernel
theorem dX12_termOf_99 : decode cX12_termOf 99 = .ok (.ifCond .eq 7, 3) := by decide +kernel
theorem dX12_termOf_102 : decode cX12_termOf 102 = .ok (.iconst 1, 1) := by decide +kernel
theorem dX12_termOf_103 : decode cX12_termOf 103 = .ok (.goto 4, 3) := by decide +kernel
theorem dX12_termOf_106 : decode cX12_termOf 106 = .ok (.iconst 0, 1) := by decide +kernel
theorem dX12_termOf_107 : decode cX12_termOf 107 = .ok (.putfield 228, 3) := by decide +kernel
theorem dX12_termOf_110 : decode cX12_termOf 110 = .ok (.lconst 1, 1) := by decide +kernel
theorem dX12_termOf_111 : decode cX12_termOf 111 = .ok (.lstore 5, 2) := by decide +kernel
theorem dX12_termOf_113 : decode cX12_termOf 113 = .ok (.aload_n 0, 1) := by decide +kernel
theorem dX12_termOf_114 : decode cX12_termOf 114 = .ok (.iload 4, 2) := by decide +kernel
theorem dX12_termOf_116 : decode cX12_termOf 116 = .ok (.ifCond .eq 10, 3) := by decide +kernel
theorem dX12_termOf_119 : decode cX12_termOf 119 = .ok (.lload_n 2, 1) := by decide +kernel
theorem dX12_termOf_120 : decode cX12_termOf 120 = .ok (.lload 5, 2) := by decide +kernel
theorem dX12_termOf_122 : decode cX12_termOf 122 = .ok (.lmul, 1) := by decide +kernel
theorem dX12_termOf_123 : decode cX12_termOf 123 = .ok (.goto 7, 3) := by decide +kernel
theorem dX12_termOf_126 : decode cX12_termOf 126 = .ok (.lload_n 2, 1) := by decide +kernel
theorem dX12_termOf_127 : decode cX12_termOf 127 = .ok (.lload 5, 2) := by decide +kernel
theorem dX12_termOf_129 : decode cX12_termOf 129 = .ok (.ldiv, 1) := by decide +kernel
theorem dX12_termOf_130 : decode cX12_termOf 130 = .ok (.iload_n 1, 1) := by decide +kernel
theorem dX12_termOf_131 : decode cX12_termOf 131 = .ok (.invokevirtual 236, 3) := by decide +kernel
theorem dX12_termOf_134 : decode cX12_termOf 134 = .ok (.lstore_n 2, 1) := by decide +kernel
theorem dX12_termOf_135 : decode cX12_termOf 135 = .ok (.goto (-129), 3) := by decide +kernel
theorem dX12_termOf_138 : decode cX12_termOf 138 = .ok (.lload_n 2, 1) := by decide +kernel
theorem dX12_termOf_139 : decode cX12_termOf 139 = .ok (.lreturn, 1) := by decide +kernel
theorem dX12_partOf_0 : decode cX12_partOf 0 = .ok (.aload_n 0, 1) := by decide +kernel
theorem dX12_partOf_1 : decode cX12_partOf 1 = .ok (.bipush 91, 2) := by decide +kernel
theorem dX12_partOf_3 : decode cX12_partOf 3 = .ok (.invokestatic 193, 3) := by decide +kernel
theorem dX12_partOf_6 : decode cX12_partOf 6 = .ok (.invokevirtual 243, 3) := by decide +kernel
theorem dX12_partOf_9 : decode cX12_partOf 9 = .ok (.ifCond .eq 21, 3) := by decide +kernel
theorem dX12_partOf_12 : decode cX12_partOf 12 = .ok (.aload_n 0, 1) := by decide +kernel
theorem dX12_partOf_13 : decode cX12_partOf 13 = .ok (.iload_n 1, 1) := by decide +kernel
theorem dX12_partOf_14 : decode cX12_partOf 14 = .ok (.invokevirtual 246, 3) := by decide +kernel
theorem dX12_partOf_17 : decode cX12_partOf 17 = .ok (.lstore_n 2, 1) := by decide +kernel
theorem dX12_partOf_18 : decode cX12_partOf 18 = .ok (.aload_n 0, 1) := by decide +kernel
theorem dX12_partOf_19 : decode cX12_partOf 19 = .ok (.dup, 1) := by decide +kernel
theorem dX12_partOf_20 : decode cX12_partOf 20 = .ok (.getfield 218, 3) := by decide +kernel
theorem dX12_partOf_23 : decode cX12_partOf 23 = .ok (.iconst 1, 1) := by decide +kernel
theorem dX12_partOf_24 : decode cX12_partOf 24 = .ok (.iadd, 1) := by decide +kernel
theorem dX12_partOf_25 : decode cX12_partOf 25 = .ok (.putfield 218, 3) := by decide +kernel
theorem dX12_partOf_28 : decode cX12_partOf 28 = .ok (.lload_n 2, 1) := by decide +kernel
theorem dX12_partOf_29 : decode cX12_partOf 29 = .ok (.lreturn, 1) := by decide +kernel
theorem dX12_partOf_30 : decode cX12_partOf 30 = .ok (.aload_n 0, 1) := by decide +kernel
theorem dX12_partOf_31 : decode cX12_partOf 31 = .ok (.aload_n 0, 1) := by decide +kernel
theorem dX12_partOf_32 : decode cX12_partOf 32 = .ok (.getfield 218, 3) := by decide +kernel
theorem dX12_partOf_35 : decode cX12_partOf 35 = .ok (.invokevirtual 221, 3) := by decide +kernel
theorem dX12_partOf_38 : decode cX12_partOf 38 = .ok (.istore_n 2, 1) := by decide +kernel
theorem dX12_partOf_39 : decode cX12_partOf 39 = .ok (.aload_n 0, 1) := by decide +kernel
theorem dX12_partOf_40 : decode cX12_partOf 40 = .ok (.dup, 1) := by decide +kernel
theorem dX12_partOf_41 : decode cX12_partOf 41 = .ok (.getfield 218, 3) := by decide +kernel
theorem dX12_partOf_44 : decode cX12_partOf 44 = .ok (.iconst 1, 1) := by decide +kernel
theorem dX12_partOf_45 : decode cX12_partOf 45 = .ok (.iadd, 1) := by decide +kernel
theorem dX12_partOf_46 : decode cX12_partOf 46 = .ok (.putfield 218, 3) := by decide +kernel
theorem dX12_partOf_49 : decode cX12_partOf 49 = .ok (.iload_n 1, 1) := by decide +kernel
theorem dX12_partOf_50 : decode cX12_partOf 50 = .ok (.ifCond .eq 10, 3) := by decide +kernel
theorem dX12_partOf_53 : decode cX12_partOf 53 = .ok (.aload_n 0, 1) := by decide +kernel
theorem dX12_partOf_54 : decode cX12_partOf 54 = .ok (.getfield 228, 3) := by decide +kernel
theorem dX12_partOf_57 : decode cX12_partOf 57 = .ok (.ifCond .eq 5, 3) := by decide +kernel
theorem dX12_partOf_60 : decode cX12_partOf 60 = .ok (.lconst 0, 1) := by decide +kernel
theorem dX12_partOf_61 : decode cX12_partOf 61 = .ok (.lreturn, 1) := by decide +kernel
theorem dX12_partOf_62 : decode cX12_partOf 62 = .ok (.iload_n 2, 1) := by decide +kernel
theorem dX12_partOf_63 : decode cX12_partOf 63 = .ok (.bipush 50, 2) := by decide +kernel
theorem dX12_partOf_65 : decode cX12_partOf 65 = .ok (.if_icmp .ne 22, 3) := by decide +kernel
theorem dX12_partOf_68 : decode cX12_partOf 68 = .ok (.aload_n 0, 1) := by decide +kernel
theorem dX12_partOf_69 : decode cX12_partOf 69 = .ok (.getfield 20, 3) := by decide +kernel
theorem dX12_partOf_72 : decode cX12_partOf 72 = .ok (.sipush 2598, 3) := by decide +kernel
theorem dX12_partOf_75 : decode cX12_partOf 75 = .ok (.aload_n 0, 1) := by decide +kernel
theorem dX12_partOf_76 : decode cX12_partOf 76 = .ok (.getfield 218, 3) := by decide +kernel
theorem dX12_partOf_79 : decode cX12_partOf 79 = .ok (.iadd, 1) := by decide +kernel
theorem dX12_partOf_80 : decode cX12_partOf 80 = .ok (.iconst 1, 1) := by decide +kernel
theorem dX12_partOf_81 : decode cX12_partOf 81 = .ok (.isub, 1) := by decide +kernel
theorem dX12_partOf_82 : decode cX12_partOf 82 = .ok (.iaload, 1) := by decide +kernel
theorem dX12_partOf_83 : decode cX12_partOf 83 = .ok (.i2l, 1) := by decide +kernel
theorem dX12_partOf_84 : decode cX12_partOf 84 = .ok (.goto 13, 3) := by decide +kernel
theorem dX12_partOf_87 : decode cX12_partOf 87 = .ok (.aload_n 0, 1) := by decide +kernel
theorem dX12_partOf_88 : decode cX12_partOf 88 = .ok (.getfield 52, 3) := by decide +kernel
theorem dX12_partOf_91 : decode cX12_partOf 91 = .ok (.iload_n 2, 1) := by decide +kernel
theorem dX12_partOf_92 : decode cX12_partOf 92 = .ok (.bipush 7, 2) := by decide +kernel
theorem dX12_partOf_94 : decode cX12_partOf 94 = .ok (.isub, 1) := by decide +kernel
theorem dX12_partOf_95 : decode cX12_partOf 95 = .ok (.iaload, 1) := by decide +kernel
theorem dX12_partOf_96 : decode cX12_partOf 96 = .ok (.i2l, 1) := by decide +kernel
theorem dX12_partOf_97 : decode cX12_partOf 97 = .ok (.lreturn, 1) := by decide +kernel
theorem dX12_testOf_0 : decode cX12_testOf 0 = .ok (.aload_n 0, 1) := by decide +kernel
theorem dX12_testOf_1 : decode cX12_testOf 1 = .ok (.iload_n 1, 1) := by decide +kernel
theorem dX12_testOf_2 : decode cX12_testOf 2 = .ok (.invokevirtual 249, 3) := by decide +kernel
theorem dX12_testOf_5 : decode cX12_testOf 5 = .ok (.istore_n 2, 1) := by decide +kernel
theorem dX12_testOf_6 : decode cX12_testOf 6 = .ok (.aload_n 0, 1) := by decide +kernel
theorem dX12_testOf_7 : decode cX12_testOf 7 = .ok (.iconst 4, 1) := by decide +kernel
theorem dX12_testOf_8 : decode cX12_testOf 8 = .ok (.invokevirtual 243, 3) := by decide +kernel
theorem dX12_testOf_11 : decode cX12_testOf 11 = .ok (.ifCond .eq 38, 3) := by decide +kernel
theorem dX12_testOf_14 : decode cX12_testOf 14 = .ok (.aload_n 0, 1) := by decide +kernel
theorem dX12_testOf_15 : decode cX12_testOf 15 = .ok (.iload_n 1, 1) := by decide +kernel
theorem dX12_testOf_16 : decode cX12_testOf 16 = .ok (.ifCond .eq 11, 3) := by decide +kernel
theorem dX12_testOf_19 : decode cX12_testOf 19 = .ok (.iload_n 2, 1) := by decide +kernel
theorem dX12_testOf_20 : decode cX12_testOf 20 = .ok (.ifCond .ne 7, 3) := by decide +kernel
theorem dX12_testOf_23 : decode cX12_testOf 23 = .ok (.iconst 1, 1) := by decide +kernel
theorem dX12_testOf_24 : decode cX12_testOf 24 = .ok (.goto 4, 3) := by decide +kernel
theorem dX12_testOf_27 : decode cX12_testOf 27 = .ok (.iconst 0, 1) := by decide +kernel
theorem dX12_testOf_28 : decode cX12_testOf 28 = .ok (.invokevirtual 249, 3) := by decide +kernel
theorem dX12_testOf_31 : decode cX12_testOf 31 = .ok (.istore_n 3, 1) := by decide +kernel
theorem dX12_testOf_32 : decode cX12_testOf 32 = .ok (.iload_n 2, 1) := by decide +kernel
theorem dX12_testOf_33 : decode cX12_testOf 33 = .ok (.ifCond .ne 7, 3) := by decide +kernel
theorem dX12_testOf_36 : decode cX12_testOf 36 = .ok (.iload_n 3, 1) := by decide +kernel
theorem dX12_testOf_37 : decode cX12_testOf 37 = .ok (.ifCond .eq 7, 3) := by decide +kernel
theorem dX12_testOf_40 : decode cX12_testOf 40 = .ok (.iconst 1, 1) := by decide +kernel
theorem dX12_testOf_41 : decode cX12_testOf 41 = .ok (.goto 4, 3) := by decide +kernel
theorem dX12_testOf_44 : decode cX12_testOf 44 = .ok (.iconst 0, 1) := by decide +kernel
theorem dX12_testOf_45 : decode cX12_testOf 45 = .ok (.istore_n 2, 1) := by decide +kernel
theorem dX12_testOf_46 : decode cX12_testOf 46 = .ok (.goto (-40), 3) := by decide +kernel
theorem dX12_testOf_49 : decode cX12_testOf 49 = .ok (.iload_n 2, 1) := by decide +kernel
theorem dX12_testOf_50 : decode cX12_testOf 50 = .ok (.ireturn, 1) := by decide +kernel
theorem dX12_bothOf_0 : decode cX12_bothOf 0 = .ok (.aload_n 0, 1) := by decide +kernel
theorem dX12_bothOf_1 : decode cX12_bothOf 1 = .ok (.iload_n 1, 1) := by decide +kernel
theorem dX12_bothOf_2 : decode cX12_bothOf 2 = .ok (.invokevirtual 253, 3) := by decide +kernel
theorem dX12_bothOf_5 : decode cX12_bothOf 5 = .ok (.istore_n 2, 1) := by decide +kernel
theorem dX12_bothOf_6 : decode cX12_bothOf 6 = .ok (.aload_n 0, 1) := by decide +kernel
theorem dX12_bothOf_7 : decode cX12_bothOf 7 = .ok (.iconst 5, 1) := by decide +kernel
theorem dX12_bothOf_8 : decode cX12_bothOf 8 = .ok (.invokevirtual 243, 3) := by decide +kernel
theorem dX12_bothOf_11 : decode cX12_bothOf 11 = .ok (.ifCond .eq 38, 3) := by decide +kernel
theorem dX12_bothOf_14 : decode cX12_bothOf 14 = .ok (.aload_n 0, 1) := by decide +kernel
theorem dX12_bothOf_15 : decode cX12_bothOf 15 = .ok (.iload_n 1, 1) := by decide +kernel
theorem dX12_bothOf_16 : decode cX12_bothOf 16 = .ok (.ifCond .eq 11, 3) := by decide +kernel
theorem dX12_bothOf_19 : decode cX12_bothOf 19 = .ok (.iload_n 2, 1) := by decide +kernel
theorem dX12_bothOf_20 : decode cX12_bothOf 20 = .ok (.ifCond .eq 7, 3) := by decide +kernel
theorem dX12_bothOf_23 : decode cX12_bothOf 23 = .ok (.iconst 1, 1) := by decide +kernel
theorem dX12_bothOf_24 : decode cX12_bothOf 24 = .ok (.goto 4, 3) := by decide +kernel
theorem dX12_bothOf_27 : decode cX12_bothOf 27 = .ok (.iconst 0, 1) := by decide +kernel
theorem dX12_bothOf_28 : decode cX12_bothOf 28 = .ok (.invokevirtual 253, 3) := by decide +kernel
theorem dX12_bothOf_31 : decode cX12_bothOf 31 = .ok (.istore_n 3, 1) := by decide +kernel
theorem dX12_bothOf_32 : decode cX12_bothOf 32 = .ok (.iload_n 2, 1) := by decide +kernel
theorem dX12_bothOf_33 : decode cX12_bothOf 33 = .ok (.ifCond .eq 11, 3) := by decide +kernel
theorem dX12_bothOf_36 : decode cX12_bothOf 36 = .ok (.iload_n 3, 1) := by decide +kernel
theorem dX12_bothOf_37 : decode cX12_bothOf 37 = .ok (.ifCond .eq 7, 3) := by decide +kernel
theorem dX12_bothOf_40 : decode cX12_bothOf 40 = .ok (.iconst 1, 1) := by decide +kernel
theorem dX12_bothOf_41 : decode cX12_bothOf 41 = .ok (.goto 4, 3) := by decide +kernel
theorem dX12_bothOf_44 : decode cX12_bothOf 44 = .ok (.iconst 0, 1) := by decide +kernel
theorem dX12_bothOf_45 : decode cX12_bothOf 45 = .ok (.istore_n 2, 1) := by decide +kernel
theorem dX12_bothOf_46 : decode cX12_bothOf 46 = .ok (.goto (-40), 3) := by decide +kernel
theorem dX12_bothOf_49 : decode cX12_bothOf 49 = .ok (.iload_n 2, 1) := by decide +kernel
theorem dX12_bothOf_50 : decode cX12_bothOf 50 = .ok (.ireturn, 1) := by decide +kernel
theorem dX12_plainOf_0 : decode cX12_plainOf 0 = .ok (.iconst 0, 1) := by decide +kernel
theorem dX12_plainOf_1 : decode cX12_plainOf 1 = .ok (.istore_n 2, 1) := by decide +kernel
theorem dX12_plainOf_2 : decode cX12_plainOf 2 = .ok (.aload_n 0, 1) := by decide +kernel
theorem dX12_plainOf_3 : decode cX12_plainOf 3 = .ok (.bipush 6, 2) := by decide +kernel
theorem dX12_plainOf_5 : decode cX12_plainOf 5 = .ok (.invokevirtual 243, 3) := by decide +kernel
theorem dX12_plainOf_8 : decode cX12_plainOf 8 = .ok (.ifCond .eq 16, 3) := by decide +kernel
theorem dX12_plainOf_11 : decode cX12_plainOf 11 = .ok (.iload_n 2, 1) := by decide +kernel
theorem dX12_plainOf_12 : decode cX12_plainOf 12 = .ok (.ifCond .ne 7, 3) := by decide +kernel
theorem dX12_plainOf_15 : decode cX12_plainOf 15 = .ok (.iconst 1, 1) := by decide +kernel
theorem dX12_plainOf_16 : decode cX12_plainOf 16 = .ok (.goto 4, 3) := by decide +kernel
theorem dX12_plainOf_19 : decode cX12_plainOf 19 = .ok (.iconst 0, 1) := by decide +kernel
theorem dX12_plainOf_20 : decode cX12_plainOf 20 = .ok (.istore_n 2, 1) := by decide +kernel
theorem dX12_plainOf_21 : decode cX12_plainOf 21 = .ok (.goto (-19), 3) := by decide +kernel
theorem dX12_plainOf_24 : decode cX12_plainOf 24 = .ok (.aload_n 0, 1) := by decide +kernel
theorem dX12_plainOf_25 : decode cX12_plainOf 25 = .ok (.iload_n 1, 1) := by decide +kernel
theorem dX12_plainOf_26 : decode cX12_plainOf 26 = .ok (.invokevirtual 256, 3) := by decide +kernel
theorem dX12_plainOf_29 : decode cX12_plainOf 29 = .ok (.iload_n 2, 1) := by decide +kernel
theorem dX12_plainOf_30 : decode cX12_plainOf 30 = .ok (.if_icmp .eq 7, 3) := by decide +kernel
theorem dX12_plainOf_33 : decode cX12_plainOf 33 = .ok (.iconst 1, 1) := by decide +kernel
theorem dX12_plainOf_34 : decode cX12_plainOf 34 = .ok (.goto 4, 3) := by decide +kernel
theorem dX12_plainOf_37 : decode cX12_plainOf 37 = .ok (.iconst 0, 1) := by decide +kernel
theorem dX12_plainOf_38 : decode cX12_plainOf 38 = .ok (.ireturn, 1) := by decide +kernel
theorem dX12_positiveOf_0 : decode cX12_positiveOf 0 = .ok (.aload_n 0, 1) := by decide +kernel
theorem dX12_positiveOf_1 : decode cX12_positiveOf 1 = .ok (.bipush 40, 2) := by decide +kernel
theorem dX12_positiveOf_3 : decode cX12_positiveOf 3 = .ok (.invokestatic 193, 3) := by decide +kernel
theorem dX12_positiveOf_6 : decode cX12_positiveOf 6 = .ok (.invokevirtual 243, 3) := by decide +kernel
theorem dX12_positiveOf_9 : decode cX12_positiveOf 9 = .ok (.ifCond .eq 21, 3) := by decide +kernel
theorem dX12_positiveOf_12 : decode cX12_positiveOf 12 = .ok (.aload_n 0, 1) := by decide +kernel
theorem dX12_positiveOf_13 : decode cX12_positiveOf 13 = .ok (.iload_n 1, 1) := by decide +kernel
theorem dX12_positiveOf_14 : decode cX12_positiveOf 14 = .ok (.invokevirtual 259, 3) := by decide +kernel
theorem dX12_positiveOf_17 : decode cX12_positiveOf 17 = .ok (.istore_n 2, 1) := by decide +kernel
theorem dX12_positiveOf_18 : decode cX12_positiveOf 18 = .ok (.aload_n 0, 1) := by decide +kernel
theorem dX12_positiveOf_19 : decode cX12_positiveOf 19 = .ok (.dup, 1) := by decide +kernel
theorem dX12_positiveOf_20 : decode cX12_positiveOf 20 = .ok (.getfield 218, 3) := by decide +kernel
theorem dX12_positiveOf_23 : decode cX12_positiveOf 23 = .ok (.iconst 1, 1) := by decide +kernel
theorem dX12_positiveOf_24 : decode cX12_positiveOf 24 = .ok (.iadd, 1) := by decide +kernel
theorem dX12_positiveOf_25 : decode cX12_positiveOf 25 = .ok (.putfield 218, 3) := by decide +kernel
theorem dX12_positiveOf_28 : decode cX12_positiveOf 28 = .ok (.iload_n 2, 1) := by decide +kernel
theorem dX12_positiveOf_29 : decode cX12_positiveOf 29 = .ok (.ireturn, 1) := by decide +kernel
theorem dX12_positiveOf_30 : decode cX12_positiveOf 30 = .ok (.aload_n 0, 1) := by decide +kernel
theorem dX12_positiveOf_31 : decode cX12_positiveOf 31 = .ok (.iload_n 1, 1) := by decide +kernel
theorem dX12_positiveOf_32 : decode cX12_positiveOf 32 = .ok (.invokevirtual 246, 3) := by decide +kernel
theorem dX12_positiveOf_35 : decode cX12_positiveOf 35 = .ok (.lstore_n 2, 1) := by decide +kernel
theorem dX12_positiveOf_36 : decode cX12_positiveOf 36 = .ok (.aload_n 0, 1) := by decide +kernel
theorem dX12_positiveOf_37 : decode cX12_positiveOf 37 = .ok (.aload_n 0, 1) := by decide +kernel
theorem dX12_positiveOf_38 : decode cX12_positiveOf 38 = .ok (.getfield 218, 3) := by decide +kernel
theorem dX12_positiveOf_41 : decode cX12_positiveOf 41 = .ok (.invokevirtual 221, 3) := by decide +kernel
theorem dX12_positiveOf_44 : decode cX12_positiveOf 44 = .ok (.istore 4, 2) := by decide +kernel
theorem dX12_positiveOf_46 : decode cX12_positiveOf 46 = .ok (.aload_n 0, 1) := by decide +kernel
theorem dX12_positiveOf_47 : decode cX12_positiveOf 47 = .ok (.dup, 1) := by decide +kernel
theorem dX12_positiveOf_48 : decode cX12_positiveOf 48 = .ok (.getfield 218, 3) := by decide +kernel
theorem dX12_positiveOf_51 : decode cX12_positiveOf 51 = .ok (.iconst 1, 1) := by decide +kernel
theorem dX12_positiveOf_52 : decode cX12_positiveOf 52 = .ok (.iadd, 1) := by decide +kernel
theorem dX12_positiveOf_53 : decode cX12_positiveOf 53 = .ok (.putfield 218, 3) := by decide +kernel
theorem dX12_positiveOf_56 : decode cX12_positiveOf 56 = .ok (.aload_n 0, 1) := by decide +kernel
theorem dX12_positiveOf_57 : decode cX12_positiveOf 57 = .ok (.iload_n 1, 1) := by decide +kernel
theorem dX12_positiveOf_58 : decode cX12_positiveOf 58 = .ok (.invokevirtual 246, 3) := by decide +kernel
theorem dX12_positiveOf_61 : decode cX12_positiveOf 61 = .ok (.lstore 5, 2) := by decide +kernel
theorem dX12_positiveOf_63 : decode cX12_positiveOf 63 = .ok (.iload_n 1, 1) := by decide +kernel
theorem dX12_positiveOf_64 : decode cX12_positiveOf 64 = .ok (.ifCond .eq 61, 3) := by decide +kernel
theorem dX12_positiveOf_67 : decode cX12_positiveOf 67 = .ok (.aload_n 0, 1) := by decide +kernel
theorem dX12_positiveOf_68 : decode cX12_positiveOf 68 = .ok (.getfield 228, 3) := by decide +kernel
theorem dX12_positiveOf_71 : decode cX12_positiveOf 71 = .ok (.ifCond .ne 54, 3) := by decide +kernel
theorem dX12_positiveOf_74 : decode cX12_positiveOf 74 = .ok (.iload 4, 2) := by decide +kernel
theorem dX12_positiveOf_76 : decode cX12_positiveOf 76 = .ok (.bipush 60, 2) := by decide +kernel
theorem dX12_positiveOf_78 : decode cX12_positiveOf 78 = .ok (.invokestatic 193, 3) := by decide +kernel
theorem dX12_positiveOf_81 : decode cX12_positiveOf 81 = .ok (.if_icmp .ne 13, 3) := by decide +kernel
theorem dX12_positiveOf_84 : decode cX12_positiveOf 84 = .ok (.lload_n 2, 1) := by decide +kernel
theorem dX12_positiveOf_85 : decode cX12_positiveOf 85 = .ok (.lload 5, 2) := by decide +kernel
theorem dX12_positiveOf_87 : decode cX12_positiveOf 87 = .ok (.lcmp, 1) := by decide +kernel
theorem dX12_positiveOf_88 : decode cX12_positiveOf 88 = .ok (.ifCond .ge 37, 3) := by decide +kernel
theorem dX12_positiveOf_91 : decode cX12_positiveOf 91 = .ok (.goto 30, 3) := by decide +kernel
theorem dX12_positiveOf_94 : decode cX12_positiveOf 94 = .ok (.iload 4, 2) := by decide +kernel
theorem dX12_positiveOf_96 : decode cX12_positiveOf 96 = .ok (.bipush 62, 2) := by decide +kernel
theorem dX12_positiveOf_98 : decode cX12_positiveOf 98 = .ok (.invokestatic 193, 3) := by decide +kernel
theorem dX12_positiveOf_101 : decode cX12_positiveOf 101 = .ok (.if_icmp .ne 13, 3) := by decide +kernel
theorem dX12_positiveOf_104 : decode cX12_positiveOf 104 = .ok (.lload_n 2, 1) := by decide +kernel
theorem dX12_positiveOf_105 : decode cX12_positiveOf 105 = .ok (.lload 5, 2) := by decide +kernel
theorem dX12_positiveOf_107 : decode cX12_positiveOf 107 = .ok (.lcmp, 1) := by decide +kernel
theorem dX12_positiveOf_108 : decode cX12_positiveOf 108 = .ok (.ifCond .le 17, 3) := by decide +kernel
theorem dX12_positiveOf_111 : decode cX12_positiveOf 111 = .ok (.goto 10, 3) := by decide +kernel
theorem dX12_positiveOf_114 : decode cX12_positiveOf 114 = .ok (.lload_n 2, 1) := by decide +kernel
theorem dX12_positiveOf_115 : decode cX12_positiveOf 115 = .ok (.lload 5, 2) := by decide +kernel
theorem dX12_positiveOf_117 : decode cX12_positiveOf 117 = .ok (.lcmp, 1) := by decide +kernel
theorem dX12_positiveOf_118 : decode cX12_positiveOf 118 = .ok (.ifCond .ne 7, 3) := by decide +kernel
theorem dX12_positiveOf_121 : decode cX12_positiveOf 121 = .ok (.iconst 1, 1) := by decide +kernel
theorem dX12_positiveOf_122 : decode cX12_positiveOf 122 = .ok (.goto 4, 3) := by decide +kernel
theorem dX12_positiveOf_125 : decode cX12_positiveOf 125 = .ok (.iconst 0, 1) := by decide +kernel
theorem dX12_positiveOf_126 : decode cX12_positiveOf 126 = .ok (.ireturn, 1) := by decide +kernel
theorem dX12_asks_0 : decode cX12_asks 0 = .ok (.aload_n 0, 1) := by decide +kernel
theorem dX12_asks_1 : decode cX12_asks 1 = .ok (.lconst 0, 1) := by decide +kernel
theorem dX12_asks_2 : decode cX12_asks 2 = .ok (.putfield 262, 3) := by decide +kernel
theorem dX12_asks_5 : decode cX12_asks 5 = .ok (.aload_n 0, 1) := by decide +kernel
theorem dX12_asks_6 : decode cX12_asks 6 = .ok (.iconst 0, 1) := by decide +kernel
theorem dX12_asks_7 : decode cX12_asks 7 = .ok (.putfield 266, 3) := by decide +kernel
theorem dX12_asks_10 : decode cX12_asks 10 = .ok (.aload_n 0, 1) := by decide +kernel
theorem dX12_asks_11 : decode cX12_asks 11 = .ok (.getfield 20, 3) := by decide +kernel
theorem dX12_asks_14 : decode cX12_asks 14 = .ok (.sipush 190, 3) := by decide +kernel
theorem dX12_asks_17 : decode cX12_asks 17 = .ok (.iaload, 1) := by decide +kernel
theorem dX12_asks_18 : decode cX12_asks 18 = .ok (.iconst (-1), 1) := by decide +kernel
theorem dX12_asks_19 : decode cX12_asks 19 = .ok (.if_icmp .ne 4, 3) := by decide +kernel
theorem dX12_asks_22 : decode cX12_asks 22 = .ok (.return_, 1) := by decide +kernel
theorem dX12_asks_23 : decode cX12_asks 23 = .ok (.aload_n 0, 1) := by decide +kernel
theorem dX12_asks_24 : decode cX12_asks 24 = .ok (.sipush 400, 3) := by decide +kernel
theorem dX12_asks_27 : decode cX12_asks 27 = .ok (.aload_n 0, 1) := by decide +kernel
theorem dX12_asks_28 : decode cX12_asks 28 = .ok (.getfield 20, 3) := by decide +kernel
theorem dX12_asks_31 : decode cX12_asks 31 = .ok (.sipush 190, 3) := by decide +kernel
theorem dX12_asks_34 : decode cX12_asks 34 = .ok (.iaload, 1) := by decide +kernel
theorem dX12_asks_35 : decode cX12_asks 35 = .ok (.imul, 1) := by decide +kernel
theorem dX12_asks_36 : decode cX12_asks 36 = .ok (.putfield 218, 3) := by decide +kernel
theorem dX12_asks_39 : decode cX12_asks 39 = .ok (.aload_n 0, 1) := by decide +kernel
theorem dX12_asks_40 : decode cX12_asks 40 = .ok (.aload_n 0, 1) := by decide +kernel
theorem dX12_asks_41 : decode cX12_asks 41 = .ok (.getfield 218, 3) := by decide +kernel
theorem dX12_asks_44 : decode cX12_asks 44 = .ok (.aload_n 0, 1) := by decide +kernel
theorem dX12_asks_45 : decode cX12_asks 45 = .ok (.getfield 20, 3) := by decide +kernel
theorem dX12_asks_48 : decode cX12_asks 48 = .ok (.sipush 192, 3) := by decide +kernel
theorem dX12_asks_51 : decode cX12_asks 51 = .ok (.aload_n 0, 1) := by decide +kernel
theorem dX12_asks_52 : decode cX12_asks 52 = .ok (.getfield 20, 3) := by decide +kernel
theorem dX12_asks_55 : decode cX12_asks 55 = .ok (.sipush 190, 3) := by decide +kernel
theorem dX12_asks_58 : decode cX12_asks 58 = .ok (.iaload, 1) := by decide +kernel
theorem dX12_asks_59 : decode cX12_asks 59 = .ok (.iadd, 1) := by decide +kernel
theorem dX12_asks_60 : decode cX12_asks 60 = .ok (.iaload, 1) := by decide +kernel
theorem dX12_asks_61 : decode cX12_asks 61 = .ok (.iadd, 1) := by decide +kernel
theorem dX12_asks_62 : decode cX12_asks 62 = .ok (.putfield 215, 3) := by decide +kernel
theorem dX12_asks_65 : decode cX12_asks 65 = .ok (.aload_n 0, 1) := by decide +kernel
theorem dX12_asks_66 : decode cX12_asks 66 = .ok (.getfield 218, 3) := by decide +kernel
theorem dX12_asks_69 : decode cX12_asks 69 = .ok (.aload_n 0, 1) := by decide +kernel
theorem dX12_asks_70 : decode cX12_asks 70 = .ok (.getfield 215, 3) := by decide +kernel
theorem dX12_asks_73 : decode cX12_asks 73 = .ok (.if_icmp .ge 127, 3) := by decide +kernel
theorem dX12_asks_76 : decode cX12_asks 76 = .ok (.aload_n 0, 1) := by decide +kernel
theorem dX12_asks_77 : decode cX12_asks 77 = .ok (.iconst 0, 1) := by decide +kernel
theorem dX12_asks_78 : decode cX12_asks 78 = .ok (.putfield 228, 3) := by decide +kernel
theorem dX12_asks_81 : decode cX12_asks 81 = .ok (.aload_n 0, 1) := by decide +kernel
theorem dX12_asks_82 : decode cX12_asks 82 = .ok (.aload_n 0, 1) := by decide +kernel
theorem dX12_asks_83 : decode cX12_asks 83 = .ok (.getfield 218, 3) := by decide +kernel
theorem dX12_asks_86 : decode cX12_asks 86 = .ok (.invokevirtual 221, 3) := by decide +kernel
theorem dX12_asks_89 : decode cX12_asks 89 = .ok (.istore_n 2, 1) := by decide +kernel
theorem dX12_asks_90 : decode cX12_asks 90 = .ok (.aload_n 0, 1) := by decide +kernel
theorem dX12_asks_91 : decode cX12_asks 91 = .ok (.dup, 1) := by decide +kernel
theorem dX12_asks_92 : decode cX12_asks 92 = .ok (.getfield 218, 3) := by decide +kernel
theorem dX12_asks_95 : decode cX12_asks 95 = .ok (.iconst 1, 1) := by decide +kernel
theorem dX12_asks_96 : decode cX12_asks 96 = .ok (.iadd, 1) := by decide +kernel
theorem dX12_asks_97 : decode cX12_asks 97 = .ok (.putfield 218, 3) := by decide +kernel
theorem dX12_asks_100 : decode cX12_asks 100 = .ok (.aload_n 0, 1) := by decide +kernel
theorem dX12_asks_101 : decode cX12_asks 101 = .ok (.iconst 1, 1) := by decide +kernel
theorem dX12_asks_102 : decode cX12_asks 102 = .ok (.invokevirtual 246, 3) := by decide +kernel
theorem dX12_asks_105 : decode cX12_asks 105 = .ok (.lstore_n 3, 1) := by decide +kernel
theorem dX12_asks_106 : decode cX12_asks 106 = .ok (.aload_n 0, 1) := by decide +kernel
theorem dX12_asks_107 : decode cX12_asks 107 = .ok (.getfield 228, 3) := by decide +kernel
theorem dX12_asks_110 : decode cX12_asks 110 = .ok (.istore 5, 2) := by decide +kernel
theorem dX12_asks_112 : decode cX12_asks 112 = .ok (.aload_n 0, 1) := by decide +kernel
theorem dX12_asks_113 : decode cX12_asks 113 = .ok (.iconst 0, 1) := by decide +kernel
theorem dX12_asks_114 : decode cX12_asks 114 = .ok (.putfield 228, 3) := by decide +kernel
theorem dX12_asks_117 : decode cX12_asks 117 = .ok (.aload_n 0, 1) := by decide +kernel
theorem dX12_asks_118 : decode cX12_asks 118 = .ok (.iconst 3, 1) := by decide +kernel
theorem dX12_asks_119 : decode cX12_asks 119 = .ok (.invokevirtual 243, 3) := by decide +kernel
theorem dX12_asks_122 : decode cX12_asks 122 = .ok (.ifCond .eq 11, 3) := by decide +kernel
theorem dX12_asks_125 : decode cX12_asks 125 = .ok (.aload_n 0, 1) := by decide +kernel
theorem dX12_asks_126 : decode cX12_asks 126 = .ok (.iconst 1, 1) := by decide +kernel
theorem dX12_asks_127 : decode cX12_asks 127 = .ok (.invokevirtual 259, 3) := by decide +kernel
theorem dX12_asks_130 : decode cX12_asks 130 = .ok (.ifCond .eq 7, 3) := by decide +kernel
theorem dX12_asks_133 : decode cX12_asks 133 = .ok (.iconst 1, 1) := by decide +kernel
theorem dX12_asks_134 : decode cX12_asks 134 = .ok (.goto 4, 3) := by decide +kernel
theorem dX12_asks_137 : decode cX12_asks 137 = .ok (.iconst 0, 1) := by decide +kernel
theorem dX12_asks_138 : decode cX12_asks 138 = .ok (.istore 6, 2) := by decide +kernel
theorem dX12_asks_140 : decode cX12_asks 140 = .ok (.iload 6, 2) := by decide +kernel
theorem dX12_asks_142 : decode cX12_asks 142 = .ok (.ifCond .eq 24, 3) := by decide +kernel
theorem dX12_asks_145 : decode cX12_asks 145 = .ok (.aload_n 0, 1) := by decide +kernel
theorem dX12_asks_146 : decode cX12_asks 146 = .ok (.getfield 228, 3) := by decide +kernel
theorem dX12_asks_149 : decode cX12_asks 149 = .ok (.ifCond .ne 17, 3) := by decide +kernel
theorem dX12_asks_152 : decode cX12_asks 152 = .ok (.iload 5, 2) := by decide +kernel
theorem dX12_asks_154 : decode cX12_asks 154 = .ok (.ifCond .ne 12, 3) := by decide +kernel
theorem dX12_asks_157 : decode cX12_asks 157 = .ok (.iload_n 2, 1) := by decide +kernel
theorem dX12_asks_158 : decode cX12_asks 158 = .ok (.iload_n 1, 1) := by decide +kernel
theorem dX12_asks_159 : decode cX12_asks 159 = .ok (.if_icmp .ne 7, 3) := by decide +kernel
theorem dX12_asks_162 : decode cX12_asks 162 = .ok (.iconst 1, 1) := by decide +kernel
theorem dX12_asks_163 : decode cX12_asks 163 = .ok (.goto 4, 3) := by decide +kernel
theorem dX12_asks_166 : decode cX12_asks 166 = .ok (.iconst 0, 1) := by decide +kernel
theorem dX12_asks_167 : decode cX12_asks 167 = .ok (.istore 6, 2) := by decide +kernel
theorem dX12_asks_169 : decode cX12_asks 169 = .ok (.aload_n 0, 1) := by decide +kernel
theorem dX12_asks_170 : decode cX12_asks 170 = .ok (.dup, 1) := by decide +kernel
theorem dX12_asks_171 : decode cX12_asks 171 = .ok (.getfield 218, 3) := by decide +kernel
theorem dX12_asks_174 : decode cX12_asks 174 = .ok (.iconst 1, 1) := by decide +kernel
theorem dX12_asks_175 : decode cX12_asks 175 = .ok (.iadd, 1) := by decide +kernel
theorem dX12_asks_176 : decode cX12_asks 176 = .ok (.putfield 218, 3) := by decide +kernel
theorem dX12_asks_179 : decode cX12_asks 179 = .ok (.iload 6, 2) := by decide +kernel
theorem dX12_asks_181 : decode cX12_asks 181 = .ok (.ifCond .ne 6, 3) := by decide +kernel
theorem dX12_asks_184 : decode cX12_asks 184 = .ok (.goto (-119), 3) := by decide +kernel
theorem dX12_asks_187 : decode cX12_asks 187 = .ok (.aload_n 0, 1) := by decide +kernel
theorem dX12_asks_188 : decode cX12_asks 188 = .ok (.lload_n 3, 1) := by decide +kernel
theorem dX12_asks_189 : decode cX12_asks 189 = .ok (.putfield 262, 3) := by decide +kernel
theorem dX12_asks_192 : decode cX12_asks 192 = .ok (.aload_n 0, 1) := by decide +kernel
theorem dX12_asks_193 : decode cX12_asks 193 = .ok (.iconst 1, 1) := by decide +kernel
theorem dX12_asks_194 : decode cX12_asks 194 = .ok (.putfield 266, 3) := by decide +kernel
theorem dX12_asks_197 : decode cX12_asks 197 = .ok (.goto (-132), 3) := by decide +kernel
theorem dX12_asks_200 : decode cX12_asks 200 = .ok (.return_, 1) := by decide +kernel
theorem dX12_asksOf_0 : decode cX12_asksOf 0 = .ok (.aload_n 0, 1) := by decide +kernel
theorem dX12_asksOf_1 : decode cX12_asksOf 1 = .ok (.getfield 52, 3) := by decide +kernel
theorem dX12_asksOf_4 : decode cX12_asksOf 4 = .ok (.iconst 0, 1) := by decide +kernel
theorem dX12_asksOf_5 : decode cX12_asksOf 5 = .ok (.iload_n 1, 1) := by decide +kernel
theorem dX12_asksOf_6 : decode cX12_asksOf 6 = .ok (.iastore, 1) := by decide +kernel
theorem dX12_asksOf_7 : decode cX12_asksOf 7 = .ok (.aload_n 0, 1) := by decide +kernel
theorem dX12_asksOf_8 : decode cX12_asksOf 8 = .ok (.getfield 52, 3) := by decide +kernel
theorem dX12_asksOf_11 : decode cX12_asksOf 11 = .ok (.iconst 1, 1) := by decide +kernel
theorem dX12_asksOf_12 : decode cX12_asksOf 12 = .ok (.iload_n 2, 1) := by decide +kernel
theorem dX12_asksOf_13 : decode cX12_asksOf 13 = .ok (.iastore, 1) := by decide +kernel
theorem dX12_asksOf_14 : decode cX12_asksOf 14 = .ok (.aload_n 0, 1) := by decide +kernel
theorem dX12_asksOf_15 : decode cX12_asksOf 15 = .ok (.getfield 52, 3) := by decide +kernel
theorem dX12_asksOf_18 : decode cX12_asksOf 18 = .ok (.iconst 2, 1) := by decide +kernel
theorem dX12_asksOf_19 : decode cX12_asksOf 19 = .ok (.iload_n 3, 1) := by decide +kernel
theorem dX12_asksOf_20 : decode cX12_asksOf 20 = .ok (.iastore, 1) := by decide +kernel
theorem dX12_asksOf_21 : decode cX12_asksOf 21 = .ok (.aload_n 0, 1) := by decide +kernel
theorem dX12_asksOf_22 : decode cX12_asksOf 22 = .ok (.getfield 52, 3) := by decide +kernel
theorem dX12_asksOf_25 : decode cX12_asksOf 25 = .ok (.iconst 3, 1) := by decide +kernel
theorem dX12_asksOf_26 : decode cX12_asksOf 26 = .ok (.iload 4, 2) := by decide +kernel
theorem dX12_asksOf_28 : decode cX12_asksOf 28 = .ok (.iastore, 1) := by decide +kernel
theorem dX12_asksOf_29 : decode cX12_asksOf 29 = .ok (.aload_n 0, 1) := by decide +kernel
theorem dX12_asksOf_30 : decode cX12_asksOf 30 = .ok (.getfield 52, 3) := by decide +kernel
theorem dX12_asksOf_33 : decode cX12_asksOf 33 = .ok (.iconst 4, 1) := by decide +kernel
theorem dX12_asksOf_34 : decode cX12_asksOf 34 = .ok (.iload 5, 2) := by decide +kernel
theorem dX12_asksOf_36 : decode cX12_asksOf 36 = .ok (.iastore, 1) := by decide +kernel
theorem dX12_asksOf_37 : decode cX12_asksOf 37 = .ok (.aload_n 0, 1) := by decide +kernel
theorem dX12_asksOf_38 : decode cX12_asksOf 38 = .ok (.getfield 52, 3) := by decide +kernel
theorem dX12_asksOf_41 : decode cX12_asksOf 41 = .ok (.iconst 5, 1) := by decide +kernel
theorem dX12_asksOf_42 : decode cX12_asksOf 42 = .ok (.iload 6, 2) := by decide +kernel
theorem dX12_asksOf_44 : decode cX12_asksOf 44 = .ok (.iastore, 1) := by decide +kernel
theorem dX12_asksOf_45 : decode cX12_asksOf 45 = .ok (.aload_n 0, 1) := by decide +kernel
theorem dX12_asksOf_46 : decode cX12_asksOf 46 = .ok (.getfield 52, 3) := by decide +kernel
theorem dX12_asksOf_49 : decode cX12_asksOf 49 = .ok (.bipush 6, 2) := by decide +kernel
theorem dX12_asksOf_51 : decode cX12_asksOf 51 = .ok (.iload 7, 2) := by decide +kernel
theorem dX12_asksOf_53 : decode cX12_asksOf 53 = .ok (.iastore, 1) := by decide +kernel
theorem dX12_asksOf_54 : decode cX12_asksOf 54 = .ok (.return_, 1) := by decide +kernel
theorem dX12_wave_0 : decode cX12_wave 0 = .ok (.sipush 4000, 3) := by decide +kernel
theorem dX12_wave_3 : decode cX12_wave 3 = .ok (.iload_n 0, 1) := by decide +kernel
theorem dX12_wave_4 : decode cX12_wave 4 = .ok (.imul, 1) := by decide +kernel
theorem dX12_wave_5 : decode cX12_wave 5 = .ok (.iload_n 1, 1) := by decide +kernel
theorem dX12_wave_6 : decode cX12_wave 6 = .ok (.idiv, 1) := by decide +kernel
theorem dX12_wave_7 : decode cX12_wave 7 = .ok (.istore_n 2, 1) := by decide +kernel
theorem dX12_wave_8 : decode cX12_wave 8 = .ok (.iload_n 2, 1) := by decide +kernel
theorem dX12_wave_9 : decode cX12_wave 9 = .ok (.sipush 2000, 3) := by decide +kernel
theorem dX12_wave_12 : decode cX12_wave 12 = .ok (.if_icmp .gt 17, 3) := by decide +kernel
theorem dX12_wave_15 : decode cX12_wave 15 = .ok (.iload_n 2, 1) := by decide +kernel
theorem dX12_wave_16 : decode cX12_wave 16 = .ok (.sipush 2000, 3) := by decide +kernel
theorem dX12_wave_19 : decode cX12_wave 19 = .ok (.iload_n 2, 1) := by decide +kernel
theorem dX12_wave_20 : decode cX12_wave 20 = .ok (.isub, 1) := by decide +kernel
theorem dX12_wave_21 : decode cX12_wave 21 = .ok (.imul, 1) := by decide +kernel
theorem dX12_wave_22 : decode cX12_wave 22 = .ok (.sipush 1000, 3) := by decide +kernel
theorem dX12_wave_25 : decode cX12_wave 25 = .ok (.idiv, 1) := by decide +kernel
theorem dX12_wave_26 : decode cX12_wave 26 = .ok (.goto 19, 3) := by decide +kernel
theorem dX12_wave_29 : decode cX12_wave 29 = .ok (.iload_n 2, 1) := by decide +kernel
theorem dX12_wave_30 : decode cX12_wave 30 = .ok (.sipush 2000, 3) := by decide +kernel
theorem dX12_wave_33 : decode cX12_wave 33 = .ok (.isub, 1) := by decide +kernel
theorem dX12_wave_34 : decode cX12_wave 34 = .ok (.sipush 4000, 3) := by decide +kernel
theorem dX12_wave_37 : decode cX12_wave 37 = .ok (.iload_n 2, 1) := by decide +kernel
theorem dX12_wave_38 : decode cX12_wave 38 = .ok (.isub, 1) := by decide +kernel
theorem dX12_wave_39 : decode cX12_wave 39 = .ok (.imul, 1) := by decide +kernel
theorem dX12_wave_40 : decode cX12_wave 40 = .ok (.sipush 1000, 3) := by decide +kernel
theorem dX12_wave_43 : decode cX12_wave 43 = .ok (.idiv, 1) := by decide +kernel
theorem dX12_wave_44 : decode cX12_wave 44 = .ok (.ineg, 1) := by decide +kernel
theorem dX12_wave_45 : decode cX12_wave 45 = .ok (.ireturn, 1) := by decide +kernel
theorem dX12_moonAt_0 : decode cX12_moonAt 0 = .ok (.iload_n 0, 1) := by decide +kernel
theorem dX12_moonAt_1 : decode cX12_moonAt 1 = .ok (.iload_n 3, 1) := by decide +kernel
theorem dX12_moonAt_2 : decode cX12_moonAt 2 = .ok (.iload_n 2, 1) := by decide +kernel
theorem dX12_moonAt_3 : decode cX12_moonAt 3 = .ok (.iadd, 1) := by decide +kernel
theorem dX12_moonAt_4 : decode cX12_moonAt 4 = .ok (.iload_n 1, 1) := by decide +kernel
theorem dX12_moonAt_5 : decode cX12_moonAt 5 = .ok (.irem, 1) := by decide +kernel
theorem dX12_moonAt_6 : decode cX12_moonAt 6 = .ok (.iload_n 1, 1) := by decide +kernel
theorem dX12_moonAt_7 : decode cX12_moonAt 7 = .ok (.invokestatic 269, 3) := by decide +kernel
theorem dX12_moonAt_10 : decode cX12_moonAt 10 = .ok (.imul, 1) := by decide +kernel
theorem dX12_moonAt_11 : decode cX12_moonAt 11 = .ok (.sipush 1000, 3) := by decide +kernel
theorem dX12_moonAt_14 : decode cX12_moonAt 14 = .ok (.idiv, 1) := by decide +kernel
theorem dX12_moonAt_15 : decode cX12_moonAt 15 = .ok (.ireturn, 1) := by decide +kernel
theorem dX12_levelOf_0 : decode cX12_levelOf 0 = .ok (.aload_n 0, 1) := by decide +kernel
theorem dX12_levelOf_1 : decode cX12_levelOf 1 = .ok (.getfield 20, 3) := by decide +kernel
theorem dX12_levelOf_4 : decode cX12_levelOf 4 = .ok (.iconst 0, 1) := by decide +kernel
theorem dX12_levelOf_5 : decode cX12_levelOf 5 = .ok (.iconst 3, 1) := by decide +kernel
theorem dX12_levelOf_6 : decode cX12_levelOf 6 = .ok (.iload_n 1, 1) := by decide +kernel
theorem dX12_levelOf_7 : decode cX12_levelOf 7 = .ok (.imul, 1) := by decide +kernel
theorem dX12_levelOf_8 : decode cX12_levelOf 8 = .ok (.iadd, 1) := by decide +kernel
theorem dX12_levelOf_9 : decode cX12_levelOf 9 = .ok (.iaload, 1) := by decide +kernel
theorem dX12_levelOf_10 : decode cX12_levelOf 10 = .ok (.istore 5, 2) := by decide +kernel
theorem dX12_levelOf_12 : decode cX12_levelOf 12 = .ok (.iconst 0, 1) := by decide +kernel
theorem dX12_levelOf_13 : decode cX12_levelOf 13 = .ok (.istore 6, 2) := by decide +kernel
theorem dX12_levelOf_15 : decode cX12_levelOf 15 = .ok (.iload 6, 2) := by decide +kernel
theorem dX12_levelOf_17 : decode cX12_levelOf 17 = .ok (.iconst 4, 1) := by decide +kernel
theorem dX12_levelOf_18 : decode cX12_levelOf 18 = .ok (.if_icmp .ge 42, 3) := by decide +kernel
theorem dX12_levelOf_21 : decode cX12_levelOf 21 = .ok (.iload 5, 2) := by decide +kernel
theorem dX12_levelOf_23 : decode cX12_levelOf 23 = .ok (.aload_n 0, 1) := by decide +kernel
theorem dX12_levelOf_24 : decode cX12_levelOf 24 = .ok (.iload_n 1, 1) := by decide +kernel
theorem dX12_levelOf_25 : decode cX12_levelOf 25 = .ok (.iload 6, 2) := by decide +kernel
theorem dX12_levelOf_27 : decode cX12_levelOf 27 = .ok (.iconst 0, 1) := by decide +kernel
theorem dX12_levelOf_28 : decode cX12_levelOf 28 = .ok (.invokevirtual 272, 3) := by decide +kernel
theorem dX12_levelOf_31 : decode cX12_levelOf 31 = .ok (.aload_n 0, 1) := by decide +kernel
theorem dX12_levelOf_32 : decode cX12_levelOf 32 = .ok (.iload_n 1, 1) := by decide +kernel
theorem dX12_levelOf_33 : decode cX12_levelOf 33 = .ok (.iload 6, 2) := by decide +kernel
theorem dX12_levelOf_35 : decode cX12_levelOf 35 = .ok (.iconst 1, 1) := by decide +kernel
theorem dX12_levelOf_36 : decode cX12_levelOf 36 = .ok (.invokevirtual 272, 3) := by decide +kernel
theorem dX12_levelOf_39 : decode cX12_levelOf 39 = .ok (.aload_n 0, 1) := by decide +kernel
theorem dX12_levelOf_40 : decode cX12_levelOf 40 = .ok (.iload_n 1, 1) := by decide +kernel
theorem dX12_levelOf_41 : decode cX12_levelOf 41 = .ok (.iload 6, 2) := by decide +kernel
theorem dX12_levelOf_43 : decode cX12_levelOf 43 = .ok (.iconst 2, 1) := by decide +kernel
theorem dX12_levelOf_44 : decode cX12_levelOf 44 = .ok (.invokevirtual 272, 3) := by decide +kernel
theorem dX12_levelOf_47 : decode cX12_levelOf 47 = .ok (.iload_n 2, 1) := by decide +kernel
theorem dX12_levelOf_48 : decode cX12_levelOf 48 = .ok (.invokestatic 276, 3) := by decide +kernel
theorem dX12_levelOf_51 : decode cX12_levelOf 51 = .ok (.iadd, 1) := by decide +kernel
theorem dX12_levelOf_52 : decode cX12_levelOf 52 = .ok (.istore 5, 2) := by decide +kernel
theorem dX12_levelOf_54 : decode cX12_levelOf 54 = .ok (.iinc 6 1, 3) := by decide +kernel
theorem dX12_levelOf_57 : decode cX12_levelOf 57 = .ok (.goto (-42), 3) := by decide +kernel
theorem dX12_levelOf_60 : decode cX12_levelOf 60 = .ok (.iload 5, 2) := by decide +kernel
theorem dX12_levelOf_62 : decode cX12_levelOf 62 = .ok (.aload_n 0, 1) := by decide +kernel
theorem dX12_levelOf_63 : decode cX12_levelOf 63 = .ok (.getfield 20, 3) := by decide +kernel
theorem dX12_levelOf_66 : decode cX12_levelOf 66 = .ok (.iconst 0, 1) := by decide +kernel
theorem dX12_levelOf_67 : decode cX12_levelOf 67 = .ok (.iconst 3, 1) := by decide +kernel
theorem dX12_levelOf_68 : decode cX12_levelOf 68 = .ok (.iload_n 1, 1) := by decide +kernel
theorem dX12_levelOf_69 : decode cX12_levelOf 69 = .ok (.imul, 1) := by decide +kernel
theorem dX12_levelOf_70 : decode cX12_levelOf 70 = .ok (.iadd, 1) := by decide +kernel
theorem dX12_levelOf_71 : decode cX12_levelOf 71 = .ok (.iconst 1, 1) := by decide +kernel
theorem dX12_levelOf_72 : decode cX12_levelOf 72 = .ok (.iadd, 1) := by decide +kernel
theorem dX12_levelOf_73 : decode cX12_levelOf 73 = .ok (.iaload, 1) := by decide +kernel
theorem dX12_levelOf_74 : decode cX12_levelOf 74 = .ok (.sipush 1013, 3) := by decide +kernel
theorem dX12_levelOf_77 : decode cX12_levelOf 77 = .ok (.iload 4, 2) := by decide +kernel
theorem dX12_levelOf_79 : decode cX12_levelOf 79 = .ok (.isub, 1) := by decide +kernel
theorem dX12_levelOf_80 : decode cX12_levelOf 80 = .ok (.imul, 1) := by decide +kernel
theorem dX12_levelOf_81 : decode cX12_levelOf 81 = .ok (.iadd, 1) := by decide +kernel
theorem dX12_levelOf_82 : decode cX12_levelOf 82 = .ok (.aload_n 0, 1) := by decide +kernel
theorem dX12_levelOf_83 : decode cX12_levelOf 83 = .ok (.getfield 20, 3) := by decide +kernel
theorem dX12_levelOf_86 : decode cX12_levelOf 86 = .ok (.iconst 0, 1) := by decide +kernel
theorem dX12_levelOf_87 : decode cX12_levelOf 87 = .ok (.iconst 3, 1) := by decide +kernel
theorem dX12_levelOf_88 : decode cX12_levelOf 88 = .ok (.iload_n 1, 1) := by decide +kernel
theorem dX12_levelOf_89 : decode cX12_levelOf 89 = .ok (.imul, 1) := by decide +kernel
theorem dX12_levelOf_90 : decode cX12_levelOf 90 = .ok (.iadd, 1) := by decide +kernel
theorem dX12_levelOf_91 : decode cX12_levelOf 91 = .ok (.iconst 2, 1) := by decide +kernel
theorem dX12_levelOf_92 : decode cX12_levelOf 92 = .ok (.iadd, 1) := by decide +kernel
theorem dX12_levelOf_93 : decode cX12_levelOf 93 = .ok (.iaload, 1) := by decide +kernel
theorem dX12_levelOf_94 : decode cX12_levelOf 94 = .ok (.iload_n 3, 1) := by decide +kernel
theorem dX12_levelOf_95 : decode cX12_levelOf 95 = .ok (.imul, 1) := by decide +kernel
theorem dX12_levelOf_96 : decode cX12_levelOf 96 = .ok (.iadd, 1) := by decide +kernel
theorem dX12_levelOf_97 : decode cX12_levelOf 97 = .ok (.ireturn, 1) := by decide +kernel
theorem dX12_level_0 : decode cX12_level 0 = .ok (.iload_n 1, 1) := by decide +kernel
theorem dX12_level_1 : decode cX12_level 1 = .ok (.invokestatic 124, 3) := by decide +kernel
theorem dX12_level_4 : decode cX12_level 4 = .ok (.ifCond .eq 31, 3) := by decide +kernel
theorem dX12_level_7 : decode cX12_level 7 = .ok (.iload_n 2, 1) := by decide +kernel
theorem dX12_level_8 : decode cX12_level 8 = .ok (.invokestatic 280, 3) := by decide +kernel
theorem dX12_level_11 : decode cX12_level 11 = .ok (.ifCond .eq 24, 3) := by decide +kernel
theorem dX12_level_14 : decode cX12_level 14 = .ok (.aload_n 0, 1) := by decide +kernel
theorem dX12_level_15 : decode cX12_level 15 = .ok (.iload_n 1, 1) := by decide +kernel
theorem dX12_level_16 : decode cX12_level 16 = .ok (.iload_n 2, 1) := by decide +kernel
theorem dX12_level_17 : decode cX12_level 17 = .ok (.aload_n 0, 1) := by decide +kernel
theorem dX12_level_18 : decode cX12_level 18 = .ok (.bipush 9, 2) := by decide +kernel
theorem dX12_level_20 : decode cX12_level 20 = .ok (.invokevirtual 283, 3) := by decide +kernel
theorem dX12_level_23 : decode cX12_level 23 = .ok (.aload_n 0, 1) := by decide +kernel
theorem dX12_level_24 : decode cX12_level 24 = .ok (.bipush 10, 2) := by decide +kernel
theorem dX12_level_26 : decode cX12_level 26 = .ok (.invokevirtual 283, 3) := by decide +kernel
theorem dX12_level_29 : decode cX12_level 29 = .ok (.invokevirtual 286, 3) := by decide +kernel
theorem dX12_level_32 : decode cX12_level 32 = .ok (.goto 6, 3) := by decide +kernel
theorem dX12_level_35 : decode cX12_level 35 = .ok (.ldc_w 289, 3) := by decide +kernel
theorem dX12_level_38 : decode cX12_level 38 = .ok (.ireturn, 1) := by decide +kernel
theorem dX12_fallOf_0 : decode cX12_fallOf 0 = .ok (.aload_n 0, 1) := by decide +kernel
theorem dX12_fallOf_1 : decode cX12_fallOf 1 = .ok (.iconst 0, 1) := by decide +kernel
theorem dX12_fallOf_2 : decode cX12_fallOf 2 = .ok (.iload_n 1, 1) := by decide +kernel
theorem dX12_fallOf_3 : decode cX12_fallOf 3 = .ok (.aload_n 0, 1) := by decide +kernel
theorem dX12_fallOf_4 : decode cX12_fallOf 4 = .ok (.getfield 55, 3) := by decide +kernel
theorem dX12_fallOf_7 : decode cX12_fallOf 7 = .ok (.iload_n 1, 1) := by decide +kernel
theorem dX12_fallOf_8 : decode cX12_fallOf 8 = .ok (.bipush 60, 2) := by decide +kernel
theorem dX12_fallOf_10 : decode cX12_fallOf 10 = .ok (.idiv, 1) := by decide +kernel
theorem dX12_fallOf_11 : decode cX12_fallOf 11 = .ok (.iaload, 1) := by decide +kernel
theorem dX12_fallOf_12 : decode cX12_fallOf 12 = .ok (.iload_n 2, 1) := by decide +kernel
theorem dX12_fallOf_13 : decode cX12_fallOf 13 = .ok (.invokevirtual 286, 3) := by decide +kernel
theorem dX12_fallOf_16 : decode cX12_fallOf 16 = .ok (.aload_n 0, 1) := by decide +kernel
theorem dX12_fallOf_17 : decode cX12_fallOf 17 = .ok (.iconst 1, 1) := by decide +kernel
theorem dX12_fallOf_18 : decode cX12_fallOf 18 = .ok (.iload_n 1, 1) := by decide +kernel
theorem dX12_fallOf_19 : decode cX12_fallOf 19 = .ok (.aload_n 0, 1) := by decide +kernel
theorem dX12_fallOf_20 : decode cX12_fallOf 20 = .ok (.getfield 55, 3) := by decide +kernel
theorem dX12_fallOf_23 : decode cX12_fallOf 23 = .ok (.iload_n 1, 1) := by decide +kernel
theorem dX12_fallOf_24 : decode cX12_fallOf 24 = .ok (.bipush 60, 2) := by decide +kernel
theorem dX12_fallOf_26 : decode cX12_fallOf 26 = .ok (.idiv, 1) := by decide +kernel
theorem dX12_fallOf_27 : decode cX12_fallOf 27 = .ok (.iaload, 1) := by decide +kernel
theorem dX12_fallOf_28 : decode cX12_fallOf 28 = .ok (.iload_n 2, 1) := by decide +kernel
theorem dX12_fallOf_29 : decode cX12_fallOf 29 = .ok (.invokevirtual 286, 3) := by decide +kernel
theorem dX12_fallOf_32 : decode cX12_fallOf 32 = .ok (.isub, 1) := by decide +kernel
theorem dX12_fallOf_33 : decode cX12_fallOf 33 = .ok (.ireturn, 1) := by decide +kernel
theorem dX12_gain_0 : decode cX12_gain 0 = .ok (.aload_n 0, 1) := by decide +kernel
theorem dX12_gain_1 : decode cX12_gain 1 = .ok (.iload_n 2, 1) := by decide +kernel
theorem dX12_gain_2 : decode cX12_gain 2 = .ok (.iload_n 3, 1) := by decide +kernel
theorem dX12_gain_3 : decode cX12_gain 3 = .ok (.invokevirtual 290, 3) := by decide +kernel
theorem dX12_gain_6 : decode cX12_gain 6 = .ok (.istore 5, 2) := by decide +kernel
theorem dX12_gain_8 : decode cX12_gain 8 = .ok (.aload_n 0, 1) := by decide +kernel
theorem dX12_gain_9 : decode cX12_gain 9 = .ok (.iload 5, 2) := by decide +kernel
theorem dX12_gain_11 : decode cX12_gain 11 = .ok (.iload_n 1, 1) := by decide +kernel
theorem dX12_gain_12 : decode cX12_gain 12 = .ok (.iload_n 2, 1) := by decide +kernel
theorem dX12_gain_13 : decode cX12_gain 13 = .ok (.aload_n 0, 1) := by decide +kernel
theorem dX12_gain_14 : decode cX12_gain 14 = .ok (.getfield 55, 3) := by decide +kernel
theorem dX12_gain_17 : decode cX12_gain 17 = .ok (.iload_n 2, 1) := by decide +kernel
theorem dX12_gain_18 : decode cX12_gain 18 = .ok (.bipush 60, 2) := by decide +kernel
theorem dX12_gain_20 : decode cX12_gain 20 = .ok (.idiv, 1) := by decide +kernel
theorem dX12_gain_21 : decode cX12_gain 21 = .ok (.iaload, 1) := by decide +kernel
theorem dX12_gain_22 : decode cX12_gain 22 = .ok (.iload_n 3, 1) := by decide +kernel
theorem dX12_gain_23 : decode cX12_gain 23 = .ok (.iconst 0, 1) := by decide +kernel
theorem dX12_gain_24 : decode cX12_gain 24 = .ok (.iload 4, 2) := by decide +kernel
theorem dX12_gain_26 : decode cX12_gain 26 = .ok (.invokevirtual 293, 3) := by decide +kernel
theorem dX12_gain_29 : decode cX12_gain 29 = .ok (.aload_n 0, 1) := by decide +kernel
theorem dX12_gain_30 : decode cX12_gain 30 = .ok (.iconst 1, 1) := by decide +kernel
theorem dX12_gain_31 : decode cX12_gain 31 = .ok (.invokevirtual 297, 3) := by decide +kernel
theorem dX12_gain_34 : decode cX12_gain 34 = .ok (.aload_n 0, 1) := by decide +kernel
theorem dX12_gain_35 : decode cX12_gain 35 = .ok (.getfield 266, 3) := by decide +kernel
theorem dX12_gain_38 : decode cX12_gain 38 = .ok (.ifCond .eq 17, 3) := by decide +kernel
theorem dX12_gain_41 : decode cX12_gain 41 = .ok (.aload_n 0, 1) := by decide +kernel
theorem dX12_gain_42 : decode cX12_gain 42 = .ok (.getfield 262, 3) := by decide +kernel
theorem dX12_gain_45 : decode cX12_gain 45 = .ok (.sipush (-500), 3) := by decide +kernel
theorem dX12_gain_48 : decode cX12_gain 48 = .ok (.sipush 500, 3) := by decide +kernel
theorem dX12_gain_51 : decode cX12_gain 51 = .ok (.invokestatic 300, 3) := by decide +kernel
theorem dX12_gain_54 : decode cX12_gain 54 = .ok (.ireturn, 1) := by decide +kernel
theorem dX12_gain_55 : decode cX12_gain 55 = .ok (.iload_n 1, 1) := by decide +kernel
theorem dX12_gain_56 : decode cX12_gain 56 = .ok (.i2l, 1) := by decide +kernel
theorem dX12_gain_57 : decode cX12_gain 57 = .ok (.iload_n 1, 1) := by decide +kernel
theorem dX12_gain_58 : decode cX12_gain 58 = .ok (.invokestatic 304, 3) := by decide +kernel
theorem dX12_gain_61 : decode cX12_gain 61 = .ok (.i2l, 1) := by decide +kernel
theorem dX12_gain_62 : decode cX12_gain 62 = .ok (.lmul, 1) := by decide +kernel
theorem dX12_gain_63 : decode cX12_gain 63 = .ok (.aload_n 0, 1) := by decide +kernel
theorem dX12_gain_64 : decode cX12_gain 64 = .ok (.iconst 1, 1) := by decide +kernel
theorem dX12_gain_65 : decode cX12_gain 65 = .ok (.invokevirtual 283, 3) := by decide +kernel
theorem dX12_gain_68 : decode cX12_gain 68 = .ok (.aload_n 0, 1) := by decide +kernel
theorem dX12_gain_69 : decode cX12_gain 69 = .ok (.bipush 7, 2) := by decide +kernel
theorem dX12_gain_71 : decode cX12_gain 71 = .ok (.invokevirtual 283, 3) := by decide +kernel
theorem dX12_gain_74 : decode cX12_gain 74 = .ok (.iload 4, 2) := by decide +kernel
theorem dX12_gain_76 : decode cX12_gain 76 = .ok (.imul, 1) := by decide +kernel
theorem dX12_gain_77 : decode cX12_gain 77 = .ok (.iadd, 1) := by decide +kernel
theorem dX12_gain_78 : decode cX12_gain 78 = .ok (.i2l, 1) := by decide +kernel
theorem dX12_gain_79 : decode cX12_gain 79 = .ok (.lmul, 1) := by decide +kernel
theorem dX12_gain_80 : decode cX12_gain 80 = .ok (.ldc2_w 307, 3) := by decide +kernel
theorem dX12_gain_83 : decode cX12_gain 83 = .ok (.ldiv, 1) := by decide +kernel
theorem dX12_gain_84 : decode cX12_gain 84 = .ok (.lstore 6, 2) := by decide +kernel
theorem dX12_gain_86 : decode cX12_gain 86 = .ok (.iload 5, 2) := by decide +kernel
theorem dX12_gain_88 : decode cX12_gain 88 = .ok (.i2l, 1) := by decide +kernel
theorem dX12_gain_89 : decode cX12_gain 89 = .ok (.aload_n 0, 1) := by decide +kernel
theorem dX12_gain_90 : decode cX12_gain 90 = .ok (.iconst 0, 1) := by decide +kernel
theorem dX12_gain_91 : decode cX12_gain 91 = .ok (.invokevirtual 283, 3) := by decide +kernel
theorem dX12_gain_94 : decode cX12_gain 94 = .ok (.i2l, 1) := by decide +kernel
theorem dX12_gain_95 : decode cX12_gain 95 = .ok (.lmul, 1) := by decide +kernel
theorem dX12_gain_96 : decode cX12_gain 96 = .ok (.lload 6, 2) := by decide +kernel
theorem dX12_gain_98 : decode cX12_gain 98 = .ok (.lsub, 1) := by decide +kernel
theorem dX12_gain_99 : decode cX12_gain 99 = .ok (.aload_n 0, 1) := by decide +kernel
theorem dX12_gain_100 : decode cX12_gain 100 = .ok (.iconst 2, 1) := by decide +kernel
theorem dX12_gain_101 : decode cX12_gain 101 = .ok (.invokevirtual 283, 3) := by decide +kernel
theorem dX12_gain_104 : decode cX12_gain 104 = .ok (.i2l, 1) := by decide +kernel
theorem dX12_gain_105 : decode cX12_gain 105 = .ok (.ldiv, 1) := by decide +kernel
theorem dX12_gain_106 : decode cX12_gain 106 = .ok (.l2i, 1) := by decide +kernel
theorem dX12_gain_107 : decode cX12_gain 107 = .ok (.ireturn, 1) := by decide +kernel
theorem dX12_flows_0 : decode cX12_flows 0 = .ok (.aload_n 1, 1) := by decide +kernel
theorem dX12_flows_1 : decode cX12_flows 1 = .ok (.iconst 0, 1) := by decide +kernel
theorem dX12_flows_2 : decode cX12_flows 2 = .ok (.aload_n 0, 1) := by decide +kernel
theorem dX12_flows_3 : decode cX12_flows 3 = .ok (.iconst 4, 1) := by decide +kernel
theorem dX12_flows_4 : decode cX12_flows 4 = .ok (.invokevirtual 283, 3) := by decide +kernel
theorem dX12_flows_7 : decode cX12_flows 7 = .ok (.iastore, 1) := by decide +kernel
theorem dX12_flows_8 : decode cX12_flows 8 = .ok (.iconst 1, 1) := by decide +kernel
theorem dX12_flows_9 : decode cX12_flows 9 = .ok (.istore 4, 2) := by decide +kernel
theorem dX12_flows_11 : decode cX12_flows 11 = .ok (.iload 4, 2) := by decide +kernel
theorem dX12_flows_13 : decode cX12_flows 13 = .ok (.sipush 1440, 3) := by decide +kernel
theorem dX12_flows_16 : decode cX12_flows 16 = .ok (.if_icmp .ge 47, 3) := by decide +kernel
theorem dX12_flows_19 : decode cX12_flows 19 = .ok (.aload_n 1, 1) := by decide +kernel
theorem dX12_flows_20 : decode cX12_flows 20 = .ok (.iload 4, 2) := by decide +kernel
theorem dX12_flows_22 : decode cX12_flows 22 = .ok (.aload_n 1, 1) := by decide +kernel
theorem dX12_flows_23 : decode cX12_flows 23 = .ok (.iload 4, 2) := by decide +kernel
theorem dX12_flows_25 : decode cX12_flows 25 = .ok (.iconst 1, 1) := by decide +kernel
theorem dX12_flows_26 : decode cX12_flows 26 = .ok (.isub, 1) := by decide +kernel
theorem dX12_flows_27 : decode cX12_flows 27 = .ok (.iaload, 1) := by decide +kernel
theorem dX12_flows_28 : decode cX12_flows 28 = .ok (.i2l, 1) := by decide +kernel
theorem dX12_flows_29 : decode cX12_flows 29 = .ok (.aload_n 0, 1) := by decide +kernel
theorem dX12_flows_30 : decode cX12_flows 30 = .ok (.aload_n 1, 1) := by decide +kernel
theorem dX12_flows_31 : decode cX12_flows 31 = .ok (.iload 4, 2) := by decide +kernel
theorem dX12_flows_33 : decode cX12_flows 33 = .ok (.iconst 1, 1) := by decide +kernel
theorem dX12_flows_34 : decode cX12_flows 34 = .ok (.isub, 1) := by decide +kernel
theorem dX12_flows_35 : decode cX12_flows 35 = .ok (.iaload, 1) := by decide +kernel
theorem dX12_flows_36 : decode cX12_flows 36 = .ok (.iload 4, 2) := by decide +kernel
theorem dX12_flows_38 : decode cX12_flows 38 = .ok (.iconst 1, 1) := by decide +kernel
theorem dX12_flows_39 : decode cX12_flows 39 = .ok (.isub, 1) := by decide +kernel
theorem dX12_flows_40 : decode cX12_flows 40 = .ok (.iload_n 2, 1) := by decide +kernel
theorem dX12_flows_41 : decode cX12_flows 41 = .ok (.iload_n 3, 1) := by decide +kernel
theorem dX12_flows_42 : decode cX12_flows 42 = .ok (.invokevirtual 309, 3) := by decide +kernel
theorem dX12_flows_45 : decode cX12_flows 45 = .ok (.i2l, 1) := by decide +kernel
theorem dX12_flows_46 : decode cX12_flows 46 = .ok (.ladd, 1) := by decide +kernel
theorem dX12_flows_47 : decode cX12_flows 47 = .ok (.sipush (-2000), 3) := by decide +kernel
theorem dX12_flows_50 : decode cX12_flows 50 = .ok (.sipush 2000, 3) := by decide +kernel
theorem dX12_flows_53 : decode cX12_flows 53 = .ok (.invokestatic 300, 3) := by decide +kernel
theorem dX12_flows_56 : decode cX12_flows 56 = .ok (.iastore, 1) := by decide +kernel
theorem dX12_flows_57 : decode cX12_flows 57 = .ok (.iinc 4 1, 3) := by decide +kernel
theorem dX12_flows_60 : decode cX12_flows 60 = .ok (.goto (-49), 3) := by decide +kernel
theorem dX12_flows_63 : decode cX12_flows 63 = .ok (.return_, 1) := by decide +kernel
theorem dX12_winds_0 : decode cX12_winds 0 = .ok (.iconst 0, 1) := by decide +kernel
theorem dX12_winds_1 : decode cX12_winds 1 = .ok (.istore_n 2, 1) := by decide +kernel
theorem dX12_winds_2 : decode cX12_winds 2 = .ok (.iload_n 2, 1) := by decide +kernel
theorem dX12_winds_3 : decode cX12_winds 3 = .ok (.bipush 24, 2) := by decide +kernel
theorem dX12_winds_5 : decode cX12_winds 5 = .ok (.if_icmp .ge 16, 3) := by decide +kernel
theorem dX12_winds_8 : decode cX12_winds 8 = .ok (.aload_n 0, 1) := by decide +kernel
theorem dX12_winds_9 : decode cX12_winds 9 = .ok (.getfield 55, 3) := by decide +kernel
theorem dX12_winds_12 : decode cX12_winds 12 = .ok (.iload_n 2, 1) := by decide +kernel
theorem dX12_winds_13 : decode cX12_winds 13 = .ok (.iload_n 1, 1) := by decide +kernel
theorem dX12_winds_14 : decode cX12_winds 14 = .ok (.iastore, 1) := by decide +kernel
theorem dX12_winds_15 : decode cX12_winds 15 = .ok (.iinc 2 1, 3) := by decide +kernel
theorem dX12_winds_18 : decode cX12_winds 18 = .ok (.goto (-16), 3) := by decide +kernel
theorem dX12_winds_21 : decode cX12_winds 21 = .ok (.return_, 1) := by decide +kernel
theorem dX12_looks_0 : decode cX12_looks 0 = .ok (.aload_n 0, 1) := by decide +kernel
theorem dX12_looks_1 : decode cX12_looks 1 = .ok (.getfield 64, 3) := by decide +kernel
theorem dX12_looks_4 : decode cX12_looks 4 = .ok (.aload_n 0, 1) := by decide +kernel
theorem dX12_looks_5 : decode cX12_looks 5 = .ok (.getfield 11, 3) := by decide +kernel
theorem dX12_looks_8 : decode cX12_looks 8 = .ok (.if_icmp .ne 4, 3) := by decide +kernel
theorem dX12_looks_11 : decode cX12_looks 11 = .ok (.return_, 1) := by decide +kernel
theorem dX12_looks_12 : decode cX12_looks 12 = .ok (.aload_n 0, 1) := by decide +kernel
theorem dX12_looks_13 : decode cX12_looks 13 = .ok (.aload_n 0, 1) := by decide +kernel
theorem dX12_looks_14 : decode cX12_looks 14 = .ok (.getfield 11, 3) := by decide +kernel
theorem dX12_looks_17 : decode cX12_looks 17 = .ok (.putfield 64, 3) := by decide +kernel
theorem dX12_looks_20 : decode cX12_looks 20 = .ok (.aload_n 0, 1) := by decide +kernel
theorem dX12_looks_21 : decode cX12_looks 21 = .ok (.aload_n 0, 1) := by decide +kernel
theorem dX12_looks_22 : decode cX12_looks 22 = .ok (.bipush 9, 2) := by decide +kernel
theorem dX12_looks_24 : decode cX12_looks 24 = .ok (.invokevirtual 283, 3) := by decide +kernel
theorem dX12_looks_27 : decode cX12_looks 27 = .ok (.invokevirtual 312, 3) := by decide +kernel
theorem dX12_looks_30 : decode cX12_looks 30 = .ok (.aload_n 0, 1) := by decide +kernel
theorem dX12_looks_31 : decode cX12_looks 31 = .ok (.aload_n 0, 1) := by decide +kernel
theorem dX12_looks_32 : decode cX12_looks 32 = .ok (.getfield 58, 3) := by decide +kernel
theorem dX12_looks_35 : decode cX12_looks 35 = .ok (.aload_n 0, 1) := by decide +kernel
theorem dX12_looks_36 : decode cX12_looks 36 = .ok (.bipush 10, 2) := by decide +kernel
theorem dX12_looks_38 : decode cX12_looks 38 = .ok (.invokevirtual 283, 3) := by decide +kernel
theorem dX12_looks_41 : decode cX12_looks 41 = .ok (.iconst 0, 1) := by decide +kernel
theorem dX12_looks_42 : decode cX12_looks 42 = .ok (.invokevirtual 314, 3) := by decide +kernel
theorem dX12_looks_45 : decode cX12_looks 45 = .ok (.aload_n 0, 1) := by decide +kernel
theorem dX12_looks_46 : decode cX12_looks 46 = .ok (.invokevirtual 318, 3) := by decide +kernel
theorem dX12_looks_49 : decode cX12_looks 49 = .ok (.return_, 1) := by decide +kernel
theorem dX12_flow_0 : decode cX12_flow 0 = .ok (.iload_n 1, 1) := by decide +kernel
theorem dX12_flow_1 : decode cX12_flow 1 = .ok (.invokestatic 280, 3) := by decide +kernel
theorem dX12_flow_4 : decode cX12_flow 4 = .ok (.ifCond .ne 7, 3) := by decide +kernel
theorem dX12_flow_7 : decode cX12_flow 7 = .ok (.ldc_w 289, 3) := by decide +kernel
theorem dX12_flow_10 : decode cX12_flow 10 = .ok (.ireturn, 1) := by decide +kernel
theorem dX12_flow_11 : decode cX12_flow 11 = .ok (.aload_n 0, 1) := by decide +kernel
theorem dX12_flow_12 : decode cX12_flow 12 = .ok (.invokevirtual 321, 3) := by decide +kernel
theorem dX12_flow_15 : decode cX12_flow 15 = .ok (.aload_n 0, 1) := by decide +kernel
theorem dX12_flow_16 : decode cX12_flow 16 = .ok (.getfield 58, 3) := by decide +kernel
theorem dX12_flow_19 : decode cX12_flow 19 = .ok (.iload_n 1, 1) := by decide +kernel
theorem dX12_flow_20 : decode cX12_flow 20 = .ok (.iaload, 1) := by decide +kernel
theorem dX12_flow_21 : decode cX12_flow 21 = .ok (.ireturn, 1) := by decide +kernel
theorem dX12_slackAt_0 : decode cX12_slackAt 0 = .ok (.iconst 0, 1) := by decide +kernel
theorem dX12_slackAt_1 : decode cX12_slackAt 1 = .ok (.istore_n 3, 1) := by decide +kernel
theorem dX12_slackAt_2 : decode cX12_slackAt 2 = .ok (.iconst 0, 1) := by decide +kernel
theorem dX12_slackAt_3 : decode cX12_slackAt 3 = .ok (.istore 4, 2) := by decide +kernel
theorem dX12_slackAt_5 : decode cX12_slackAt 5 = .ok (.iload 4, 2) := by decide +kernel
theorem dX12_slackAt_7 : decode cX12_slackAt 7 = .ok (.sipush 1440, 3) := by decide +kernel
theorem dX12_slackAt_10 : decode cX12_slackAt 10 = .ok (.if_icmp .ge 79, 3) := by decide +kernel
theorem dX12_slackAt_13 : decode cX12_slackAt 13 = .ok (.aload_n 1, 1) := by decide +kernel
theorem dX12_slackAt_14 : decode cX12_slackAt 14 = .ok (.iload 4, 2) := by decide +kernel
theorem dX12_slackAt_16 : decode cX12_slackAt 16 = .ok (.iaload, 1) := by decide +kernel
theorem dX12_slackAt_17 : decode cX12_slackAt 17 = .ok (.invokestatic 304, 3) := by decide +kernel
theorem dX12_slackAt_20 : decode cX12_slackAt 20 = .ok (.aload_n 0, 1) := by decide +kernel
theorem dX12_slackAt_21 : decode cX12_slackAt 21 = .ok (.iconst 3, 1) := by decide +kernel
theorem dX12_slackAt_22 : decode cX12_slackAt 22 = .ok (.invokevirtual 283, 3) := by decide +kernel
theorem dX12_slackAt_25 : decode cX12_slackAt 25 = .ok (.if_icmp .gt 29, 3) := by decide +kernel
theorem dX12_slackAt_28 : decode cX12_slackAt 28 = .ok (.iload 4, 2) := by decide +kernel
theorem dX12_slackAt_30 : decode cX12_slackAt 30 = .ok (.ifCond .eq 20, 3) := by decide +kernel
theorem dX12_slackAt_33 : decode cX12_slackAt 33 = .ok (.aload_n 1, 1) := by decide +kernel
theorem dX12_slackAt_34 : decode cX12_slackAt 34 = .ok (.iload 4, 2) := by decide +kernel
theorem dX12_slackAt_36 : decode cX12_slackAt 36 = .ok (.iconst 1, 1) := by decide +kernel
theorem dX12_slackAt_37 : decode cX12_slackAt 37 = .ok (.isub, 1) := by decide +kernel
theorem dX12_slackAt_38 : decode cX12_slackAt 38 = .ok (.iaload, 1) := by decide +kernel
theorem dX12_slackAt_39 : decode cX12_slackAt 39 = .ok (.invokestatic 304, 3) := by decide +kernel
theorem dX12_slackAt_42 : decode cX12_slackAt 42 = .ok (.aload_n 0, 1) := by decide +kernel
theorem dX12_slackAt_43 : decode cX12_slackAt 43 = .ok (.iconst 3, 1) := by decide +kernel
theorem dX12_slackAt_44 : decode cX12_slackAt 44 = .ok (.invokevirtual 283, 3) := by decide +kernel
theorem dX12_slackAt_47 : decode cX12_slackAt 47 = .ok (.if_icmp .le 7, 3) := by decide +kernel
theorem dX12_slackAt_50 : decode cX12_slackAt 50 = .ok (.iconst 1, 1) := by decide +kernel
theorem dX12_slackAt_51 : decode cX12_slackAt 51 = .ok (.goto 4, 3) := by decide +kernel
theorem dX12_slackAt_54 : decode cX12_slackAt 54 = .ok (.iconst 0, 1) := by decide +kernel
theorem dX12_slackAt_55 : decode cX12_slackAt 55 = .ok (.istore 5, 2) := by decide +kernel
theorem dX12_slackAt_57 : decode cX12_slackAt 57 = .ok (.iload 5, 2) := by decide +kernel
theorem dX12_slackAt_59 : decode cX12_slackAt 59 = .ok (.ifCond .eq 11, 3) := by decide +kernel
theorem dX12_slackAt_62 : decode cX12_slackAt 62 = .ok (.iload_n 3, 1) := by decide +kernel
theorem dX12_slackAt_63 : decode cX12_slackAt 63 = .ok (.iload_n 2, 1) := by decide +kernel
theorem dX12_slackAt_64 : decode cX12_slackAt 64 = .ok (.if_icmp .ne 6, 3) := by decide +kernel
theorem dX12_slackAt_67 : decode cX12_slackAt 67 = .ok (.iload 4, 2) := by decide +kernel
theorem dX12_slackAt_69 : decode cX12_slackAt 69 = .ok (.ireturn, 1) := by decide +kernel
theorem dX12_slackAt_70 : decode cX12_slackAt 70 = .ok (.iload_n 3, 1) := by decide +kernel
theorem dX12_slackAt_71 : decode cX12_slackAt 71 = .ok (.iload 5, 2) := by decide +kernel
theorem dX12_slackAt_73 : decode cX12_slackAt 73 = .ok (.ifCond .eq 7, 3) := by decide +kernel
theorem dX12_slackAt_76 : decode cX12_slackAt 76 = .ok (.iconst 1, 1) := by decide +kernel
theorem dX12_slackAt_77 : decode cX12_slackAt 77 = .ok (.goto 4, 3) := by decide +kernel
theorem dX12_slackAt_80 : decode cX12_slackAt 80 = .ok (.iconst 0, 1) := by decide +kernel
theorem dX12_slackAt_81 : decode cX12_slackAt 81 = .ok (.iadd, 1) := by decide +kernel
theorem dX12_slackAt_82 : decode cX12_slackAt 82 = .ok (.istore_n 3, 1) := by decide +kernel
theorem dX12_slackAt_83 : decode cX12_slackAt 83 = .ok (.iinc 4 1, 3) := by decide +kernel
theorem dX12_slackAt_86 : decode cX12_slackAt 86 = .ok (.goto (-81), 3) := by decide +kernel
theorem dX12_slackAt_89 : decode cX12_slackAt 89 = .ok (.iconst (-1), 1) := by decide +kernel
theorem dX12_slackAt_90 : decode cX12_slackAt 90 = .ok (.iload_n 3, 1) := by decide +kernel
theorem dX12_slackAt_91 : decode cX12_slackAt 91 = .ok (.isub, 1) := by decide +kernel
theorem dX12_slackAt_92 : decode cX12_slackAt 92 = .ok (.ireturn, 1) := by decide +kernel
theorem dX12_slack_0 : decode cX12_slack 0 = .ok (.aload_n 0, 1) := by decide +kernel
theorem dX12_slack_1 : decode cX12_slack 1 = .ok (.invokevirtual 321, 3) := by decide +kernel
theorem dX12_slack_4 : decode cX12_slack 4 = .ok (.iload_n 1, 1) := by decide +kernel
theorem dX12_slack_5 : decode cX12_slack 5 = .ok (.iconst (-1), 1) := by decide +kernel
theorem dX12_slack_6 : decode cX12_slack 6 = .ok (.if_icmp .ne 30, 3) := by decide +kernel
theorem dX12_slack_9 : decode cX12_slack 9 = .ok (.iload_n 2, 1) := by decide +kernel
theorem dX12_slack_10 : decode cX12_slack 10 = .ok (.iconst 0, 1) := by decide +kernel
theorem dX12_slack_11 : decode cX12_slack 11 = .ok (.iconst 3, 1) := by decide +kernel
theorem dX12_slack_12 : decode cX12_slack 12 = .ok (.invokestatic 113, 3) := by decide +kernel
theorem dX12_slack_15 : decode cX12_slack 15 = .ok (.ifCond .eq 17, 3) := by decide +kernel
theorem dX12_slack_18 : decode cX12_slack 18 = .ok (.iconst (-1), 1) := by decide +kernel
theorem dX12_slack_19 : decode cX12_slack 19 = .ok (.aload_n 0, 1) := by decide +kernel
theorem dX12_slack_20 : decode cX12_slack 20 = .ok (.aload_n 0, 1) := by decide +kernel
theorem dX12_slack_21 : decode cX12_slack 21 = .ok (.getfield 58, 3) := by decide +kernel
theorem dX12_slack_24 : decode cX12_slack 24 = .ok (.iconst (-1), 1) := by decide +kernel
theorem dX12_slack_25 : decode cX12_slack 25 = .ok (.invokevirtual 324, 3) := by decide +kernel
theorem dX12_slack_28 : decode cX12_slack 28 = .ok (.isub, 1) := by decide +kernel
theorem dX12_slack_29 : decode cX12_slack 29 = .ok (.goto 6, 3) := by decide +kernel
theorem dX12_slack_32 : decode cX12_slack 32 = .ok (.ldc_w 289, 3) := by decide +kernel
theorem dX12_slack_35 : decode cX12_slack 35 = .ok (.ireturn, 1) := by decide +kernel
theorem dX12_slack_36 : decode cX12_slack 36 = .ok (.iload_n 1, 1) := by decide +kernel
theorem dX12_slack_37 : decode cX12_slack 37 = .ok (.ifCond .ge 7, 3) := by decide +kernel
theorem dX12_slack_40 : decode cX12_slack 40 = .ok (.iconst (-1), 1) := by decide +kernel
theorem dX12_slack_41 : decode cX12_slack 41 = .ok (.goto 12, 3) := by decide +kernel
theorem dX12_slack_44 : decode cX12_slack 44 = .ok (.aload_n 0, 1) := by decide +kernel
theorem dX12_slack_45 : decode cX12_slack 45 = .ok (.aload_n 0, 1) := by decide +kernel
theorem dX12_slack_46 : decode cX12_slack 46 = .ok (.getfield 58, 3) := by decide +kernel
theorem dX12_slack_49 : decode cX12_slack 49 = .ok (.iload_n 1, 1) := by decide +kernel
theorem dX12_slack_50 : decode cX12_slack 50 = .ok (.invokevirtual 324, 3) := by decide +kernel
theorem dX12_slack_53 : decode cX12_slack 53 = .ok (.istore_n 3, 1) := by decide +kernel
theorem dX12_slack_54 : decode cX12_slack 54 = .ok (.iload_n 3, 1) := by decide +kernel
theorem dX12_slack_55 : decode cX12_slack 55 = .ok (.ifCond .lt 12, 3) := by decide +kernel
theorem dX12_slack_58 : decode cX12_slack 58 = .ok (.iload_n 2, 1) := by decide +kernel
theorem dX12_slack_59 : decode cX12_slack 59 = .ok (.iconst 0, 1) := by decide +kernel
theorem dX12_slack_60 : decode cX12_slack 60 = .ok (.iconst 3, 1) := by decide +kernel
theorem dX12_slack_61 : decode cX12_slack 61 = .ok (.invokestatic 113, 3) := by decide +kernel
theorem dX12_slack_64 : decode cX12_slack 64 = .ok (.ifCond .ne 7, 3) := by decide +kernel
theorem dX12_slack_67 : decode cX12_slack 67 = .ok (.ldc_w 289, 3) := by decide +kernel
theorem dX12_slack_70 : decode cX12_slack 70 = .ok (.ireturn, 1) := by decide +kernel
theorem dX12_slack_71 : decode cX12_slack 71 = .ok (.iload_n 2, 1) := by decide +kernel
theorem dX12_slack_72 : decode cX12_slack 72 = .ok (.ifCond .ne 5, 3) := by decide +kernel
theorem dX12_slack_75 : decode cX12_slack 75 = .ok (.iload_n 3, 1) := by decide +kernel
theorem dX12_slack_76 : decode cX12_slack 76 = .ok (.ireturn, 1) := by decide +kernel
theorem dX12_slack_77 : decode cX12_slack 77 = .ok (.iload_n 2, 1) := by decide +kernel
theorem dX12_slack_78 : decode cX12_slack 78 = .ok (.iconst 2, 1) := by decide +kernel
theorem dX12_slack_79 : decode cX12_slack 79 = .ok (.if_icmp .ne 9, 3) := by decide +kernel
theorem dX12_slack_82 : decode cX12_slack 82 = .ok (.aload_n 0, 1) := by decide +kernel
theorem dX12_slack_83 : decode cX12_slack 83 = .ok (.iload_n 3, 1) := by decide +kernel
theorem dX12_slack_84 : decode cX12_slack 84 = .ok (.invokevirtual 328, 3) := by decide +kernel
theorem dX12_slack_87 : decode cX12_slack 87 = .ok (.ireturn, 1) := by decide +kernel
theorem dX12_slack_88 : decode cX12_slack 88 = .ok (.iload_n 3, 1) := by decide +kernel
theorem dX12_slack_89 : decode cX12_slack 89 = .ok (.istore 4, 2) := by decide +kernel
theorem dX12_slack_91 : decode cX12_slack 91 = .ok (.iload_n 2, 1) := by decide +kernel
theorem dX12_slack_92 : decode cX12_slack 92 = .ok (.iconst 1, 1) := by decide +kernel
theorem dX12_slack_93 : decode cX12_slack 93 = .ok (.if_icmp .ne 40, 3) := by decide +kernel
theorem dX12_slack_96 : decode cX12_slack 96 = .ok (.iload 4, 2) := by decide +kernel
theorem dX12_slack_98 : decode cX12_slack 98 = .ok (.sipush 1440, 3) := by decide +kernel
theorem dX12_slack_101 : decode cX12_slack 101 = .ok (.if_icmp .ge 27, 3) := by decide +kernel
theorem dX12_slack_104 : decode cX12_slack 104 = .ok (.aload_n 0, 1) := by decide +kernel
theorem dX12_slack_105 : decode cX12_slack 105 = .ok (.getfield 58, 3) := by decide +kernel
theorem dX12_slack_108 : decode cX12_slack 108 = .ok (.iload 4, 2) := by decide +kernel
theorem dX12_slack_110 : decode cX12_slack 110 = .ok (.iaload, 1) := by decide +kernel
theorem dX12_slack_111 : decode cX12_slack 111 = .ok (.invokestatic 304, 3) := by decide +kernel
theorem dX12_slack_114 : decode cX12_slack 114 = .ok (.aload_n 0, 1) := by decide +kernel
theorem dX12_slack_115 : decode cX12_slack 115 = .ok (.iconst 3, 1) := by decide +kernel
theorem dX12_slack_116 : decode cX12_slack 116 = .ok (.invokevirtual 283, 3) := by decide +kernel
theorem dX12_slack_119 : decode cX12_slack 119 = .ok (.if_icmp .gt 9, 3) := by decide +kernel
theorem dX12_slack_122 : decode cX12_slack 122 = .ok (.iinc 4 1, 3) := by decide +kernel
theorem dX12_slack_125 : decode cX12_slack 125 = .ok (.goto (-29), 3) := by decide +kernel
theorem dX12_slack_128 : decode cX12_slack 128 = .ok (.iload 4, 2) := by decide +kernel
theorem dX12_slack_130 : decode cX12_slack 130 = .ok (.iload_n 3, 1) := by decide +kernel
theorem dX12_slack_131 : decode cX12_slack 131 = .ok (.isub, 1) := by decide +kernel
theorem dX12_slack_132 : decode cX12_slack 132 = .ok (.ireturn, 1) := by decide +kernel
theorem dX12_slack_133 : decode cX12_slack 133 = .ok (.iload_n 3, 1) := by decide +kernel
theorem dX12_slack_134 : decode cX12_slack 134 = .ok (.istore 5, 2) := by decide +kernel
theorem dX12_slack_136 : decode cX12_slack 136 = .ok (.iload_n 3, 1) := by decide +kernel
theorem dX12_slack_137 : decode cX12_slack 137 = .ok (.iconst 1, 1) := by decide +kernel
theorem dX12_slack_138 : decode cX12_slack 138 = .ok (.isub, 1) := by decide +kernel
theorem dX12_slack_139 : decode cX12_slack 139 = .ok (.istore 6, 2) := by decide +kernel
theorem dX12_slack_141 : decode cX12_slack 141 = .ok (.iload 6, 2) := by decide +kernel
theorem dX12_slack_143 : decode cX12_slack 143 = .ok (.ifCond .lt 40, 3) := by decide +kernel
theorem dX12_slack_146 : decode cX12_slack 146 = .ok (.iload 6, 2) := by decide +kernel
theorem dX12_slack_148 : decode cX12_slack 148 = .ok (.iload_n 3, 1) := by decide +kernel
theorem dX12_slack_149 : decode cX12_slack 149 = .ok (.sipush 720, 3) := by decide +kernel
theorem dX12_slack_152 : decode cX12_slack 152 = .ok (.isub, 1) := by decide +kernel
theorem dX12_slack_153 : decode cX12_slack 153 = .ok (.if_icmp .lt 30, 3) := by decide +kernel
theorem dX12_slack_156 : decode cX12_slack 156 = .ok (.aload_n 0, 1) := by decide +kernel
theorem dX12_slack_157 : decode cX12_slack 157 = .ok (.iconst 0, 1) := by decide +kernel
theorem dX12_slack_158 : decode cX12_slack 158 = .ok (.iload 6, 2) := by decide +kernel
theorem dX12_slack_160 : decode cX12_slack 160 = .ok (.invokevirtual 331, 3) := by decide +kernel
theorem dX12_slack_163 : decode cX12_slack 163 = .ok (.aload_n 0, 1) := by decide +kernel
theorem dX12_slack_164 : decode cX12_slack 164 = .ok (.iconst 0, 1) := by decide +kernel
theorem dX12_slack_165 : decode cX12_slack 165 = .ok (.iload 5, 2) := by decide +kernel
theorem dX12_slack_167 : decode cX12_slack 167 = .ok (.invokevirtual 331, 3) := by decide +kernel
theorem dX12_slack_170 : decode cX12_slack 170 = .ok (.if_icmp .le 7, 3) := by decide +kernel
theorem dX12_slack_173 : decode cX12_slack 173 = .ok (.iload 6, 2) := by decide +kernel
theorem dX12_slack_175 : decode cX12_slack 175 = .ok (.istore 5, 2) := by decide +kernel
theorem dX12_slack_177 : decode cX12_slack 177 = .ok (.iinc 6 (-1), 3) := by decide +kernel
theorem dX12_slack_180 : decode cX12_slack 180 = .ok (.goto (-39), 3) := by decide +kernel
theorem dX12_slack_183 : decode cX12_slack 183 = .ok (.iload_n 3, 1) := by decide +kernel
theorem dX12_slack_184 : decode cX12_slack 184 = .ok (.iload 5, 2) := by decide +kernel
theorem dX12_slack_186 : decode cX12_slack 186 = .ok (.isub, 1) := by decide +kernel
theorem dX12_slack_187 : decode cX12_slack 187 = .ok (.ireturn, 1) := by decide +kernel
theorem dX12_fallOf0_0 : decode cX12_fallOf0 0 = .ok (.aload_n 0, 1) := by decide +kernel
theorem dX12_fallOf0_1 : decode cX12_fallOf0 1 = .ok (.iconst 0, 1) := by decide +kernel
theorem dX12_fallOf0_2 : decode cX12_fallOf0 2 = .ok (.iload_n 1, 1) := by decide +kernel
theorem dX12_fallOf0_3 : decode cX12_fallOf0 3 = .ok (.invokevirtual 331, 3) := by decide +kernel
theorem dX12_fallOf0_6 : decode cX12_fallOf0 6 = .ok (.aload_n 0, 1) := by decide +kernel
theorem dX12_fallOf0_7 : decode cX12_fallOf0 7 = .ok (.iconst 1, 1) := by decide +kernel
theorem dX12_fallOf0_8 : decode cX12_fallOf0 8 = .ok (.iload_n 1, 1) := by decide +kernel
theorem dX12_fallOf0_9 : decode cX12_fallOf0 9 = .ok (.invokevirtual 331, 3) := by decide +kernel
theorem dX12_fallOf0_12 : decode cX12_fallOf0 12 = .ok (.isub, 1) := by decide +kernel
theorem dX12_fallOf0_13 : decode cX12_fallOf0 13 = .ok (.ireturn, 1) := by decide +kernel
theorem dX12_late_0 : decode cX12_late 0 = .ok (.iload_n 1, 1) := by decide +kernel
theorem dX12_late_1 : decode cX12_late 1 = .ok (.ifCond .ge 7, 3) := by decide +kernel
theorem dX12_late_4 : decode cX12_late 4 = .ok (.ldc_w 289, 3) := by decide +kernel
theorem dX12_late_7 : decode cX12_late 7 = .ok (.ireturn, 1) := by decide +kernel
theorem dX12_late_8 : decode cX12_late 8 = .ok (.aload_n 0, 1) := by decide +kernel
theorem dX12_late_9 : decode cX12_late 9 = .ok (.invokevirtual 321, 3) := by decide +kernel
theorem dX12_late_12 : decode cX12_late 12 = .ok (.aload_n 0, 1) := by decide +kernel
theorem dX12_late_13 : decode cX12_late 13 = .ok (.iconst 0, 1) := by decide +kernel
theorem dX12_late_14 : decode cX12_late 14 = .ok (.invokevirtual 312, 3) := by decide +kernel
theorem dX12_late_17 : decode cX12_late 17 = .ok (.aload_n 0, 1) := by decide +kernel
theorem dX12_late_18 : decode cX12_late 18 = .ok (.aload_n 0, 1) := by decide +kernel
theorem dX12_late_19 : decode cX12_late 19 = .ok (.getfield 61, 3) := by decide +kernel
theorem dX12_late_22 : decode cX12_late 22 = .ok (.sipush 1013, 3) := by decide +kernel
theorem dX12_late_25 : decode cX12_late 25 = .ok (.iconst 0, 1) := by decide +kernel
theorem dX12_late_26 : decode cX12_late 26 = .ok (.invokevirtual 314, 3) := by decide +kernel
theorem dX12_late_29 : decode cX12_late 29 = .ok (.aload_n 0, 1) := by decide +kernel
theorem dX12_late_30 : decode cX12_late 30 = .ok (.aload_n 0, 1) := by decide +kernel
theorem dX12_late_31 : decode cX12_late 31 = .ok (.getfield 58, 3) := by decide +kernel
theorem dX12_late_34 : decode cX12_late 34 = .ok (.iload_n 1, 1) := by decide +kernel
theorem dX12_late_35 : decode cX12_late 35 = .ok (.invokevirtual 324, 3) := by decide +kernel
theorem dX12_late_38 : decode cX12_late 38 = .ok (.istore_n 2, 1) := by decide +kernel
theorem dX12_late_39 : decode cX12_late 39 = .ok (.aload_n 0, 1) := by decide +kernel
theorem dX12_late_40 : decode cX12_late 40 = .ok (.aload_n 0, 1) := by decide +kernel
theorem dX12_late_41 : decode cX12_late 41 = .ok (.getfield 61, 3) := by decide +kernel
theorem dX12_late_44 : decode cX12_late 44 = .ok (.iload_n 1, 1) := by decide +kernel
theorem dX12_late_45 : decode cX12_late 45 = .ok (.invokevirtual 324, 3) := by decide +kernel
theorem dX12_late_48 : decode cX12_late 48 = .ok (.istore_n 3, 1) := by decide +kernel
theorem dX12_late_49 : decode cX12_late 49 = .ok (.iload_n 2, 1) := by decide +kernel
theorem dX12_late_50 : decode cX12_late 50 = .ok (.ifCond .lt 7, 3) := by decide +kernel
theorem dX12_late_53 : decode cX12_late 53 = .ok (.iload_n 3, 1) := by decide +kernel
theorem dX12_late_54 : decode cX12_late 54 = .ok (.ifCond .ge 9, 3) := by decide +kernel
theorem dX12_late_57 : decode cX12_late 57 = .ok (.ldc_w 289, 3) := by decide +kernel
theorem dX12_late_60 : decode cX12_late 60 = .ok (.goto 6, 3) := by decide +kernel
theorem dX12_late_63 : decode cX12_late 63 = .ok (.iload_n 2, 1) := by decide +kernel
theorem dX12_late_64 : decode cX12_late 64 = .ok (.iload_n 3, 1) := by decide +kernel
theorem dX12_late_65 : decode cX12_late 65 = .ok (.isub, 1) := by decide +kernel
theorem dX12_late_66 : decode cX12_late 66 = .ok (.ireturn, 1) := by decide +kernel
theorem dX12_kind_0 : decode cX12_kind 0 = .ok (.iload_n 1, 1) := by decide +kernel
theorem dX12_kind_1 : decode cX12_kind 1 = .ok (.invokestatic 334, 3) := by decide +kernel
theorem dX12_kind_4 : decode cX12_kind 4 = .ok (.ifCond .eq 24, 3) := by decide +kernel
theorem dX12_kind_7 : decode cX12_kind 7 = .ok (.iload_n 2, 1) := by decide +kernel
theorem dX12_kind_8 : decode cX12_kind 8 = .ok (.iconst 0, 1) := by decide +kernel
theorem dX12_kind_9 : decode cX12_kind 9 = .ok (.iconst 5, 1) := by decide +kernel
theorem dX12_kind_10 : decode cX12_kind 10 = .ok (.invokestatic 113, 3) := by decide +kernel
theorem dX12_kind_13 : decode cX12_kind 13 = .ok (.ifCond .eq 15, 3) := by decide +kernel
theorem dX12_kind_16 : decode cX12_kind 16 = .ok (.aload_n 0, 1) := by decide +kernel
theorem dX12_kind_17 : decode cX12_kind 17 = .ok (.bipush 41, 2) := by decide +kernel
theorem dX12_kind_19 : decode cX12_kind 19 = .ok (.iload_n 1, 1) := by decide +kernel
theorem dX12_kind_20 : decode cX12_kind 20 = .ok (.iadd, 1) := by decide +kernel
theorem dX12_kind_21 : decode cX12_kind 21 = .ok (.iload_n 2, 1) := by decide +kernel
theorem dX12_kind_22 : decode cX12_kind 22 = .ok (.invokevirtual 128, 3) := by decide +kernel
theorem dX12_kind_25 : decode cX12_kind 25 = .ok (.goto 8, 3) := by decide +kernel
theorem dX12_kind_28 : decode cX12_kind 28 = .ok (.aload_n 0, 1) := by decide +kernel
theorem dX12_kind_29 : decode cX12_kind 29 = .ok (.iconst (-1), 1) := by decide +kernel
theorem dX12_kind_30 : decode cX12_kind 30 = .ok (.invokevirtual 117, 3) := by decide +kernel
theorem dX12_kind_33 : decode cX12_kind 33 = .ok (.ireturn, 1) := by decide +kernel
theorem dX12_kindOf_0 : decode cX12_kindOf 0 = .ok (.aload_n 0, 1) := by decide +kernel
theorem dX12_kindOf_1 : decode cX12_kindOf 1 = .ok (.getfield 20, 3) := by decide +kernel
theorem dX12_kindOf_4 : decode cX12_kindOf 4 = .ok (.bipush 41, 2) := by decide +kernel
theorem dX12_kindOf_6 : decode cX12_kindOf 6 = .ok (.iload_n 1, 1) := by decide +kernel
theorem dX12_kindOf_7 : decode cX12_kindOf 7 = .ok (.iadd, 1) := by decide +kernel
theorem dX12_kindOf_8 : decode cX12_kindOf 8 = .ok (.iaload, 1) := by decide +kernel
theorem dX12_kindOf_9 : decode cX12_kindOf 9 = .ok (.ireturn, 1) := by decide +kernel
theorem dX12_flowAt_0 : decode cX12_flowAt 0 = .ok (.aload_n 0, 1) := by decide +kernel
theorem dX12_flowAt_1 : decode cX12_flowAt 1 = .ok (.getfield 58, 3) := by decide +kernel
theorem dX12_flowAt_4 : decode cX12_flowAt 4 = .ok (.iload_n 2, 1) := by decide +kernel
theorem dX12_flowAt_5 : decode cX12_flowAt 5 = .ok (.iaload, 1) := by decide +kernel
theorem dX12_flowAt_6 : decode cX12_flowAt 6 = .ok (.istore_n 3, 1) := by decide +kernel
theorem dX12_flowAt_7 : decode cX12_flowAt 7 = .ok (.iload_n 1, 1) := by decide +kernel
theorem dX12_flowAt_8 : decode cX12_flowAt 8 = .ok (.tableswitch 83 0 4 #[36, 83, 38, 73, 77], 36) := by decide +kernel
theorem dX12_flowAt_44 : decode cX12_flowAt 44 = .ok (.iconst 0, 1) := by decide +kernel
theorem dX12_flowAt_45 : decode cX12_flowAt 45 = .ok (.ireturn, 1) := by decide +kernel
theorem dX12_flowAt_46 : decode cX12_flowAt 46 = .ok (.aload_n 0, 1) := by decide +kernel
theorem dX12_flowAt_47 : decode cX12_flowAt 47 = .ok (.getfield 58, 3) := by decide +kernel
theorem dX12_flowAt_50 : decode cX12_flowAt 50 = .ok (.iload_n 2, 1) := by decide +kernel
theorem dX12_flowAt_51 : decode cX12_flowAt 51 = .ok (.aload_n 0, 1) := by decide +kernel
theorem dX12_flowAt_52 : decode cX12_flowAt 52 = .ok (.iconst 5, 1) := by decide +kernel
theorem dX12_flowAt_53 : decode cX12_flowAt 53 = .ok (.invokevirtual 283, 3) := by decide +kernel
theorem dX12_flowAt_56 : decode cX12_flowAt 56 = .ok (.iadd, 1) := by decide +kernel
theorem dX12_flowAt_57 : decode cX12_flowAt 57 = .ok (.sipush 1440, 3) := by decide +kernel
theorem dX12_flowAt_60 : decode cX12_flowAt 60 = .ok (.if_icmp .ge 13, 3) := by decide +kernel
theorem dX12_flowAt_63 : decode cX12_flowAt 63 = .ok (.iload_n 2, 1) := by decide +kernel
theorem dX12_flowAt_64 : decode cX12_flowAt 64 = .ok (.aload_n 0, 1) := by decide +kernel
theorem dX12_flowAt_65 : decode cX12_flowAt 65 = .ok (.iconst 5, 1) := by decide +kernel
theorem dX12_flowAt_66 : decode cX12_flowAt 66 = .ok (.invokevirtual 283, 3) := by decide +kernel
theorem dX12_flowAt_69 : decode cX12_flowAt 69 = .ok (.iadd, 1) := by decide +kernel
theorem dX12_flowAt_70 : decode cX12_flowAt 70 = .ok (.goto 6, 3) := by decide +kernel
theorem dX12_flowAt_73 : decode cX12_flowAt 73 = .ok (.sipush 1439, 3) := by decide +kernel
theorem dX12_flowAt_76 : decode cX12_flowAt 76 = .ok (.iaload, 1) := by decide +kernel
theorem dX12_flowAt_77 : decode cX12_flowAt 77 = .ok (.ineg, 1) := by decide +kernel
theorem dX12_flowAt_78 : decode cX12_flowAt 78 = .ok (.iconst 2, 1) := by decide +kernel
theorem dX12_flowAt_79 : decode cX12_flowAt 79 = .ok (.idiv, 1) := by decide +kernel
theorem dX12_flowAt_80 : decode cX12_flowAt 80 = .ok (.ireturn, 1) := by decide +kernel
theorem dX12_flowAt_81 : decode cX12_flowAt 81 = .ok (.iload_n 3, 1) := by decide +kernel
theorem dX12_flowAt_82 : decode cX12_flowAt 82 = .ok (.iconst 4, 1) := by decide +kernel
theorem dX12_flowAt_83 : decode cX12_flowAt 83 = .ok (.idiv, 1) := by decide +kernel
theorem dX12_flowAt_84 : decode cX12_flowAt 84 = .ok (.ireturn, 1) := by decide +kernel
theorem dX12_flowAt_85 : decode cX12_flowAt 85 = .ok (.iload_n 3, 1) := by decide +kernel
theorem dX12_flowAt_86 : decode cX12_flowAt 86 = .ok (.iconst 5, 1) := by decide +kernel
theorem dX12_flowAt_87 : decode cX12_flowAt 87 = .ok (.imul, 1) := by decide +kernel
theorem dX12_flowAt_88 : decode cX12_flowAt 88 = .ok (.iconst 4, 1) := by decide +kernel
theorem dX12_flowAt_89 : decode cX12_flowAt 89 = .ok (.idiv, 1) := by decide +kernel
theorem dX12_flowAt_90 : decode cX12_flowAt 90 = .ok (.ireturn, 1) := by decide +kernel
theorem dX12_flowAt_91 : decode cX12_flowAt 91 = .ok (.iload_n 3, 1) := by decide +kernel
theorem dX12_flowAt_92 : decode cX12_flowAt 92 = .ok (.ireturn, 1) := by decide +kernel
theorem dX12_whites_0 : decode cX12_whites 0 = .ok (.iconst 0, 1) := by decide +kernel
theorem dX12_whites_1 : decode cX12_whites 1 = .ok (.istore_n 1, 1) := by decide +kernel
theorem dX12_whites_2 : decode cX12_whites 2 = .ok (.iload_n 1, 1) := by decide +kernel
theorem dX12_whites_3 : decode cX12_whites 3 = .ok (.bipush 6, 2) := by decide +kernel
theorem dX12_whites_5 : decode cX12_whites 5 = .ok (.if_icmp .ge 43, 3) := by decide +kernel
theorem dX12_whites_8 : decode cX12_whites 8 = .ok (.iconst 0, 1) := by decide +kernel
theorem dX12_whites_9 : decode cX12_whites 9 = .ok (.istore_n 2, 1) := by decide +kernel
theorem dX12_whites_10 : decode cX12_whites 10 = .ok (.iload_n 2, 1) := by decide +kernel
theorem dX12_whites_11 : decode cX12_whites 11 = .ok (.sipush 1440, 3) := by decide +kernel
theorem dX12_whites_14 : decode cX12_whites 14 = .ok (.if_icmp .ge 28, 3) := by decide +kernel
theorem dX12_whites_17 : decode cX12_whites 17 = .ok (.aload_n 0, 1) := by decide +kernel
theorem dX12_whites_18 : decode cX12_whites 18 = .ok (.getfield 67, 3) := by decide +kernel
theorem dX12_whites_21 : decode cX12_whites 21 = .ok (.sipush 1440, 3) := by decide +kernel
