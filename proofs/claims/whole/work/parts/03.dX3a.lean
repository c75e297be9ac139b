theorem dX3_init_0 : decode cX3_init 0 = .ok (.aload_n 0, 1) := by decide +kernel
theorem dX3_init_1 : decode cX3_init 1 = .ok (.invokespecial 3, 3) := by decide +kernel
theorem dX3_init_4 : decode cX3_init 4 = .ok (.aload_n 0, 1) := by decide +kernel
theorem dX3_init_5 : decode cX3_init 5 = .ok (.sipush 400, 3) := by decide +kernel
theorem dX3_init_8 : decode cX3_init 8 = .ok (.newarray .int, 2) := by decide +kernel
theorem dX3_init_10 : decode cX3_init 10 = .ok (.putfield 9, 3) := by decide +kernel
theorem dX3_init_13 : decode cX3_init 13 = .ok (.aload_n 0, 1) := by decide +kernel
theorem dX3_init_14 : decode cX3_init 14 = .ok (.bipush 48, 2) := by decide +kernel
theorem dX3_init_16 : decode cX3_init 16 = .ok (.newarray .int, 2) := by decide +kernel
theorem dX3_init_18 : decode cX3_init 18 = .ok (.putfield 17, 3) := by decide +kernel
theorem dX3_init_21 : decode cX3_init 21 = .ok (.aload_n 0, 1) := by decide +kernel
theorem dX3_init_22 : decode cX3_init 22 = .ok (.iconst 0, 1) := by decide +kernel
theorem dX3_init_23 : decode cX3_init 23 = .ok (.putfield 20, 3) := by decide +kernel
theorem dX3_init_26 : decode cX3_init 26 = .ok (.aload_n 0, 1) := by decide +kernel
theorem dX3_init_27 : decode cX3_init 27 = .ok (.iconst 0, 1) := by decide +kernel
theorem dX3_init_28 : decode cX3_init 28 = .ok (.putfield 24, 3) := by decide +kernel
theorem dX3_init_31 : decode cX3_init 31 = .ok (.aload_n 0, 1) := by decide +kernel
theorem dX3_init_32 : decode cX3_init 32 = .ok (.iconst 0, 1) := by decide +kernel
theorem dX3_init_33 : decode cX3_init 33 = .ok (.putfield 27, 3) := by decide +kernel
theorem dX3_init_36 : decode cX3_init 36 = .ok (.aload_n 0, 1) := by decide +kernel
theorem dX3_init_37 : decode cX3_init 37 = .ok (.iconst 0, 1) := by decide +kernel
theorem dX3_init_38 : decode cX3_init 38 = .ok (.putfield 30, 3) := by decide +kernel
theorem dX3_init_41 : decode cX3_init 41 = .ok (.aload_n 0, 1) := by decide +kernel
theorem dX3_init_42 : decode cX3_init 42 = .ok (.iconst 0, 1) := by decide +kernel
theorem dX3_init_43 : decode cX3_init 43 = .ok (.putfield 33, 3) := by decide +kernel
theorem dX3_init_46 : decode cX3_init 46 = .ok (.aload_n 0, 1) := by decide +kernel
theorem dX3_init_47 : decode cX3_init 47 = .ok (.iconst 0, 1) := by decide +kernel
theorem dX3_init_48 : decode cX3_init 48 = .ok (.putfield 36, 3) := by decide +kernel
theorem dX3_init_51 : decode cX3_init 51 = .ok (.aload_n 0, 1) := by decide +kernel
theorem dX3_init_52 : decode cX3_init 52 = .ok (.iconst (-1), 1) := by decide +kernel
theorem dX3_init_53 : decode cX3_init 53 = .ok (.putfield 39, 3) := by decide +kernel
theorem dX3_init_56 : decode cX3_init 56 = .ok (.aload_n 0, 1) := by decide +kernel
theorem dX3_init_57 : decode cX3_init 57 = .ok (.aload_n 1, 1) := by decide +kernel
theorem dX3_init_58 : decode cX3_init 58 = .ok (.putfield 42, 3) := by decide +kernel
theorem dX3_init_61 : decode cX3_init 61 = .ok (.return_, 1) := by decide +kernel
theorem dX3_readLaw_0 : decode cX3_readLaw 0 = .ok (.aload_n 0, 1) := by decide +kernel
theorem dX3_readLaw_1 : decode cX3_readLaw 1 = .ok (.iconst 0, 1) := by decide +kernel
theorem dX3_readLaw_2 : decode cX3_readLaw 2 = .ok (.putfield 20, 3) := by decide +kernel
theorem dX3_readLaw_5 : decode cX3_readLaw 5 = .ok (.aload_n 0, 1) := by decide +kernel
theorem dX3_readLaw_6 : decode cX3_readLaw 6 = .ok (.iconst 0, 1) := by decide +kernel
theorem dX3_readLaw_7 : decode cX3_readLaw 7 = .ok (.putfield 24, 3) := by decide +kernel
theorem dX3_readLaw_10 : decode cX3_readLaw 10 = .ok (.aload_n 0, 1) := by decide +kernel
theorem dX3_readLaw_11 : decode cX3_readLaw 11 = .ok (.iconst 0, 1) := by decide +kernel
theorem dX3_readLaw_12 : decode cX3_readLaw 12 = .ok (.putfield 27, 3) := by decide +kernel
theorem dX3_readLaw_15 : decode cX3_readLaw 15 = .ok (.aload_n 0, 1) := by decide +kernel
theorem dX3_readLaw_16 : decode cX3_readLaw 16 = .ok (.iconst 0, 1) := by decide +kernel
theorem dX3_readLaw_17 : decode cX3_readLaw 17 = .ok (.putfield 36, 3) := by decide +kernel
theorem dX3_readLaw_20 : decode cX3_readLaw 20 = .ok (.aload_n 0, 1) := by decide +kernel
theorem dX3_readLaw_21 : decode cX3_readLaw 21 = .ok (.iconst (-1), 1) := by decide +kernel
theorem dX3_readLaw_22 : decode cX3_readLaw 22 = .ok (.putfield 39, 3) := by decide +kernel
theorem dX3_readLaw_25 : decode cX3_readLaw 25 = .ok (.aload_n 0, 1) := by decide +kernel
theorem dX3_readLaw_26 : decode cX3_readLaw 26 = .ok (.invokevirtual 46, 3) := by decide +kernel
theorem dX3_readLaw_29 : decode cX3_readLaw 29 = .ok (.iconst 0, 1) := by decide +kernel
theorem dX3_readLaw_30 : decode cX3_readLaw 30 = .ok (.istore_n 1, 1) := by decide +kernel
theorem dX3_readLaw_31 : decode cX3_readLaw 31 = .ok (.iload_n 1, 1) := by decide +kernel
theorem dX3_readLaw_32 : decode cX3_readLaw 32 = .ok (.bipush 12, 2) := by decide +kernel
theorem dX3_readLaw_34 : decode cX3_readLaw 34 = .ok (.if_icmp .ge 75, 3) := by decide +kernel
theorem dX3_readLaw_37 : decode cX3_readLaw 37 = .ok (.aload_n 0, 1) := by decide +kernel
theorem dX3_readLaw_38 : decode cX3_readLaw 38 = .ok (.invokevirtual 49, 3) := by decide +kernel
theorem dX3_readLaw_41 : decode cX3_readLaw 41 = .ok (.ifCond .ne 5, 3) := by decide +kernel
theorem dX3_readLaw_44 : decode cX3_readLaw 44 = .ok (.aconst_null, 1) := by decide +kernel
theorem dX3_readLaw_45 : decode cX3_readLaw 45 = .ok (.areturn, 1) := by decide +kernel
theorem dX3_readLaw_46 : decode cX3_readLaw 46 = .ok (.aload_n 0, 1) := by decide +kernel
theorem dX3_readLaw_47 : decode cX3_readLaw 47 = .ok (.getfield 30, 3) := by decide +kernel
theorem dX3_readLaw_50 : decode cX3_readLaw 50 = .ok (.ifCond .ne 33, 3) := by decide +kernel
theorem dX3_readLaw_53 : decode cX3_readLaw 53 = .ok (.new 15, 3) := by decide +kernel
theorem dX3_readLaw_56 : decode cX3_readLaw 56 = .ok (.dup, 1) := by decide +kernel
theorem dX3_readLaw_57 : decode cX3_readLaw 57 = .ok (.aload_n 0, 1) := by decide +kernel
theorem dX3_readLaw_58 : decode cX3_readLaw 58 = .ok (.getfield 9, 3) := by decide +kernel
theorem dX3_readLaw_61 : decode cX3_readLaw 61 = .ok (.aload_n 0, 1) := by decide +kernel
theorem dX3_readLaw_62 : decode cX3_readLaw 62 = .ok (.getfield 20, 3) := by decide +kernel
theorem dX3_readLaw_65 : decode cX3_readLaw 65 = .ok (.invokestatic 53, 3) := by decide +kernel
theorem dX3_readLaw_68 : decode cX3_readLaw 68 = .ok (.aload_n 0, 1) := by decide +kernel
theorem dX3_readLaw_69 : decode cX3_readLaw 69 = .ok (.getfield 17, 3) := by decide +kernel
theorem dX3_readLaw_72 : decode cX3_readLaw 72 = .ok (.aload_n 0, 1) := by decide +kernel
theorem dX3_readLaw_73 : decode cX3_readLaw 73 = .ok (.getfield 24, 3) := by decide +kernel
theorem dX3_readLaw_76 : decode cX3_readLaw 76 = .ok (.invokestatic 53, 3) := by decide +kernel
theorem dX3_readLaw_79 : decode cX3_readLaw 79 = .ok (.invokespecial 59, 3) := by decide +kernel
theorem dX3_readLaw_82 : decode cX3_readLaw 82 = .ok (.areturn, 1) := by decide +kernel
theorem dX3_readLaw_83 : decode cX3_readLaw 83 = .ok (.aload_n 0, 1) := by decide +kernel
theorem dX3_readLaw_84 : decode cX3_readLaw 84 = .ok (.bipush 59, 2) := by decide +kernel
theorem dX3_readLaw_86 : decode cX3_readLaw 86 = .ok (.invokevirtual 62, 3) := by decide +kernel
theorem dX3_readLaw_89 : decode cX3_readLaw 89 = .ok (.ifCond .ne 10, 3) := by decide +kernel
theorem dX3_readLaw_92 : decode cX3_readLaw 92 = .ok (.aload_n 0, 1) := by decide +kernel
theorem dX3_readLaw_93 : decode cX3_readLaw 93 = .ok (.invokevirtual 66, 3) := by decide +kernel
theorem dX3_readLaw_96 : decode cX3_readLaw 96 = .ok (.pop, 1) := by decide +kernel
theorem dX3_readLaw_97 : decode cX3_readLaw 97 = .ok (.aconst_null, 1) := by decide +kernel
theorem dX3_readLaw_98 : decode cX3_readLaw 98 = .ok (.areturn, 1) := by decide +kernel
theorem dX3_readLaw_99 : decode cX3_readLaw 99 = .ok (.aload_n 0, 1) := by decide +kernel
theorem dX3_readLaw_100 : decode cX3_readLaw 100 = .ok (.invokevirtual 46, 3) := by decide +kernel
theorem dX3_readLaw_103 : decode cX3_readLaw 103 = .ok (.iinc 1 1, 3) := by decide +kernel
theorem dX3_readLaw_106 : decode cX3_readLaw 106 = .ok (.goto (-75), 3) := by decide +kernel
theorem dX3_readLaw_109 : decode cX3_readLaw 109 = .ok (.aload_n 0, 1) := by decide +kernel
theorem dX3_readLaw_110 : decode cX3_readLaw 110 = .ok (.invokevirtual 66, 3) := by decide +kernel
theorem dX3_readLaw_113 : decode cX3_readLaw 113 = .ok (.pop, 1) := by decide +kernel
theorem dX3_readLaw_114 : decode cX3_readLaw 114 = .ok (.aconst_null, 1) := by decide +kernel
theorem dX3_readLaw_115 : decode cX3_readLaw 115 = .ok (.areturn, 1) := by decide +kernel
theorem dX3_readClause_0 : decode cX3_readClause 0 = .ok (.aload_n 0, 1) := by decide +kernel
theorem dX3_readClause_1 : decode cX3_readClause 1 = .ok (.ldc 69, 2) := by decide +kernel
theorem dX3_readClause_3 : decode cX3_readClause 3 = .ok (.invokevirtual 71, 3) := by decide +kernel
theorem dX3_readClause_6 : decode cX3_readClause 6 = .ok (.istore_n 1, 1) := by decide +kernel
theorem dX3_readClause_7 : decode cX3_readClause 7 = .ok (.iload_n 1, 1) := by decide +kernel
theorem dX3_readClause_8 : decode cX3_readClause 8 = .ok (.ifCond .ne 17, 3) := by decide +kernel
theorem dX3_readClause_11 : decode cX3_readClause 11 = .ok (.aload_n 0, 1) := by decide +kernel
theorem dX3_readClause_12 : decode cX3_readClause 12 = .ok (.ldc 75, 2) := by decide +kernel
theorem dX3_readClause_14 : decode cX3_readClause 14 = .ok (.invokevirtual 71, 3) := by decide +kernel
theorem dX3_readClause_17 : decode cX3_readClause 17 = .ok (.ifCond .ne 8, 3) := by decide +kernel
theorem dX3_readClause_20 : decode cX3_readClause 20 = .ok (.aload_n 0, 1) := by decide +kernel
theorem dX3_readClause_21 : decode cX3_readClause 21 = .ok (.invokevirtual 66, 3) := by decide +kernel
theorem dX3_readClause_24 : decode cX3_readClause 24 = .ok (.ireturn, 1) := by decide +kernel
theorem dX3_readClause_25 : decode cX3_readClause 25 = .ok (.aload_n 0, 1) := by decide +kernel
theorem dX3_readClause_26 : decode cX3_readClause 26 = .ok (.invokevirtual 46, 3) := by decide +kernel
theorem dX3_readClause_29 : decode cX3_readClause 29 = .ok (.aload_n 0, 1) := by decide +kernel
theorem dX3_readClause_30 : decode cX3_readClause 30 = .ok (.getfield 20, 3) := by decide +kernel
theorem dX3_readClause_33 : decode cX3_readClause 33 = .ok (.istore_n 2, 1) := by decide +kernel
theorem dX3_readClause_34 : decode cX3_readClause 34 = .ok (.aload_n 0, 1) := by decide +kernel
theorem dX3_readClause_35 : decode cX3_readClause 35 = .ok (.iconst 0, 1) := by decide +kernel
theorem dX3_readClause_36 : decode cX3_readClause 36 = .ok (.invokevirtual 77, 3) := by decide +kernel
theorem dX3_readClause_39 : decode cX3_readClause 39 = .ok (.ifCond .ne 5, 3) := by decide +kernel
theorem dX3_readClause_42 : decode cX3_readClause 42 = .ok (.iconst 0, 1) := by decide +kernel
theorem dX3_readClause_43 : decode cX3_readClause 43 = .ok (.ireturn, 1) := by decide +kernel
theorem dX3_readClause_44 : decode cX3_readClause 44 = .ok (.aload_n 0, 1) := by decide +kernel
theorem dX3_readClause_45 : decode cX3_readClause 45 = .ok (.getfield 20, 3) := by decide +kernel
theorem dX3_readClause_48 : decode cX3_readClause 48 = .ok (.istore_n 3, 1) := by decide +kernel
theorem dX3_readClause_49 : decode cX3_readClause 49 = .ok (.aload_n 0, 1) := by decide +kernel
theorem dX3_readClause_50 : decode cX3_readClause 50 = .ok (.ldc 81, 2) := by decide +kernel
theorem dX3_readClause_52 : decode cX3_readClause 52 = .ok (.invokevirtual 71, 3) := by decide +kernel
theorem dX3_readClause_55 : decode cX3_readClause 55 = .ok (.ifCond .eq 17, 3) := by decide +kernel
theorem dX3_readClause_58 : decode cX3_readClause 58 = .ok (.aload_n 0, 1) := by decide +kernel
theorem dX3_readClause_59 : decode cX3_readClause 59 = .ok (.invokevirtual 46, 3) := by decide +kernel
theorem dX3_readClause_62 : decode cX3_readClause 62 = .ok (.aload_n 0, 1) := by decide +kernel
theorem dX3_readClause_63 : decode cX3_readClause 63 = .ok (.iconst 0, 1) := by decide +kernel
theorem dX3_readClause_64 : decode cX3_readClause 64 = .ok (.invokevirtual 83, 3) := by decide +kernel
theorem dX3_readClause_67 : decode cX3_readClause 67 = .ok (.ifCond .ne 5, 3) := by decide +kernel
theorem dX3_readClause_70 : decode cX3_readClause 70 = .ok (.iconst 0, 1) := by decide +kernel
theorem dX3_readClause_71 : decode cX3_readClause 71 = .ok (.ireturn, 1) := by decide +kernel
theorem dX3_readClause_72 : decode cX3_readClause 72 = .ok (.aload_n 0, 1) := by decide +kernel
theorem dX3_readClause_73 : decode cX3_readClause 73 = .ok (.getfield 24, 3) := by decide +kernel
theorem dX3_readClause_76 : decode cX3_readClause 76 = .ok (.aload_n 0, 1) := by decide +kernel
theorem dX3_readClause_77 : decode cX3_readClause 77 = .ok (.getfield 17, 3) := by decide +kernel
theorem dX3_readClause_80 : decode cX3_readClause 80 = .ok (.arraylength, 1) := by decide +kernel
theorem dX3_readClause_81 : decode cX3_readClause 81 = .ok (.iconst 4, 1) := by decide +kernel
theorem dX3_readClause_82 : decode cX3_readClause 82 = .ok (.isub, 1) := by decide +kernel
theorem dX3_readClause_83 : decode cX3_readClause 83 = .ok (.if_icmp .le 8, 3) := by decide +kernel
theorem dX3_readClause_86 : decode cX3_readClause 86 = .ok (.aload_n 0, 1) := by decide +kernel
theorem dX3_readClause_87 : decode cX3_readClause 87 = .ok (.invokevirtual 66, 3) := by decide +kernel
theorem dX3_readClause_90 : decode cX3_readClause 90 = .ok (.ireturn, 1) := by decide +kernel
theorem dX3_readClause_91 : decode cX3_readClause 91 = .ok (.aload_n 0, 1) := by decide +kernel
theorem dX3_readClause_92 : decode cX3_readClause 92 = .ok (.getfield 17, 3) := by decide +kernel
theorem dX3_readClause_95 : decode cX3_readClause 95 = .ok (.aload_n 0, 1) := by decide +kernel
theorem dX3_readClause_96 : decode cX3_readClause 96 = .ok (.getfield 24, 3) := by decide +kernel
theorem dX3_readClause_99 : decode cX3_readClause 99 = .ok (.iload_n 1, 1) := by decide +kernel
theorem dX3_readClause_100 : decode cX3_readClause 100 = .ok (.ifCond .eq 7, 3) := by decide +kernel
theorem dX3_readClause_103 : decode cX3_readClause 103 = .ok (.iconst 0, 1) := by decide +kernel
theorem dX3_readClause_104 : decode cX3_readClause 104 = .ok (.goto 4, 3) := by decide +kernel
theorem dX3_readClause_107 : decode cX3_readClause 107 = .ok (.iconst 1, 1) := by decide +kernel
theorem dX3_readClause_108 : decode cX3_readClause 108 = .ok (.iastore, 1) := by decide +kernel
theorem dX3_readClause_109 : decode cX3_readClause 109 = .ok (.aload_n 0, 1) := by decide +kernel
theorem dX3_readClause_110 : decode cX3_readClause 110 = .ok (.getfield 17, 3) := by decide +kernel
theorem dX3_readClause_113 : decode cX3_readClause 113 = .ok (.aload_n 0, 1) := by decide +kernel
theorem dX3_readClause_114 : decode cX3_readClause 114 = .ok (.getfield 24, 3) := by decide +kernel
theorem dX3_readClause_117 : decode cX3_readClause 117 = .ok (.iconst 1, 1) := by decide +kernel
theorem dX3_readClause_118 : decode cX3_readClause 118 = .ok (.iadd, 1) := by decide +kernel
theorem dX3_readClause_119 : decode cX3_readClause 119 = .ok (.iload_n 2, 1) := by decide +kernel
theorem dX3_readClause_120 : decode cX3_readClause 120 = .ok (.iastore, 1) := by decide +kernel
theorem dX3_readClause_121 : decode cX3_readClause 121 = .ok (.aload_n 0, 1) := by decide +kernel
theorem dX3_readClause_122 : decode cX3_readClause 122 = .ok (.getfield 17, 3) := by decide +kernel
theorem dX3_readClause_125 : decode cX3_readClause 125 = .ok (.aload_n 0, 1) := by decide +kernel
theorem dX3_readClause_126 : decode cX3_readClause 126 = .ok (.getfield 24, 3) := by decide +kernel
theorem dX3_readClause_129 : decode cX3_readClause 129 = .ok (.iconst 2, 1) := by decide +kernel
theorem dX3_readClause_130 : decode cX3_readClause 130 = .ok (.iadd, 1) := by decide +kernel
theorem dX3_readClause_131 : decode cX3_readClause 131 = .ok (.iload_n 3, 1) := by decide +kernel
theorem dX3_readClause_132 : decode cX3_readClause 132 = .ok (.iastore, 1) := by decide +kernel
theorem dX3_readClause_133 : decode cX3_readClause 133 = .ok (.aload_n 0, 1) := by decide +kernel
theorem dX3_readClause_134 : decode cX3_readClause 134 = .ok (.getfield 17, 3) := by decide +kernel
theorem dX3_readClause_137 : decode cX3_readClause 137 = .ok (.aload_n 0, 1) := by decide +kernel
theorem dX3_readClause_138 : decode cX3_readClause 138 = .ok (.getfield 24, 3) := by decide +kernel
theorem dX3_readClause_141 : decode cX3_readClause 141 = .ok (.iconst 3, 1) := by decide +kernel
theorem dX3_readClause_142 : decode cX3_readClause 142 = .ok (.iadd, 1) := by decide +kernel
theorem dX3_readClause_143 : decode cX3_readClause 143 = .ok (.aload_n 0, 1) := by decide +kernel
theorem dX3_readClause_144 : decode cX3_readClause 144 = .ok (.getfield 20, 3) := by decide +kernel
theorem dX3_readClause_147 : decode cX3_readClause 147 = .ok (.iastore, 1) := by decide +kernel
theorem dX3_readClause_148 : decode cX3_readClause 148 = .ok (.aload_n 0, 1) := by decide +kernel
theorem dX3_readClause_149 : decode cX3_readClause 149 = .ok (.dup, 1) := by decide +kernel
theorem dX3_readClause_150 : decode cX3_readClause 150 = .ok (.getfield 24, 3) := by decide +kernel
theorem dX3_readClause_153 : decode cX3_readClause 153 = .ok (.iconst 4, 1) := by decide +kernel
theorem dX3_readClause_154 : decode cX3_readClause 154 = .ok (.iadd, 1) := by decide +kernel
theorem dX3_readClause_155 : decode cX3_readClause 155 = .ok (.putfield 24, 3) := by decide +kernel
theorem dX3_readClause_158 : decode cX3_readClause 158 = .ok (.iconst 1, 1) := by decide +kernel
theorem dX3_readClause_159 : decode cX3_readClause 159 = .ok (.ireturn, 1) := by decide +kernel
theorem dX3_readTest_0 : decode cX3_readTest 0 = .ok (.aload_n 0, 1) := by decide +kernel
theorem dX3_readTest_1 : decode cX3_readTest 1 = .ok (.iload_n 1, 1) := by decide +kernel
theorem dX3_readTest_2 : decode cX3_readTest 2 = .ok (.invokevirtual 86, 3) := by decide +kernel
theorem dX3_readTest_5 : decode cX3_readTest 5 = .ok (.ifCond .ne 5, 3) := by decide +kernel
theorem dX3_readTest_8 : decode cX3_readTest 8 = .ok (.iconst 0, 1) := by decide +kernel
theorem dX3_readTest_9 : decode cX3_readTest 9 = .ok (.ireturn, 1) := by decide +kernel
theorem dX3_readTest_10 : decode cX3_readTest 10 = .ok (.iconst 0, 1) := by decide +kernel
theorem dX3_readTest_11 : decode cX3_readTest 11 = .ok (.istore_n 2, 1) := by decide +kernel
theorem dX3_readTest_12 : decode cX3_readTest 12 = .ok (.iload_n 2, 1) := by decide +kernel
theorem dX3_readTest_13 : decode cX3_readTest 13 = .ok (.sipush 400, 3) := by decide +kernel
theorem dX3_readTest_16 : decode cX3_readTest 16 = .ok (.if_icmp .ge 51, 3) := by decide +kernel
theorem dX3_readTest_19 : decode cX3_readTest 19 = .ok (.aload_n 0, 1) := by decide +kernel
theorem dX3_readTest_20 : decode cX3_readTest 20 = .ok (.ldc 89, 2) := by decide +kernel
theorem dX3_readTest_22 : decode cX3_readTest 22 = .ok (.invokevirtual 71, 3) := by decide +kernel
theorem dX3_readTest_25 : decode cX3_readTest 25 = .ok (.ifCond .eq 42, 3) := by decide +kernel
theorem dX3_readTest_28 : decode cX3_readTest 28 = .ok (.aload_n 0, 1) := by decide +kernel
theorem dX3_readTest_29 : decode cX3_readTest 29 = .ok (.getfield 20, 3) := by decide +kernel
theorem dX3_readTest_32 : decode cX3_readTest 32 = .ok (.istore_n 3, 1) := by decide +kernel
theorem dX3_readTest_33 : decode cX3_readTest 33 = .ok (.aload_n 0, 1) := by decide +kernel
theorem dX3_readTest_34 : decode cX3_readTest 34 = .ok (.bipush 10, 2) := by decide +kernel
theorem dX3_readTest_36 : decode cX3_readTest 36 = .ok (.iconst 0, 1) := by decide +kernel
theorem dX3_readTest_37 : decode cX3_readTest 37 = .ok (.invokevirtual 93, 3) := by decide +kernel
theorem dX3_readTest_40 : decode cX3_readTest 40 = .ok (.aload_n 0, 1) := by decide +kernel
theorem dX3_readTest_41 : decode cX3_readTest 41 = .ok (.invokevirtual 46, 3) := by decide +kernel
theorem dX3_readTest_44 : decode cX3_readTest 44 = .ok (.aload_n 0, 1) := by decide +kernel
theorem dX3_readTest_45 : decode cX3_readTest 45 = .ok (.iload_n 1, 1) := by decide +kernel
theorem dX3_readTest_46 : decode cX3_readTest 46 = .ok (.invokevirtual 86, 3) := by decide +kernel
theorem dX3_readTest_49 : decode cX3_readTest 49 = .ok (.ifCond .ne 5, 3) := by decide +kernel
theorem dX3_readTest_52 : decode cX3_readTest 52 = .ok (.iconst 0, 1) := by decide +kernel
theorem dX3_readTest_53 : decode cX3_readTest 53 = .ok (.ireturn, 1) := by decide +kernel
theorem dX3_readTest_54 : decode cX3_readTest 54 = .ok (.aload_n 0, 1) := by decide +kernel
theorem dX3_readTest_55 : decode cX3_readTest 55 = .ok (.iload_n 3, 1) := by decide +kernel
theorem dX3_readTest_56 : decode cX3_readTest 56 = .ok (.bipush 10, 2) := by decide +kernel
theorem dX3_readTest_58 : decode cX3_readTest 58 = .ok (.invokevirtual 97, 3) := by decide +kernel
theorem dX3_readTest_61 : decode cX3_readTest 61 = .ok (.iinc 2 1, 3) := by decide +kernel
theorem dX3_readTest_64 : decode cX3_readTest 64 = .ok (.goto (-52), 3) := by decide +kernel
theorem dX3_readTest_67 : decode cX3_readTest 67 = .ok (.iconst 1, 1) := by decide +kernel
theorem dX3_readTest_68 : decode cX3_readTest 68 = .ok (.ireturn, 1) := by decide +kernel
theorem dX3_readBoth_0 : decode cX3_readBoth 0 = .ok (.aload_n 0, 1) := by decide +kernel
theorem dX3_readBoth_1 : decode cX3_readBoth 1 = .ok (.iload_n 1, 1) := by decide +kernel
theorem dX3_readBoth_2 : decode cX3_readBoth 2 = .ok (.invokevirtual 100, 3) := by decide +kernel
theorem dX3_readBoth_5 : decode cX3_readBoth 5 = .ok (.ifCond .ne 5, 3) := by decide +kernel
theorem dX3_readBoth_8 : decode cX3_readBoth 8 = .ok (.iconst 0, 1) := by decide +kernel
theorem dX3_readBoth_9 : decode cX3_readBoth 9 = .ok (.ireturn, 1) := by decide +kernel
theorem dX3_readBoth_10 : decode cX3_readBoth 10 = .ok (.iconst 0, 1) := by decide +kernel
theorem dX3_readBoth_11 : decode cX3_readBoth 11 = .ok (.istore_n 2, 1) := by decide +kernel
theorem dX3_readBoth_12 : decode cX3_readBoth 12 = .ok (.iload_n 2, 1) := by decide +kernel
theorem dX3_readBoth_13 : decode cX3_readBoth 13 = .ok (.sipush 400, 3) := by decide +kernel
theorem dX3_readBoth_16 : decode cX3_readBoth 16 = .ok (.if_icmp .ge 51, 3) := by decide +kernel
theorem dX3_readBoth_19 : decode cX3_readBoth 19 = .ok (.aload_n 0, 1) := by decide +kernel
theorem dX3_readBoth_20 : decode cX3_readBoth 20 = .ok (.ldc 103, 2) := by decide +kernel
theorem dX3_readBoth_22 : decode cX3_readBoth 22 = .ok (.invokevirtual 71, 3) := by decide +kernel
theorem dX3_readBoth_25 : decode cX3_readBoth 25 = .ok (.ifCond .eq 42, 3) := by decide +kernel
theorem dX3_readBoth_28 : decode cX3_readBoth 28 = .ok (.aload_n 0, 1) := by decide +kernel
theorem dX3_readBoth_29 : decode cX3_readBoth 29 = .ok (.getfield 20, 3) := by decide +kernel
theorem dX3_readBoth_32 : decode cX3_readBoth 32 = .ok (.istore_n 3, 1) := by decide +kernel
theorem dX3_readBoth_33 : decode cX3_readBoth 33 = .ok (.aload_n 0, 1) := by decide +kernel
theorem dX3_readBoth_34 : decode cX3_readBoth 34 = .ok (.bipush 11, 2) := by decide +kernel
theorem dX3_readBoth_36 : decode cX3_readBoth 36 = .ok (.iconst 0, 1) := by decide +kernel
theorem dX3_readBoth_37 : decode cX3_readBoth 37 = .ok (.invokevirtual 93, 3) := by decide +kernel
theorem dX3_readBoth_40 : decode cX3_readBoth 40 = .ok (.aload_n 0, 1) := by decide +kernel
theorem dX3_readBoth_41 : decode cX3_readBoth 41 = .ok (.invokevirtual 46, 3) := by decide +kernel
theorem dX3_readBoth_44 : decode cX3_readBoth 44 = .ok (.aload_n 0, 1) := by decide +kernel
theorem dX3_readBoth_45 : decode cX3_readBoth 45 = .ok (.iload_n 1, 1) := by decide +kernel
theorem dX3_readBoth_46 : decode cX3_readBoth 46 = .ok (.invokevirtual 100, 3) := by decide +kernel
theorem dX3_readBoth_49 : decode cX3_readBoth 49 = .ok (.ifCond .ne 5, 3) := by decide +kernel
theorem dX3_readBoth_52 : decode cX3_readBoth 52 = .ok (.iconst 0, 1) := by decide +kernel
theorem dX3_readBoth_53 : decode cX3_readBoth 53 = .ok (.ireturn, 1) := by decide +kernel
theorem dX3_readBoth_54 : decode cX3_readBoth 54 = .ok (.aload_n 0, 1) := by decide +kernel
theorem dX3_readBoth_55 : decode cX3_readBoth 55 = .ok (.iload_n 3, 1) := by decide +kernel
theorem dX3_readBoth_56 : decode cX3_readBoth 56 = .ok (.bipush 11, 2) := by decide +kernel
theorem dX3_readBoth_58 : decode cX3_readBoth 58 = .ok (.invokevirtual 97, 3) := by decide +kernel
theorem dX3_readBoth_61 : decode cX3_readBoth 61 = .ok (.iinc 2 1, 3) := by decide +kernel
theorem dX3_readBoth_64 : decode cX3_readBoth 64 = .ok (.goto (-52), 3) := by decide +kernel
theorem dX3_readBoth_67 : decode cX3_readBoth 67 = .ok (.iconst 1, 1) := by decide +kernel
theorem dX3_readBoth_68 : decode cX3_readBoth 68 = .ok (.ireturn, 1) := by decide +kernel
theorem dX3_readPlain_0 : decode cX3_readPlain 0 = .ok (.iconst 0, 1) := by decide +kernel
theorem dX3_readPlain_1 : decode cX3_readPlain 1 = .ok (.istore_n 2, 1) := by decide +kernel
theorem dX3_readPlain_2 : decode cX3_readPlain 2 = .ok (.iconst 0, 1) := by decide +kernel
theorem dX3_readPlain_3 : decode cX3_readPlain 3 = .ok (.istore_n 3, 1) := by decide +kernel
theorem dX3_readPlain_4 : decode cX3_readPlain 4 = .ok (.iload_n 3, 1) := by decide +kernel
theorem dX3_readPlain_5 : decode cX3_readPlain 5 = .ok (.sipush 400, 3) := by decide +kernel
theorem dX3_readPlain_8 : decode cX3_readPlain 8 = .ok (.if_icmp .ge 32, 3) := by decide +kernel
theorem dX3_readPlain_11 : decode cX3_readPlain 11 = .ok (.aload_n 0, 1) := by decide +kernel
theorem dX3_readPlain_12 : decode cX3_readPlain 12 = .ok (.ldc 105, 2) := by decide +kernel
theorem dX3_readPlain_14 : decode cX3_readPlain 14 = .ok (.invokevirtual 71, 3) := by decide +kernel
theorem dX3_readPlain_17 : decode cX3_readPlain 17 = .ok (.ifCond .eq 23, 3) := by decide +kernel
theorem dX3_readPlain_20 : decode cX3_readPlain 20 = .ok (.iload_n 2, 1) := by decide +kernel
theorem dX3_readPlain_21 : decode cX3_readPlain 21 = .ok (.ifCond .ne 7, 3) := by decide +kernel
theorem dX3_readPlain_24 : decode cX3_readPlain 24 = .ok (.iconst 1, 1) := by decide +kernel
theorem dX3_readPlain_25 : decode cX3_readPlain 25 = .ok (.goto 4, 3) := by decide +kernel
theorem dX3_readPlain_28 : decode cX3_readPlain 28 = .ok (.iconst 0, 1) := by decide +kernel
theorem dX3_readPlain_29 : decode cX3_readPlain 29 = .ok (.istore_n 2, 1) := by decide +kernel
theorem dX3_readPlain_30 : decode cX3_readPlain 30 = .ok (.aload_n 0, 1) := by decide +kernel
theorem dX3_readPlain_31 : decode cX3_readPlain 31 = .ok (.invokevirtual 46, 3) := by decide +kernel
theorem dX3_readPlain_34 : decode cX3_readPlain 34 = .ok (.iinc 3 1, 3) := by decide +kernel
theorem dX3_readPlain_37 : decode cX3_readPlain 37 = .ok (.goto (-33), 3) := by decide +kernel
theorem dX3_readPlain_40 : decode cX3_readPlain 40 = .ok (.aload_n 0, 1) := by decide +kernel
theorem dX3_readPlain_41 : decode cX3_readPlain 41 = .ok (.bipush 40, 2) := by decide +kernel
theorem dX3_readPlain_43 : decode cX3_readPlain 43 = .ok (.invokevirtual 62, 3) := by decide +kernel
theorem dX3_readPlain_46 : decode cX3_readPlain 46 = .ok (.ifCond .eq 13, 3) := by decide +kernel
theorem dX3_readPlain_49 : decode cX3_readPlain 49 = .ok (.aload_n 0, 1) := by decide +kernel
theorem dX3_readPlain_50 : decode cX3_readPlain 50 = .ok (.iload_n 1, 1) := by decide +kernel
theorem dX3_readPlain_51 : decode cX3_readPlain 51 = .ok (.invokevirtual 107, 3) := by decide +kernel
theorem dX3_readPlain_54 : decode cX3_readPlain 54 = .ok (.ifCond .ne 50, 3) := by decide +kernel
theorem dX3_readPlain_57 : decode cX3_readPlain 57 = .ok (.iconst 0, 1) := by decide +kernel
theorem dX3_readPlain_58 : decode cX3_readPlain 58 = .ok (.ireturn, 1) := by decide +kernel
theorem dX3_readPlain_59 : decode cX3_readPlain 59 = .ok (.aload_n 0, 1) := by decide +kernel
theorem dX3_readPlain_60 : decode cX3_readPlain 60 = .ok (.iload_n 1, 1) := by decide +kernel
theorem dX3_readPlain_61 : decode cX3_readPlain 61 = .ok (.invokevirtual 77, 3) := by decide +kernel
theorem dX3_readPlain_64 : decode cX3_readPlain 64 = .ok (.ifCond .ne 5, 3) := by decide +kernel
theorem dX3_readPlain_67 : decode cX3_readPlain 67 = .ok (.iconst 0, 1) := by decide +kernel
theorem dX3_readPlain_68 : decode cX3_readPlain 68 = .ok (.ireturn, 1) := by decide +kernel
theorem dX3_readPlain_69 : decode cX3_readPlain 69 = .ok (.aload_n 0, 1) := by decide +kernel
theorem dX3_readPlain_70 : decode cX3_readPlain 70 = .ok (.invokevirtual 110, 3) := by decide +kernel
theorem dX3_readPlain_73 : decode cX3_readPlain 73 = .ok (.istore_n 3, 1) := by decide +kernel
theorem dX3_readPlain_74 : decode cX3_readPlain 74 = .ok (.iload_n 3, 1) := by decide +kernel
theorem dX3_readPlain_75 : decode cX3_readPlain 75 = .ok (.iconst (-1), 1) := by decide +kernel
theorem dX3_readPlain_76 : decode cX3_readPlain 76 = .ok (.if_icmp .ne 8, 3) := by decide +kernel
theorem dX3_readPlain_79 : decode cX3_readPlain 79 = .ok (.aload_n 0, 1) := by decide +kernel
theorem dX3_readPlain_80 : decode cX3_readPlain 80 = .ok (.invokevirtual 66, 3) := by decide +kernel
theorem dX3_readPlain_83 : decode cX3_readPlain 83 = .ok (.ireturn, 1) := by decide +kernel
theorem dX3_readPlain_84 : decode cX3_readPlain 84 = .ok (.aload_n 0, 1) := by decide +kernel
theorem dX3_readPlain_85 : decode cX3_readPlain 85 = .ok (.invokevirtual 46, 3) := by decide +kernel
theorem dX3_readPlain_88 : decode cX3_readPlain 88 = .ok (.aload_n 0, 1) := by decide +kernel
theorem dX3_readPlain_89 : decode cX3_readPlain 89 = .ok (.iload_n 1, 1) := by decide +kernel
theorem dX3_readPlain_90 : decode cX3_readPlain 90 = .ok (.invokevirtual 77, 3) := by decide +kernel
theorem dX3_readPlain_93 : decode cX3_readPlain 93 = .ok (.ifCond .ne 5, 3) := by decide +kernel
theorem dX3_readPlain_96 : decode cX3_readPlain 96 = .ok (.iconst 0, 1) := by decide +kernel
theorem dX3_readPlain_97 : decode cX3_readPlain 97 = .ok (.ireturn, 1) := by decide +kernel
theorem dX3_readPlain_98 : decode cX3_readPlain 98 = .ok (.aload_n 0, 1) := by decide +kernel
theorem dX3_readPlain_99 : decode cX3_readPlain 99 = .ok (.iload_n 3, 1) := by decide +kernel
theorem dX3_readPlain_100 : decode cX3_readPlain 100 = .ok (.iconst 0, 1) := by decide +kernel
theorem dX3_readPlain_101 : decode cX3_readPlain 101 = .ok (.invokevirtual 93, 3) := by decide +kernel
theorem dX3_readPlain_104 : decode cX3_readPlain 104 = .ok (.iload_n 2, 1) := by decide +kernel
theorem dX3_readPlain_105 : decode cX3_readPlain 105 = .ok (.ifCond .eq 10, 3) := by decide +kernel
theorem dX3_readPlain_108 : decode cX3_readPlain 108 = .ok (.aload_n 0, 1) := by decide +kernel
theorem dX3_readPlain_109 : decode cX3_readPlain 109 = .ok (.bipush 9, 2) := by decide +kernel
theorem dX3_readPlain_111 : decode cX3_readPlain 111 = .ok (.iconst 0, 1) := by decide +kernel
theorem dX3_readPlain_112 : decode cX3_readPlain 112 = .ok (.invokevirtual 93, 3) := by decide +kernel
theorem dX3_readPlain_115 : decode cX3_readPlain 115 = .ok (.iconst 1, 1) := by decide +kernel
theorem dX3_readPlain_116 : decode cX3_readPlain 116 = .ok (.ireturn, 1) := by decide +kernel
theorem dX3_readBracketed_0 : decode cX3_readBracketed 0 = .ok (.iload_n 1, 1) := by decide +kernel
theorem dX3_readBracketed_1 : decode cX3_readBracketed 1 = .ok (.bipush 8, 2) := by decide +kernel
theorem dX3_readBracketed_3 : decode cX3_readBracketed 3 = .ok (.if_icmp .lt 8, 3) := by decide +kernel
theorem dX3_readBracketed_6 : decode cX3_readBracketed 6 = .ok (.aload_n 0, 1) := by decide +kernel
theorem dX3_readBracketed_7 : decode cX3_readBracketed 7 = .ok (.invokevirtual 66, 3) := by decide +kernel
theorem dX3_readBracketed_10 : decode cX3_readBracketed 10 = .ok (.ireturn, 1) := by decide +kernel
theorem dX3_readBracketed_11 : decode cX3_readBracketed 11 = .ok (.aload_n 0, 1) := by decide +kernel
theorem dX3_readBracketed_12 : decode cX3_readBracketed 12 = .ok (.invokevirtual 46, 3) := by decide +kernel
theorem dX3_readBracketed_15 : decode cX3_readBracketed 15 = .ok (.aload_n 0, 1) := by decide +kernel
theorem dX3_readBracketed_16 : decode cX3_readBracketed 16 = .ok (.iload_n 1, 1) := by decide +kernel
theorem dX3_readBracketed_17 : decode cX3_readBracketed 17 = .ok (.iconst 1, 1) := by decide +kernel
theorem dX3_readBracketed_18 : decode cX3_readBracketed 18 = .ok (.iadd, 1) := by decide +kernel
theorem dX3_readBracketed_19 : decode cX3_readBracketed 19 = .ok (.invokevirtual 83, 3) := by decide +kernel
theorem dX3_readBracketed_22 : decode cX3_readBracketed 22 = .ok (.ifCond .eq 16, 3) := by decide +kernel
theorem dX3_readBracketed_25 : decode cX3_readBracketed 25 = .ok (.aload_n 0, 1) := by decide +kernel
theorem dX3_readBracketed_26 : decode cX3_readBracketed 26 = .ok (.bipush 41, 2) := by decide +kernel
theorem dX3_readBracketed_28 : decode cX3_readBracketed 28 = .ok (.invokevirtual 114, 3) := by decide +kernel
theorem dX3_readBracketed_31 : decode cX3_readBracketed 31 = .ok (.ifCond .eq 7, 3) := by decide +kernel
theorem dX3_readBracketed_34 : decode cX3_readBracketed 34 = .ok (.iconst 1, 1) := by decide +kernel
theorem dX3_readBracketed_35 : decode cX3_readBracketed 35 = .ok (.goto 4, 3) := by decide +kernel
theorem dX3_readBracketed_38 : decode cX3_readBracketed 38 = .ok (.iconst 0, 1) := by decide +kernel
theorem dX3_readBracketed_39 : decode cX3_readBracketed 39 = .ok (.ireturn, 1) := by decide +kernel
theorem dX3_comparisonHere_0 : decode cX3_comparisonHere 0 = .ok (.aload_n 0, 1) := by decide +kernel
theorem dX3_comparisonHere_1 : decode cX3_comparisonHere 1 = .ok (.bipush 60, 2) := by decide +kernel
theorem dX3_comparisonHere_3 : decode cX3_comparisonHere 3 = .ok (.invokevirtual 62, 3) := by decide +kernel
theorem dX3_comparisonHere_6 : decode cX3_comparisonHere 6 = .ok (.ifCond .eq 8, 3) := by decide +kernel
theorem dX3_comparisonHere_9 : decode cX3_comparisonHere 9 = .ok (.bipush 6, 2) := by decide +kernel
theorem dX3_comparisonHere_11 : decode cX3_comparisonHere 11 = .ok (.goto 32, 3) := by decide +kernel
theorem dX3_comparisonHere_14 : decode cX3_comparisonHere 14 = .ok (.aload_n 0, 1) := by decide +kernel
theorem dX3_comparisonHere_15 : decode cX3_comparisonHere 15 = .ok (.bipush 62, 2) := by decide +kernel
theorem dX3_comparisonHere_17 : decode cX3_comparisonHere 17 = .ok (.invokevirtual 62, 3) := by decide +kernel
theorem dX3_comparisonHere_20 : decode cX3_comparisonHere 20 = .ok (.ifCond .eq 8, 3) := by decide +kernel
theorem dX3_comparisonHere_23 : decode cX3_comparisonHere 23 = .ok (.bipush 7, 2) := by decide +kernel
theorem dX3_comparisonHere_25 : decode cX3_comparisonHere 25 = .ok (.goto 18, 3) := by decide +kernel
theorem dX3_comparisonHere_28 : decode cX3_comparisonHere 28 = .ok (.aload_n 0, 1) := by decide +kernel
theorem dX3_comparisonHere_29 : decode cX3_comparisonHere 29 = .ok (.bipush 61, 2) := by decide +kernel
theorem dX3_comparisonHere_31 : decode cX3_comparisonHere 31 = .ok (.invokevirtual 62, 3) := by decide +kernel
theorem dX3_comparisonHere_34 : decode cX3_comparisonHere 34 = .ok (.ifCond .eq 8, 3) := by decide +kernel
theorem dX3_comparisonHere_37 : decode cX3_comparisonHere 37 = .ok (.bipush 8, 2) := by decide +kernel
theorem dX3_comparisonHere_39 : decode cX3_comparisonHere 39 = .ok (.goto 4, 3) := by decide +kernel
theorem dX3_comparisonHere_42 : decode cX3_comparisonHere 42 = .ok (.iconst (-1), 1) := by decide +kernel
theorem dX3_comparisonHere_43 : decode cX3_comparisonHere 43 = .ok (.ireturn, 1) := by decide +kernel
theorem dX3_readSum_0 : decode cX3_readSum 0 = .ok (.aload_n 0, 1) := by decide +kernel
theorem dX3_readSum_1 : decode cX3_readSum 1 = .ok (.iload_n 1, 1) := by decide +kernel
theorem dX3_readSum_2 : decode cX3_readSum 2 = .ok (.invokevirtual 117, 3) := by decide +kernel
theorem dX3_readSum_5 : decode cX3_readSum 5 = .ok (.ifCond .ne 5, 3) := by decide +kernel
theorem dX3_readSum_8 : decode cX3_readSum 8 = .ok (.iconst 0, 1) := by decide +kernel
theorem dX3_readSum_9 : decode cX3_readSum 9 = .ok (.ireturn, 1) := by decide +kernel
theorem dX3_readSum_10 : decode cX3_readSum 10 = .ok (.iconst 0, 1) := by decide +kernel
theorem dX3_readSum_11 : decode cX3_readSum 11 = .ok (.istore_n 2, 1) := by decide +kernel
theorem dX3_readSum_12 : decode cX3_readSum 12 = .ok (.iload_n 2, 1) := by decide +kernel
theorem dX3_readSum_13 : decode cX3_readSum 13 = .ok (.sipush 400, 3) := by decide +kernel
theorem dX3_readSum_16 : decode cX3_readSum 16 = .ok (.if_icmp .ge 62, 3) := by decide +kernel
theorem dX3_readSum_19 : decode cX3_readSum 19 = .ok (.aload_n 0, 1) := by decide +kernel
theorem dX3_readSum_20 : decode cX3_readSum 20 = .ok (.bipush 43, 2) := by decide +kernel
theorem dX3_readSum_22 : decode cX3_readSum 22 = .ok (.invokevirtual 62, 3) := by decide +kernel
theorem dX3_readSum_25 : decode cX3_readSum 25 = .ok (.ifCond .ne 12, 3) := by decide +kernel
theorem dX3_readSum_28 : decode cX3_readSum 28 = .ok (.aload_n 0, 1) := by decide +kernel
theorem dX3_readSum_29 : decode cX3_readSum 29 = .ok (.bipush 45, 2) := by decide +kernel
theorem dX3_readSum_31 : decode cX3_readSum 31 = .ok (.invokevirtual 62, 3) := by decide +kernel
theorem dX3_readSum_34 : decode cX3_readSum 34 = .ok (.ifCond .eq 44, 3) := by decide +kernel
theorem dX3_readSum_37 : decode cX3_readSum 37 = .ok (.aload_n 0, 1) := by decide +kernel
theorem dX3_readSum_38 : decode cX3_readSum 38 = .ok (.bipush 43, 2) := by decide +kernel
theorem dX3_readSum_40 : decode cX3_readSum 40 = .ok (.invokevirtual 62, 3) := by decide +kernel
theorem dX3_readSum_43 : decode cX3_readSum 43 = .ok (.ifCond .eq 7, 3) := by decide +kernel
theorem dX3_readSum_46 : decode cX3_readSum 46 = .ok (.iconst 2, 1) := by decide +kernel
theorem dX3_readSum_47 : decode cX3_readSum 47 = .ok (.goto 4, 3) := by decide +kernel
theorem dX3_readSum_50 : decode cX3_readSum 50 = .ok (.iconst 3, 1) := by decide +kernel
theorem dX3_readSum_51 : decode cX3_readSum 51 = .ok (.istore_n 3, 1) := by decide +kernel
theorem dX3_readSum_52 : decode cX3_readSum 52 = .ok (.aload_n 0, 1) := by decide +kernel
theorem dX3_readSum_53 : decode cX3_readSum 53 = .ok (.invokevirtual 46, 3) := by decide +kernel
theorem dX3_readSum_56 : decode cX3_readSum 56 = .ok (.aload_n 0, 1) := by decide +kernel
theorem dX3_readSum_57 : decode cX3_readSum 57 = .ok (.iload_n 1, 1) := by decide +kernel
theorem dX3_readSum_58 : decode cX3_readSum 58 = .ok (.invokevirtual 117, 3) := by decide +kernel
theorem dX3_readSum_61 : decode cX3_readSum 61 = .ok (.ifCond .ne 5, 3) := by decide +kernel
theorem dX3_readSum_64 : decode cX3_readSum 64 = .ok (.iconst 0, 1) := by decide +kernel
theorem dX3_readSum_65 : decode cX3_readSum 65 = .ok (.ireturn, 1) := by decide +kernel
theorem dX3_readSum_66 : decode cX3_readSum 66 = .ok (.aload_n 0, 1) := by decide +kernel
theorem dX3_readSum_67 : decode cX3_readSum 67 = .ok (.iload_n 3, 1) := by decide +kernel
theorem dX3_readSum_68 : decode cX3_readSum 68 = .ok (.iconst 0, 1) := by decide +kernel
theorem dX3_readSum_69 : decode cX3_readSum 69 = .ok (.invokevirtual 93, 3) := by decide +kernel
theorem dX3_readSum_72 : decode cX3_readSum 72 = .ok (.iinc 2 1, 3) := by decide +kernel
theorem dX3_readSum_75 : decode cX3_readSum 75 = .ok (.goto (-63), 3) := by decide +kernel
theorem dX3_readSum_78 : decode cX3_readSum 78 = .ok (.iconst 1, 1) := by decide +kernel
theorem dX3_readSum_79 : decode cX3_readSum 79 = .ok (.ireturn, 1) := by decide +kernel
theorem dX3_readTerm_0 : decode cX3_readTerm 0 = .ok (.aload_n 0, 1) := by decide +kernel
theorem dX3_readTerm_1 : decode cX3_readTerm 1 = .ok (.iload_n 1, 1) := by decide +kernel
theorem dX3_readTerm_2 : decode cX3_readTerm 2 = .ok (.invokevirtual 120, 3) := by decide +kernel
theorem dX3_readTerm_5 : decode cX3_readTerm 5 = .ok (.ifCond .ne 5, 3) := by decide +kernel
theorem dX3_readTerm_8 : decode cX3_readTerm 8 = .ok (.iconst 0, 1) := by decide +kernel
theorem dX3_readTerm_9 : decode cX3_readTerm 9 = .ok (.ireturn, 1) := by decide +kernel
theorem dX3_readTerm_10 : decode cX3_readTerm 10 = .ok (.iconst 0, 1) := by decide +kernel
theorem dX3_readTerm_11 : decode cX3_readTerm 11 = .ok (.istore_n 2, 1) := by decide +kernel
theorem dX3_readTerm_12 : decode cX3_readTerm 12 = .ok (.iload_n 2, 1) := by decide +kernel
theorem dX3_readTerm_13 : decode cX3_readTerm 13 = .ok (.sipush 400, 3) := by decide +kernel
theorem dX3_readTerm_16 : decode cX3_readTerm 16 = .ok (.if_icmp .ge 62, 3) := by decide +kernel
theorem dX3_readTerm_19 : decode cX3_readTerm 19 = .ok (.aload_n 0, 1) := by decide +kernel
theorem dX3_readTerm_20 : decode cX3_readTerm 20 = .ok (.bipush 42, 2) := by decide +kernel
theorem dX3_readTerm_22 : decode cX3_readTerm 22 = .ok (.invokevirtual 62, 3) := by decide +kernel
theorem dX3_readTerm_25 : decode cX3_readTerm 25 = .ok (.ifCond .ne 12, 3) := by decide +kernel
theorem dX3_readTerm_28 : decode cX3_readTerm 28 = .ok (.aload_n 0, 1) := by decide +kernel
theorem dX3_readTerm_29 : decode cX3_readTerm 29 = .ok (.bipush 47, 2) := by decide +kernel
theorem dX3_readTerm_31 : decode cX3_readTerm 31 = .ok (.invokevirtual 62, 3) := by decide +kernel
theorem dX3_readTerm_34 : decode cX3_readTerm 34 = .ok (.ifCond .eq 44, 3) := by decide +kernel
theorem dX3_readTerm_37 : decode cX3_readTerm 37 = .ok (.aload_n 0, 1) := by decide +kernel
theorem dX3_readTerm_38 : decode cX3_readTerm 38 = .ok (.bipush 42, 2) := by decide +kernel
theorem dX3_readTerm_40 : decode cX3_readTerm 40 = .ok (.invokevirtual 62, 3) := by decide +kernel
theorem dX3_readTerm_43 : decode cX3_readTerm 43 = .ok (.ifCond .eq 7, 3) := by decide +kernel
theorem dX3_readTerm_46 : decode cX3_readTerm 46 = .ok (.iconst 4, 1) := by decide +kernel
theorem dX3_readTerm_47 : decode cX3_readTerm 47 = .ok (.goto 4, 3) := by decide +kernel
theorem dX3_readTerm_50 : decode cX3_readTerm 50 = .ok (.iconst 5, 1) := by decide +kernel
theorem dX3_readTerm_51 : decode cX3_readTerm 51 = .ok (.istore_n 3, 1) := by decide +kernel
theorem dX3_readTerm_52 : decode cX3_readTerm 52 = .ok (.aload_n 0, 1) := by decide +kernel
theorem dX3_readTerm_53 : decode cX3_readTerm 53 = .ok (.invokevirtual 46, 3) := by decide +kernel
theorem dX3_readTerm_56 : decode cX3_readTerm 56 = .ok (.aload_n 0, 1) := by decide +kernel
theorem dX3_readTerm_57 : decode cX3_readTerm 57 = .ok (.iload_n 1, 1) := by decide +kernel
theorem dX3_readTerm_58 : decode cX3_readTerm 58 = .ok (.invokevirtual 120, 3) := by decide +kernel
theorem dX3_readTerm_61 : decode cX3_readTerm 61 = .ok (.ifCond .ne 5, 3) := by decide +kernel
theorem dX3_readTerm_64 : decode cX3_readTerm 64 = .ok (.iconst 0, 1) := by decide +kernel
theorem dX3_readTerm_65 : decode cX3_readTerm 65 = .ok (.ireturn, 1) := by decide +kernel
theorem dX3_readTerm_66 : decode cX3_readTerm 66 = .ok (.aload_n 0, 1) := by decide +kernel
theorem dX3_readTerm_67 : decode cX3_readTerm 67 = .ok (.iload_n 3, 1) := by decide +kernel
theorem dX3_readTerm_68 : decode cX3_readTerm 68 = .ok (.iconst 0, 1) := by decide +kernel
theorem dX3_readTerm_69 : decode cX3_readTerm 69 = .ok (.invokevirtual 93, 3) := by decide +kernel
theorem dX3_readTerm_72 : decode cX3_readTerm 72 = .ok (.iinc 2 1, 3) := by decide +kernel
theorem dX3_readTerm_75 : decode cX3_readTerm 75 = .ok (.goto (-63), 3) := by decide +kernel
theorem dX3_readTerm_78 : decode cX3_readTerm 78 = .ok (.iconst 1, 1) := by decide +kernel
theorem dX3_readTerm_79 : decode cX3_readTerm 79 = .ok (.ireturn, 1) := by decide +kernel
theorem dX3_readPart_0 : decode cX3_readPart 0 = .ok (.aload_n 0, 1) := by decide +kernel
theorem dX3_readPart_1 : decode cX3_readPart 1 = .ok (.bipush 91, 2) := by decide +kernel
theorem dX3_readPart_3 : decode cX3_readPart 3 = .ok (.invokevirtual 62, 3) := by decide +kernel
theorem dX3_readPart_6 : decode cX3_readPart 6 = .ok (.ifCond .eq 43, 3) := by decide +kernel
theorem dX3_readPart_9 : decode cX3_readPart 9 = .ok (.iload_n 1, 1) := by decide +kernel
theorem dX3_readPart_10 : decode cX3_readPart 10 = .ok (.bipush 8, 2) := by decide +kernel
theorem dX3_readPart_12 : decode cX3_readPart 12 = .ok (.if_icmp .lt 8, 3) := by decide +kernel
theorem dX3_readPart_15 : decode cX3_readPart 15 = .ok (.aload_n 0, 1) := by decide +kernel
theorem dX3_readPart_16 : decode cX3_readPart 16 = .ok (.invokevirtual 66, 3) := by decide +kernel
theorem dX3_readPart_19 : decode cX3_readPart 19 = .ok (.ireturn, 1) := by decide +kernel
theorem dX3_readPart_20 : decode cX3_readPart 20 = .ok (.aload_n 0, 1) := by decide +kernel
theorem dX3_readPart_21 : decode cX3_readPart 21 = .ok (.invokevirtual 46, 3) := by decide +kernel
theorem dX3_readPart_24 : decode cX3_readPart 24 = .ok (.aload_n 0, 1) := by decide +kernel
theorem dX3_readPart_25 : decode cX3_readPart 25 = .ok (.iload_n 1, 1) := by decide +kernel
theorem dX3_readPart_26 : decode cX3_readPart 26 = .ok (.iconst 1, 1) := by decide +kernel
theorem dX3_readPart_27 : decode cX3_readPart 27 = .ok (.iadd, 1) := by decide +kernel
theorem dX3_readPart_28 : decode cX3_readPart 28 = .ok (.invokevirtual 77, 3) := by decide +kernel
theorem dX3_readPart_31 : decode cX3_readPart 31 = .ok (.ifCond .eq 16, 3) := by decide +kernel
theorem dX3_readPart_34 : decode cX3_readPart 34 = .ok (.aload_n 0, 1) := by decide +kernel
theorem dX3_readPart_35 : decode cX3_readPart 35 = .ok (.bipush 93, 2) := by decide +kernel
theorem dX3_readPart_37 : decode cX3_readPart 37 = .ok (.invokevirtual 114, 3) := by decide +kernel
theorem dX3_readPart_40 : decode cX3_readPart 40 = .ok (.ifCond .eq 7, 3) := by decide +kernel
theorem dX3_readPart_43 : decode cX3_readPart 43 = .ok (.iconst 1, 1) := by decide +kernel
theorem dX3_readPart_44 : decode cX3_readPart 44 = .ok (.goto 4, 3) := by decide +kernel
theorem dX3_readPart_47 : decode cX3_readPart 47 = .ok (.iconst 0, 1) := by decide +kernel
theorem dX3_readPart_48 : decode cX3_readPart 48 = .ok (.ireturn, 1) := by decide +kernel
theorem dX3_readPart_49 : decode cX3_readPart 49 = .ok (.aload_n 0, 1) := by decide +kernel
theorem dX3_readPart_50 : decode cX3_readPart 50 = .ok (.getfield 30, 3) := by decide +kernel
theorem dX3_readPart_53 : decode cX3_readPart 53 = .ok (.iconst 2, 1) := by decide +kernel
theorem dX3_readPart_54 : decode cX3_readPart 54 = .ok (.if_icmp .ne 7, 3) := by decide +kernel
theorem dX3_readPart_57 : decode cX3_readPart 57 = .ok (.iconst 0, 1) := by decide +kernel
theorem dX3_readPart_58 : decode cX3_readPart 58 = .ok (.goto 4, 3) := by decide +kernel
theorem dX3_readPart_61 : decode cX3_readPart 61 = .ok (.iconst 1, 1) := by decide +kernel
theorem dX3_readPart_62 : decode cX3_readPart 62 = .ok (.istore_n 2, 1) := by decide +kernel
theorem dX3_readPart_63 : decode cX3_readPart 63 = .ok (.aload_n 0, 1) := by decide +kernel
theorem dX3_readPart_64 : decode cX3_readPart 64 = .ok (.getfield 30, 3) := by decide +kernel
theorem dX3_readPart_67 : decode cX3_readPart 67 = .ok (.iconst 2, 1) := by decide +kernel
theorem dX3_readPart_68 : decode cX3_readPart 68 = .ok (.if_icmp .ne 10, 3) := by decide +kernel
theorem dX3_readPart_71 : decode cX3_readPart 71 = .ok (.aload_n 0, 1) := by decide +kernel
theorem dX3_readPart_72 : decode cX3_readPart 72 = .ok (.invokevirtual 123, 3) := by decide +kernel
theorem dX3_readPart_75 : decode cX3_readPart 75 = .ok (.goto 7, 3) := by decide +kernel
theorem dX3_readPart_78 : decode cX3_readPart 78 = .ok (.aload_n 0, 1) := by decide +kernel
theorem dX3_readPart_79 : decode cX3_readPart 79 = .ok (.invokevirtual 126, 3) := by decide +kernel
theorem dX3_readPart_82 : decode cX3_readPart 82 = .ok (.istore_n 3, 1) := by decide +kernel
theorem dX3_readPart_83 : decode cX3_readPart 83 = .ok (.iload_n 3, 1) := by decide +kernel
theorem dX3_readPart_84 : decode cX3_readPart 84 = .ok (.ifCond .lt 19, 3) := by decide +kernel
theorem dX3_readPart_87 : decode cX3_readPart 87 = .ok (.iload_n 3, 1) := by decide +kernel
theorem dX3_readPart_88 : decode cX3_readPart 88 = .ok (.sipush 1000, 3) := by decide +kernel
theorem dX3_readPart_91 : decode cX3_readPart 91 = .ok (.if_icmp .gt 12, 3) := by decide +kernel
theorem dX3_readPart_94 : decode cX3_readPart 94 = .ok (.aload_n 0, 1) := by decide +kernel
theorem dX3_readPart_95 : decode cX3_readPart 95 = .ok (.getfield 27, 3) := by decide +kernel
theorem dX3_readPart_98 : decode cX3_readPart 98 = .ok (.bipush 50, 2) := by decide +kernel
theorem dX3_readPart_100 : decode cX3_readPart 100 = .ok (.if_icmp .lt 8, 3) := by decide +kernel
theorem dX3_readPart_103 : decode cX3_readPart 103 = .ok (.aload_n 0, 1) := by decide +kernel
theorem dX3_readPart_104 : decode cX3_readPart 104 = .ok (.invokevirtual 66, 3) := by decide +kernel
theorem dX3_readPart_107 : decode cX3_readPart 107 = .ok (.ireturn, 1) := by decide +kernel
theorem dX3_readPart_108 : decode cX3_readPart 108 = .ok (.aload_n 0, 1) := by decide +kernel
theorem dX3_readPart_109 : decode cX3_readPart 109 = .ok (.dup, 1) := by decide +kernel
theorem dX3_readPart_110 : decode cX3_readPart 110 = .ok (.getfield 27, 3) := by decide +kernel
theorem dX3_readPart_113 : decode cX3_readPart 113 = .ok (.iconst 1, 1) := by decide +kernel
theorem dX3_readPart_114 : decode cX3_readPart 114 = .ok (.iadd, 1) := by decide +kernel
theorem dX3_readPart_115 : decode cX3_readPart 115 = .ok (.putfield 27, 3) := by decide +kernel
theorem dX3_readPart_118 : decode cX3_readPart 118 = .ok (.aload_n 0, 1) := by decide +kernel
theorem dX3_readPart_119 : decode cX3_readPart 119 = .ok (.iload_n 2, 1) := by decide +kernel
theorem dX3_readPart_120 : decode cX3_readPart 120 = .ok (.iload_n 3, 1) := by decide +kernel
theorem dX3_readPart_121 : decode cX3_readPart 121 = .ok (.invokevirtual 93, 3) := by decide +kernel
theorem dX3_readPart_124 : decode cX3_readPart 124 = .ok (.aload_n 0, 1) := by decide +kernel
theorem dX3_readPart_125 : decode cX3_readPart 125 = .ok (.invokevirtual 46, 3) := by decide +kernel
theorem dX3_readPart_128 : decode cX3_readPart 128 = .ok (.iconst 1, 1) := by decide +kernel
theorem dX3_readPart_129 : decode cX3_readPart 129 = .ok (.ireturn, 1) := by decide +kernel
theorem dX3_takes_0 : decode cX3_takes 0 = .ok (.aload_n 0, 1) := by decide +kernel
theorem dX3_takes_1 : decode cX3_takes 1 = .ok (.iload_n 1, 1) := by decide +kernel
theorem dX3_takes_2 : decode cX3_takes 2 = .ok (.invokevirtual 62, 3) := by decide +kernel
theorem dX3_takes_5 : decode cX3_takes 5 = .ok (.ifCond .ne 8, 3) := by decide +kernel
theorem dX3_takes_8 : decode cX3_takes 8 = .ok (.aload_n 0, 1) := by decide +kernel
theorem dX3_takes_9 : decode cX3_takes 9 = .ok (.invokevirtual 66, 3) := by decide +kernel
theorem dX3_takes_12 : decode cX3_takes 12 = .ok (.ireturn, 1) := by decide +kernel
theorem dX3_takes_13 : decode cX3_takes 13 = .ok (.aload_n 0, 1) := by decide +kernel
theorem dX3_takes_14 : decode cX3_takes 14 = .ok (.invokevirtual 46, 3) := by decide +kernel
theorem dX3_takes_17 : decode cX3_takes 17 = .ok (.iconst 1, 1) := by decide +kernel
theorem dX3_takes_18 : decode cX3_takes 18 = .ok (.ireturn, 1) := by decide +kernel
theorem dX3_numberHere_0 : decode cX3_numberHere 0 = .ok (.iconst 0, 1) := by decide +kernel
theorem dX3_numberHere_1 : decode cX3_numberHere 1 = .ok (.istore_n 1, 1) := by decide +kernel
theorem dX3_numberHere_2 : decode cX3_numberHere 2 = .ok (.aload_n 0, 1) := by decide +kernel
theorem dX3_numberHere_3 : decode cX3_numberHere 3 = .ok (.getfield 33, 3) := by decide +kernel
theorem dX3_numberHere_6 : decode cX3_numberHere 6 = .ok (.istore_n 2, 1) := by decide +kernel
theorem dX3_numberHere_7 : decode cX3_numberHere 7 = .ok (.iload_n 2, 1) := by decide +kernel
theorem dX3_numberHere_8 : decode cX3_numberHere 8 = .ok (.aload_n 0, 1) := by decide +kernel
theorem dX3_numberHere_9 : decode cX3_numberHere 9 = .ok (.getfield 36, 3) := by decide +kernel
theorem dX3_numberHere_12 : decode cX3_numberHere 12 = .ok (.if_icmp .ge 33, 3) := by decide +kernel
theorem dX3_numberHere_15 : decode cX3_numberHere 15 = .ok (.iload_n 1, 1) := by decide +kernel
theorem dX3_numberHere_16 : decode cX3_numberHere 16 = .ok (.bipush 10, 2) := by decide +kernel
theorem dX3_numberHere_18 : decode cX3_numberHere 18 = .ok (.imul, 1) := by decide +kernel
theorem dX3_numberHere_19 : decode cX3_numberHere 19 = .ok (.aload_n 0, 1) := by decide +kernel
theorem dX3_numberHere_20 : decode cX3_numberHere 20 = .ok (.getfield 42, 3) := by decide +kernel
theorem dX3_numberHere_23 : decode cX3_numberHere 23 = .ok (.getfield 129, 3) := by decide +kernel
theorem dX3_numberHere_26 : decode cX3_numberHere 26 = .ok (.iload_n 2, 1) := by decide +kernel
theorem dX3_numberHere_27 : decode cX3_numberHere 27 = .ok (.iaload, 1) := by decide +kernel
theorem dX3_numberHere_28 : decode cX3_numberHere 28 = .ok (.iadd, 1) := by decide +kernel
theorem dX3_numberHere_29 : decode cX3_numberHere 29 = .ok (.bipush 48, 2) := by decide +kernel
theorem dX3_numberHere_31 : decode cX3_numberHere 31 = .ok (.isub, 1) := by decide +kernel
theorem dX3_numberHere_32 : decode cX3_numberHere 32 = .ok (.sipush 1001, 3) := by decide +kernel
theorem dX3_numberHere_35 : decode cX3_numberHere 35 = .ok (.invokestatic 134, 3) := by decide +kernel
theorem dX3_numberHere_38 : decode cX3_numberHere 38 = .ok (.istore_n 1, 1) := by decide +kernel
theorem dX3_numberHere_39 : decode cX3_numberHere 39 = .ok (.iinc 2 1, 3) := by decide +kernel
theorem dX3_numberHere_42 : decode cX3_numberHere 42 = .ok (.goto (-35), 3) := by decide +kernel
theorem dX3_numberHere_45 : decode cX3_numberHere 45 = .ok (.iload_n 1, 1) := by decide +kernel
theorem dX3_numberHere_46 : decode cX3_numberHere 46 = .ok (.ireturn, 1) := by decide +kernel
theorem dX3_wordHere_0 : decode cX3_wordHere 0 = .ok (.aload_n 0, 1) := by decide +kernel
theorem dX3_wordHere_1 : decode cX3_wordHere 1 = .ok (.ldc 140, 2) := by decide +kernel
theorem dX3_wordHere_3 : decode cX3_wordHere 3 = .ok (.invokevirtual 71, 3) := by decide +kernel
theorem dX3_wordHere_6 : decode cX3_wordHere 6 = .ok (.ifCond .eq 7, 3) := by decide +kernel
theorem dX3_wordHere_9 : decode cX3_wordHere 9 = .ok (.iconst 0, 1) := by decide +kernel
theorem dX3_wordHere_10 : decode cX3_wordHere 10 = .ok (.goto 83, 3) := by decide +kernel
theorem dX3_wordHere_13 : decode cX3_wordHere 13 = .ok (.aload_n 0, 1) := by decide +kernel
theorem dX3_wordHere_14 : decode cX3_wordHere 14 = .ok (.ldc 142, 2) := by decide +kernel
theorem dX3_wordHere_16 : decode cX3_wordHere 16 = .ok (.invokevirtual 71, 3) := by decide +kernel
theorem dX3_wordHere_19 : decode cX3_wordHere 19 = .ok (.ifCond .eq 7, 3) := by decide +kernel
theorem dX3_wordHere_22 : decode cX3_wordHere 22 = .ok (.iconst 1, 1) := by decide +kernel
theorem dX3_wordHere_23 : decode cX3_wordHere 23 = .ok (.goto 70, 3) := by decide +kernel
theorem dX3_wordHere_26 : decode cX3_wordHere 26 = .ok (.aload_n 0, 1) := by decide +kernel
theorem dX3_wordHere_27 : decode cX3_wordHere 27 = .ok (.ldc 144, 2) := by decide +kernel
theorem dX3_wordHere_29 : decode cX3_wordHere 29 = .ok (.invokevirtual 71, 3) := by decide +kernel
theorem dX3_wordHere_32 : decode cX3_wordHere 32 = .ok (.ifCond .eq 7, 3) := by decide +kernel
theorem dX3_wordHere_35 : decode cX3_wordHere 35 = .ok (.iconst 2, 1) := by decide +kernel
theorem dX3_wordHere_36 : decode cX3_wordHere 36 = .ok (.goto 57, 3) := by decide +kernel
theorem dX3_wordHere_39 : decode cX3_wordHere 39 = .ok (.aload_n 0, 1) := by decide +kernel
theorem dX3_wordHere_40 : decode cX3_wordHere 40 = .ok (.ldc 146, 2) := by decide +kernel
theorem dX3_wordHere_42 : decode cX3_wordHere 42 = .ok (.invokevirtual 71, 3) := by decide +kernel
theorem dX3_wordHere_45 : decode cX3_wordHere 45 = .ok (.ifCond .eq 7, 3) := by decide +kernel
theorem dX3_wordHere_48 : decode cX3_wordHere 48 = .ok (.iconst 3, 1) := by decide +kernel
theorem dX3_wordHere_49 : decode cX3_wordHere 49 = .ok (.goto 44, 3) := by decide +kernel
theorem dX3_wordHere_52 : decode cX3_wordHere 52 = .ok (.aload_n 0, 1) := by decide +kernel
theorem dX3_wordHere_53 : decode cX3_wordHere 53 = .ok (.ldc 148, 2) := by decide +kernel
theorem dX3_wordHere_55 : decode cX3_wordHere 55 = .ok (.invokevirtual 71, 3) := by decide +kernel
theorem dX3_wordHere_58 : decode cX3_wordHere 58 = .ok (.ifCond .eq 7, 3) := by decide +kernel
theorem dX3_wordHere_61 : decode cX3_wordHere 61 = .ok (.iconst 4, 1) := by decide +kernel
theorem dX3_wordHere_62 : decode cX3_wordHere 62 = .ok (.goto 31, 3) := by decide +kernel
theorem dX3_wordHere_65 : decode cX3_wordHere 65 = .ok (.aload_n 0, 1) := by decide +kernel
theorem dX3_wordHere_66 : decode cX3_wordHere 66 = .ok (.ldc 150, 2) := by decide +kernel
theorem dX3_wordHere_68 : decode cX3_wordHere 68 = .ok (.invokevirtual 71, 3) := by decide +kernel
theorem dX3_wordHere_71 : decode cX3_wordHere 71 = .ok (.ifCond .eq 7, 3) := by decide +kernel
theorem dX3_wordHere_74 : decode cX3_wordHere 74 = .ok (.iconst 5, 1) := by decide +kernel
theorem dX3_wordHere_75 : decode cX3_wordHere 75 = .ok (.goto 18, 3) := by decide +kernel
theorem dX3_wordHere_78 : decode cX3_wordHere 78 = .ok (.aload_n 0, 1) := by decide +kernel
theorem dX3_wordHere_79 : decode cX3_wordHere 79 = .ok (.ldc 152, 2) := by decide +kernel
theorem dX3_wordHere_81 : decode cX3_wordHere 81 = .ok (.invokevirtual 71, 3) := by decide +kernel
theorem dX3_wordHere_84 : decode cX3_wordHere 84 = .ok (.ifCond .eq 8, 3) := by decide +kernel
theorem dX3_wordHere_87 : decode cX3_wordHere 87 = .ok (.bipush 6, 2) := by decide +kernel
theorem dX3_wordHere_89 : decode cX3_wordHere 89 = .ok (.goto 4, 3) := by decide +kernel
theorem dX3_wordHere_92 : decode cX3_wordHere 92 = .ok (.iconst (-1), 1) := by decide +kernel
theorem dX3_wordHere_93 : decode cX3_wordHere 93 = .ok (.ireturn, 1) := by decide +kernel
theorem dX3_isWord_0 : decode cX3_isWord 0 = .ok (.aload_n 0, 1) := by decide +kernel
theorem dX3_isWord_1 : decode cX3_isWord 1 = .ok (.getfield 30, 3) := by decide +kernel
theorem dX3_isWord_4 : decode cX3_isWord 4 = .ok (.iconst 1, 1) := by decide +kernel
theorem dX3_isWord_5 : decode cX3_isWord 5 = .ok (.if_icmp .ne 19, 3) := by decide +kernel
theorem dX3_isWord_8 : decode cX3_isWord 8 = .ok (.aload_n 0, 1) := by decide +kernel
theorem dX3_isWord_9 : decode cX3_isWord 9 = .ok (.getfield 36, 3) := by decide +kernel
theorem dX3_isWord_12 : decode cX3_isWord 12 = .ok (.aload_n 0, 1) := by decide +kernel
theorem dX3_isWord_13 : decode cX3_isWord 13 = .ok (.getfield 33, 3) := by decide +kernel
theorem dX3_isWord_16 : decode cX3_isWord 16 = .ok (.isub, 1) := by decide +kernel
theorem dX3_isWord_17 : decode cX3_isWord 17 = .ok (.aload_n 1, 1) := by decide +kernel
theorem dX3_isWord_18 : decode cX3_isWord 18 = .ok (.invokevirtual 154, 3) := by decide +kernel
theorem dX3_isWord_21 : decode cX3_isWord 21 = .ok (.if_icmp .eq 5, 3) := by decide +kernel
theorem dX3_isWord_24 : decode cX3_isWord 24 = .ok (.iconst 0, 1) := by decide +kernel
theorem dX3_isWord_25 : decode cX3_isWord 25 = .ok (.ireturn, 1) := by decide +kernel
theorem dX3_isWord_26 : decode cX3_isWord 26 = .ok (.iconst 0, 1) := by decide +kernel
theorem dX3_isWord_27 : decode cX3_isWord 27 = .ok (.istore_n 2, 1) := by decide +kernel
theorem dX3_isWord_28 : decode cX3_isWord 28 = .ok (.iload_n 2, 1) := by decide +kernel
theorem dX3_isWord_29 : decode cX3_isWord 29 = .ok (.aload_n 1, 1) := by decide +kernel
theorem dX3_isWord_30 : decode cX3_isWord 30 = .ok (.invokevirtual 154, 3) := by decide +kernel
theorem dX3_isWord_33 : decode cX3_isWord 33 = .ok (.if_icmp .ge 33, 3) := by decide +kernel
theorem dX3_isWord_36 : decode cX3_isWord 36 = .ok (.aload_n 0, 1) := by decide +kernel
theorem dX3_isWord_37 : decode cX3_isWord 37 = .ok (.getfield 42, 3) := by decide +kernel
theorem dX3_isWord_40 : decode cX3_isWord 40 = .ok (.getfield 129, 3) := by decide +kernel
theorem dX3_isWord_43 : decode cX3_isWord 43 = .ok (.aload_n 0, 1) := by decide +kernel
theorem dX3_isWord_44 : decode cX3_isWord 44 = .ok (.getfield 33, 3) := by decide +kernel
theorem dX3_isWord_47 : decode cX3_isWord 47 = .ok (.iload_n 2, 1) := by decide +kernel
theorem dX3_isWord_48 : decode cX3_isWord 48 = .ok (.iadd, 1) := by decide +kernel
theorem dX3_isWord_49 : decode cX3_isWord 49 = .ok (.iaload, 1) := by decide +kernel
theorem dX3_isWord_50 : decode cX3_isWord 50 = .ok (.aload_n 1, 1) := by decide +kernel
theorem dX3_isWord_51 : decode cX3_isWord 51 = .ok (.iload_n 2, 1) := by decide +kernel
theorem dX3_isWord_52 : decode cX3_isWord 52 = .ok (.invokevirtual 159, 3) := by decide +kernel
theorem dX3_isWord_55 : decode cX3_isWord 55 = .ok (.if_icmp .eq 5, 3) := by decide +kernel
theorem dX3_isWord_58 : decode cX3_isWord 58 = .ok (.iconst 0, 1) := by decide +kernel
theorem dX3_isWord_59 : decode cX3_isWord 59 = .ok (.ireturn, 1) := by decide +kernel
theorem dX3_isWord_60 : decode cX3_isWord 60 = .ok (.iinc 2 1, 3) := by decide +kernel
theorem dX3_isWord_63 : decode cX3_isWord 63 = .ok (.goto (-35), 3) := by decide +kernel
theorem dX3_isWord_66 : decode cX3_isWord 66 = .ok (.iconst 1, 1) := by decide +kernel
theorem dX3_isWord_67 : decode cX3_isWord 67 = .ok (.ireturn, 1) := by decide +kernel
theorem dX3_isOther_0 : decode cX3_isOther 0 = .ok (.aload_n 0, 1) := by decide +kernel
theorem dX3_isOther_1 : decode cX3_isOther 1 = .ok (.getfield 30, 3) := by decide +kernel
theorem dX3_isOther_4 : decode cX3_isOther 4 = .ok (.iconst 3, 1) := by decide +kernel
theorem dX3_isOther_5 : decode cX3_isOther 5 = .ok (.if_icmp .ne 23, 3) := by decide +kernel
theorem dX3_isOther_8 : decode cX3_isOther 8 = .ok (.aload_n 0, 1) := by decide +kernel
theorem dX3_isOther_9 : decode cX3_isOther 9 = .ok (.getfield 42, 3) := by decide +kernel
theorem dX3_isOther_12 : decode cX3_isOther 12 = .ok (.getfield 129, 3) := by decide +kernel
theorem dX3_isOther_15 : decode cX3_isOther 15 = .ok (.aload_n 0, 1) := by decide +kernel
theorem dX3_isOther_16 : decode cX3_isOther 16 = .ok (.getfield 33, 3) := by decide +kernel
theorem dX3_isOther_19 : decode cX3_isOther 19 = .ok (.iaload, 1) := by decide +kernel
theorem dX3_isOther_20 : decode cX3_isOther 20 = .ok (.iload_n 1, 1) := by decide +kernel
theorem dX3_isOther_21 : decode cX3_isOther 21 = .ok (.if_icmp .ne 7, 3) := by decide +kernel
theorem dX3_isOther_24 : decode cX3_isOther 24 = .ok (.iconst 1, 1) := by decide +kernel
theorem dX3_isOther_25 : decode cX3_isOther 25 = .ok (.goto 4, 3) := by decide +kernel
theorem dX3_isOther_28 : decode cX3_isOther 28 = .ok (.iconst 0, 1) := by decide +kernel
theorem dX3_isOther_29 : decode cX3_isOther 29 = .ok (.ireturn, 1) := by decide +kernel
theorem dX3_fail_0 : decode cX3_fail 0 = .ok (.aload_n 0, 1) := by decide +kernel
theorem dX3_fail_1 : decode cX3_fail 1 = .ok (.aload_n 0, 1) := by decide +kernel
theorem dX3_fail_2 : decode cX3_fail 2 = .ok (.getfield 33, 3) := by decide +kernel
theorem dX3_fail_5 : decode cX3_fail 5 = .ok (.putfield 39, 3) := by decide +kernel
theorem dX3_fail_8 : decode cX3_fail 8 = .ok (.iconst 0, 1) := by decide +kernel
theorem dX3_fail_9 : decode cX3_fail 9 = .ok (.ireturn, 1) := by decide +kernel
theorem dX3_put_0 : decode cX3_put 0 = .ok (.aload_n 0, 1) := by decide +kernel
theorem dX3_put_1 : decode cX3_put 1 = .ok (.getfield 20, 3) := by decide +kernel
theorem dX3_put_4 : decode cX3_put 4 = .ok (.aload_n 0, 1) := by decide +kernel
theorem dX3_put_5 : decode cX3_put 5 = .ok (.getfield 9, 3) := by decide +kernel
theorem dX3_put_8 : decode cX3_put 8 = .ok (.arraylength, 1) := by decide +kernel
theorem dX3_put_9 : decode cX3_put 9 = .ok (.if_icmp .ge 27, 3) := by decide +kernel
theorem dX3_put_12 : decode cX3_put 12 = .ok (.aload_n 0, 1) := by decide +kernel
theorem dX3_put_13 : decode cX3_put 13 = .ok (.getfield 9, 3) := by decide +kernel
theorem dX3_put_16 : decode cX3_put 16 = .ok (.aload_n 0, 1) := by decide +kernel
theorem dX3_put_17 : decode cX3_put 17 = .ok (.getfield 20, 3) := by decide +kernel
theorem dX3_put_20 : decode cX3_put 20 = .ok (.iload_n 1, 1) := by decide +kernel
theorem dX3_put_21 : decode cX3_put 21 = .ok (.iload_n 2, 1) := by decide +kernel
theorem dX3_put_22 : decode cX3_put 22 = .ok (.iconst 4, 1) := by decide +kernel
theorem dX3_put_23 : decode cX3_put 23 = .ok (.ishl, 1) := by decide +kernel
theorem dX3_put_24 : decode cX3_put 24 = .ok (.ior, 1) := by decide +kernel
theorem dX3_put_25 : decode cX3_put 25 = .ok (.iastore, 1) := by decide +kernel
theorem dX3_put_26 : decode cX3_put 26 = .ok (.aload_n 0, 1) := by decide +kernel
theorem dX3_put_27 : decode cX3_put 27 = .ok (.dup, 1) := by decide +kernel
theorem dX3_put_28 : decode cX3_put 28 = .ok (.getfield 20, 3) := by decide +kernel
theorem dX3_put_31 : decode cX3_put 31 = .ok (.iconst 1, 1) := by decide +kernel
theorem dX3_put_32 : decode cX3_put 32 = .ok (.iadd, 1) := by decide +kernel
theorem dX3_put_33 : decode cX3_put 33 = .ok (.putfield 20, 3) := by decide +kernel
theorem dX3_put_36 : decode cX3_put 36 = .ok (.return_, 1) := by decide +kernel
theorem dX3_aimHere_0 : decode cX3_aimHere 0 = .ok (.iload_n 1, 1) := by decide +kernel
theorem dX3_aimHere_1 : decode cX3_aimHere 1 = .ok (.aload_n 0, 1) := by decide +kernel
theorem dX3_aimHere_2 : decode cX3_aimHere 2 = .ok (.getfield 9, 3) := by decide +kernel
theorem dX3_aimHere_5 : decode cX3_aimHere 5 = .ok (.arraylength, 1) := by decide +kernel
theorem dX3_aimHere_6 : decode cX3_aimHere 6 = .ok (.if_icmp .ge 17, 3) := by decide +kernel
theorem dX3_aimHere_9 : decode cX3_aimHere 9 = .ok (.aload_n 0, 1) := by decide +kernel
theorem dX3_aimHere_10 : decode cX3_aimHere 10 = .ok (.getfield 9, 3) := by decide +kernel
theorem dX3_aimHere_13 : decode cX3_aimHere 13 = .ok (.iload_n 1, 1) := by decide +kernel
theorem dX3_aimHere_14 : decode cX3_aimHere 14 = .ok (.iload_n 2, 1) := by decide +kernel
theorem dX3_aimHere_15 : decode cX3_aimHere 15 = .ok (.aload_n 0, 1) := by decide +kernel
theorem dX3_aimHere_16 : decode cX3_aimHere 16 = .ok (.getfield 20, 3) := by decide +kernel
theorem dX3_aimHere_19 : decode cX3_aimHere 19 = .ok (.iconst 4, 1) := by decide +kernel
theorem dX3_aimHere_20 : decode cX3_aimHere 20 = .ok (.ishl, 1) := by decide +kernel
theorem dX3_aimHere_21 : decode cX3_aimHere 21 = .ok (.ior, 1) := by decide +kernel
theorem dX3_aimHere_22 : decode cX3_aimHere 22 = .ok (.iastore, 1) := by decide +kernel
theorem dX3_aimHere_23 : decode cX3_aimHere 23 = .ok (.return_, 1) := by decide +kernel
theorem dX3_advance_0 : decode cX3_advance 0 = .ok (.aload_n 0, 1) := by decide +kernel
theorem dX3_advance_1 : decode cX3_advance 1 = .ok (.getfield 36, 3) := by decide +kernel
theorem dX3_advance_4 : decode cX3_advance 4 = .ok (.istore_n 1, 1) := by decide +kernel
theorem dX3_advance_5 : decode cX3_advance 5 = .ok (.iload_n 1, 1) := by decide +kernel
theorem dX3_advance_6 : decode cX3_advance 6 = .ok (.aload_n 0, 1) := by decide +kernel
theorem dX3_advance_7 : decode cX3_advance 7 = .ok (.getfield 42, 3) := by decide +kernel
theorem dX3_advance_10 : decode cX3_advance 10 = .ok (.getfield 163, 3) := by decide +kernel
theorem dX3_advance_13 : decode cX3_advance 13 = .ok (.if_icmp .ge 23, 3) := by decide +kernel
theorem dX3_advance_16 : decode cX3_advance 16 = .ok (.aload_n 0, 1) := by decide +kernel
theorem dX3_advance_17 : decode cX3_advance 17 = .ok (.getfield 42, 3) := by decide +kernel
theorem dX3_advance_20 : decode cX3_advance 20 = .ok (.getfield 129, 3) := by decide +kernel
theorem dX3_advance_23 : decode cX3_advance 23 = .ok (.iload_n 1, 1) := by decide +kernel
theorem dX3_advance_24 : decode cX3_advance 24 = .ok (.iaload, 1) := by decide +kernel
theorem dX3_advance_25 : decode cX3_advance 25 = .ok (.bipush 32, 2) := by decide +kernel
theorem dX3_advance_27 : decode cX3_advance 27 = .ok (.if_icmp .ne 9, 3) := by decide +kernel
theorem dX3_advance_30 : decode cX3_advance 30 = .ok (.iinc 1 1, 3) := by decide +kernel
theorem dX3_advance_33 : decode cX3_advance 33 = .ok (.goto (-28), 3) := by decide +kernel
theorem dX3_advance_36 : decode cX3_advance 36 = .ok (.aload_n 0, 1) := by decide +kernel
theorem dX3_advance_37 : decode cX3_advance 37 = .ok (.iload_n 1, 1) := by decide +kernel
theorem dX3_advance_38 : decode cX3_advance 38 = .ok (.putfield 33, 3) := by decide +kernel
theorem dX3_advance_41 : decode cX3_advance 41 = .ok (.aload_n 0, 1) := by decide +kernel
theorem dX3_advance_42 : decode cX3_advance 42 = .ok (.aload_n 0, 1) := by decide +kernel
theorem dX3_advance_43 : decode cX3_advance 43 = .ok (.iload_n 1, 1) := by decide +kernel
theorem dX3_advance_44 : decode cX3_advance 44 = .ok (.invokevirtual 165, 3) := by decide +kernel
theorem dX3_advance_47 : decode cX3_advance 47 = .ok (.putfield 30, 3) := by decide +kernel
theorem dX3_advance_50 : decode cX3_advance 50 = .ok (.aload_n 0, 1) := by decide +kernel
theorem dX3_advance_51 : decode cX3_advance 51 = .ok (.getfield 30, 3) := by decide +kernel
theorem dX3_advance_54 : decode cX3_advance 54 = .ok (.ifCond .eq 6, 3) := by decide +kernel
theorem dX3_advance_57 : decode cX3_advance 57 = .ok (.iinc 1 1, 3) := by decide +kernel
theorem dX3_advance_60 : decode cX3_advance 60 = .ok (.iload_n 1, 1) := by decide +kernel
theorem dX3_advance_61 : decode cX3_advance 61 = .ok (.aload_n 0, 1) := by decide +kernel
theorem dX3_advance_62 : decode cX3_advance 62 = .ok (.getfield 42, 3) := by decide +kernel
theorem dX3_advance_65 : decode cX3_advance 65 = .ok (.getfield 163, 3) := by decide +kernel
theorem dX3_advance_68 : decode cX3_advance 68 = .ok (.if_icmp .ge 29, 3) := by decide +kernel
theorem dX3_advance_71 : decode cX3_advance 71 = .ok (.aload_n 0, 1) := by decide +kernel
theorem dX3_advance_72 : decode cX3_advance 72 = .ok (.getfield 30, 3) := by decide +kernel
theorem dX3_advance_75 : decode cX3_advance 75 = .ok (.iconst 3, 1) := by decide +kernel
theorem dX3_advance_76 : decode cX3_advance 76 = .ok (.if_icmp .eq 21, 3) := by decide +kernel
theorem dX3_advance_79 : decode cX3_advance 79 = .ok (.aload_n 0, 1) := by decide +kernel
theorem dX3_advance_80 : decode cX3_advance 80 = .ok (.iload_n 1, 1) := by decide +kernel
theorem dX3_advance_81 : decode cX3_advance 81 = .ok (.invokevirtual 165, 3) := by decide +kernel
theorem dX3_advance_84 : decode cX3_advance 84 = .ok (.aload_n 0, 1) := by decide +kernel
theorem dX3_advance_85 : decode cX3_advance 85 = .ok (.getfield 30, 3) := by decide +kernel
theorem dX3_advance_88 : decode cX3_advance 88 = .ok (.if_icmp .ne 9, 3) := by decide +kernel
theorem dX3_advance_91 : decode cX3_advance 91 = .ok (.iinc 1 1, 3) := by decide +kernel
theorem dX3_advance_94 : decode cX3_advance 94 = .ok (.goto (-34), 3) := by decide +kernel
theorem dX3_advance_97 : decode cX3_advance 97 = .ok (.aload_n 0, 1) := by decide +kernel
theorem dX3_advance_98 : decode cX3_advance 98 = .ok (.iload_n 1, 1) := by decide +kernel
theorem dX3_advance_99 : decode cX3_advance 99 = .ok (.putfield 36, 3) := by decide +kernel
theorem dX3_advance_102 : decode cX3_advance 102 = .ok (.return_, 1) := by decide +kernel
theorem dX3_sortAt_0 : decode cX3_sortAt 0 = .ok (.iload_n 1, 1) := by decide +kernel
theorem dX3_sortAt_1 : decode cX3_sortAt 1 = .ok (.aload_n 0, 1) := by decide +kernel
theorem dX3_sortAt_2 : decode cX3_sortAt 2 = .ok (.getfield 42, 3) := by decide +kernel
theorem dX3_sortAt_5 : decode cX3_sortAt 5 = .ok (.getfield 163, 3) := by decide +kernel
theorem dX3_sortAt_8 : decode cX3_sortAt 8 = .ok (.if_icmp .lt 5, 3) := by decide +kernel
theorem dX3_sortAt_11 : decode cX3_sortAt 11 = .ok (.iconst 0, 1) := by decide +kernel
theorem dX3_sortAt_12 : decode cX3_sortAt 12 = .ok (.ireturn, 1) := by decide +kernel
theorem dX3_sortAt_13 : decode cX3_sortAt 13 = .ok (.aload_n 0, 1) := by decide +kernel
theorem dX3_sortAt_14 : decode cX3_sortAt 14 = .ok (.getfield 42, 3) := by decide +kernel
theorem dX3_sortAt_17 : decode cX3_sortAt 17 = .ok (.getfield 129, 3) := by decide +kernel
theorem dX3_sortAt_20 : decode cX3_sortAt 20 = .ok (.iload_n 1, 1) := by decide +kernel
theorem dX3_sortAt_21 : decode cX3_sortAt 21 = .ok (.iaload, 1) := by decide +kernel
theorem dX3_sortAt_22 : decode cX3_sortAt 22 = .ok (.istore_n 2, 1) := by decide +kernel
theorem dX3_sortAt_23 : decode cX3_sortAt 23 = .ok (.iload_n 2, 1) := by decide +kernel
theorem dX3_sortAt_24 : decode cX3_sortAt 24 = .ok (.bipush 97, 2) := by decide +kernel
theorem dX3_sortAt_26 : decode cX3_sortAt 26 = .ok (.if_icmp .lt 13, 3) := by decide +kernel
theorem dX3_sortAt_29 : decode cX3_sortAt 29 = .ok (.iload_n 2, 1) := by decide +kernel
theorem dX3_sortAt_30 : decode cX3_sortAt 30 = .ok (.bipush 122, 2) := by decide +kernel
theorem dX3_sortAt_32 : decode cX3_sortAt 32 = .ok (.if_icmp .gt 7, 3) := by decide +kernel
theorem dX3_sortAt_35 : decode cX3_sortAt 35 = .ok (.iconst 1, 1) := by decide +kernel
theorem dX3_sortAt_36 : decode cX3_sortAt 36 = .ok (.goto 20, 3) := by decide +kernel
theorem dX3_sortAt_39 : decode cX3_sortAt 39 = .ok (.iload_n 2, 1) := by decide +kernel
theorem dX3_sortAt_40 : decode cX3_sortAt 40 = .ok (.bipush 48, 2) := by decide +kernel
theorem dX3_sortAt_42 : decode cX3_sortAt 42 = .ok (.if_icmp .lt 13, 3) := by decide +kernel
theorem dX3_sortAt_45 : decode cX3_sortAt 45 = .ok (.iload_n 2, 1) := by decide +kernel
theorem dX3_sortAt_46 : decode cX3_sortAt 46 = .ok (.bipush 57, 2) := by decide +kernel
theorem dX3_sortAt_48 : decode cX3_sortAt 48 = .ok (.if_icmp .gt 7, 3) := by decide +kernel
theorem dX3_sortAt_51 : decode cX3_sortAt 51 = .ok (.iconst 2, 1) := by decide +kernel
theorem dX3_sortAt_52 : decode cX3_sortAt 52 = .ok (.goto 4, 3) := by decide +kernel
theorem dX3_sortAt_55 : decode cX3_sortAt 55 = .ok (.iconst 3, 1) := by decide +kernel
theorem dX3_sortAt_56 : decode cX3_sortAt 56 = .ok (.ireturn, 1) := by decide +kernel
