theorem dX0_init_0 : decode cX0_init 0 = .ok (.aload_n 0, 1) := by decide +kernel
theorem dX0_init_1 : decode cX0_init 1 = .ok (.invokespecial 3, 3) := by decide +kernel
theorem dX0_init_4 : decode cX0_init 4 = .ok (.aload_n 0, 1) := by decide +kernel
theorem dX0_init_5 : decode cX0_init 5 = .ok (.bipush 52, 2) := by decide +kernel
theorem dX0_init_7 : decode cX0_init 7 = .ok (.newarray .long, 2) := by decide +kernel
theorem dX0_init_9 : decode cX0_init 9 = .ok (.putfield 11, 3) := by decide +kernel
theorem dX0_init_12 : decode cX0_init 12 = .ok (.aload_n 0, 1) := by decide +kernel
theorem dX0_init_13 : decode cX0_init 13 = .ok (.bipush 52, 2) := by decide +kernel
theorem dX0_init_15 : decode cX0_init 15 = .ok (.newarray .long, 2) := by decide +kernel
theorem dX0_init_17 : decode cX0_init 17 = .ok (.putfield 15, 3) := by decide +kernel
theorem dX0_init_20 : decode cX0_init 20 = .ok (.aload_n 0, 1) := by decide +kernel
theorem dX0_init_21 : decode cX0_init 21 = .ok (.aload_n 1, 1) := by decide +kernel
theorem dX0_init_22 : decode cX0_init 22 = .ok (.putfield 18, 3) := by decide +kernel
theorem dX0_init_25 : decode cX0_init 25 = .ok (.aload_n 0, 1) := by decide +kernel
theorem dX0_init_26 : decode cX0_init 26 = .ok (.aload_n 2, 1) := by decide +kernel
theorem dX0_init_27 : decode cX0_init 27 = .ok (.putfield 22, 3) := by decide +kernel
theorem dX0_init_30 : decode cX0_init 30 = .ok (.return_, 1) := by decide +kernel
theorem dX0_chance_0 : decode cX0_chance 0 = .ok (.aload_n 0, 1) := by decide +kernel
theorem dX0_chance_1 : decode cX0_chance 1 = .ok (.getfield 11, 3) := by decide +kernel
theorem dX0_chance_4 : decode cX0_chance 4 = .ok (.astore 5, 2) := by decide +kernel
theorem dX0_chance_6 : decode cX0_chance 6 = .ok (.aload_n 0, 1) := by decide +kernel
theorem dX0_chance_7 : decode cX0_chance 7 = .ok (.getfield 15, 3) := by decide +kernel
theorem dX0_chance_10 : decode cX0_chance 10 = .ok (.astore 6, 2) := by decide +kernel
theorem dX0_chance_12 : decode cX0_chance 12 = .ok (.aload 5, 2) := by decide +kernel
theorem dX0_chance_14 : decode cX0_chance 14 = .ok (.lconst 0, 1) := by decide +kernel
theorem dX0_chance_15 : decode cX0_chance 15 = .ok (.invokestatic 26, 3) := by decide +kernel
theorem dX0_chance_18 : decode cX0_chance 18 = .ok (.aload 5, 2) := by decide +kernel
theorem dX0_chance_20 : decode cX0_chance 20 = .ok (.iload_n 1, 1) := by decide +kernel
theorem dX0_chance_21 : decode cX0_chance 21 = .ok (.lconst 1, 1) := by decide +kernel
theorem dX0_chance_22 : decode cX0_chance 22 = .ok (.lastore, 1) := by decide +kernel
theorem dX0_chance_23 : decode cX0_chance 23 = .ok (.lconst 1, 1) := by decide +kernel
theorem dX0_chance_24 : decode cX0_chance 24 = .ok (.lstore 7, 2) := by decide +kernel
theorem dX0_chance_26 : decode cX0_chance 26 = .ok (.iconst 0, 1) := by decide +kernel
theorem dX0_chance_27 : decode cX0_chance 27 = .ok (.istore 9, 2) := by decide +kernel
theorem dX0_chance_29 : decode cX0_chance 29 = .ok (.iload 9, 2) := by decide +kernel
theorem dX0_chance_31 : decode cX0_chance 31 = .ok (.iload_n 3, 1) := by decide +kernel
theorem dX0_chance_32 : decode cX0_chance 32 = .ok (.if_icmp .ge 109, 3) := by decide +kernel
theorem dX0_chance_35 : decode cX0_chance 35 = .ok (.aload 6, 2) := by decide +kernel
theorem dX0_chance_37 : decode cX0_chance 37 = .ok (.lconst 0, 1) := by decide +kernel
theorem dX0_chance_38 : decode cX0_chance 38 = .ok (.invokestatic 26, 3) := by decide +kernel
theorem dX0_chance_41 : decode cX0_chance 41 = .ok (.aload 6, 2) := by decide +kernel
theorem dX0_chance_43 : decode cX0_chance 43 = .ok (.bipush 50, 2) := by decide +kernel
theorem dX0_chance_45 : decode cX0_chance 45 = .ok (.aload 5, 2) := by decide +kernel
theorem dX0_chance_47 : decode cX0_chance 47 = .ok (.bipush 50, 2) := by decide +kernel
theorem dX0_chance_49 : decode cX0_chance 49 = .ok (.laload, 1) := by decide +kernel
theorem dX0_chance_50 : decode cX0_chance 50 = .ok (.ldc2_w 32, 3) := by decide +kernel
theorem dX0_chance_53 : decode cX0_chance 53 = .ok (.lmul, 1) := by decide +kernel
theorem dX0_chance_54 : decode cX0_chance 54 = .ok (.lastore, 1) := by decide +kernel
theorem dX0_chance_55 : decode cX0_chance 55 = .ok (.aload 6, 2) := by decide +kernel
theorem dX0_chance_57 : decode cX0_chance 57 = .ok (.bipush 51, 2) := by decide +kernel
theorem dX0_chance_59 : decode cX0_chance 59 = .ok (.aload 5, 2) := by decide +kernel
theorem dX0_chance_61 : decode cX0_chance 61 = .ok (.bipush 51, 2) := by decide +kernel
theorem dX0_chance_63 : decode cX0_chance 63 = .ok (.laload, 1) := by decide +kernel
theorem dX0_chance_64 : decode cX0_chance 64 = .ok (.ldc2_w 32, 3) := by decide +kernel
theorem dX0_chance_67 : decode cX0_chance 67 = .ok (.lmul, 1) := by decide +kernel
theorem dX0_chance_68 : decode cX0_chance 68 = .ok (.lastore, 1) := by decide +kernel
theorem dX0_chance_69 : decode cX0_chance 69 = .ok (.iconst 0, 1) := by decide +kernel
theorem dX0_chance_70 : decode cX0_chance 70 = .ok (.istore 10, 2) := by decide +kernel
theorem dX0_chance_72 : decode cX0_chance 72 = .ok (.iload 10, 2) := by decide +kernel
theorem dX0_chance_74 : decode cX0_chance 74 = .ok (.bipush 50, 2) := by decide +kernel
theorem dX0_chance_76 : decode cX0_chance 76 = .ok (.if_icmp .ge 39, 3) := by decide +kernel
theorem dX0_chance_79 : decode cX0_chance 79 = .ok (.aload 5, 2) := by decide +kernel
theorem dX0_chance_81 : decode cX0_chance 81 = .ok (.iload 10, 2) := by decide +kernel
theorem dX0_chance_83 : decode cX0_chance 83 = .ok (.laload, 1) := by decide +kernel
theorem dX0_chance_84 : decode cX0_chance 84 = .ok (.lconst 0, 1) := by decide +kernel
theorem dX0_chance_85 : decode cX0_chance 85 = .ok (.lcmp, 1) := by decide +kernel
theorem dX0_chance_86 : decode cX0_chance 86 = .ok (.ifCond .eq 23, 3) := by decide +kernel
theorem dX0_chance_89 : decode cX0_chance 89 = .ok (.aload_n 0, 1) := by decide +kernel
theorem dX0_chance_90 : decode cX0_chance 90 = .ok (.aload 5, 2) := by decide +kernel
theorem dX0_chance_92 : decode cX0_chance 92 = .ok (.iload 10, 2) := by decide +kernel
theorem dX0_chance_94 : decode cX0_chance 94 = .ok (.laload, 1) := by decide +kernel
theorem dX0_chance_95 : decode cX0_chance 95 = .ok (.iload 10, 2) := by decide +kernel
theorem dX0_chance_97 : decode cX0_chance 97 = .ok (.iload_n 2, 1) := by decide +kernel
theorem dX0_chance_98 : decode cX0_chance 98 = .ok (.iload 9, 2) := by decide +kernel
theorem dX0_chance_100 : decode cX0_chance 100 = .ok (.iadd, 1) := by decide +kernel
theorem dX0_chance_101 : decode cX0_chance 101 = .ok (.bipush 10, 2) := by decide +kernel
theorem dX0_chance_103 : decode cX0_chance 103 = .ok (.imul, 1) := by decide +kernel
theorem dX0_chance_104 : decode cX0_chance 104 = .ok (.aload 6, 2) := by decide +kernel
theorem dX0_chance_106 : decode cX0_chance 106 = .ok (.invokevirtual 34, 3) := by decide +kernel
theorem dX0_chance_109 : decode cX0_chance 109 = .ok (.iinc 10 1, 3) := by decide +kernel
theorem dX0_chance_112 : decode cX0_chance 112 = .ok (.goto (-40), 3) := by decide +kernel
theorem dX0_chance_115 : decode cX0_chance 115 = .ok (.lload 7, 2) := by decide +kernel
theorem dX0_chance_117 : decode cX0_chance 117 = .ok (.ldc2_w 32, 3) := by decide +kernel
theorem dX0_chance_120 : decode cX0_chance 120 = .ok (.lmul, 1) := by decide +kernel
theorem dX0_chance_121 : decode cX0_chance 121 = .ok (.lstore 7, 2) := by decide +kernel
theorem dX0_chance_123 : decode cX0_chance 123 = .ok (.aload 5, 2) := by decide +kernel
theorem dX0_chance_125 : decode cX0_chance 125 = .ok (.astore 10, 2) := by decide +kernel
theorem dX0_chance_127 : decode cX0_chance 127 = .ok (.aload 6, 2) := by decide +kernel
theorem dX0_chance_129 : decode cX0_chance 129 = .ok (.astore 5, 2) := by decide +kernel
theorem dX0_chance_131 : decode cX0_chance 131 = .ok (.aload 10, 2) := by decide +kernel
theorem dX0_chance_133 : decode cX0_chance 133 = .ok (.astore 6, 2) := by decide +kernel
theorem dX0_chance_135 : decode cX0_chance 135 = .ok (.iinc 9 1, 3) := by decide +kernel
theorem dX0_chance_138 : decode cX0_chance 138 = .ok (.goto (-109), 3) := by decide +kernel
theorem dX0_chance_141 : decode cX0_chance 141 = .ok (.lload 7, 2) := by decide +kernel
theorem dX0_chance_143 : decode cX0_chance 143 = .ok (.ldc2_w 38, 3) := by decide +kernel
theorem dX0_chance_146 : decode cX0_chance 146 = .ok (.lcmp, 1) := by decide +kernel
theorem dX0_chance_147 : decode cX0_chance 147 = .ok (.ifCond .gt 18, 3) := by decide +kernel
theorem dX0_chance_150 : decode cX0_chance 150 = .ok (.aload 5, 2) := by decide +kernel
theorem dX0_chance_152 : decode cX0_chance 152 = .ok (.iload 4, 2) := by decide +kernel
theorem dX0_chance_154 : decode cX0_chance 154 = .ok (.laload, 1) := by decide +kernel
theorem dX0_chance_155 : decode cX0_chance 155 = .ok (.ldc2_w 38, 3) := by decide +kernel
theorem dX0_chance_158 : decode cX0_chance 158 = .ok (.lload 7, 2) := by decide +kernel
theorem dX0_chance_160 : decode cX0_chance 160 = .ok (.ldiv, 1) := by decide +kernel
theorem dX0_chance_161 : decode cX0_chance 161 = .ok (.lmul, 1) := by decide +kernel
theorem dX0_chance_162 : decode cX0_chance 162 = .ok (.goto 15, 3) := by decide +kernel
theorem dX0_chance_165 : decode cX0_chance 165 = .ok (.aload 5, 2) := by decide +kernel
theorem dX0_chance_167 : decode cX0_chance 167 = .ok (.iload 4, 2) := by decide +kernel
theorem dX0_chance_169 : decode cX0_chance 169 = .ok (.laload, 1) := by decide +kernel
theorem dX0_chance_170 : decode cX0_chance 170 = .ok (.lload 7, 2) := by decide +kernel
theorem dX0_chance_172 : decode cX0_chance 172 = .ok (.ldc2_w 38, 3) := by decide +kernel
theorem dX0_chance_175 : decode cX0_chance 175 = .ok (.ldiv, 1) := by decide +kernel
theorem dX0_chance_176 : decode cX0_chance 176 = .ok (.ldiv, 1) := by decide +kernel
theorem dX0_chance_177 : decode cX0_chance 177 = .ok (.lstore 9, 2) := by decide +kernel
theorem dX0_chance_179 : decode cX0_chance 179 = .ok (.lload 9, 2) := by decide +kernel
theorem dX0_chance_181 : decode cX0_chance 181 = .ok (.l2i, 1) := by decide +kernel
theorem dX0_chance_182 : decode cX0_chance 182 = .ok (.ireturn, 1) := by decide +kernel
theorem dX0_spread_0 : decode cX0_spread 0 = .ok (.aload_n 0, 1) := by decide +kernel
theorem dX0_spread_1 : decode cX0_spread 1 = .ok (.getfield 22, 3) := by decide +kernel
theorem dX0_spread_4 : decode cX0_spread 4 = .ok (.aload_n 0, 1) := by decide +kernel
theorem dX0_spread_5 : decode cX0_spread 5 = .ok (.getfield 18, 3) := by decide +kernel
theorem dX0_spread_8 : decode cX0_spread 8 = .ok (.getfield 40, 3) := by decide +kernel
theorem dX0_spread_11 : decode cX0_spread 11 = .ok (.iload_n 3, 1) := by decide +kernel
theorem dX0_spread_12 : decode cX0_spread 12 = .ok (.iaload, 1) := by decide +kernel
theorem dX0_spread_13 : decode cX0_spread 13 = .ok (.iload 4, 2) := by decide +kernel
theorem dX0_spread_15 : decode cX0_spread 15 = .ok (.invokevirtual 46, 3) := by decide +kernel
theorem dX0_spread_18 : decode cX0_spread 18 = .ok (.istore 6, 2) := by decide +kernel
theorem dX0_spread_20 : decode cX0_spread 20 = .ok (.bipush 100, 2) := by decide +kernel
theorem dX0_spread_22 : decode cX0_spread 22 = .ok (.iload 6, 2) := by decide +kernel
theorem dX0_spread_24 : decode cX0_spread 24 = .ok (.invokestatic 52, 3) := by decide +kernel
theorem dX0_spread_27 : decode cX0_spread 27 = .ok (.bipush 10, 2) := by decide +kernel
theorem dX0_spread_29 : decode cX0_spread 29 = .ok (.idiv, 1) := by decide +kernel
theorem dX0_spread_30 : decode cX0_spread 30 = .ok (.invokestatic 58, 3) := by decide +kernel
theorem dX0_spread_33 : decode cX0_spread 33 = .ok (.istore 7, 2) := by decide +kernel
theorem dX0_spread_35 : decode cX0_spread 35 = .ok (.iload_n 3, 1) := by decide +kernel
theorem dX0_spread_36 : decode cX0_spread 36 = .ok (.bipush 10, 2) := by decide +kernel
theorem dX0_spread_38 : decode cX0_spread 38 = .ok (.irem, 1) := by decide +kernel
theorem dX0_spread_39 : decode cX0_spread 39 = .ok (.iload 6, 2) := by decide +kernel
theorem dX0_spread_41 : decode cX0_spread 41 = .ok (.ifCond .le 7, 3) := by decide +kernel
theorem dX0_spread_44 : decode cX0_spread 44 = .ok (.iconst 1, 1) := by decide +kernel
theorem dX0_spread_45 : decode cX0_spread 45 = .ok (.goto 4, 3) := by decide +kernel
theorem dX0_spread_48 : decode cX0_spread 48 = .ok (.iconst (-1), 1) := by decide +kernel
theorem dX0_spread_49 : decode cX0_spread 49 = .ok (.iadd, 1) := by decide +kernel
theorem dX0_spread_50 : decode cX0_spread 50 = .ok (.istore 8, 2) := by decide +kernel
theorem dX0_spread_52 : decode cX0_spread 52 = .ok (.iload 8, 2) := by decide +kernel
theorem dX0_spread_54 : decode cX0_spread 54 = .ok (.ifCond .lt 10, 3) := by decide +kernel
theorem dX0_spread_57 : decode cX0_spread 57 = .ok (.iload 8, 2) := by decide +kernel
theorem dX0_spread_59 : decode cX0_spread 59 = .ok (.bipush 10, 2) := by decide +kernel
theorem dX0_spread_61 : decode cX0_spread 61 = .ok (.if_icmp .lt 7, 3) := by decide +kernel
theorem dX0_spread_64 : decode cX0_spread 64 = .ok (.iconst 1, 1) := by decide +kernel
theorem dX0_spread_65 : decode cX0_spread 65 = .ok (.goto 4, 3) := by decide +kernel
theorem dX0_spread_68 : decode cX0_spread 68 = .ok (.iconst 0, 1) := by decide +kernel
theorem dX0_spread_69 : decode cX0_spread 69 = .ok (.istore 9, 2) := by decide +kernel
theorem dX0_spread_71 : decode cX0_spread 71 = .ok (.iload 9, 2) := by decide +kernel
theorem dX0_spread_73 : decode cX0_spread 73 = .ok (.ifCond .eq 8, 3) := by decide +kernel
theorem dX0_spread_76 : decode cX0_spread 76 = .ok (.bipush 50, 2) := by decide +kernel
theorem dX0_spread_78 : decode cX0_spread 78 = .ok (.goto 21, 3) := by decide +kernel
theorem dX0_spread_81 : decode cX0_spread 81 = .ok (.aload_n 0, 1) := by decide +kernel
theorem dX0_spread_82 : decode cX0_spread 82 = .ok (.iload 6, 2) := by decide +kernel
theorem dX0_spread_84 : decode cX0_spread 84 = .ok (.ifCond .le 9, 3) := by decide +kernel
theorem dX0_spread_87 : decode cX0_spread 87 = .ok (.iload_n 3, 1) := by decide +kernel
theorem dX0_spread_88 : decode cX0_spread 88 = .ok (.iconst 1, 1) := by decide +kernel
theorem dX0_spread_89 : decode cX0_spread 89 = .ok (.iadd, 1) := by decide +kernel
theorem dX0_spread_90 : decode cX0_spread 90 = .ok (.goto 6, 3) := by decide +kernel
theorem dX0_spread_93 : decode cX0_spread 93 = .ok (.iload_n 3, 1) := by decide +kernel
theorem dX0_spread_94 : decode cX0_spread 94 = .ok (.iconst 1, 1) := by decide +kernel
theorem dX0_spread_95 : decode cX0_spread 95 = .ok (.isub, 1) := by decide +kernel
theorem dX0_spread_96 : decode cX0_spread 96 = .ok (.invokevirtual 61, 3) := by decide +kernel
theorem dX0_spread_99 : decode cX0_spread 99 = .ok (.istore 10, 2) := by decide +kernel
theorem dX0_spread_101 : decode cX0_spread 101 = .ok (.aload 5, 2) := by decide +kernel
theorem dX0_spread_103 : decode cX0_spread 103 = .ok (.iload 10, 2) := by decide +kernel
theorem dX0_spread_105 : decode cX0_spread 105 = .ok (.dup2, 1) := by decide +kernel
theorem dX0_spread_106 : decode cX0_spread 106 = .ok (.laload, 1) := by decide +kernel
theorem dX0_spread_107 : decode cX0_spread 107 = .ok (.lload_n 1, 1) := by decide +kernel
theorem dX0_spread_108 : decode cX0_spread 108 = .ok (.ldc2_w 64, 3) := by decide +kernel
theorem dX0_spread_111 : decode cX0_spread 111 = .ok (.lmul, 1) := by decide +kernel
theorem dX0_spread_112 : decode cX0_spread 112 = .ok (.iload 7, 2) := by decide +kernel
theorem dX0_spread_114 : decode cX0_spread 114 = .ok (.i2l, 1) := by decide +kernel
theorem dX0_spread_115 : decode cX0_spread 115 = .ok (.lmul, 1) := by decide +kernel
theorem dX0_spread_116 : decode cX0_spread 116 = .ok (.ladd, 1) := by decide +kernel
theorem dX0_spread_117 : decode cX0_spread 117 = .ok (.lastore, 1) := by decide +kernel
theorem dX0_spread_118 : decode cX0_spread 118 = .ok (.aload 5, 2) := by decide +kernel
theorem dX0_spread_120 : decode cX0_spread 120 = .ok (.aload_n 0, 1) := by decide +kernel
theorem dX0_spread_121 : decode cX0_spread 121 = .ok (.iload_n 3, 1) := by decide +kernel
theorem dX0_spread_122 : decode cX0_spread 122 = .ok (.bipush 10, 2) := by decide +kernel
theorem dX0_spread_124 : decode cX0_spread 124 = .ok (.iadd, 1) := by decide +kernel
theorem dX0_spread_125 : decode cX0_spread 125 = .ok (.invokevirtual 61, 3) := by decide +kernel
theorem dX0_spread_128 : decode cX0_spread 128 = .ok (.dup2, 1) := by decide +kernel
theorem dX0_spread_129 : decode cX0_spread 129 = .ok (.laload, 1) := by decide +kernel
theorem dX0_spread_130 : decode cX0_spread 130 = .ok (.lload_n 1, 1) := by decide +kernel
theorem dX0_spread_131 : decode cX0_spread 131 = .ok (.bipush 100, 2) := by decide +kernel
theorem dX0_spread_133 : decode cX0_spread 133 = .ok (.iload 7, 2) := by decide +kernel
theorem dX0_spread_135 : decode cX0_spread 135 = .ok (.isub, 1) := by decide +kernel
theorem dX0_spread_136 : decode cX0_spread 136 = .ok (.i2l, 1) := by decide +kernel
theorem dX0_spread_137 : decode cX0_spread 137 = .ok (.lmul, 1) := by decide +kernel
theorem dX0_spread_138 : decode cX0_spread 138 = .ok (.ladd, 1) := by decide +kernel
theorem dX0_spread_139 : decode cX0_spread 139 = .ok (.lastore, 1) := by decide +kernel
theorem dX0_spread_140 : decode cX0_spread 140 = .ok (.aload 5, 2) := by decide +kernel
theorem dX0_spread_142 : decode cX0_spread 142 = .ok (.aload_n 0, 1) := by decide +kernel
theorem dX0_spread_143 : decode cX0_spread 143 = .ok (.iload_n 3, 1) := by decide +kernel
theorem dX0_spread_144 : decode cX0_spread 144 = .ok (.bipush 10, 2) := by decide +kernel
theorem dX0_spread_146 : decode cX0_spread 146 = .ok (.isub, 1) := by decide +kernel
theorem dX0_spread_147 : decode cX0_spread 147 = .ok (.invokevirtual 61, 3) := by decide +kernel
theorem dX0_spread_150 : decode cX0_spread 150 = .ok (.dup2, 1) := by decide +kernel
theorem dX0_spread_151 : decode cX0_spread 151 = .ok (.laload, 1) := by decide +kernel
theorem dX0_spread_152 : decode cX0_spread 152 = .ok (.lload_n 1, 1) := by decide +kernel
theorem dX0_spread_153 : decode cX0_spread 153 = .ok (.bipush 100, 2) := by decide +kernel
theorem dX0_spread_155 : decode cX0_spread 155 = .ok (.iload 7, 2) := by decide +kernel
theorem dX0_spread_157 : decode cX0_spread 157 = .ok (.isub, 1) := by decide +kernel
theorem dX0_spread_158 : decode cX0_spread 158 = .ok (.i2l, 1) := by decide +kernel
theorem dX0_spread_159 : decode cX0_spread 159 = .ok (.lmul, 1) := by decide +kernel
theorem dX0_spread_160 : decode cX0_spread 160 = .ok (.ladd, 1) := by decide +kernel
theorem dX0_spread_161 : decode cX0_spread 161 = .ok (.lastore, 1) := by decide +kernel
theorem dX0_spread_162 : decode cX0_spread 162 = .ok (.return_, 1) := by decide +kernel
theorem dX0_landing_0 : decode cX0_landing 0 = .ok (.iload_n 1, 1) := by decide +kernel
theorem dX0_landing_1 : decode cX0_landing 1 = .ok (.iconst 0, 1) := by decide +kernel
theorem dX0_landing_2 : decode cX0_landing 2 = .ok (.bipush 49, 2) := by decide +kernel
theorem dX0_landing_4 : decode cX0_landing 4 = .ok (.invokestatic 66, 3) := by decide +kernel
theorem dX0_landing_7 : decode cX0_landing 7 = .ok (.ifCond .eq 19, 3) := by decide +kernel
theorem dX0_landing_10 : decode cX0_landing 10 = .ok (.aload_n 0, 1) := by decide +kernel
theorem dX0_landing_11 : decode cX0_landing 11 = .ok (.getfield 18, 3) := by decide +kernel
theorem dX0_landing_14 : decode cX0_landing 14 = .ok (.getfield 40, 3) := by decide +kernel
theorem dX0_landing_17 : decode cX0_landing 17 = .ok (.iload_n 1, 1) := by decide +kernel
theorem dX0_landing_18 : decode cX0_landing 18 = .ok (.iaload, 1) := by decide +kernel
theorem dX0_landing_19 : decode cX0_landing 19 = .ok (.ifCond .eq 7, 3) := by decide +kernel
theorem dX0_landing_22 : decode cX0_landing 22 = .ok (.iconst 1, 1) := by decide +kernel
theorem dX0_landing_23 : decode cX0_landing 23 = .ok (.goto 4, 3) := by decide +kernel
theorem dX0_landing_26 : decode cX0_landing 26 = .ok (.iconst 0, 1) := by decide +kernel
theorem dX0_landing_27 : decode cX0_landing 27 = .ok (.istore_n 2, 1) := by decide +kernel
theorem dX0_landing_28 : decode cX0_landing 28 = .ok (.iload_n 2, 1) := by decide +kernel
theorem dX0_landing_29 : decode cX0_landing 29 = .ok (.ifCond .eq 7, 3) := by decide +kernel
theorem dX0_landing_32 : decode cX0_landing 32 = .ok (.iload_n 1, 1) := by decide +kernel
theorem dX0_landing_33 : decode cX0_landing 33 = .ok (.goto 5, 3) := by decide +kernel
theorem dX0_landing_36 : decode cX0_landing 36 = .ok (.bipush 51, 2) := by decide +kernel
theorem dX0_landing_38 : decode cX0_landing 38 = .ok (.ireturn, 1) := by decide +kernel
theorem dX1_init_0 : decode cX1_init 0 = .ok (.aload_n 0, 1) := by decide +kernel
theorem dX1_init_1 : decode cX1_init 1 = .ok (.invokespecial 1, 3) := by decide +kernel
theorem dX1_init_4 : decode cX1_init 4 = .ok (.aload_n 0, 1) := by decide +kernel
theorem dX1_init_5 : decode cX1_init 5 = .ok (.aload_n 1, 1) := by decide +kernel
theorem dX1_init_6 : decode cX1_init 6 = .ok (.putfield 7, 3) := by decide +kernel
theorem dX1_init_9 : decode cX1_init 9 = .ok (.aload_n 0, 1) := by decide +kernel
theorem dX1_init_10 : decode cX1_init 10 = .ok (.aload_n 2, 1) := by decide +kernel
theorem dX1_init_11 : decode cX1_init 11 = .ok (.putfield 13, 3) := by decide +kernel
theorem dX1_init_14 : decode cX1_init 14 = .ok (.return_, 1) := by decide +kernel
theorem dX2_init_0 : decode cX2_init 0 = .ok (.aload_n 0, 1) := by decide +kernel
theorem dX2_init_1 : decode cX2_init 1 = .ok (.invokespecial 3, 3) := by decide +kernel
theorem dX2_init_4 : decode cX2_init 4 = .ok (.aload_n 0, 1) := by decide +kernel
theorem dX2_init_5 : decode cX2_init 5 = .ok (.aconst_null, 1) := by decide +kernel
theorem dX2_init_6 : decode cX2_init 6 = .ok (.putfield 9, 3) := by decide +kernel
theorem dX2_init_9 : decode cX2_init 9 = .ok (.aload_n 0, 1) := by decide +kernel
theorem dX2_init_10 : decode cX2_init 10 = .ok (.bipush 6, 2) := by decide +kernel
theorem dX2_init_12 : decode cX2_init 12 = .ok (.newarray .int, 2) := by decide +kernel
theorem dX2_init_14 : decode cX2_init 14 = .ok (.putfield 15, 3) := by decide +kernel
theorem dX2_init_17 : decode cX2_init 17 = .ok (.aload_n 0, 1) := by decide +kernel
theorem dX2_init_18 : decode cX2_init 18 = .ok (.bipush 6, 2) := by decide +kernel
theorem dX2_init_20 : decode cX2_init 20 = .ok (.newarray .int, 2) := by decide +kernel
theorem dX2_init_22 : decode cX2_init 22 = .ok (.putfield 18, 3) := by decide +kernel
theorem dX2_init_25 : decode cX2_init 25 = .ok (.aload_n 0, 1) := by decide +kernel
theorem dX2_init_26 : decode cX2_init 26 = .ok (.bipush 6, 2) := by decide +kernel
theorem dX2_init_28 : decode cX2_init 28 = .ok (.newarray .int, 2) := by decide +kernel
theorem dX2_init_30 : decode cX2_init 30 = .ok (.putfield 21, 3) := by decide +kernel
theorem dX2_init_33 : decode cX2_init 33 = .ok (.aload_n 0, 1) := by decide +kernel
theorem dX2_init_34 : decode cX2_init 34 = .ok (.bipush 6, 2) := by decide +kernel
theorem dX2_init_36 : decode cX2_init 36 = .ok (.newarray .int, 2) := by decide +kernel
theorem dX2_init_38 : decode cX2_init 38 = .ok (.putfield 24, 3) := by decide +kernel
theorem dX2_init_41 : decode cX2_init 41 = .ok (.aload_n 0, 1) := by decide +kernel
theorem dX2_init_42 : decode cX2_init 42 = .ok (.iconst (-1), 1) := by decide +kernel
theorem dX2_init_43 : decode cX2_init 43 = .ok (.putfield 27, 3) := by decide +kernel
theorem dX2_init_46 : decode cX2_init 46 = .ok (.aload_n 0, 1) := by decide +kernel
theorem dX2_init_47 : decode cX2_init 47 = .ok (.iconst 0, 1) := by decide +kernel
theorem dX2_init_48 : decode cX2_init 48 = .ok (.putfield 31, 3) := by decide +kernel
theorem dX2_init_51 : decode cX2_init 51 = .ok (.aload_n 0, 1) := by decide +kernel
theorem dX2_init_52 : decode cX2_init 52 = .ok (.aload_n 1, 1) := by decide +kernel
theorem dX2_init_53 : decode cX2_init 53 = .ok (.putfield 35, 3) := by decide +kernel
theorem dX2_init_56 : decode cX2_init 56 = .ok (.aload_n 0, 1) := by decide +kernel
theorem dX2_init_57 : decode cX2_init 57 = .ok (.aload_n 2, 1) := by decide +kernel
theorem dX2_init_58 : decode cX2_init 58 = .ok (.putfield 39, 3) := by decide +kernel
theorem dX2_init_61 : decode cX2_init 61 = .ok (.return_, 1) := by decide +kernel
theorem dX2_freshen_0 : decode cX2_freshen 0 = .ok (.aload_n 0, 1) := by decide +kernel
theorem dX2_freshen_1 : decode cX2_freshen 1 = .ok (.getfield 31, 3) := by decide +kernel
theorem dX2_freshen_4 : decode cX2_freshen 4 = .ok (.ifCond .eq 4, 3) := by decide +kernel
theorem dX2_freshen_7 : decode cX2_freshen 7 = .ok (.return_, 1) := by decide +kernel
theorem dX2_freshen_8 : decode cX2_freshen 8 = .ok (.aload_n 0, 1) := by decide +kernel
theorem dX2_freshen_9 : decode cX2_freshen 9 = .ok (.getfield 9, 3) := by decide +kernel
theorem dX2_freshen_12 : decode cX2_freshen 12 = .ok (.ifnonnull 22, 3) := by decide +kernel
theorem dX2_freshen_15 : decode cX2_freshen 15 = .ok (.aload_n 0, 1) := by decide +kernel
theorem dX2_freshen_16 : decode cX2_freshen 16 = .ok (.getfield 35, 3) := by decide +kernel
theorem dX2_freshen_19 : decode cX2_freshen 19 = .ok (.getfield 43, 3) := by decide +kernel
theorem dX2_freshen_22 : decode cX2_freshen 22 = .ok (.ifCond .le 12, 3) := by decide +kernel
theorem dX2_freshen_25 : decode cX2_freshen 25 = .ok (.aload_n 0, 1) := by decide +kernel
theorem dX2_freshen_26 : decode cX2_freshen 26 = .ok (.sipush 8640, 3) := by decide +kernel
theorem dX2_freshen_29 : decode cX2_freshen 29 = .ok (.newarray .int, 2) := by decide +kernel
theorem dX2_freshen_31 : decode cX2_freshen 31 = .ok (.putfield 9, 3) := by decide +kernel
theorem dX2_freshen_34 : decode cX2_freshen 34 = .ok (.iconst 0, 1) := by decide +kernel
theorem dX2_freshen_35 : decode cX2_freshen 35 = .ok (.istore_n 1, 1) := by decide +kernel
theorem dX2_freshen_36 : decode cX2_freshen 36 = .ok (.iload_n 1, 1) := by decide +kernel
theorem dX2_freshen_37 : decode cX2_freshen 37 = .ok (.aload_n 0, 1) := by decide +kernel
theorem dX2_freshen_38 : decode cX2_freshen 38 = .ok (.getfield 35, 3) := by decide +kernel
theorem dX2_freshen_41 : decode cX2_freshen 41 = .ok (.getfield 43, 3) := by decide +kernel
theorem dX2_freshen_44 : decode cX2_freshen 44 = .ok (.if_icmp .ge 14, 3) := by decide +kernel
theorem dX2_freshen_47 : decode cX2_freshen 47 = .ok (.aload_n 0, 1) := by decide +kernel
theorem dX2_freshen_48 : decode cX2_freshen 48 = .ok (.iload_n 1, 1) := by decide +kernel
theorem dX2_freshen_49 : decode cX2_freshen 49 = .ok (.invokevirtual 48, 3) := by decide +kernel
theorem dX2_freshen_52 : decode cX2_freshen 52 = .ok (.iinc 1 1, 3) := by decide +kernel
theorem dX2_freshen_55 : decode cX2_freshen 55 = .ok (.goto (-19), 3) := by decide +kernel
theorem dX2_freshen_58 : decode cX2_freshen 58 = .ok (.aload_n 0, 1) := by decide +kernel
theorem dX2_freshen_59 : decode cX2_freshen 59 = .ok (.iconst (-1), 1) := by decide +kernel
theorem dX2_freshen_60 : decode cX2_freshen 60 = .ok (.putfield 27, 3) := by decide +kernel
theorem dX2_freshen_63 : decode cX2_freshen 63 = .ok (.aload_n 0, 1) := by decide +kernel
theorem dX2_freshen_64 : decode cX2_freshen 64 = .ok (.iconst 0, 1) := by decide +kernel
theorem dX2_freshen_65 : decode cX2_freshen 65 = .ok (.iconst 0, 1) := by decide +kernel
theorem dX2_freshen_66 : decode cX2_freshen 66 = .ok (.iconst 0, 1) := by decide +kernel
theorem dX2_freshen_67 : decode cX2_freshen 67 = .ok (.iconst 0, 1) := by decide +kernel
theorem dX2_freshen_68 : decode cX2_freshen 68 = .ok (.invokevirtual 52, 3) := by decide +kernel
theorem dX2_freshen_71 : decode cX2_freshen 71 = .ok (.aload_n 0, 1) := by decide +kernel
theorem dX2_freshen_72 : decode cX2_freshen 72 = .ok (.iconst 1, 1) := by decide +kernel
theorem dX2_freshen_73 : decode cX2_freshen 73 = .ok (.putfield 31, 3) := by decide +kernel
theorem dX2_freshen_76 : decode cX2_freshen 76 = .ok (.return_, 1) := by decide +kernel
theorem dX2_findBegins_0 : decode cX2_findBegins 0 = .ok (.iconst 0, 1) := by decide +kernel
theorem dX2_findBegins_1 : decode cX2_findBegins 1 = .ok (.istore_n 2, 1) := by decide +kernel
theorem dX2_findBegins_2 : decode cX2_findBegins 2 = .ok (.iconst (-1), 1) := by decide +kernel
theorem dX2_findBegins_3 : decode cX2_findBegins 3 = .ok (.istore_n 3, 1) := by decide +kernel
theorem dX2_findBegins_4 : decode cX2_findBegins 4 = .ok (.sipush 1439, 3) := by decide +kernel
theorem dX2_findBegins_7 : decode cX2_findBegins 7 = .ok (.istore 4, 2) := by decide +kernel
theorem dX2_findBegins_9 : decode cX2_findBegins 9 = .ok (.iload 4, 2) := by decide +kernel
theorem dX2_findBegins_11 : decode cX2_findBegins 11 = .ok (.ifCond .lt 72, 3) := by decide +kernel
theorem dX2_findBegins_14 : decode cX2_findBegins 14 = .ok (.aload_n 0, 1) := by decide +kernel
theorem dX2_findBegins_15 : decode cX2_findBegins 15 = .ok (.getfield 39, 3) := by decide +kernel
theorem dX2_findBegins_18 : decode cX2_findBegins 18 = .ok (.getfield 56, 3) := by decide +kernel
theorem dX2_findBegins_21 : decode cX2_findBegins 21 = .ok (.iload 4, 2) := by decide +kernel
theorem dX2_findBegins_23 : decode cX2_findBegins 23 = .ok (.iaload, 1) := by decide +kernel
theorem dX2_findBegins_24 : decode cX2_findBegins 24 = .ok (.invokestatic 61, 3) := by decide +kernel
theorem dX2_findBegins_27 : decode cX2_findBegins 27 = .ok (.aload_n 0, 1) := by decide +kernel
theorem dX2_findBegins_28 : decode cX2_findBegins 28 = .ok (.getfield 35, 3) := by decide +kernel
theorem dX2_findBegins_31 : decode cX2_findBegins 31 = .ok (.getfield 67, 3) := by decide +kernel
theorem dX2_findBegins_34 : decode cX2_findBegins 34 = .ok (.iload_n 1, 1) := by decide +kernel
theorem dX2_findBegins_35 : decode cX2_findBegins 35 = .ok (.iaload, 1) := by decide +kernel
theorem dX2_findBegins_36 : decode cX2_findBegins 36 = .ok (.if_icmp .gt 9, 3) := by decide +kernel
theorem dX2_findBegins_39 : decode cX2_findBegins 39 = .ok (.iload_n 2, 1) := by decide +kernel
theorem dX2_findBegins_40 : decode cX2_findBegins 40 = .ok (.iconst 1, 1) := by decide +kernel
theorem dX2_findBegins_41 : decode cX2_findBegins 41 = .ok (.iadd, 1) := by decide +kernel
theorem dX2_findBegins_42 : decode cX2_findBegins 42 = .ok (.goto 4, 3) := by decide +kernel
theorem dX2_findBegins_45 : decode cX2_findBegins 45 = .ok (.iconst 0, 1) := by decide +kernel
theorem dX2_findBegins_46 : decode cX2_findBegins 46 = .ok (.istore_n 2, 1) := by decide +kernel
theorem dX2_findBegins_47 : decode cX2_findBegins 47 = .ok (.iload_n 2, 1) := by decide +kernel
theorem dX2_findBegins_48 : decode cX2_findBegins 48 = .ok (.aload_n 0, 1) := by decide +kernel
theorem dX2_findBegins_49 : decode cX2_findBegins 49 = .ok (.getfield 35, 3) := by decide +kernel
theorem dX2_findBegins_52 : decode cX2_findBegins 52 = .ok (.getfield 70, 3) := by decide +kernel
theorem dX2_findBegins_55 : decode cX2_findBegins 55 = .ok (.iload_n 1, 1) := by decide +kernel
theorem dX2_findBegins_56 : decode cX2_findBegins 56 = .ok (.iaload, 1) := by decide +kernel
theorem dX2_findBegins_57 : decode cX2_findBegins 57 = .ok (.if_icmp .lt 6, 3) := by decide +kernel
theorem dX2_findBegins_60 : decode cX2_findBegins 60 = .ok (.iload 4, 2) := by decide +kernel
theorem dX2_findBegins_62 : decode cX2_findBegins 62 = .ok (.istore_n 3, 1) := by decide +kernel
theorem dX2_findBegins_63 : decode cX2_findBegins 63 = .ok (.aload_n 0, 1) := by decide +kernel
theorem dX2_findBegins_64 : decode cX2_findBegins 64 = .ok (.getfield 9, 3) := by decide +kernel
theorem dX2_findBegins_67 : decode cX2_findBegins 67 = .ok (.iload_n 1, 1) := by decide +kernel
theorem dX2_findBegins_68 : decode cX2_findBegins 68 = .ok (.sipush 1440, 3) := by decide +kernel
theorem dX2_findBegins_71 : decode cX2_findBegins 71 = .ok (.imul, 1) := by decide +kernel
theorem dX2_findBegins_72 : decode cX2_findBegins 72 = .ok (.iload 4, 2) := by decide +kernel
theorem dX2_findBegins_74 : decode cX2_findBegins 74 = .ok (.iadd, 1) := by decide +kernel
theorem dX2_findBegins_75 : decode cX2_findBegins 75 = .ok (.iload_n 3, 1) := by decide +kernel
theorem dX2_findBegins_76 : decode cX2_findBegins 76 = .ok (.iastore, 1) := by decide +kernel
theorem dX2_findBegins_77 : decode cX2_findBegins 77 = .ok (.iinc 4 (-1), 3) := by decide +kernel
theorem dX2_findBegins_80 : decode cX2_findBegins 80 = .ok (.goto (-71), 3) := by decide +kernel
theorem dX2_findBegins_83 : decode cX2_findBegins 83 = .ok (.return_, 1) := by decide +kernel
theorem dX2_lineUp_0 : decode cX2_lineUp 0 = .ok (.iload_n 1, 1) := by decide +kernel
theorem dX2_lineUp_1 : decode cX2_lineUp 1 = .ok (.aload_n 0, 1) := by decide +kernel
theorem dX2_lineUp_2 : decode cX2_lineUp 2 = .ok (.getfield 35, 3) := by decide +kernel
theorem dX2_lineUp_5 : decode cX2_lineUp 5 = .ok (.getfield 43, 3) := by decide +kernel
theorem dX2_lineUp_8 : decode cX2_lineUp 8 = .ok (.if_icmp .lt 40, 3) := by decide +kernel
theorem dX2_lineUp_11 : decode cX2_lineUp 11 = .ok (.aload_n 0, 1) := by decide +kernel
theorem dX2_lineUp_12 : decode cX2_lineUp 12 = .ok (.iload 4, 2) := by decide +kernel
theorem dX2_lineUp_14 : decode cX2_lineUp 14 = .ok (.putfield 27, 3) := by decide +kernel
theorem dX2_lineUp_17 : decode cX2_lineUp 17 = .ok (.aload_n 0, 1) := by decide +kernel
theorem dX2_lineUp_18 : decode cX2_lineUp 18 = .ok (.getfield 15, 3) := by decide +kernel
theorem dX2_lineUp_21 : decode cX2_lineUp 21 = .ok (.iconst 0, 1) := by decide +kernel
theorem dX2_lineUp_22 : decode cX2_lineUp 22 = .ok (.aload_n 0, 1) := by decide +kernel
theorem dX2_lineUp_23 : decode cX2_lineUp 23 = .ok (.getfield 21, 3) := by decide +kernel
theorem dX2_lineUp_26 : decode cX2_lineUp 26 = .ok (.iconst 0, 1) := by decide +kernel
theorem dX2_lineUp_27 : decode cX2_lineUp 27 = .ok (.bipush 6, 2) := by decide +kernel
theorem dX2_lineUp_29 : decode cX2_lineUp 29 = .ok (.invokestatic 73, 3) := by decide +kernel
theorem dX2_lineUp_32 : decode cX2_lineUp 32 = .ok (.aload_n 0, 1) := by decide +kernel
theorem dX2_lineUp_33 : decode cX2_lineUp 33 = .ok (.getfield 18, 3) := by decide +kernel
theorem dX2_lineUp_36 : decode cX2_lineUp 36 = .ok (.iconst 0, 1) := by decide +kernel
theorem dX2_lineUp_37 : decode cX2_lineUp 37 = .ok (.aload_n 0, 1) := by decide +kernel
theorem dX2_lineUp_38 : decode cX2_lineUp 38 = .ok (.getfield 24, 3) := by decide +kernel
theorem dX2_lineUp_41 : decode cX2_lineUp 41 = .ok (.iconst 0, 1) := by decide +kernel
theorem dX2_lineUp_42 : decode cX2_lineUp 42 = .ok (.bipush 6, 2) := by decide +kernel
theorem dX2_lineUp_44 : decode cX2_lineUp 44 = .ok (.invokestatic 73, 3) := by decide +kernel
theorem dX2_lineUp_47 : decode cX2_lineUp 47 = .ok (.return_, 1) := by decide +kernel
theorem dX2_lineUp_48 : decode cX2_lineUp 48 = .ok (.iconst 0, 1) := by decide +kernel
theorem dX2_lineUp_49 : decode cX2_lineUp 49 = .ok (.istore 5, 2) := by decide +kernel
theorem dX2_lineUp_51 : decode cX2_lineUp 51 = .ok (.iload 5, 2) := by decide +kernel
theorem dX2_lineUp_53 : decode cX2_lineUp 53 = .ok (.aload_n 0, 1) := by decide +kernel
theorem dX2_lineUp_54 : decode cX2_lineUp 54 = .ok (.getfield 35, 3) := by decide +kernel
theorem dX2_lineUp_57 : decode cX2_lineUp 57 = .ok (.getfield 43, 3) := by decide +kernel
theorem dX2_lineUp_60 : decode cX2_lineUp 60 = .ok (.if_icmp .ge 150, 3) := by decide +kernel
theorem dX2_lineUp_63 : decode cX2_lineUp 63 = .ok (.iload_n 3, 1) := by decide +kernel
theorem dX2_lineUp_64 : decode cX2_lineUp 64 = .ok (.aload_n 0, 1) := by decide +kernel
theorem dX2_lineUp_65 : decode cX2_lineUp 65 = .ok (.getfield 35, 3) := by decide +kernel
theorem dX2_lineUp_68 : decode cX2_lineUp 68 = .ok (.getfield 79, 3) := by decide +kernel
theorem dX2_lineUp_71 : decode cX2_lineUp 71 = .ok (.iload 5, 2) := by decide +kernel
theorem dX2_lineUp_73 : decode cX2_lineUp 73 = .ok (.iaload, 1) := by decide +kernel
theorem dX2_lineUp_74 : decode cX2_lineUp 74 = .ok (.invokestatic 82, 3) := by decide +kernel
theorem dX2_lineUp_77 : decode cX2_lineUp 77 = .ok (.istore 6, 2) := by decide +kernel
theorem dX2_lineUp_79 : decode cX2_lineUp 79 = .ok (.iload_n 2, 1) := by decide +kernel
theorem dX2_lineUp_80 : decode cX2_lineUp 80 = .ok (.iload 5, 2) := by decide +kernel
theorem dX2_lineUp_82 : decode cX2_lineUp 82 = .ok (.ishr, 1) := by decide +kernel
theorem dX2_lineUp_83 : decode cX2_lineUp 83 = .ok (.iconst 1, 1) := by decide +kernel
theorem dX2_lineUp_84 : decode cX2_lineUp 84 = .ok (.iand, 1) := by decide +kernel
theorem dX2_lineUp_85 : decode cX2_lineUp 85 = .ok (.ifCond .ne 119, 3) := by decide +kernel
theorem dX2_lineUp_88 : decode cX2_lineUp 88 = .ok (.iload 6, 2) := by decide +kernel
theorem dX2_lineUp_90 : decode cX2_lineUp 90 = .ok (.sipush 1440, 3) := by decide +kernel
theorem dX2_lineUp_93 : decode cX2_lineUp 93 = .ok (.if_icmp .lt 6, 3) := by decide +kernel
theorem dX2_lineUp_96 : decode cX2_lineUp 96 = .ok (.goto 108, 3) := by decide +kernel
theorem dX2_lineUp_99 : decode cX2_lineUp 99 = .ok (.aload_n 0, 1) := by decide +kernel
theorem dX2_lineUp_100 : decode cX2_lineUp 100 = .ok (.getfield 9, 3) := by decide +kernel
theorem dX2_lineUp_103 : decode cX2_lineUp 103 = .ok (.iload 5, 2) := by decide +kernel
theorem dX2_lineUp_105 : decode cX2_lineUp 105 = .ok (.sipush 1440, 3) := by decide +kernel
theorem dX2_lineUp_108 : decode cX2_lineUp 108 = .ok (.imul, 1) := by decide +kernel
theorem dX2_lineUp_109 : decode cX2_lineUp 109 = .ok (.iload 6, 2) := by decide +kernel
theorem dX2_lineUp_111 : decode cX2_lineUp 111 = .ok (.iadd, 1) := by decide +kernel
theorem dX2_lineUp_112 : decode cX2_lineUp 112 = .ok (.iaload, 1) := by decide +kernel
theorem dX2_lineUp_113 : decode cX2_lineUp 113 = .ok (.istore 7, 2) := by decide +kernel
theorem dX2_lineUp_115 : decode cX2_lineUp 115 = .ok (.iload 4, 2) := by decide +kernel
theorem dX2_lineUp_117 : decode cX2_lineUp 117 = .ok (.iload 7, 2) := by decide +kernel
theorem dX2_lineUp_119 : decode cX2_lineUp 119 = .ok (.iadd, 1) := by decide +kernel
theorem dX2_lineUp_120 : decode cX2_lineUp 120 = .ok (.aload_n 0, 1) := by decide +kernel
theorem dX2_lineUp_121 : decode cX2_lineUp 121 = .ok (.getfield 35, 3) := by decide +kernel
theorem dX2_lineUp_124 : decode cX2_lineUp 124 = .ok (.getfield 79, 3) := by decide +kernel
theorem dX2_lineUp_127 : decode cX2_lineUp 127 = .ok (.iload 5, 2) := by decide +kernel
theorem dX2_lineUp_129 : decode cX2_lineUp 129 = .ok (.iaload, 1) := by decide +kernel
theorem dX2_lineUp_130 : decode cX2_lineUp 130 = .ok (.isub, 1) := by decide +kernel
theorem dX2_lineUp_131 : decode cX2_lineUp 131 = .ok (.istore 8, 2) := by decide +kernel
theorem dX2_lineUp_133 : decode cX2_lineUp 133 = .ok (.iload 7, 2) := by decide +kernel
theorem dX2_lineUp_135 : decode cX2_lineUp 135 = .ok (.iconst (-1), 1) := by decide +kernel
theorem dX2_lineUp_136 : decode cX2_lineUp 136 = .ok (.if_icmp .eq 68, 3) := by decide +kernel
theorem dX2_lineUp_139 : decode cX2_lineUp 139 = .ok (.aload_n 0, 1) := by decide +kernel
theorem dX2_lineUp_140 : decode cX2_lineUp 140 = .ok (.getfield 27, 3) := by decide +kernel
theorem dX2_lineUp_143 : decode cX2_lineUp 143 = .ok (.iconst (-1), 1) := by decide +kernel
theorem dX2_lineUp_144 : decode cX2_lineUp 144 = .ok (.if_icmp .eq 15, 3) := by decide +kernel
theorem dX2_lineUp_147 : decode cX2_lineUp 147 = .ok (.iload 8, 2) := by decide +kernel
theorem dX2_lineUp_149 : decode cX2_lineUp 149 = .ok (.aload_n 0, 1) := by decide +kernel
theorem dX2_lineUp_150 : decode cX2_lineUp 150 = .ok (.getfield 27, 3) := by decide +kernel
theorem dX2_lineUp_153 : decode cX2_lineUp 153 = .ok (.if_icmp .lt 6, 3) := by decide +kernel
theorem dX2_lineUp_156 : decode cX2_lineUp 156 = .ok (.goto 48, 3) := by decide +kernel
theorem dX2_lineUp_159 : decode cX2_lineUp 159 = .ok (.aload_n 0, 1) := by decide +kernel
theorem dX2_lineUp_160 : decode cX2_lineUp 160 = .ok (.getfield 15, 3) := by decide +kernel
theorem dX2_lineUp_163 : decode cX2_lineUp 163 = .ok (.iload_n 1, 1) := by decide +kernel
theorem dX2_lineUp_164 : decode cX2_lineUp 164 = .ok (.iload 5, 2) := by decide +kernel
theorem dX2_lineUp_166 : decode cX2_lineUp 166 = .ok (.iastore, 1) := by decide +kernel
theorem dX2_lineUp_167 : decode cX2_lineUp 167 = .ok (.aload_n 0, 1) := by decide +kernel
theorem dX2_lineUp_168 : decode cX2_lineUp 168 = .ok (.getfield 18, 3) := by decide +kernel
theorem dX2_lineUp_171 : decode cX2_lineUp 171 = .ok (.iload 5, 2) := by decide +kernel
theorem dX2_lineUp_173 : decode cX2_lineUp 173 = .ok (.iload 7, 2) := by decide +kernel
theorem dX2_lineUp_175 : decode cX2_lineUp 175 = .ok (.iastore, 1) := by decide +kernel
theorem dX2_lineUp_176 : decode cX2_lineUp 176 = .ok (.aload_n 0, 1) := by decide +kernel
theorem dX2_lineUp_177 : decode cX2_lineUp 177 = .ok (.iload_n 1, 1) := by decide +kernel
theorem dX2_lineUp_178 : decode cX2_lineUp 178 = .ok (.iconst 1, 1) := by decide +kernel
theorem dX2_lineUp_179 : decode cX2_lineUp 179 = .ok (.iadd, 1) := by decide +kernel
theorem dX2_lineUp_180 : decode cX2_lineUp 180 = .ok (.iload_n 2, 1) := by decide +kernel
theorem dX2_lineUp_181 : decode cX2_lineUp 181 = .ok (.iconst 1, 1) := by decide +kernel
theorem dX2_lineUp_182 : decode cX2_lineUp 182 = .ok (.iload 5, 2) := by decide +kernel
theorem dX2_lineUp_184 : decode cX2_lineUp 184 = .ok (.ishl, 1) := by decide +kernel
theorem dX2_lineUp_185 : decode cX2_lineUp 185 = .ok (.ior, 1) := by decide +kernel
theorem dX2_lineUp_186 : decode cX2_lineUp 186 = .ok (.iload 7, 2) := by decide +kernel
theorem dX2_lineUp_188 : decode cX2_lineUp 188 = .ok (.aload_n 0, 1) := by decide +kernel
theorem dX2_lineUp_189 : decode cX2_lineUp 189 = .ok (.getfield 35, 3) := by decide +kernel
theorem dX2_lineUp_192 : decode cX2_lineUp 192 = .ok (.getfield 70, 3) := by decide +kernel
theorem dX2_lineUp_195 : decode cX2_lineUp 195 = .ok (.iload 5, 2) := by decide +kernel
theorem dX2_lineUp_197 : decode cX2_lineUp 197 = .ok (.iaload, 1) := by decide +kernel
theorem dX2_lineUp_198 : decode cX2_lineUp 198 = .ok (.iadd, 1) := by decide +kernel
theorem dX2_lineUp_199 : decode cX2_lineUp 199 = .ok (.iload 8, 2) := by decide +kernel
theorem dX2_lineUp_201 : decode cX2_lineUp 201 = .ok (.invokevirtual 52, 3) := by decide +kernel
theorem dX2_lineUp_204 : decode cX2_lineUp 204 = .ok (.iinc 5 1, 3) := by decide +kernel
theorem dX2_lineUp_207 : decode cX2_lineUp 207 = .ok (.goto (-156), 3) := by decide +kernel
theorem dX2_lineUp_210 : decode cX2_lineUp 210 = .ok (.return_, 1) := by decide +kernel
theorem dX4_init_0 : decode cX4_init 0 = .ok (.aload_n 0, 1) := by decide +kernel
theorem dX4_init_1 : decode cX4_init 1 = .ok (.invokespecial 3, 3) := by decide +kernel
theorem dX4_init_4 : decode cX4_init 4 = .ok (.aload_n 0, 1) := by decide +kernel
theorem dX4_init_5 : decode cX4_init 5 = .ok (.sipush 1441, 3) := by decide +kernel
theorem dX4_init_8 : decode cX4_init 8 = .ok (.newarray .int, 2) := by decide +kernel
theorem dX4_init_10 : decode cX4_init 10 = .ok (.putfield 9, 3) := by decide +kernel
theorem dX4_init_13 : decode cX4_init 13 = .ok (.aload_n 0, 1) := by decide +kernel
theorem dX4_init_14 : decode cX4_init 14 = .ok (.iconst 0, 1) := by decide +kernel
theorem dX4_init_15 : decode cX4_init 15 = .ok (.putfield 15, 3) := by decide +kernel
theorem dX4_init_18 : decode cX4_init 18 = .ok (.aload_n 0, 1) := by decide +kernel
theorem dX4_init_19 : decode cX4_init 19 = .ok (.iconst 0, 1) := by decide +kernel
theorem dX4_init_20 : decode cX4_init 20 = .ok (.putfield 19, 3) := by decide +kernel
theorem dX4_init_23 : decode cX4_init 23 = .ok (.aload_n 0, 1) := by decide +kernel
theorem dX4_init_24 : decode cX4_init 24 = .ok (.iconst 0, 1) := by decide +kernel
theorem dX4_init_25 : decode cX4_init 25 = .ok (.putfield 23, 3) := by decide +kernel
theorem dX4_init_28 : decode cX4_init 28 = .ok (.aload_n 0, 1) := by decide +kernel
theorem dX4_init_29 : decode cX4_init 29 = .ok (.aload_n 1, 1) := by decide +kernel
theorem dX4_init_30 : decode cX4_init 30 = .ok (.putfield 26, 3) := by decide +kernel
theorem dX4_init_33 : decode cX4_init 33 = .ok (.return_, 1) := by decide +kernel
theorem dX4_freshen_0 : decode cX4_freshen 0 = .ok (.aload_n 0, 1) := by decide +kernel
theorem dX4_freshen_1 : decode cX4_freshen 1 = .ok (.getfield 23, 3) := by decide +kernel
theorem dX4_freshen_4 : decode cX4_freshen 4 = .ok (.ifCond .eq 4, 3) := by decide +kernel
theorem dX4_freshen_7 : decode cX4_freshen 7 = .ok (.return_, 1) := by decide +kernel
theorem dX4_freshen_8 : decode cX4_freshen 8 = .ok (.aload_n 0, 1) := by decide +kernel
theorem dX4_freshen_9 : decode cX4_freshen 9 = .ok (.getfield 9, 3) := by decide +kernel
theorem dX4_freshen_12 : decode cX4_freshen 12 = .ok (.iconst 0, 1) := by decide +kernel
theorem dX4_freshen_13 : decode cX4_freshen 13 = .ok (.invokestatic 30, 3) := by decide +kernel
theorem dX4_freshen_16 : decode cX4_freshen 16 = .ok (.aload_n 0, 1) := by decide +kernel
theorem dX4_freshen_17 : decode cX4_freshen 17 = .ok (.iconst 0, 1) := by decide +kernel
theorem dX4_freshen_18 : decode cX4_freshen 18 = .ok (.putfield 15, 3) := by decide +kernel
theorem dX4_freshen_21 : decode cX4_freshen 21 = .ok (.aload_n 0, 1) := by decide +kernel
theorem dX4_freshen_22 : decode cX4_freshen 22 = .ok (.iconst 0, 1) := by decide +kernel
theorem dX4_freshen_23 : decode cX4_freshen 23 = .ok (.putfield 19, 3) := by decide +kernel
theorem dX4_freshen_26 : decode cX4_freshen 26 = .ok (.iconst 0, 1) := by decide +kernel
theorem dX4_freshen_27 : decode cX4_freshen 27 = .ok (.istore_n 1, 1) := by decide +kernel
theorem dX4_freshen_28 : decode cX4_freshen 28 = .ok (.bipush 60, 2) := by decide +kernel
theorem dX4_freshen_30 : decode cX4_freshen 30 = .ok (.istore_n 2, 1) := by decide +kernel
theorem dX4_freshen_31 : decode cX4_freshen 31 = .ok (.iload_n 2, 1) := by decide +kernel
theorem dX4_freshen_32 : decode cX4_freshen 32 = .ok (.sipush 1440, 3) := by decide +kernel
theorem dX4_freshen_35 : decode cX4_freshen 35 = .ok (.if_icmp .ge 80, 3) := by decide +kernel
theorem dX4_freshen_38 : decode cX4_freshen 38 = .ok (.aload_n 0, 1) := by decide +kernel
theorem dX4_freshen_39 : decode cX4_freshen 39 = .ok (.iload_n 2, 1) := by decide +kernel
theorem dX4_freshen_40 : decode cX4_freshen 40 = .ok (.invokevirtual 36, 3) := by decide +kernel
theorem dX4_freshen_43 : decode cX4_freshen 43 = .ok (.ifCond .eq 10, 3) := by decide +kernel
theorem dX4_freshen_46 : decode cX4_freshen 46 = .ok (.iload_n 2, 1) := by decide +kernel
theorem dX4_freshen_47 : decode cX4_freshen 47 = .ok (.istore_n 1, 1) := by decide +kernel
theorem dX4_freshen_48 : decode cX4_freshen 48 = .ok (.aload_n 0, 1) := by decide +kernel
theorem dX4_freshen_49 : decode cX4_freshen 49 = .ok (.iconst 1, 1) := by decide +kernel
theorem dX4_freshen_50 : decode cX4_freshen 50 = .ok (.putfield 19, 3) := by decide +kernel
theorem dX4_freshen_53 : decode cX4_freshen 53 = .ok (.aload_n 0, 1) := by decide +kernel
theorem dX4_freshen_54 : decode cX4_freshen 54 = .ok (.getfield 19, 3) := by decide +kernel
theorem dX4_freshen_57 : decode cX4_freshen 57 = .ok (.ifCond .eq 52, 3) := by decide +kernel
theorem dX4_freshen_60 : decode cX4_freshen 60 = .ok (.aload_n 0, 1) := by decide +kernel
theorem dX4_freshen_61 : decode cX4_freshen 61 = .ok (.getfield 26, 3) := by decide +kernel
theorem dX4_freshen_64 : decode cX4_freshen 64 = .ok (.iload_n 2, 1) := by decide +kernel
theorem dX4_freshen_65 : decode cX4_freshen 65 = .ok (.invokevirtual 40, 3) := by decide +kernel
theorem dX4_freshen_68 : decode cX4_freshen 68 = .ok (.istore_n 3, 1) := by decide +kernel
theorem dX4_freshen_69 : decode cX4_freshen 69 = .ok (.aload_n 0, 1) := by decide +kernel
theorem dX4_freshen_70 : decode cX4_freshen 70 = .ok (.getfield 9, 3) := by decide +kernel
theorem dX4_freshen_73 : decode cX4_freshen 73 = .ok (.iload_n 2, 1) := by decide +kernel
theorem dX4_freshen_74 : decode cX4_freshen 74 = .ok (.iload_n 1, 1) := by decide +kernel
theorem dX4_freshen_75 : decode cX4_freshen 75 = .ok (.isub, 1) := by decide +kernel
theorem dX4_freshen_76 : decode cX4_freshen 76 = .ok (.iconst 1, 1) := by decide +kernel
theorem dX4_freshen_77 : decode cX4_freshen 77 = .ok (.iadd, 1) := by decide +kernel
theorem dX4_freshen_78 : decode cX4_freshen 78 = .ok (.dup2, 1) := by decide +kernel
theorem dX4_freshen_79 : decode cX4_freshen 79 = .ok (.iaload, 1) := by decide +kernel
theorem dX4_freshen_80 : decode cX4_freshen 80 = .ok (.iload_n 3, 1) := by decide +kernel
theorem dX4_freshen_81 : decode cX4_freshen 81 = .ok (.ifCond .eq 7, 3) := by decide +kernel
theorem dX4_freshen_84 : decode cX4_freshen 84 = .ok (.iconst 1, 1) := by decide +kernel
theorem dX4_freshen_85 : decode cX4_freshen 85 = .ok (.goto 4, 3) := by decide +kernel
theorem dX4_freshen_88 : decode cX4_freshen 88 = .ok (.iconst (-1), 1) := by decide +kernel
theorem dX4_freshen_89 : decode cX4_freshen 89 = .ok (.iadd, 1) := by decide +kernel
theorem dX4_freshen_90 : decode cX4_freshen 90 = .ok (.iastore, 1) := by decide +kernel
theorem dX4_freshen_91 : decode cX4_freshen 91 = .ok (.aload_n 0, 1) := by decide +kernel
theorem dX4_freshen_92 : decode cX4_freshen 92 = .ok (.dup, 1) := by decide +kernel
theorem dX4_freshen_93 : decode cX4_freshen 93 = .ok (.getfield 15, 3) := by decide +kernel
theorem dX4_freshen_96 : decode cX4_freshen 96 = .ok (.iload_n 3, 1) := by decide +kernel
theorem dX4_freshen_97 : decode cX4_freshen 97 = .ok (.ifCond .eq 7, 3) := by decide +kernel
theorem dX4_freshen_100 : decode cX4_freshen 100 = .ok (.iconst 0, 1) := by decide +kernel
theorem dX4_freshen_101 : decode cX4_freshen 101 = .ok (.goto 4, 3) := by decide +kernel
theorem dX4_freshen_104 : decode cX4_freshen 104 = .ok (.iconst 1, 1) := by decide +kernel
theorem dX4_freshen_105 : decode cX4_freshen 105 = .ok (.iadd, 1) := by decide +kernel
theorem dX4_freshen_106 : decode cX4_freshen 106 = .ok (.putfield 15, 3) := by decide +kernel
theorem dX4_freshen_109 : decode cX4_freshen 109 = .ok (.iinc 2 1, 3) := by decide +kernel
theorem dX4_freshen_112 : decode cX4_freshen 112 = .ok (.goto (-81), 3) := by decide +kernel
theorem dX4_freshen_115 : decode cX4_freshen 115 = .ok (.iconst 1, 1) := by decide +kernel
theorem dX4_freshen_116 : decode cX4_freshen 116 = .ok (.istore_n 2, 1) := by decide +kernel
theorem dX4_freshen_117 : decode cX4_freshen 117 = .ok (.iload_n 2, 1) := by decide +kernel
theorem dX4_freshen_118 : decode cX4_freshen 118 = .ok (.sipush 1440, 3) := by decide +kernel
theorem dX4_freshen_121 : decode cX4_freshen 121 = .ok (.if_icmp .gt 26, 3) := by decide +kernel
theorem dX4_freshen_124 : decode cX4_freshen 124 = .ok (.aload_n 0, 1) := by decide +kernel
theorem dX4_freshen_125 : decode cX4_freshen 125 = .ok (.getfield 9, 3) := by decide +kernel
theorem dX4_freshen_128 : decode cX4_freshen 128 = .ok (.iload_n 2, 1) := by decide +kernel
theorem dX4_freshen_129 : decode cX4_freshen 129 = .ok (.dup2, 1) := by decide +kernel
theorem dX4_freshen_130 : decode cX4_freshen 130 = .ok (.iaload, 1) := by decide +kernel
theorem dX4_freshen_131 : decode cX4_freshen 131 = .ok (.aload_n 0, 1) := by decide +kernel
theorem dX4_freshen_132 : decode cX4_freshen 132 = .ok (.getfield 9, 3) := by decide +kernel
theorem dX4_freshen_135 : decode cX4_freshen 135 = .ok (.iload_n 2, 1) := by decide +kernel
theorem dX4_freshen_136 : decode cX4_freshen 136 = .ok (.iconst 1, 1) := by decide +kernel
theorem dX4_freshen_137 : decode cX4_freshen 137 = .ok (.isub, 1) := by decide +kernel
theorem dX4_freshen_138 : decode cX4_freshen 138 = .ok (.iaload, 1) := by decide +kernel
theorem dX4_freshen_139 : decode cX4_freshen 139 = .ok (.iadd, 1) := by decide +kernel
theorem dX4_freshen_140 : decode cX4_freshen 140 = .ok (.iastore, 1) := by decide +kernel
theorem dX4_freshen_141 : decode cX4_freshen 141 = .ok (.iinc 2 1, 3) := by decide +kernel
theorem dX4_freshen_144 : decode cX4_freshen 144 = .ok (.goto (-27), 3) := by decide +kernel
theorem dX4_freshen_147 : decode cX4_freshen 147 = .ok (.aload_n 0, 1) := by decide +kernel
theorem dX4_freshen_148 : decode cX4_freshen 148 = .ok (.iconst 1, 1) := by decide +kernel
theorem dX4_freshen_149 : decode cX4_freshen 149 = .ok (.putfield 23, 3) := by decide +kernel
theorem dX4_freshen_152 : decode cX4_freshen 152 = .ok (.return_, 1) := by decide +kernel
theorem dX4_isHigh_0 : decode cX4_isHigh 0 = .ok (.iload_n 1, 1) := by decide +kernel
theorem dX4_isHigh_1 : decode cX4_isHigh 1 = .ok (.bipush 60, 2) := by decide +kernel
theorem dX4_isHigh_3 : decode cX4_isHigh 3 = .ok (.if_icmp .lt 13, 3) := by decide +kernel
theorem dX4_isHigh_6 : decode cX4_isHigh 6 = .ok (.iload_n 1, 1) := by decide +kernel
theorem dX4_isHigh_7 : decode cX4_isHigh 7 = .ok (.bipush 60, 2) := by decide +kernel
theorem dX4_isHigh_9 : decode cX4_isHigh 9 = .ok (.iadd, 1) := by decide +kernel
theorem dX4_isHigh_10 : decode cX4_isHigh 10 = .ok (.sipush 1440, 3) := by decide +kernel
theorem dX4_isHigh_13 : decode cX4_isHigh 13 = .ok (.if_icmp .lt 5, 3) := by decide +kernel
theorem dX4_isHigh_16 : decode cX4_isHigh 16 = .ok (.iconst 0, 1) := by decide +kernel
theorem dX4_isHigh_17 : decode cX4_isHigh 17 = .ok (.ireturn, 1) := by decide +kernel
theorem dX4_isHigh_18 : decode cX4_isHigh 18 = .ok (.aload_n 0, 1) := by decide +kernel
theorem dX4_isHigh_19 : decode cX4_isHigh 19 = .ok (.getfield 26, 3) := by decide +kernel
theorem dX4_isHigh_22 : decode cX4_isHigh 22 = .ok (.iconst 0, 1) := by decide +kernel
theorem dX4_isHigh_23 : decode cX4_isHigh 23 = .ok (.iload_n 1, 1) := by decide +kernel
theorem dX4_isHigh_24 : decode cX4_isHigh 24 = .ok (.invokevirtual 45, 3) := by decide +kernel
theorem dX4_isHigh_27 : decode cX4_isHigh 27 = .ok (.istore_n 2, 1) := by decide +kernel
theorem dX4_isHigh_28 : decode cX4_isHigh 28 = .ok (.iconst 1, 1) := by decide +kernel
theorem dX4_isHigh_29 : decode cX4_isHigh 29 = .ok (.istore_n 3, 1) := by decide +kernel
theorem dX4_isHigh_30 : decode cX4_isHigh 30 = .ok (.iload_n 3, 1) := by decide +kernel
theorem dX4_isHigh_31 : decode cX4_isHigh 31 = .ok (.bipush 60, 2) := by decide +kernel
theorem dX4_isHigh_33 : decode cX4_isHigh 33 = .ok (.if_icmp .gt 41, 3) := by decide +kernel
theorem dX4_isHigh_36 : decode cX4_isHigh 36 = .ok (.aload_n 0, 1) := by decide +kernel
theorem dX4_isHigh_37 : decode cX4_isHigh 37 = .ok (.getfield 26, 3) := by decide +kernel
theorem dX4_isHigh_40 : decode cX4_isHigh 40 = .ok (.iconst 0, 1) := by decide +kernel
theorem dX4_isHigh_41 : decode cX4_isHigh 41 = .ok (.iload_n 1, 1) := by decide +kernel
theorem dX4_isHigh_42 : decode cX4_isHigh 42 = .ok (.iload_n 3, 1) := by decide +kernel
theorem dX4_isHigh_43 : decode cX4_isHigh 43 = .ok (.isub, 1) := by decide +kernel
theorem dX4_isHigh_44 : decode cX4_isHigh 44 = .ok (.invokevirtual 45, 3) := by decide +kernel
theorem dX4_isHigh_47 : decode cX4_isHigh 47 = .ok (.iload_n 2, 1) := by decide +kernel
theorem dX4_isHigh_48 : decode cX4_isHigh 48 = .ok (.if_icmp .ge 18, 3) := by decide +kernel
theorem dX4_isHigh_51 : decode cX4_isHigh 51 = .ok (.aload_n 0, 1) := by decide +kernel
theorem dX4_isHigh_52 : decode cX4_isHigh 52 = .ok (.getfield 26, 3) := by decide +kernel
theorem dX4_isHigh_55 : decode cX4_isHigh 55 = .ok (.iconst 0, 1) := by decide +kernel
theorem dX4_isHigh_56 : decode cX4_isHigh 56 = .ok (.iload_n 1, 1) := by decide +kernel
theorem dX4_isHigh_57 : decode cX4_isHigh 57 = .ok (.iload_n 3, 1) := by decide +kernel
theorem dX4_isHigh_58 : decode cX4_isHigh 58 = .ok (.iadd, 1) := by decide +kernel
theorem dX4_isHigh_59 : decode cX4_isHigh 59 = .ok (.invokevirtual 45, 3) := by decide +kernel
theorem dX4_isHigh_62 : decode cX4_isHigh 62 = .ok (.iload_n 2, 1) := by decide +kernel
theorem dX4_isHigh_63 : decode cX4_isHigh 63 = .ok (.if_icmp .le 5, 3) := by decide +kernel
theorem dX4_isHigh_66 : decode cX4_isHigh 66 = .ok (.iconst 0, 1) := by decide +kernel
theorem dX4_isHigh_67 : decode cX4_isHigh 67 = .ok (.ireturn, 1) := by decide +kernel
theorem dX4_isHigh_68 : decode cX4_isHigh 68 = .ok (.iinc 3 1, 3) := by decide +kernel
theorem dX4_isHigh_71 : decode cX4_isHigh 71 = .ok (.goto (-41), 3) := by decide +kernel
theorem dX4_isHigh_74 : decode cX4_isHigh 74 = .ok (.iconst 1, 1) := by decide +kernel
theorem dX4_isHigh_75 : decode cX4_isHigh 75 = .ok (.ireturn, 1) := by decide +kernel
theorem dX4_rightBy_0 : decode cX4_rightBy 0 = .ok (.iload_n 1, 1) := by decide +kernel
theorem dX4_rightBy_1 : decode cX4_rightBy 1 = .ok (.iload_n 2, 1) := by decide +kernel
theorem dX4_rightBy_2 : decode cX4_rightBy 2 = .ok (.if_icmp .le 10, 3) := by decide +kernel
theorem dX4_rightBy_5 : decode cX4_rightBy 5 = .ok (.aload_n 0, 1) := by decide +kernel
theorem dX4_rightBy_6 : decode cX4_rightBy 6 = .ok (.getfield 15, 3) := by decide +kernel
theorem dX4_rightBy_9 : decode cX4_rightBy 9 = .ok (.goto 23, 3) := by decide +kernel
theorem dX4_rightBy_12 : decode cX4_rightBy 12 = .ok (.aload_n 0, 1) := by decide +kernel
theorem dX4_rightBy_13 : decode cX4_rightBy 13 = .ok (.getfield 15, 3) := by decide +kernel
theorem dX4_rightBy_16 : decode cX4_rightBy 16 = .ok (.aload_n 0, 1) := by decide +kernel
theorem dX4_rightBy_17 : decode cX4_rightBy 17 = .ok (.getfield 9, 3) := by decide +kernel
theorem dX4_rightBy_20 : decode cX4_rightBy 20 = .ok (.iload_n 2, 1) := by decide +kernel
theorem dX4_rightBy_21 : decode cX4_rightBy 21 = .ok (.iconst 1, 1) := by decide +kernel
theorem dX4_rightBy_22 : decode cX4_rightBy 22 = .ok (.iadd, 1) := by decide +kernel
theorem dX4_rightBy_23 : decode cX4_rightBy 23 = .ok (.iaload, 1) := by decide +kernel
theorem dX4_rightBy_24 : decode cX4_rightBy 24 = .ok (.iadd, 1) := by decide +kernel
theorem dX4_rightBy_25 : decode cX4_rightBy 25 = .ok (.aload_n 0, 1) := by decide +kernel
theorem dX4_rightBy_26 : decode cX4_rightBy 26 = .ok (.getfield 9, 3) := by decide +kernel
theorem dX4_rightBy_29 : decode cX4_rightBy 29 = .ok (.iload_n 1, 1) := by decide +kernel
theorem dX4_rightBy_30 : decode cX4_rightBy 30 = .ok (.iaload, 1) := by decide +kernel
theorem dX4_rightBy_31 : decode cX4_rightBy 31 = .ok (.isub, 1) := by decide +kernel
theorem dX4_rightBy_32 : decode cX4_rightBy 32 = .ok (.ireturn, 1) := by decide +kernel
theorem dX4_bestFor_0 : decode cX4_bestFor 0 = .ok (.aload_n 0, 1) := by decide +kernel
theorem dX4_bestFor_1 : decode cX4_bestFor 1 = .ok (.getfield 19, 3) := by decide +kernel
theorem dX4_bestFor_4 : decode cX4_bestFor 4 = .ok (.ifCond .ne 5, 3) := by decide +kernel
theorem dX4_bestFor_7 : decode cX4_bestFor 7 = .ok (.iconst (-1), 1) := by decide +kernel
theorem dX4_bestFor_8 : decode cX4_bestFor 8 = .ok (.ireturn, 1) := by decide +kernel
theorem dX4_bestFor_9 : decode cX4_bestFor 9 = .ok (.iconst 0, 1) := by decide +kernel
theorem dX4_bestFor_10 : decode cX4_bestFor 10 = .ok (.istore_n 2, 1) := by decide +kernel
theorem dX4_bestFor_11 : decode cX4_bestFor 11 = .ok (.iconst 1, 1) := by decide +kernel
theorem dX4_bestFor_12 : decode cX4_bestFor 12 = .ok (.istore_n 3, 1) := by decide +kernel
theorem dX4_bestFor_13 : decode cX4_bestFor 13 = .ok (.iload_n 3, 1) := by decide +kernel
theorem dX4_bestFor_14 : decode cX4_bestFor 14 = .ok (.sipush 720, 3) := by decide +kernel
theorem dX4_bestFor_17 : decode cX4_bestFor 17 = .ok (.if_icmp .ge 30, 3) := by decide +kernel
theorem dX4_bestFor_20 : decode cX4_bestFor 20 = .ok (.aload_n 0, 1) := by decide +kernel
theorem dX4_bestFor_21 : decode cX4_bestFor 21 = .ok (.iload_n 3, 1) := by decide +kernel
theorem dX4_bestFor_22 : decode cX4_bestFor 22 = .ok (.iload_n 3, 1) := by decide +kernel
theorem dX4_bestFor_23 : decode cX4_bestFor 23 = .ok (.iload_n 1, 1) := by decide +kernel
theorem dX4_bestFor_24 : decode cX4_bestFor 24 = .ok (.iadd, 1) := by decide +kernel
theorem dX4_bestFor_25 : decode cX4_bestFor 25 = .ok (.invokevirtual 49, 3) := by decide +kernel
theorem dX4_bestFor_28 : decode cX4_bestFor 28 = .ok (.aload_n 0, 1) := by decide +kernel
theorem dX4_bestFor_29 : decode cX4_bestFor 29 = .ok (.iload_n 2, 1) := by decide +kernel
theorem dX4_bestFor_30 : decode cX4_bestFor 30 = .ok (.iload_n 2, 1) := by decide +kernel
theorem dX4_bestFor_31 : decode cX4_bestFor 31 = .ok (.iload_n 1, 1) := by decide +kernel
theorem dX4_bestFor_32 : decode cX4_bestFor 32 = .ok (.iadd, 1) := by decide +kernel
theorem dX4_bestFor_33 : decode cX4_bestFor 33 = .ok (.invokevirtual 49, 3) := by decide +kernel
theorem dX4_bestFor_36 : decode cX4_bestFor 36 = .ok (.if_icmp .le 5, 3) := by decide +kernel
theorem dX4_bestFor_39 : decode cX4_bestFor 39 = .ok (.iload_n 3, 1) := by decide +kernel
theorem dX4_bestFor_40 : decode cX4_bestFor 40 = .ok (.istore_n 2, 1) := by decide +kernel
theorem dX4_bestFor_41 : decode cX4_bestFor 41 = .ok (.iinc 3 1, 3) := by decide +kernel
theorem dX4_bestFor_44 : decode cX4_bestFor 44 = .ok (.goto (-31), 3) := by decide +kernel
theorem dX4_bestFor_47 : decode cX4_bestFor 47 = .ok (.iload_n 2, 1) := by decide +kernel
theorem dX4_bestFor_48 : decode cX4_bestFor 48 = .ok (.ireturn, 1) := by decide +kernel
theorem dX5_init_0 : decode cX5_init 0 = .ok (.aload_n 0, 1) := by decide +kernel
theorem dX5_init_1 : decode cX5_init 1 = .ok (.invokespecial 3, 3) := by decide +kernel
theorem dX5_init_4 : decode cX5_init 4 = .ok (.aload_n 0, 1) := by decide +kernel
theorem dX5_init_5 : decode cX5_init 5 = .ok (.bipush 12, 2) := by decide +kernel
theorem dX5_init_7 : decode cX5_init 7 = .ok (.newarray .int, 2) := by decide +kernel
theorem dX5_init_9 : decode cX5_init 9 = .ok (.putfield 9, 3) := by decide +kernel
theorem dX5_init_12 : decode cX5_init 12 = .ok (.aload_n 0, 1) := by decide +kernel
theorem dX5_init_13 : decode cX5_init 13 = .ok (.bipush 12, 2) := by decide +kernel
theorem dX5_init_15 : decode cX5_init 15 = .ok (.newarray .int, 2) := by decide +kernel
theorem dX5_init_17 : decode cX5_init 17 = .ok (.putfield 15, 3) := by decide +kernel
theorem dX5_init_20 : decode cX5_init 20 = .ok (.aload_n 0, 1) := by decide +kernel
theorem dX5_init_21 : decode cX5_init 21 = .ok (.bipush 12, 2) := by decide +kernel
theorem dX5_init_23 : decode cX5_init 23 = .ok (.newarray .int, 2) := by decide +kernel
theorem dX5_init_25 : decode cX5_init 25 = .ok (.putfield 18, 3) := by decide +kernel
theorem dX5_init_28 : decode cX5_init 28 = .ok (.aload_n 0, 1) := by decide +kernel
theorem dX5_init_29 : decode cX5_init 29 = .ok (.iconst (-1), 1) := by decide +kernel
theorem dX5_init_30 : decode cX5_init 30 = .ok (.putfield 21, 3) := by decide +kernel
theorem dX5_init_33 : decode cX5_init 33 = .ok (.aload_n 0, 1) := by decide +kernel
theorem dX5_init_34 : decode cX5_init 34 = .ok (.iconst 0, 1) := by decide +kernel
theorem dX5_init_35 : decode cX5_init 35 = .ok (.putfield 25, 3) := by decide +kernel
theorem dX5_init_38 : decode cX5_init 38 = .ok (.aload_n 0, 1) := by decide +kernel
theorem dX5_init_39 : decode cX5_init 39 = .ok (.iconst (-1), 1) := by decide +kernel
theorem dX5_init_40 : decode cX5_init 40 = .ok (.putfield 28, 3) := by decide +kernel
theorem dX5_init_43 : decode cX5_init 43 = .ok (.aload_n 0, 1) := by decide +kernel
theorem dX5_init_44 : decode cX5_init 44 = .ok (.iconst (-1), 1) := by decide +kernel
theorem dX5_init_45 : decode cX5_init 45 = .ok (.putfield 31, 3) := by decide +kernel
theorem dX5_init_48 : decode cX5_init 48 = .ok (.aload_n 0, 1) := by decide +kernel
theorem dX5_init_49 : decode cX5_init 49 = .ok (.iconst (-1), 1) := by decide +kernel
theorem dX5_init_50 : decode cX5_init 50 = .ok (.putfield 34, 3) := by decide +kernel
theorem dX5_init_53 : decode cX5_init 53 = .ok (.aload_n 0, 1) := by decide +kernel
theorem dX5_init_54 : decode cX5_init 54 = .ok (.iconst (-1), 1) := by decide +kernel
theorem dX5_init_55 : decode cX5_init 55 = .ok (.putfield 37, 3) := by decide +kernel
theorem dX5_init_58 : decode cX5_init 58 = .ok (.aload_n 0, 1) := by decide +kernel
theorem dX5_init_59 : decode cX5_init 59 = .ok (.iconst (-1), 1) := by decide +kernel
theorem dX5_init_60 : decode cX5_init 60 = .ok (.putfield 40, 3) := by decide +kernel
theorem dX5_init_63 : decode cX5_init 63 = .ok (.aload_n 0, 1) := by decide +kernel
theorem dX5_init_64 : decode cX5_init 64 = .ok (.aload_n 1, 1) := by decide +kernel
theorem dX5_init_65 : decode cX5_init 65 = .ok (.putfield 43, 3) := by decide +kernel
theorem dX5_init_68 : decode cX5_init 68 = .ok (.aload_n 0, 1) := by decide +kernel
theorem dX5_init_69 : decode cX5_init 69 = .ok (.aload_n 2, 1) := by decide +kernel
theorem dX5_init_70 : decode cX5_init 70 = .ok (.putfield 47, 3) := by decide +kernel
theorem dX5_init_73 : decode cX5_init 73 = .ok (.return_, 1) := by decide +kernel
theorem dX5_freshen_0 : decode cX5_freshen 0 = .ok (.aload_n 0, 1) := by decide +kernel
theorem dX5_freshen_1 : decode cX5_freshen 1 = .ok (.getfield 21, 3) := by decide +kernel
theorem dX5_freshen_4 : decode cX5_freshen 4 = .ok (.iload_n 1, 1) := by decide +kernel
theorem dX5_freshen_5 : decode cX5_freshen 5 = .ok (.if_icmp .ne 4, 3) := by decide +kernel
theorem dX5_freshen_8 : decode cX5_freshen 8 = .ok (.return_, 1) := by decide +kernel
theorem dX5_freshen_9 : decode cX5_freshen 9 = .ok (.iconst 0, 1) := by decide +kernel
theorem dX5_freshen_10 : decode cX5_freshen 10 = .ok (.iload_n 1, 1) := by decide +kernel
theorem dX5_freshen_11 : decode cX5_freshen 11 = .ok (.invokestatic 51, 3) := by decide +kernel
theorem dX5_freshen_14 : decode cX5_freshen 14 = .ok (.istore_n 2, 1) := by decide +kernel
theorem dX5_freshen_15 : decode cX5_freshen 15 = .ok (.iconst 1, 1) := by decide +kernel
theorem dX5_freshen_16 : decode cX5_freshen 16 = .ok (.aload_n 0, 1) := by decide +kernel
theorem dX5_freshen_17 : decode cX5_freshen 17 = .ok (.getfield 43, 3) := by decide +kernel
theorem dX5_freshen_20 : decode cX5_freshen 20 = .ok (.getfield 55, 3) := by decide +kernel
theorem dX5_freshen_23 : decode cX5_freshen 23 = .ok (.iload_n 2, 1) := by decide +kernel
theorem dX5_freshen_24 : decode cX5_freshen 24 = .ok (.iconst 1, 1) := by decide +kernel
theorem dX5_freshen_25 : decode cX5_freshen 25 = .ok (.iadd, 1) := by decide +kernel
theorem dX5_freshen_26 : decode cX5_freshen 26 = .ok (.iaload, 1) := by decide +kernel
theorem dX5_freshen_27 : decode cX5_freshen 27 = .ok (.invokestatic 60, 3) := by decide +kernel
theorem dX5_freshen_30 : decode cX5_freshen 30 = .ok (.istore_n 3, 1) := by decide +kernel
theorem dX5_freshen_31 : decode cX5_freshen 31 = .ok (.aload_n 0, 1) := by decide +kernel
theorem dX5_freshen_32 : decode cX5_freshen 32 = .ok (.getfield 47, 3) := by decide +kernel
theorem dX5_freshen_35 : decode cX5_freshen 35 = .ok (.invokevirtual 65, 3) := by decide +kernel
theorem dX5_freshen_38 : decode cX5_freshen 38 = .ok (.iconst 0, 1) := by decide +kernel
theorem dX5_freshen_39 : decode cX5_freshen 39 = .ok (.istore 4, 2) := by decide +kernel
theorem dX5_freshen_41 : decode cX5_freshen 41 = .ok (.iload 4, 2) := by decide +kernel
theorem dX5_freshen_43 : decode cX5_freshen 43 = .ok (.aload_n 0, 1) := by decide +kernel
theorem dX5_freshen_44 : decode cX5_freshen 44 = .ok (.getfield 43, 3) := by decide +kernel
theorem dX5_freshen_47 : decode cX5_freshen 47 = .ok (.getfield 70, 3) := by decide +kernel
theorem dX5_freshen_50 : decode cX5_freshen 50 = .ok (.if_icmp .ge 87, 3) := by decide +kernel
theorem dX5_freshen_53 : decode cX5_freshen 53 = .ok (.aload_n 0, 1) := by decide +kernel
theorem dX5_freshen_54 : decode cX5_freshen 54 = .ok (.getfield 43, 3) := by decide +kernel
theorem dX5_freshen_57 : decode cX5_freshen 57 = .ok (.getfield 73, 3) := by decide +kernel
theorem dX5_freshen_60 : decode cX5_freshen 60 = .ok (.iload 4, 2) := by decide +kernel
theorem dX5_freshen_62 : decode cX5_freshen 62 = .ok (.iaload, 1) := by decide +kernel
theorem dX5_freshen_63 : decode cX5_freshen 63 = .ok (.istore 5, 2) := by decide +kernel
theorem dX5_freshen_65 : decode cX5_freshen 65 = .ok (.aload_n 0, 1) := by decide +kernel
theorem dX5_freshen_66 : decode cX5_freshen 66 = .ok (.getfield 43, 3) := by decide +kernel
theorem dX5_freshen_69 : decode cX5_freshen 69 = .ok (.getfield 55, 3) := by decide +kernel
theorem dX5_freshen_72 : decode cX5_freshen 72 = .ok (.iload_n 2, 1) := by decide +kernel
theorem dX5_freshen_73 : decode cX5_freshen 73 = .ok (.iconst 0, 1) := by decide +kernel
theorem dX5_freshen_74 : decode cX5_freshen 74 = .ok (.iadd, 1) := by decide +kernel
theorem dX5_freshen_75 : decode cX5_freshen 75 = .ok (.iaload, 1) := by decide +kernel
theorem dX5_freshen_76 : decode cX5_freshen 76 = .ok (.iload 5, 2) := by decide +kernel
theorem dX5_freshen_78 : decode cX5_freshen 78 = .ok (.aload_n 0, 1) := by decide +kernel
theorem dX5_freshen_79 : decode cX5_freshen 79 = .ok (.getfield 43, 3) := by decide +kernel
theorem dX5_freshen_82 : decode cX5_freshen 82 = .ok (.getfield 55, 3) := by decide +kernel
theorem dX5_freshen_85 : decode cX5_freshen 85 = .ok (.iload_n 2, 1) := by decide +kernel
theorem dX5_freshen_86 : decode cX5_freshen 86 = .ok (.iconst 2, 1) := by decide +kernel
theorem dX5_freshen_87 : decode cX5_freshen 87 = .ok (.iadd, 1) := by decide +kernel
theorem dX5_freshen_88 : decode cX5_freshen 88 = .ok (.iaload, 1) := by decide +kernel
theorem dX5_freshen_89 : decode cX5_freshen 89 = .ok (.iload_n 3, 1) := by decide +kernel
theorem dX5_freshen_90 : decode cX5_freshen 90 = .ok (.invokestatic 76, 3) := by decide +kernel
theorem dX5_freshen_93 : decode cX5_freshen 93 = .ok (.imul, 1) := by decide +kernel
theorem dX5_freshen_94 : decode cX5_freshen 94 = .ok (.sipush 1000, 3) := by decide +kernel
theorem dX5_freshen_97 : decode cX5_freshen 97 = .ok (.idiv, 1) := by decide +kernel
theorem dX5_freshen_98 : decode cX5_freshen 98 = .ok (.istore 6, 2) := by decide +kernel
theorem dX5_freshen_100 : decode cX5_freshen 100 = .ok (.aload_n 0, 1) := by decide +kernel
theorem dX5_freshen_101 : decode cX5_freshen 101 = .ok (.getfield 9, 3) := by decide +kernel
theorem dX5_freshen_104 : decode cX5_freshen 104 = .ok (.iload 4, 2) := by decide +kernel
theorem dX5_freshen_106 : decode cX5_freshen 106 = .ok (.aload_n 0, 1) := by decide +kernel
theorem dX5_freshen_107 : decode cX5_freshen 107 = .ok (.getfield 43, 3) := by decide +kernel
theorem dX5_freshen_110 : decode cX5_freshen 110 = .ok (.getfield 80, 3) := by decide +kernel
theorem dX5_freshen_113 : decode cX5_freshen 113 = .ok (.iload 4, 2) := by decide +kernel
theorem dX5_freshen_115 : decode cX5_freshen 115 = .ok (.iaload, 1) := by decide +kernel
theorem dX5_freshen_116 : decode cX5_freshen 116 = .ok (.aload_n 0, 1) := by decide +kernel
theorem dX5_freshen_117 : decode cX5_freshen 117 = .ok (.getfield 47, 3) := by decide +kernel
theorem dX5_freshen_120 : decode cX5_freshen 120 = .ok (.iconst 0, 1) := by decide +kernel
theorem dX5_freshen_121 : decode cX5_freshen 121 = .ok (.iload 5, 2) := by decide +kernel
theorem dX5_freshen_123 : decode cX5_freshen 123 = .ok (.invokevirtual 83, 3) := by decide +kernel
theorem dX5_freshen_126 : decode cX5_freshen 126 = .ok (.iload 6, 2) := by decide +kernel
theorem dX5_freshen_128 : decode cX5_freshen 128 = .ok (.isub, 1) := by decide +kernel
theorem dX5_freshen_129 : decode cX5_freshen 129 = .ok (.isub, 1) := by decide +kernel
theorem dX5_freshen_130 : decode cX5_freshen 130 = .ok (.iastore, 1) := by decide +kernel
theorem dX5_freshen_131 : decode cX5_freshen 131 = .ok (.iinc 4 1, 3) := by decide +kernel
theorem dX5_freshen_134 : decode cX5_freshen 134 = .ok (.goto (-93), 3) := by decide +kernel
theorem dX5_freshen_137 : decode cX5_freshen 137 = .ok (.aload_n 0, 1) := by decide +kernel
theorem dX5_freshen_138 : decode cX5_freshen 138 = .ok (.invokevirtual 86, 3) := by decide +kernel
theorem dX5_freshen_141 : decode cX5_freshen 141 = .ok (.iconst 0, 1) := by decide +kernel
theorem dX5_freshen_142 : decode cX5_freshen 142 = .ok (.istore 4, 2) := by decide +kernel
theorem dX5_freshen_144 : decode cX5_freshen 144 = .ok (.iload 4, 2) := by decide +kernel
theorem dX5_freshen_146 : decode cX5_freshen 146 = .ok (.iload_n 3, 1) := by decide +kernel
theorem dX5_freshen_147 : decode cX5_freshen 147 = .ok (.if_icmp .ge 78, 3) := by decide +kernel
theorem dX5_freshen_150 : decode cX5_freshen 150 = .ok (.iconst 0, 1) := by decide +kernel
theorem dX5_freshen_151 : decode cX5_freshen 151 = .ok (.istore 5, 2) := by decide +kernel
theorem dX5_freshen_153 : decode cX5_freshen 153 = .ok (.iload 5, 2) := by decide +kernel
theorem dX5_freshen_155 : decode cX5_freshen 155 = .ok (.aload_n 0, 1) := by decide +kernel
theorem dX5_freshen_156 : decode cX5_freshen 156 = .ok (.getfield 43, 3) := by decide +kernel
theorem dX5_freshen_159 : decode cX5_freshen 159 = .ok (.getfield 70, 3) := by decide +kernel
theorem dX5_freshen_162 : decode cX5_freshen 162 = .ok (.if_icmp .ge 32, 3) := by decide +kernel
theorem dX5_freshen_165 : decode cX5_freshen 165 = .ok (.aload_n 0, 1) := by decide +kernel
theorem dX5_freshen_166 : decode cX5_freshen 166 = .ok (.getfield 15, 3) := by decide +kernel
theorem dX5_freshen_169 : decode cX5_freshen 169 = .ok (.iload 5, 2) := by decide +kernel
theorem dX5_freshen_171 : decode cX5_freshen 171 = .ok (.aload_n 0, 1) := by decide +kernel
theorem dX5_freshen_172 : decode cX5_freshen 172 = .ok (.getfield 43, 3) := by decide +kernel
theorem dX5_freshen_175 : decode cX5_freshen 175 = .ok (.getfield 73, 3) := by decide +kernel
theorem dX5_freshen_178 : decode cX5_freshen 178 = .ok (.iload 5, 2) := by decide +kernel
theorem dX5_freshen_180 : decode cX5_freshen 180 = .ok (.iaload, 1) := by decide +kernel
theorem dX5_freshen_181 : decode cX5_freshen 181 = .ok (.iload 4, 2) := by decide +kernel
theorem dX5_freshen_183 : decode cX5_freshen 183 = .ok (.iload_n 3, 1) := by decide +kernel
theorem dX5_freshen_184 : decode cX5_freshen 184 = .ok (.invokestatic 76, 3) := by decide +kernel
theorem dX5_freshen_187 : decode cX5_freshen 187 = .ok (.iastore, 1) := by decide +kernel
theorem dX5_freshen_188 : decode cX5_freshen 188 = .ok (.iinc 5 1, 3) := by decide +kernel
theorem dX5_freshen_191 : decode cX5_freshen 191 = .ok (.goto (-38), 3) := by decide +kernel
theorem dX5_freshen_194 : decode cX5_freshen 194 = .ok (.iconst 0, 1) := by decide +kernel
theorem dX5_freshen_195 : decode cX5_freshen 195 = .ok (.istore 5, 2) := by decide +kernel
theorem dX5_freshen_197 : decode cX5_freshen 197 = .ok (.iload 5, 2) := by decide +kernel
theorem dX5_freshen_199 : decode cX5_freshen 199 = .ok (.sipush 500, 3) := by decide +kernel
theorem dX5_freshen_202 : decode cX5_freshen 202 = .ok (.if_icmp .gt 17, 3) := by decide +kernel
theorem dX5_freshen_205 : decode cX5_freshen 205 = .ok (.aload_n 0, 1) := by decide +kernel
theorem dX5_freshen_206 : decode cX5_freshen 206 = .ok (.iload 5, 2) := by decide +kernel
theorem dX5_freshen_208 : decode cX5_freshen 208 = .ok (.iload 4, 2) := by decide +kernel
theorem dX5_freshen_210 : decode cX5_freshen 210 = .ok (.invokevirtual 89, 3) := by decide +kernel
theorem dX5_freshen_213 : decode cX5_freshen 213 = .ok (.iinc 5 10, 3) := by decide +kernel
theorem dX5_freshen_216 : decode cX5_freshen 216 = .ok (.goto (-19), 3) := by decide +kernel
theorem dX5_freshen_219 : decode cX5_freshen 219 = .ok (.iinc 4 10, 3) := by decide +kernel
theorem dX5_freshen_222 : decode cX5_freshen 222 = .ok (.goto (-78), 3) := by decide +kernel
theorem dX5_freshen_225 : decode cX5_freshen 225 = .ok (.aload_n 0, 1) := by decide +kernel
theorem dX5_freshen_226 : decode cX5_freshen 226 = .ok (.iload_n 1, 1) := by decide +kernel
theorem dX5_freshen_227 : decode cX5_freshen 227 = .ok (.putfield 21, 3) := by decide +kernel
theorem dX5_freshen_230 : decode cX5_freshen 230 = .ok (.return_, 1) := by decide +kernel
theorem dX5_forgetPairs_0 : decode cX5_forgetPairs 0 = .ok (.aload_n 0, 1) := by decide +kernel
theorem dX5_forgetPairs_1 : decode cX5_forgetPairs 1 = .ok (.getfield 18, 3) := by decide +kernel
theorem dX5_forgetPairs_4 : decode cX5_forgetPairs 4 = .ok (.iconst 0, 1) := by decide +kernel
theorem dX5_forgetPairs_5 : decode cX5_forgetPairs 5 = .ok (.invokestatic 93, 3) := by decide +kernel
theorem dX5_forgetPairs_8 : decode cX5_forgetPairs 8 = .ok (.aload_n 0, 1) := by decide +kernel
theorem dX5_forgetPairs_9 : decode cX5_forgetPairs 9 = .ok (.iconst 0, 1) := by decide +kernel
theorem dX5_forgetPairs_10 : decode cX5_forgetPairs 10 = .ok (.putfield 25, 3) := by decide +kernel
theorem dX5_forgetPairs_13 : decode cX5_forgetPairs 13 = .ok (.aload_n 0, 1) := by decide +kernel
theorem dX5_forgetPairs_14 : decode cX5_forgetPairs 14 = .ok (.iconst (-1), 1) := by decide +kernel
theorem dX5_forgetPairs_15 : decode cX5_forgetPairs 15 = .ok (.putfield 28, 3) := by decide +kernel
theorem dX5_forgetPairs_18 : decode cX5_forgetPairs 18 = .ok (.aload_n 0, 1) := by decide +kernel
theorem dX5_forgetPairs_19 : decode cX5_forgetPairs 19 = .ok (.iconst (-1), 1) := by decide +kernel
theorem dX5_forgetPairs_20 : decode cX5_forgetPairs 20 = .ok (.putfield 31, 3) := by decide +kernel
theorem dX5_forgetPairs_23 : decode cX5_forgetPairs 23 = .ok (.aload_n 0, 1) := by decide +kernel
theorem dX5_forgetPairs_24 : decode cX5_forgetPairs 24 = .ok (.iconst (-1), 1) := by decide +kernel
theorem dX5_forgetPairs_25 : decode cX5_forgetPairs 25 = .ok (.putfield 34, 3) := by decide +kernel
theorem dX5_forgetPairs_28 : decode cX5_forgetPairs 28 = .ok (.aload_n 0, 1) := by decide +kernel
theorem dX5_forgetPairs_29 : decode cX5_forgetPairs 29 = .ok (.iconst (-1), 1) := by decide +kernel
theorem dX5_forgetPairs_30 : decode cX5_forgetPairs 30 = .ok (.putfield 37, 3) := by decide +kernel
theorem dX5_forgetPairs_33 : decode cX5_forgetPairs 33 = .ok (.aload_n 0, 1) := by decide +kernel
theorem dX5_forgetPairs_34 : decode cX5_forgetPairs 34 = .ok (.iconst (-1), 1) := by decide +kernel
theorem dX5_forgetPairs_35 : decode cX5_forgetPairs 35 = .ok (.putfield 40, 3) := by decide +kernel
theorem dX5_forgetPairs_38 : decode cX5_forgetPairs 38 = .ok (.return_, 1) := by decide +kernel
theorem dX5_weigh_0 : decode cX5_weigh 0 = .ok (.iconst 0, 1) := by decide +kernel
theorem dX5_weigh_1 : decode cX5_weigh 1 = .ok (.istore_n 3, 1) := by decide +kernel
theorem dX5_weigh_2 : decode cX5_weigh 2 = .ok (.iconst (-1), 1) := by decide +kernel
theorem dX5_weigh_3 : decode cX5_weigh 3 = .ok (.istore 4, 2) := by decide +kernel
theorem dX5_weigh_5 : decode cX5_weigh 5 = .ok (.iconst 0, 1) := by decide +kernel
theorem dX5_weigh_6 : decode cX5_weigh 6 = .ok (.istore 5, 2) := by decide +kernel
theorem dX5_weigh_8 : decode cX5_weigh 8 = .ok (.iload 5, 2) := by decide +kernel
theorem dX5_weigh_10 : decode cX5_weigh 10 = .ok (.aload_n 0, 1) := by decide +kernel
theorem dX5_weigh_11 : decode cX5_weigh 11 = .ok (.getfield 43, 3) := by decide +kernel
theorem dX5_weigh_14 : decode cX5_weigh 14 = .ok (.getfield 70, 3) := by decide +kernel
theorem dX5_weigh_17 : decode cX5_weigh 17 = .ok (.if_icmp .ge 58, 3) := by decide +kernel
theorem dX5_weigh_20 : decode cX5_weigh 20 = .ok (.iload_n 3, 1) := by decide +kernel
theorem dX5_weigh_21 : decode cX5_weigh 21 = .ok (.iconst 2, 1) := by decide +kernel
theorem dX5_weigh_22 : decode cX5_weigh 22 = .ok (.if_icmp .ge 53, 3) := by decide +kernel
theorem dX5_weigh_25 : decode cX5_weigh 25 = .ok (.iload_n 1, 1) := by decide +kernel
theorem dX5_weigh_26 : decode cX5_weigh 26 = .ok (.aload_n 0, 1) := by decide +kernel
theorem dX5_weigh_27 : decode cX5_weigh 27 = .ok (.getfield 15, 3) := by decide +kernel
theorem dX5_weigh_30 : decode cX5_weigh 30 = .ok (.iload 5, 2) := by decide +kernel
theorem dX5_weigh_32 : decode cX5_weigh 32 = .ok (.iaload, 1) := by decide +kernel
theorem dX5_weigh_33 : decode cX5_weigh 33 = .ok (.imul, 1) := by decide +kernel
theorem dX5_weigh_34 : decode cX5_weigh 34 = .ok (.sipush 1000, 3) := by decide +kernel
theorem dX5_weigh_37 : decode cX5_weigh 37 = .ok (.idiv, 1) := by decide +kernel
theorem dX5_weigh_38 : decode cX5_weigh 38 = .ok (.aload_n 0, 1) := by decide +kernel
theorem dX5_weigh_39 : decode cX5_weigh 39 = .ok (.getfield 9, 3) := by decide +kernel
theorem dX5_weigh_42 : decode cX5_weigh 42 = .ok (.iload 5, 2) := by decide +kernel
theorem dX5_weigh_44 : decode cX5_weigh 44 = .ok (.iaload, 1) := by decide +kernel
theorem dX5_weigh_45 : decode cX5_weigh 45 = .ok (.isub, 1) := by decide +kernel
theorem dX5_weigh_46 : decode cX5_weigh 46 = .ok (.invokestatic 99, 3) := by decide +kernel
theorem dX5_weigh_49 : decode cX5_weigh 49 = .ok (.aload_n 0, 1) := by decide +kernel
theorem dX5_weigh_50 : decode cX5_weigh 50 = .ok (.getfield 43, 3) := by decide +kernel
theorem dX5_weigh_53 : decode cX5_weigh 53 = .ok (.getfield 103, 3) := by decide +kernel
theorem dX5_weigh_56 : decode cX5_weigh 56 = .ok (.bipush 8, 2) := by decide +kernel
theorem dX5_weigh_58 : decode cX5_weigh 58 = .ok (.iaload, 1) := by decide +kernel
theorem dX5_weigh_59 : decode cX5_weigh 59 = .ok (.if_icmp .le 10, 3) := by decide +kernel
theorem dX5_weigh_62 : decode cX5_weigh 62 = .ok (.iinc 3 1, 3) := by decide +kernel
theorem dX5_weigh_65 : decode cX5_weigh 65 = .ok (.iload 5, 2) := by decide +kernel
theorem dX5_weigh_67 : decode cX5_weigh 67 = .ok (.istore 4, 2) := by decide +kernel
theorem dX5_weigh_69 : decode cX5_weigh 69 = .ok (.iinc 5 1, 3) := by decide +kernel
theorem dX5_weigh_72 : decode cX5_weigh 72 = .ok (.goto (-64), 3) := by decide +kernel
theorem dX5_weigh_75 : decode cX5_weigh 75 = .ok (.iload_n 3, 1) := by decide +kernel
theorem dX5_weigh_76 : decode cX5_weigh 76 = .ok (.ifCond .ne 12, 3) := by decide +kernel
theorem dX5_weigh_79 : decode cX5_weigh 79 = .ok (.aload_n 0, 1) := by decide +kernel
theorem dX5_weigh_80 : decode cX5_weigh 80 = .ok (.iload_n 1, 1) := by decide +kernel
theorem dX5_weigh_81 : decode cX5_weigh 81 = .ok (.iload_n 2, 1) := by decide +kernel
theorem dX5_weigh_82 : decode cX5_weigh 82 = .ok (.invokevirtual 106, 3) := by decide +kernel
theorem dX5_weigh_85 : decode cX5_weigh 85 = .ok (.goto 19, 3) := by decide +kernel
theorem dX5_weigh_88 : decode cX5_weigh 88 = .ok (.iload_n 3, 1) := by decide +kernel
theorem dX5_weigh_89 : decode cX5_weigh 89 = .ok (.iconst 1, 1) := by decide +kernel
theorem dX5_weigh_90 : decode cX5_weigh 90 = .ok (.if_icmp .ne 14, 3) := by decide +kernel
theorem dX5_weigh_93 : decode cX5_weigh 93 = .ok (.aload_n 0, 1) := by decide +kernel
theorem dX5_weigh_94 : decode cX5_weigh 94 = .ok (.getfield 18, 3) := by decide +kernel
theorem dX5_weigh_97 : decode cX5_weigh 97 = .ok (.iload 4, 2) := by decide +kernel
theorem dX5_weigh_99 : decode cX5_weigh 99 = .ok (.dup2, 1) := by decide +kernel
theorem dX5_weigh_100 : decode cX5_weigh 100 = .ok (.iaload, 1) := by decide +kernel
theorem dX5_weigh_101 : decode cX5_weigh 101 = .ok (.iconst 1, 1) := by decide +kernel
theorem dX5_weigh_102 : decode cX5_weigh 102 = .ok (.iadd, 1) := by decide +kernel
theorem dX5_weigh_103 : decode cX5_weigh 103 = .ok (.iastore, 1) := by decide +kernel
theorem dX5_weigh_104 : decode cX5_weigh 104 = .ok (.return_, 1) := by decide +kernel
theorem dX5_keepPair_0 : decode cX5_keepPair 0 = .ok (.aload_n 0, 1) := by decide +kernel
theorem dX5_keepPair_1 : decode cX5_keepPair 1 = .ok (.dup, 1) := by decide +kernel
theorem dX5_keepPair_2 : decode cX5_keepPair 2 = .ok (.getfield 25, 3) := by decide +kernel
theorem dX5_keepPair_5 : decode cX5_keepPair 5 = .ok (.iconst 1, 1) := by decide +kernel
theorem dX5_keepPair_6 : decode cX5_keepPair 6 = .ok (.iadd, 1) := by decide +kernel
theorem dX5_keepPair_7 : decode cX5_keepPair 7 = .ok (.putfield 25, 3) := by decide +kernel
theorem dX5_keepPair_10 : decode cX5_keepPair 10 = .ok (.aload_n 0, 1) := by decide +kernel
theorem dX5_keepPair_11 : decode cX5_keepPair 11 = .ok (.getfield 28, 3) := by decide +kernel
theorem dX5_keepPair_14 : decode cX5_keepPair 14 = .ok (.iconst (-1), 1) := by decide +kernel
theorem dX5_keepPair_15 : decode cX5_keepPair 15 = .ok (.if_icmp .eq 11, 3) := by decide +kernel
theorem dX5_keepPair_18 : decode cX5_keepPair 18 = .ok (.iload_n 1, 1) := by decide +kernel
theorem dX5_keepPair_19 : decode cX5_keepPair 19 = .ok (.aload_n 0, 1) := by decide +kernel
theorem dX5_keepPair_20 : decode cX5_keepPair 20 = .ok (.getfield 28, 3) := by decide +kernel
theorem dX5_keepPair_23 : decode cX5_keepPair 23 = .ok (.if_icmp .ge 13, 3) := by decide +kernel
theorem dX5_keepPair_26 : decode cX5_keepPair 26 = .ok (.aload_n 0, 1) := by decide +kernel
theorem dX5_keepPair_27 : decode cX5_keepPair 27 = .ok (.iload_n 1, 1) := by decide +kernel
theorem dX5_keepPair_28 : decode cX5_keepPair 28 = .ok (.putfield 28, 3) := by decide +kernel
theorem dX5_keepPair_31 : decode cX5_keepPair 31 = .ok (.aload_n 0, 1) := by decide +kernel
theorem dX5_keepPair_32 : decode cX5_keepPair 32 = .ok (.iload_n 2, 1) := by decide +kernel
theorem dX5_keepPair_33 : decode cX5_keepPair 33 = .ok (.putfield 40, 3) := by decide +kernel
theorem dX5_keepPair_36 : decode cX5_keepPair 36 = .ok (.aload_n 0, 1) := by decide +kernel
theorem dX5_keepPair_37 : decode cX5_keepPair 37 = .ok (.aload_n 0, 1) := by decide +kernel
theorem dX5_keepPair_38 : decode cX5_keepPair 38 = .ok (.getfield 31, 3) := by decide +kernel
theorem dX5_keepPair_41 : decode cX5_keepPair 41 = .ok (.iload_n 1, 1) := by decide +kernel
theorem dX5_keepPair_42 : decode cX5_keepPair 42 = .ok (.invokestatic 60, 3) := by decide +kernel
theorem dX5_keepPair_45 : decode cX5_keepPair 45 = .ok (.putfield 31, 3) := by decide +kernel
theorem dX5_keepPair_48 : decode cX5_keepPair 48 = .ok (.aload_n 0, 1) := by decide +kernel
theorem dX5_keepPair_49 : decode cX5_keepPair 49 = .ok (.getfield 34, 3) := by decide +kernel
theorem dX5_keepPair_52 : decode cX5_keepPair 52 = .ok (.iconst (-1), 1) := by decide +kernel
theorem dX5_keepPair_53 : decode cX5_keepPair 53 = .ok (.if_icmp .ne 8, 3) := by decide +kernel
theorem dX5_keepPair_56 : decode cX5_keepPair 56 = .ok (.aload_n 0, 1) := by decide +kernel
theorem dX5_keepPair_57 : decode cX5_keepPair 57 = .ok (.iload_n 2, 1) := by decide +kernel
theorem dX5_keepPair_58 : decode cX5_keepPair 58 = .ok (.putfield 34, 3) := by decide +kernel
theorem dX5_keepPair_61 : decode cX5_keepPair 61 = .ok (.aload_n 0, 1) := by decide +kernel
theorem dX5_keepPair_62 : decode cX5_keepPair 62 = .ok (.iload_n 2, 1) := by decide +kernel
theorem dX5_keepPair_63 : decode cX5_keepPair 63 = .ok (.putfield 37, 3) := by decide +kernel
theorem dX5_keepPair_66 : decode cX5_keepPair 66 = .ok (.return_, 1) := by decide +kernel
theorem dX5_tellingFloat_0 : decode cX5_tellingFloat 0 = .ok (.iconst 0, 1) := by decide +kernel
theorem dX5_tellingFloat_1 : decode cX5_tellingFloat 1 = .ok (.istore_n 1, 1) := by decide +kernel
theorem dX5_tellingFloat_2 : decode cX5_tellingFloat 2 = .ok (.iconst 1, 1) := by decide +kernel
theorem dX5_tellingFloat_3 : decode cX5_tellingFloat 3 = .ok (.istore_n 2, 1) := by decide +kernel
theorem dX5_tellingFloat_4 : decode cX5_tellingFloat 4 = .ok (.iload_n 2, 1) := by decide +kernel
theorem dX5_tellingFloat_5 : decode cX5_tellingFloat 5 = .ok (.aload_n 0, 1) := by decide +kernel
theorem dX5_tellingFloat_6 : decode cX5_tellingFloat 6 = .ok (.getfield 43, 3) := by decide +kernel
theorem dX5_tellingFloat_9 : decode cX5_tellingFloat 9 = .ok (.getfield 70, 3) := by decide +kernel
theorem dX5_tellingFloat_12 : decode cX5_tellingFloat 12 = .ok (.if_icmp .ge 26, 3) := by decide +kernel
theorem dX5_tellingFloat_15 : decode cX5_tellingFloat 15 = .ok (.aload_n 0, 1) := by decide +kernel
theorem dX5_tellingFloat_16 : decode cX5_tellingFloat 16 = .ok (.getfield 18, 3) := by decide +kernel
theorem dX5_tellingFloat_19 : decode cX5_tellingFloat 19 = .ok (.iload_n 2, 1) := by decide +kernel
theorem dX5_tellingFloat_20 : decode cX5_tellingFloat 20 = .ok (.iaload, 1) := by decide +kernel
theorem dX5_tellingFloat_21 : decode cX5_tellingFloat 21 = .ok (.aload_n 0, 1) := by decide +kernel
theorem dX5_tellingFloat_22 : decode cX5_tellingFloat 22 = .ok (.getfield 18, 3) := by decide +kernel
theorem dX5_tellingFloat_25 : decode cX5_tellingFloat 25 = .ok (.iload_n 1, 1) := by decide +kernel
theorem dX5_tellingFloat_26 : decode cX5_tellingFloat 26 = .ok (.iaload, 1) := by decide +kernel
theorem dX5_tellingFloat_27 : decode cX5_tellingFloat 27 = .ok (.if_icmp .le 5, 3) := by decide +kernel
theorem dX5_tellingFloat_30 : decode cX5_tellingFloat 30 = .ok (.iload_n 2, 1) := by decide +kernel
theorem dX5_tellingFloat_31 : decode cX5_tellingFloat 31 = .ok (.istore_n 1, 1) := by decide +kernel
theorem dX5_tellingFloat_32 : decode cX5_tellingFloat 32 = .ok (.iinc 2 1, 3) := by decide +kernel
theorem dX5_tellingFloat_35 : decode cX5_tellingFloat 35 = .ok (.goto (-31), 3) := by decide +kernel
theorem dX5_tellingFloat_38 : decode cX5_tellingFloat 38 = .ok (.iload_n 1, 1) := by decide +kernel
theorem dX5_tellingFloat_39 : decode cX5_tellingFloat 39 = .ok (.ireturn, 1) := by decide +kernel
theorem dX6_init_0 : decode cX6_init 0 = .ok (.aload_n 0, 1) := by decide +kernel
theorem dX6_init_1 : decode cX6_init 1 = .ok (.invokespecial 3, 3) := by decide +kernel
theorem dX6_init_4 : decode cX6_init 4 = .ok (.aload_n 0, 1) := by decide +kernel
theorem dX6_init_5 : decode cX6_init 5 = .ok (.bipush 6, 2) := by decide +kernel
theorem dX6_init_7 : decode cX6_init 7 = .ok (.newarray .int, 2) := by decide +kernel
theorem dX6_init_9 : decode cX6_init 9 = .ok (.putfield 9, 3) := by decide +kernel
theorem dX6_init_12 : decode cX6_init 12 = .ok (.aload_n 0, 1) := by decide +kernel
theorem dX6_init_13 : decode cX6_init 13 = .ok (.bipush 24, 2) := by decide +kernel
theorem dX6_init_15 : decode cX6_init 15 = .ok (.newarray .int, 2) := by decide +kernel
theorem dX6_init_17 : decode cX6_init 17 = .ok (.putfield 15, 3) := by decide +kernel
theorem dX6_init_20 : decode cX6_init 20 = .ok (.aload_n 0, 1) := by decide +kernel
theorem dX6_init_21 : decode cX6_init 21 = .ok (.getstatic 18, 3) := by decide +kernel
theorem dX6_init_24 : decode cX6_init 24 = .ok (.invokevirtual 21, 3) := by decide +kernel
theorem dX6_init_27 : decode cX6_init 27 = .ok (.checkcast 22, 3) := by decide +kernel
theorem dX6_init_30 : decode cX6_init 30 = .ok (.putfield 26, 3) := by decide +kernel
theorem dX6_init_33 : decode cX6_init 33 = .ok (.aload_n 0, 1) := by decide +kernel
theorem dX6_init_34 : decode cX6_init 34 = .ok (.bipush 50, 2) := by decide +kernel
theorem dX6_init_36 : decode cX6_init 36 = .ok (.newarray .int, 2) := by decide +kernel
theorem dX6_init_38 : decode cX6_init 38 = .ok (.putfield 29, 3) := by decide +kernel
theorem dX6_init_41 : decode cX6_init 41 = .ok (.aload_n 0, 1) := by decide +kernel
theorem dX6_init_42 : decode cX6_init 42 = .ok (.bipush 6, 2) := by decide +kernel
theorem dX6_init_44 : decode cX6_init 44 = .ok (.anewarray 32, 3) := by decide +kernel
theorem dX6_init_47 : decode cX6_init 47 = .ok (.putfield 34, 3) := by decide +kernel
theorem dX6_init_50 : decode cX6_init 50 = .ok (.aload_n 0, 1) := by decide +kernel
theorem dX6_init_51 : decode cX6_init 51 = .ok (.bipush 6, 2) := by decide +kernel
theorem dX6_init_53 : decode cX6_init 53 = .ok (.newarray .int, 2) := by decide +kernel
theorem dX6_init_55 : decode cX6_init 55 = .ok (.putfield 38, 3) := by decide +kernel
theorem dX6_init_58 : decode cX6_init 58 = .ok (.aload_n 0, 1) := by decide +kernel
theorem dX6_init_59 : decode cX6_init 59 = .ok (.bipush 6, 2) := by decide +kernel
theorem dX6_init_61 : decode cX6_init 61 = .ok (.newarray .int, 2) := by decide +kernel
theorem dX6_init_63 : decode cX6_init 63 = .ok (.putfield 41, 3) := by decide +kernel
theorem dX6_init_66 : decode cX6_init 66 = .ok (.aload_n 0, 1) := by decide +kernel
theorem dX6_init_67 : decode cX6_init 67 = .ok (.bipush 40, 2) := by decide +kernel
theorem dX6_init_69 : decode cX6_init 69 = .ok (.newarray .int, 2) := by decide +kernel
theorem dX6_init_71 : decode cX6_init 71 = .ok (.putfield 44, 3) := by decide +kernel
theorem dX6_init_74 : decode cX6_init 74 = .ok (.aload_n 0, 1) := by decide +kernel
theorem dX6_init_75 : decode cX6_init 75 = .ok (.bipush 6, 2) := by decide +kernel
theorem dX6_init_77 : decode cX6_init 77 = .ok (.newarray .int, 2) := by decide +kernel
theorem dX6_init_79 : decode cX6_init 79 = .ok (.putfield 47, 3) := by decide +kernel
theorem dX6_init_82 : decode cX6_init 82 = .ok (.aload_n 0, 1) := by decide +kernel
theorem dX6_init_83 : decode cX6_init 83 = .ok (.bipush 6, 2) := by decide +kernel
theorem dX6_init_85 : decode cX6_init 85 = .ok (.newarray .int, 2) := by decide +kernel
theorem dX6_init_87 : decode cX6_init 87 = .ok (.putfield 50, 3) := by decide +kernel
theorem dX6_init_90 : decode cX6_init 90 = .ok (.aload_n 0, 1) := by decide +kernel
theorem dX6_init_91 : decode cX6_init 91 = .ok (.bipush 6, 2) := by decide +kernel
theorem dX6_init_93 : decode cX6_init 93 = .ok (.newarray .int, 2) := by decide +kernel
theorem dX6_init_95 : decode cX6_init 95 = .ok (.putfield 53, 3) := by decide +kernel
theorem dX6_init_98 : decode cX6_init 98 = .ok (.aload_n 0, 1) := by decide +kernel
theorem dX6_init_99 : decode cX6_init 99 = .ok (.bipush 12, 2) := by decide +kernel
theorem dX6_init_101 : decode cX6_init 101 = .ok (.newarray .int, 2) := by decide +kernel
theorem dX6_init_103 : decode cX6_init 103 = .ok (.putfield 56, 3) := by decide +kernel
theorem dX6_init_106 : decode cX6_init 106 = .ok (.aload_n 0, 1) := by decide +kernel
theorem dX6_init_107 : decode cX6_init 107 = .ok (.bipush 12, 2) := by decide +kernel
theorem dX6_init_109 : decode cX6_init 109 = .ok (.newarray .int, 2) := by decide +kernel
theorem dX6_init_111 : decode cX6_init 111 = .ok (.putfield 59, 3) := by decide +kernel
theorem dX6_init_114 : decode cX6_init 114 = .ok (.aload_n 0, 1) := by decide +kernel
theorem dX6_init_115 : decode cX6_init 115 = .ok (.iconst 0, 1) := by decide +kernel
theorem dX6_init_116 : decode cX6_init 116 = .ok (.putfield 62, 3) := by decide +kernel
theorem dX6_init_119 : decode cX6_init 119 = .ok (.aload_n 0, 1) := by decide +kernel
theorem dX6_init_120 : decode cX6_init 120 = .ok (.iconst (-1), 1) := by decide +kernel
theorem dX6_init_121 : decode cX6_init 121 = .ok (.putfield 66, 3) := by decide +kernel
theorem dX6_init_124 : decode cX6_init 124 = .ok (.aload_n 0, 1) := by decide +kernel
theorem dX6_init_125 : decode cX6_init 125 = .ok (.iconst 0, 1) := by decide +kernel
theorem dX6_init_126 : decode cX6_init 126 = .ok (.putfield 69, 3) := by decide +kernel
theorem dX6_init_129 : decode cX6_init 129 = .ok (.aload_n 0, 1) := by decide +kernel
theorem dX6_init_130 : decode cX6_init 130 = .ok (.iconst 0, 1) := by decide +kernel
theorem dX6_init_131 : decode cX6_init 131 = .ok (.putfield 72, 3) := by decide +kernel
theorem dX6_init_134 : decode cX6_init 134 = .ok (.aload_n 0, 1) := by decide +kernel
theorem dX6_init_135 : decode cX6_init 135 = .ok (.iconst 0, 1) := by decide +kernel
theorem dX6_init_136 : decode cX6_init 136 = .ok (.putfield 75, 3) := by decide +kernel
theorem dX6_init_139 : decode cX6_init 139 = .ok (.aload_n 0, 1) := by decide +kernel
theorem dX6_init_140 : decode cX6_init 140 = .ok (.iconst 0, 1) := by decide +kernel
theorem dX6_init_141 : decode cX6_init 141 = .ok (.putfield 78, 3) := by decide +kernel
theorem dX6_init_144 : decode cX6_init 144 = .ok (.iconst 0, 1) := by decide +kernel
theorem dX6_init_145 : decode cX6_init 145 = .ok (.istore_n 1, 1) := by decide +kernel
theorem dX6_init_146 : decode cX6_init 146 = .ok (.iload_n 1, 1) := by decide +kernel
theorem dX6_init_147 : decode cX6_init 147 = .ok (.aload_n 0, 1) := by decide +kernel
theorem dX6_init_148 : decode cX6_init 148 = .ok (.getfield 15, 3) := by decide +kernel
theorem dX6_init_151 : decode cX6_init 151 = .ok (.arraylength, 1) := by decide +kernel
theorem dX6_init_152 : decode cX6_init 152 = .ok (.if_icmp .ge 22, 3) := by decide +kernel
theorem dX6_init_155 : decode cX6_init 155 = .ok (.aload_n 0, 1) := by decide +kernel
theorem dX6_init_156 : decode cX6_init 156 = .ok (.getfield 15, 3) := by decide +kernel
theorem dX6_init_159 : decode cX6_init 159 = .ok (.iload_n 1, 1) := by decide +kernel
theorem dX6_init_160 : decode cX6_init 160 = .ok (.getstatic 81, 3) := by decide +kernel
theorem dX6_init_163 : decode cX6_init 163 = .ok (.iload_n 1, 1) := by decide +kernel
theorem dX6_init_164 : decode cX6_init 164 = .ok (.iconst 3, 1) := by decide +kernel
theorem dX6_init_165 : decode cX6_init 165 = .ok (.irem, 1) := by decide +kernel
theorem dX6_init_166 : decode cX6_init 166 = .ok (.iaload, 1) := by decide +kernel
theorem dX6_init_167 : decode cX6_init 167 = .ok (.iastore, 1) := by decide +kernel
theorem dX6_init_168 : decode cX6_init 168 = .ok (.iinc 1 1, 3) := by decide +kernel
theorem dX6_init_171 : decode cX6_init 171 = .ok (.goto (-25), 3) := by decide +kernel
theorem dX6_init_174 : decode cX6_init 174 = .ok (.aload_n 0, 1) := by decide +kernel
theorem dX6_init_175 : decode cX6_init 175 = .ok (.getfield 29, 3) := by decide +kernel
theorem dX6_init_178 : decode cX6_init 178 = .ok (.iconst 1, 1) := by decide +kernel
theorem dX6_init_179 : decode cX6_init 179 = .ok (.invokestatic 84, 3) := by decide +kernel
theorem dX6_init_182 : decode cX6_init 182 = .ok (.return_, 1) := by decide +kernel
theorem dX6_copyFrom_0 : decode cX6_copyFrom 0 = .ok (.aload_n 1, 1) := by decide +kernel
theorem dX6_copyFrom_1 : decode cX6_copyFrom 1 = .ok (.getfield 9, 3) := by decide +kernel
theorem dX6_copyFrom_4 : decode cX6_copyFrom 4 = .ok (.iconst 0, 1) := by decide +kernel
theorem dX6_copyFrom_5 : decode cX6_copyFrom 5 = .ok (.aload_n 0, 1) := by decide +kernel
theorem dX6_copyFrom_6 : decode cX6_copyFrom 6 = .ok (.getfield 9, 3) := by decide +kernel
theorem dX6_copyFrom_9 : decode cX6_copyFrom 9 = .ok (.iconst 0, 1) := by decide +kernel
theorem dX6_copyFrom_10 : decode cX6_copyFrom 10 = .ok (.aload_n 0, 1) := by decide +kernel
theorem dX6_copyFrom_11 : decode cX6_copyFrom 11 = .ok (.getfield 9, 3) := by decide +kernel
theorem dX6_copyFrom_14 : decode cX6_copyFrom 14 = .ok (.arraylength, 1) := by decide +kernel
theorem dX6_copyFrom_15 : decode cX6_copyFrom 15 = .ok (.invokestatic 90, 3) := by decide +kernel
theorem dX6_copyFrom_18 : decode cX6_copyFrom 18 = .ok (.aload_n 1, 1) := by decide +kernel
theorem dX6_copyFrom_19 : decode cX6_copyFrom 19 = .ok (.getfield 15, 3) := by decide +kernel
theorem dX6_copyFrom_22 : decode cX6_copyFrom 22 = .ok (.iconst 0, 1) := by decide +kernel
theorem dX6_copyFrom_23 : decode cX6_copyFrom 23 = .ok (.aload_n 0, 1) := by decide +kernel
theorem dX6_copyFrom_24 : decode cX6_copyFrom 24 = .ok (.getfield 15, 3) := by decide +kernel
theorem dX6_copyFrom_27 : decode cX6_copyFrom 27 = .ok (.iconst 0, 1) := by decide +kernel
theorem dX6_copyFrom_28 : decode cX6_copyFrom 28 = .ok (.aload_n 0, 1) := by decide +kernel
theorem dX6_copyFrom_29 : decode cX6_copyFrom 29 = .ok (.getfield 15, 3) := by decide +kernel
theorem dX6_copyFrom_32 : decode cX6_copyFrom 32 = .ok (.arraylength, 1) := by decide +kernel
theorem dX6_copyFrom_33 : decode cX6_copyFrom 33 = .ok (.invokestatic 90, 3) := by decide +kernel
theorem dX6_copyFrom_36 : decode cX6_copyFrom 36 = .ok (.aload_n 1, 1) := by decide +kernel
theorem dX6_copyFrom_37 : decode cX6_copyFrom 37 = .ok (.getfield 26, 3) := by decide +kernel
theorem dX6_copyFrom_40 : decode cX6_copyFrom 40 = .ok (.iconst 0, 1) := by decide +kernel
theorem dX6_copyFrom_41 : decode cX6_copyFrom 41 = .ok (.aload_n 0, 1) := by decide +kernel
theorem dX6_copyFrom_42 : decode cX6_copyFrom 42 = .ok (.getfield 26, 3) := by decide +kernel
theorem dX6_copyFrom_45 : decode cX6_copyFrom 45 = .ok (.iconst 0, 1) := by decide +kernel
theorem dX6_copyFrom_46 : decode cX6_copyFrom 46 = .ok (.aload_n 0, 1) := by decide +kernel
theorem dX6_copyFrom_47 : decode cX6_copyFrom 47 = .ok (.getfield 26, 3) := by decide +kernel
theorem dX6_copyFrom_50 : decode cX6_copyFrom 50 = .ok (.arraylength, 1) := by decide +kernel
theorem dX6_copyFrom_51 : decode cX6_copyFrom 51 = .ok (.invokestatic 90, 3) := by decide +kernel
theorem dX6_copyFrom_54 : decode cX6_copyFrom 54 = .ok (.aload_n 1, 1) := by decide +kernel
theorem dX6_copyFrom_55 : decode cX6_copyFrom 55 = .ok (.getfield 29, 3) := by decide +kernel
theorem dX6_copyFrom_58 : decode cX6_copyFrom 58 = .ok (.iconst 0, 1) := by decide +kernel
theorem dX6_copyFrom_59 : decode cX6_copyFrom 59 = .ok (.aload_n 0, 1) := by decide +kernel
theorem dX6_copyFrom_60 : decode cX6_copyFrom 60 = .ok (.getfield 29, 3) := by decide +kernel
theorem dX6_copyFrom_63 : decode cX6_copyFrom 63 = .ok (.iconst 0, 1) := by decide +kernel
theorem dX6_copyFrom_64 : decode cX6_copyFrom 64 = .ok (.aload_n 0, 1) := by decide +kernel
theorem dX6_copyFrom_65 : decode cX6_copyFrom 65 = .ok (.getfield 29, 3) := by decide +kernel
theorem dX6_copyFrom_68 : decode cX6_copyFrom 68 = .ok (.arraylength, 1) := by decide +kernel
theorem dX6_copyFrom_69 : decode cX6_copyFrom 69 = .ok (.invokestatic 90, 3) := by decide +kernel
theorem dX6_copyFrom_72 : decode cX6_copyFrom 72 = .ok (.iconst 0, 1) := by decide +kernel
theorem dX6_copyFrom_73 : decode cX6_copyFrom 73 = .ok (.istore_n 2, 1) := by decide +kernel
theorem dX6_copyFrom_74 : decode cX6_copyFrom 74 = .ok (.iload_n 2, 1) := by decide +kernel
theorem dX6_copyFrom_75 : decode cX6_copyFrom 75 = .ok (.bipush 6, 2) := by decide +kernel
theorem dX6_copyFrom_77 : decode cX6_copyFrom 77 = .ok (.if_icmp .ge 21, 3) := by decide +kernel
theorem dX6_copyFrom_80 : decode cX6_copyFrom 80 = .ok (.aload_n 0, 1) := by decide +kernel
theorem dX6_copyFrom_81 : decode cX6_copyFrom 81 = .ok (.getfield 34, 3) := by decide +kernel
theorem dX6_copyFrom_84 : decode cX6_copyFrom 84 = .ok (.iload_n 2, 1) := by decide +kernel
theorem dX6_copyFrom_85 : decode cX6_copyFrom 85 = .ok (.aload_n 1, 1) := by decide +kernel
theorem dX6_copyFrom_86 : decode cX6_copyFrom 86 = .ok (.getfield 34, 3) := by decide +kernel
theorem dX6_copyFrom_89 : decode cX6_copyFrom 89 = .ok (.iload_n 2, 1) := by decide +kernel
theorem dX6_copyFrom_90 : decode cX6_copyFrom 90 = .ok (.aaload, 1) := by decide +kernel
theorem dX6_copyFrom_91 : decode cX6_copyFrom 91 = .ok (.aastore, 1) := by decide +kernel
theorem dX6_copyFrom_92 : decode cX6_copyFrom 92 = .ok (.iinc 2 1, 3) := by decide +kernel
theorem dX6_copyFrom_95 : decode cX6_copyFrom 95 = .ok (.goto (-21), 3) := by decide +kernel
theorem dX6_copyFrom_98 : decode cX6_copyFrom 98 = .ok (.aload_n 1, 1) := by decide +kernel
theorem dX6_copyFrom_99 : decode cX6_copyFrom 99 = .ok (.getfield 38, 3) := by decide +kernel
theorem dX6_copyFrom_102 : decode cX6_copyFrom 102 = .ok (.iconst 0, 1) := by decide +kernel
theorem dX6_copyFrom_103 : decode cX6_copyFrom 103 = .ok (.aload_n 0, 1) := by decide +kernel
theorem dX6_copyFrom_104 : decode cX6_copyFrom 104 = .ok (.getfield 38, 3) := by decide +kernel
theorem dX6_copyFrom_107 : decode cX6_copyFrom 107 = .ok (.iconst 0, 1) := by decide +kernel
theorem dX6_copyFrom_108 : decode cX6_copyFrom 108 = .ok (.aload_n 0, 1) := by decide +kernel
theorem dX6_copyFrom_109 : decode cX6_copyFrom 109 = .ok (.getfield 38, 3) := by decide +kernel
theorem dX6_copyFrom_112 : decode cX6_copyFrom 112 = .ok (.arraylength, 1) := by decide +kernel
theorem dX6_copyFrom_113 : decode cX6_copyFrom 113 = .ok (.invokestatic 90, 3) := by decide +kernel
theorem dX6_copyFrom_116 : decode cX6_copyFrom 116 = .ok (.aload_n 1, 1) := by decide +kernel
theorem dX6_copyFrom_117 : decode cX6_copyFrom 117 = .ok (.getfield 41, 3) := by decide +kernel
theorem dX6_copyFrom_120 : decode cX6_copyFrom 120 = .ok (.iconst 0, 1) := by decide +kernel
theorem dX6_copyFrom_121 : decode cX6_copyFrom 121 = .ok (.aload_n 0, 1) := by decide +kernel
theorem dX6_copyFrom_122 : decode cX6_copyFrom 122 = .ok (.getfield 41, 3) := by decide +kernel
theorem dX6_copyFrom_125 : decode cX6_copyFrom 125 = .ok (.iconst 0, 1) := by decide +kernel
theorem dX6_copyFrom_126 : decode cX6_copyFrom 126 = .ok (.aload_n 0, 1) := by decide +kernel
theorem dX6_copyFrom_127 : decode cX6_copyFrom 127 = .ok (.getfield 41, 3) := by decide +kernel
theorem dX6_copyFrom_130 : decode cX6_copyFrom 130 = .ok (.arraylength, 1) := by decide +kernel
theorem dX6_copyFrom_131 : decode cX6_copyFrom 131 = .ok (.invokestatic 90, 3) := by decide +kernel
theorem dX6_copyFrom_134 : decode cX6_copyFrom 134 = .ok (.aload_n 1, 1) := by decide +kernel
theorem dX6_copyFrom_135 : decode cX6_copyFrom 135 = .ok (.getfield 44, 3) := by decide +kernel
theorem dX6_copyFrom_138 : decode cX6_copyFrom 138 = .ok (.iconst 0, 1) := by decide +kernel
theorem dX6_copyFrom_139 : decode cX6_copyFrom 139 = .ok (.aload_n 0, 1) := by decide +kernel
theorem dX6_copyFrom_140 : decode cX6_copyFrom 140 = .ok (.getfield 44, 3) := by decide +kernel
theorem dX6_copyFrom_143 : decode cX6_copyFrom 143 = .ok (.iconst 0, 1) := by decide +kernel
theorem dX6_copyFrom_144 : decode cX6_copyFrom 144 = .ok (.aload_n 0, 1) := by decide +kernel
theorem dX6_copyFrom_145 : decode cX6_copyFrom 145 = .ok (.getfield 44, 3) := by decide +kernel
theorem dX6_copyFrom_148 : decode cX6_copyFrom 148 = .ok (.arraylength, 1) := by decide +kernel
theorem dX6_copyFrom_149 : decode cX6_copyFrom 149 = .ok (.invokestatic 90, 3) := by decide +kernel
theorem dX6_copyFrom_152 : decode cX6_copyFrom 152 = .ok (.aload_n 1, 1) := by decide +kernel
theorem dX6_copyFrom_153 : decode cX6_copyFrom 153 = .ok (.getfield 47, 3) := by decide +kernel
theorem dX6_copyFrom_156 : decode cX6_copyFrom 156 = .ok (.iconst 0, 1) := by decide +kernel
theorem dX6_copyFrom_157 : decode cX6_copyFrom 157 = .ok (.aload_n 0, 1) := by decide +kernel
theorem dX6_copyFrom_158 : decode cX6_copyFrom 158 = .ok (.getfield 47, 3) := by decide +kernel
theorem dX6_copyFrom_161 : decode cX6_copyFrom 161 = .ok (.iconst 0, 1) := by decide +kernel
theorem dX6_copyFrom_162 : decode cX6_copyFrom 162 = .ok (.aload_n 0, 1) := by decide +kernel
theorem dX6_copyFrom_163 : decode cX6_copyFrom 163 = .ok (.getfield 47, 3) := by decide +kernel
theorem dX6_copyFrom_166 : decode cX6_copyFrom 166 = .ok (.arraylength, 1) := by decide +kernel
theorem dX6_copyFrom_167 : decode cX6_copyFrom 167 = .ok (.invokestatic 90, 3) := by decide +kernel
theorem dX6_copyFrom_170 : decode cX6_copyFrom 170 = .ok (.aload_n 1, 1) := by decide +kernel
theorem dX6_copyFrom_171 : decode cX6_copyFrom 171 = .ok (.getfield 50, 3) := by decide +kernel
theorem dX6_copyFrom_174 : decode cX6_copyFrom 174 = .ok (.iconst 0, 1) := by decide +kernel
theorem dX6_copyFrom_175 : decode cX6_copyFrom 175 = .ok (.aload_n 0, 1) := by decide +kernel
theorem dX6_copyFrom_176 : decode cX6_copyFrom 176 = .ok (.getfield 50, 3) := by decide +kernel
theorem dX6_copyFrom_179 : decode cX6_copyFrom 179 = .ok (.iconst 0, 1) := by decide +kernel
theorem dX6_copyFrom_180 : decode cX6_copyFrom 180 = .ok (.aload_n 0, 1) := by decide +kernel
theorem dX6_copyFrom_181 : decode cX6_copyFrom 181 = .ok (.getfield 50, 3) := by decide +kernel
theorem dX6_copyFrom_184 : decode cX6_copyFrom 184 = .ok (.arraylength, 1) := by decide +kernel
theorem dX6_copyFrom_185 : decode cX6_copyFrom 185 = .ok (.invokestatic 90, 3) := by decide +kernel
theorem dX6_copyFrom_188 : decode cX6_copyFrom 188 = .ok (.aload_n 1, 1) := by decide +kernel
theorem dX6_copyFrom_189 : decode cX6_copyFrom 189 = .ok (.getfield 53, 3) := by decide +kernel
theorem dX6_copyFrom_192 : decode cX6_copyFrom 192 = .ok (.iconst 0, 1) := by decide +kernel
theorem dX6_copyFrom_193 : decode cX6_copyFrom 193 = .ok (.aload_n 0, 1) := by decide +kernel
theorem dX6_copyFrom_194 : decode cX6_copyFrom 194 = .ok (.getfield 53, 3) := by decide +kernel
theorem dX6_copyFrom_197 : decode cX6_copyFrom 197 = .ok (.iconst 0, 1) := by decide +kernel
theorem dX6_copyFrom_198 : decode cX6_copyFrom 198 = .ok (.aload_n 0, 1) := by decide +kernel
theorem dX6_copyFrom_199 : decode cX6_copyFrom 199 = .ok (.getfield 53, 3) := by decide +kernel
theorem dX6_copyFrom_202 : decode cX6_copyFrom 202 = .ok (.arraylength, 1) := by decide +kernel
theorem dX6_copyFrom_203 : decode cX6_copyFrom 203 = .ok (.invokestatic 90, 3) := by decide +kernel
theorem dX6_copyFrom_206 : decode cX6_copyFrom 206 = .ok (.aload_n 1, 1) := by decide +kernel
theorem dX6_copyFrom_207 : decode cX6_copyFrom 207 = .ok (.getfield 56, 3) := by decide +kernel
theorem dX6_copyFrom_210 : decode cX6_copyFrom 210 = .ok (.iconst 0, 1) := by decide +kernel
theorem dX6_copyFrom_211 : decode cX6_copyFrom 211 = .ok (.aload_n 0, 1) := by decide +kernel
theorem dX6_copyFrom_212 : decode cX6_copyFrom 212 = .ok (.getfield 56, 3) := by decide +kernel
theorem dX6_copyFrom_215 : decode cX6_copyFrom 215 = .ok (.iconst 0, 1) := by decide +kernel
theorem dX6_copyFrom_216 : decode cX6_copyFrom 216 = .ok (.aload_n 0, 1) := by decide +kernel
theorem dX6_copyFrom_217 : decode cX6_copyFrom 217 = .ok (.getfield 56, 3) := by decide +kernel
theorem dX6_copyFrom_220 : decode cX6_copyFrom 220 = .ok (.arraylength, 1) := by decide +kernel
theorem dX6_copyFrom_221 : decode cX6_copyFrom 221 = .ok (.invokestatic 90, 3) := by decide +kernel
theorem dX6_copyFrom_224 : decode cX6_copyFrom 224 = .ok (.aload_n 1, 1) := by decide +kernel
theorem dX6_copyFrom_225 : decode cX6_copyFrom 225 = .ok (.getfield 59, 3) := by decide +kernel
theorem dX6_copyFrom_228 : decode cX6_copyFrom 228 = .ok (.iconst 0, 1) := by decide +kernel
theorem dX6_copyFrom_229 : decode cX6_copyFrom 229 = .ok (.aload_n 0, 1) := by decide +kernel
theorem dX6_copyFrom_230 : decode cX6_copyFrom 230 = .ok (.getfield 59, 3) := by decide +kernel
theorem dX6_copyFrom_233 : decode cX6_copyFrom 233 = .ok (.iconst 0, 1) := by decide +kernel
theorem dX6_copyFrom_234 : decode cX6_copyFrom 234 = .ok (.aload_n 0, 1) := by decide +kernel
theorem dX6_copyFrom_235 : decode cX6_copyFrom 235 = .ok (.getfield 59, 3) := by decide +kernel
theorem dX6_copyFrom_238 : decode cX6_copyFrom 238 = .ok (.arraylength, 1) := by decide +kernel
theorem dX6_copyFrom_239 : decode cX6_copyFrom 239 = .ok (.invokestatic 90, 3) := by decide +kernel
theorem dX6_copyFrom_242 : decode cX6_copyFrom 242 = .ok (.aload_n 0, 1) := by decide +kernel
theorem dX6_copyFrom_243 : decode cX6_copyFrom 243 = .ok (.aload_n 1, 1) := by decide +kernel
theorem dX6_copyFrom_244 : decode cX6_copyFrom 244 = .ok (.getfield 62, 3) := by decide +kernel
theorem dX6_copyFrom_247 : decode cX6_copyFrom 247 = .ok (.putfield 62, 3) := by decide +kernel
theorem dX6_copyFrom_250 : decode cX6_copyFrom 250 = .ok (.aload_n 0, 1) := by decide +kernel
theorem dX6_copyFrom_251 : decode cX6_copyFrom 251 = .ok (.aload_n 1, 1) := by decide +kernel
theorem dX6_copyFrom_252 : decode cX6_copyFrom 252 = .ok (.getfield 66, 3) := by decide +kernel
theorem dX6_copyFrom_255 : decode cX6_copyFrom 255 = .ok (.putfield 66, 3) := by decide +kernel
theorem dX6_copyFrom_258 : decode cX6_copyFrom 258 = .ok (.aload_n 0, 1) := by decide +kernel
theorem dX6_copyFrom_259 : decode cX6_copyFrom 259 = .ok (.aload_n 1, 1) := by decide +kernel
theorem dX6_copyFrom_260 : decode cX6_copyFrom 260 = .ok (.getfield 69, 3) := by decide +kernel
theorem dX6_copyFrom_263 : decode cX6_copyFrom 263 = .ok (.putfield 69, 3) := by decide +kernel
theorem dX6_copyFrom_266 : decode cX6_copyFrom 266 = .ok (.aload_n 0, 1) := by decide +kernel
theorem dX6_copyFrom_267 : decode cX6_copyFrom 267 = .ok (.aload_n 1, 1) := by decide +kernel
theorem dX6_copyFrom_268 : decode cX6_copyFrom 268 = .ok (.getfield 72, 3) := by decide +kernel
theorem dX6_copyFrom_271 : decode cX6_copyFrom 271 = .ok (.putfield 72, 3) := by decide +kernel
theorem dX6_copyFrom_274 : decode cX6_copyFrom 274 = .ok (.aload_n 0, 1) := by decide +kernel
theorem dX6_copyFrom_275 : decode cX6_copyFrom 275 = .ok (.aload_n 1, 1) := by decide +kernel
theorem dX6_copyFrom_276 : decode cX6_copyFrom 276 = .ok (.getfield 75, 3) := by decide +kernel
theorem dX6_copyFrom_279 : decode cX6_copyFrom 279 = .ok (.putfield 75, 3) := by decide +kernel
theorem dX6_copyFrom_282 : decode cX6_copyFrom 282 = .ok (.aload_n 0, 1) := by decide +kernel
theorem dX6_copyFrom_283 : decode cX6_copyFrom 283 = .ok (.aload_n 1, 1) := by decide +kernel
theorem dX6_copyFrom_284 : decode cX6_copyFrom 284 = .ok (.getfield 78, 3) := by decide +kernel
theorem dX6_copyFrom_287 : decode cX6_copyFrom 287 = .ok (.putfield 78, 3) := by decide +kernel
theorem dX6_copyFrom_290 : decode cX6_copyFrom 290 = .ok (.return_, 1) := by decide +kernel
theorem dX6_lawInForce_0 : decode cX6_lawInForce 0 = .ok (.aload_n 0, 1) := by decide +kernel
theorem dX6_lawInForce_1 : decode cX6_lawInForce 1 = .ok (.getfield 66, 3) := by decide +kernel
theorem dX6_lawInForce_4 : decode cX6_lawInForce 4 = .ok (.ifCond .lt 26, 3) := by decide +kernel
theorem dX6_lawInForce_7 : decode cX6_lawInForce 7 = .ok (.aload_n 0, 1) := by decide +kernel
theorem dX6_lawInForce_8 : decode cX6_lawInForce 8 = .ok (.getfield 66, 3) := by decide +kernel
theorem dX6_lawInForce_11 : decode cX6_lawInForce 11 = .ok (.aload_n 0, 1) := by decide +kernel
theorem dX6_lawInForce_12 : decode cX6_lawInForce 12 = .ok (.getfield 62, 3) := by decide +kernel
theorem dX6_lawInForce_15 : decode cX6_lawInForce 15 = .ok (.if_icmp .ge 15, 3) := by decide +kernel
theorem dX6_lawInForce_18 : decode cX6_lawInForce 18 = .ok (.aload_n 0, 1) := by decide +kernel
theorem dX6_lawInForce_19 : decode cX6_lawInForce 19 = .ok (.getfield 34, 3) := by decide +kernel
theorem dX6_lawInForce_22 : decode cX6_lawInForce 22 = .ok (.aload_n 0, 1) := by decide +kernel
theorem dX6_lawInForce_23 : decode cX6_lawInForce 23 = .ok (.getfield 66, 3) := by decide +kernel
theorem dX6_lawInForce_26 : decode cX6_lawInForce 26 = .ok (.aaload, 1) := by decide +kernel
theorem dX6_lawInForce_27 : decode cX6_lawInForce 27 = .ok (.goto 4, 3) := by decide +kernel
theorem dX6_lawInForce_30 : decode cX6_lawInForce 30 = .ok (.aconst_null, 1) := by decide +kernel
theorem dX6_lawInForce_31 : decode cX6_lawInForce 31 = .ok (.areturn, 1) := by decide +kernel
theorem dX7_init_0 : decode cX7_init 0 = .ok (.aload_n 0, 1) := by decide +kernel
theorem dX7_init_1 : decode cX7_init 1 = .ok (.invokespecial 3, 3) := by decide +kernel
theorem dX7_init_4 : decode cX7_init 4 = .ok (.aload_n 0, 1) := by decide +kernel
theorem dX7_init_5 : decode cX7_init 5 = .ok (.sipush 400, 3) := by decide +kernel
theorem dX7_init_8 : decode cX7_init 8 = .ok (.newarray .int, 2) := by decide +kernel
theorem dX7_init_10 : decode cX7_init 10 = .ok (.putfield 9, 3) := by decide +kernel
theorem dX7_init_13 : decode cX7_init 13 = .ok (.aload_n 0, 1) := by decide +kernel
theorem dX7_init_14 : decode cX7_init 14 = .ok (.iconst 0, 1) := by decide +kernel
theorem dX7_init_15 : decode cX7_init 15 = .ok (.putfield 15, 3) := by decide +kernel
theorem dX7_init_18 : decode cX7_init 18 = .ok (.return_, 1) := by decide +kernel
theorem dX7_add_0 : decode cX7_add 0 = .ok (.bipush 24, 2) := by decide +kernel
theorem dX7_add_2 : decode cX7_add 2 = .ok (.istore_n 2, 1) := by decide +kernel
theorem dX7_add_3 : decode cX7_add 3 = .ok (.iload_n 2, 1) := by decide +kernel
theorem dX7_add_4 : decode cX7_add 4 = .ok (.ifCond .lt 45, 3) := by decide +kernel
theorem dX7_add_7 : decode cX7_add 7 = .ok (.aload_n 0, 1) := by decide +kernel
theorem dX7_add_8 : decode cX7_add 8 = .ok (.getfield 15, 3) := by decide +kernel
theorem dX7_add_11 : decode cX7_add 11 = .ok (.sipush 400, 3) := by decide +kernel
theorem dX7_add_14 : decode cX7_add 14 = .ok (.if_icmp .ge 35, 3) := by decide +kernel
theorem dX7_add_17 : decode cX7_add 17 = .ok (.aload_n 0, 1) := by decide +kernel
theorem dX7_add_18 : decode cX7_add 18 = .ok (.getfield 9, 3) := by decide +kernel
theorem dX7_add_21 : decode cX7_add 21 = .ok (.aload_n 0, 1) := by decide +kernel
theorem dX7_add_22 : decode cX7_add 22 = .ok (.getfield 15, 3) := by decide +kernel
theorem dX7_add_25 : decode cX7_add 25 = .ok (.iload_n 1, 1) := by decide +kernel
theorem dX7_add_26 : decode cX7_add 26 = .ok (.iload_n 2, 1) := by decide +kernel
theorem dX7_add_27 : decode cX7_add 27 = .ok (.iushr, 1) := by decide +kernel
theorem dX7_add_28 : decode cX7_add 28 = .ok (.sipush 255, 3) := by decide +kernel
theorem dX7_add_31 : decode cX7_add 31 = .ok (.iand, 1) := by decide +kernel
theorem dX7_add_32 : decode cX7_add 32 = .ok (.iastore, 1) := by decide +kernel
theorem dX7_add_33 : decode cX7_add 33 = .ok (.aload_n 0, 1) := by decide +kernel
theorem dX7_add_34 : decode cX7_add 34 = .ok (.dup, 1) := by decide +kernel
theorem dX7_add_35 : decode cX7_add 35 = .ok (.getfield 15, 3) := by decide +kernel
theorem dX7_add_38 : decode cX7_add 38 = .ok (.iconst 1, 1) := by decide +kernel
theorem dX7_add_39 : decode cX7_add 39 = .ok (.iadd, 1) := by decide +kernel
theorem dX7_add_40 : decode cX7_add 40 = .ok (.putfield 15, 3) := by decide +kernel
theorem dX7_add_43 : decode cX7_add 43 = .ok (.iinc 2 (-8), 3) := by decide +kernel
theorem dX7_add_46 : decode cX7_add 46 = .ok (.goto (-43), 3) := by decide +kernel
theorem dX7_add_49 : decode cX7_add 49 = .ok (.return_, 1) := by decide +kernel
theorem dX8_init_0 : decode cX8_init 0 = .ok (.aload_n 0, 1) := by decide +kernel
theorem dX8_init_1 : decode cX8_init 1 = .ok (.invokespecial 1, 3) := by decide +kernel
theorem dX8_init_4 : decode cX8_init 4 = .ok (.aload_n 0, 1) := by decide +kernel
theorem dX8_init_5 : decode cX8_init 5 = .ok (.bipush 7, 2) := by decide +kernel
theorem dX8_init_7 : decode cX8_init 7 = .ok (.newarray .int, 2) := by decide +kernel
theorem dX8_init_9 : decode cX8_init 9 = .ok (.putfield 9, 3) := by decide +kernel
theorem dX8_init_12 : decode cX8_init 12 = .ok (.aload_n 0, 1) := by decide +kernel
theorem dX8_init_13 : decode cX8_init 13 = .ok (.bipush 64, 2) := by decide +kernel
theorem dX8_init_15 : decode cX8_init 15 = .ok (.newarray .int, 2) := by decide +kernel
theorem dX8_init_17 : decode cX8_init 17 = .ok (.putfield 13, 3) := by decide +kernel
theorem dX8_init_20 : decode cX8_init 20 = .ok (.aload_n 0, 1) := by decide +kernel
theorem dX8_init_21 : decode cX8_init 21 = .ok (.iconst 0, 1) := by decide +kernel
theorem dX8_init_22 : decode cX8_init 22 = .ok (.putfield 16, 3) := by decide +kernel
theorem dX8_init_25 : decode cX8_init 25 = .ok (.return_, 1) := by decide +kernel
theorem dX8_hear_0 : decode cX8_hear 0 = .ok (.aload_n 0, 1) := by decide +kernel
theorem dX8_hear_1 : decode cX8_hear 1 = .ok (.getfield 9, 3) := by decide +kernel
theorem dX8_hear_4 : decode cX8_hear 4 = .ok (.iconst 0, 1) := by decide +kernel
theorem dX8_hear_5 : decode cX8_hear 5 = .ok (.iload_n 1, 1) := by decide +kernel
theorem dX8_hear_6 : decode cX8_hear 6 = .ok (.iastore, 1) := by decide +kernel
theorem dX8_hear_7 : decode cX8_hear 7 = .ok (.aload_n 0, 1) := by decide +kernel
theorem dX8_hear_8 : decode cX8_hear 8 = .ok (.getfield 9, 3) := by decide +kernel
theorem dX8_hear_11 : decode cX8_hear 11 = .ok (.iconst 1, 1) := by decide +kernel
theorem dX8_hear_12 : decode cX8_hear 12 = .ok (.iload_n 2, 1) := by decide +kernel
theorem dX8_hear_13 : decode cX8_hear 13 = .ok (.iastore, 1) := by decide +kernel
theorem dX8_hear_14 : decode cX8_hear 14 = .ok (.aload_n 0, 1) := by decide +kernel
theorem dX8_hear_15 : decode cX8_hear 15 = .ok (.getfield 9, 3) := by decide +kernel
theorem dX8_hear_18 : decode cX8_hear 18 = .ok (.iconst 2, 1) := by decide +kernel
theorem dX8_hear_19 : decode cX8_hear 19 = .ok (.iload_n 3, 1) := by decide +kernel
theorem dX8_hear_20 : decode cX8_hear 20 = .ok (.iastore, 1) := by decide +kernel
theorem dX8_hear_21 : decode cX8_hear 21 = .ok (.aload_n 0, 1) := by decide +kernel
theorem dX8_hear_22 : decode cX8_hear 22 = .ok (.getfield 9, 3) := by decide +kernel
theorem dX8_hear_25 : decode cX8_hear 25 = .ok (.iconst 3, 1) := by decide +kernel
theorem dX8_hear_26 : decode cX8_hear 26 = .ok (.iload 4, 2) := by decide +kernel
theorem dX8_hear_28 : decode cX8_hear 28 = .ok (.iastore, 1) := by decide +kernel
theorem dX8_hear_29 : decode cX8_hear 29 = .ok (.aload_n 0, 1) := by decide +kernel
theorem dX8_hear_30 : decode cX8_hear 30 = .ok (.getfield 9, 3) := by decide +kernel
theorem dX8_hear_33 : decode cX8_hear 33 = .ok (.iconst 4, 1) := by decide +kernel
theorem dX8_hear_34 : decode cX8_hear 34 = .ok (.iload 5, 2) := by decide +kernel
theorem dX8_hear_36 : decode cX8_hear 36 = .ok (.iastore, 1) := by decide +kernel
theorem dX8_hear_37 : decode cX8_hear 37 = .ok (.aload_n 0, 1) := by decide +kernel
theorem dX8_hear_38 : decode cX8_hear 38 = .ok (.getfield 9, 3) := by decide +kernel
theorem dX8_hear_41 : decode cX8_hear 41 = .ok (.iconst 5, 1) := by decide +kernel
theorem dX8_hear_42 : decode cX8_hear 42 = .ok (.iload 6, 2) := by decide +kernel
theorem dX8_hear_44 : decode cX8_hear 44 = .ok (.iastore, 1) := by decide +kernel
theorem dX8_hear_45 : decode cX8_hear 45 = .ok (.aload_n 0, 1) := by decide +kernel
theorem dX8_hear_46 : decode cX8_hear 46 = .ok (.getfield 9, 3) := by decide +kernel
theorem dX8_hear_49 : decode cX8_hear 49 = .ok (.bipush 6, 2) := by decide +kernel
theorem dX8_hear_51 : decode cX8_hear 51 = .ok (.iload 7, 2) := by decide +kernel
theorem dX8_hear_53 : decode cX8_hear 53 = .ok (.iastore, 1) := by decide +kernel
theorem dX8_hear_54 : decode cX8_hear 54 = .ok (.return_, 1) := by decide +kernel
theorem dX8_tellsBy_0 : decode cX8_tellsBy 0 = .ok (.aload_n 1, 1) := by decide +kernel
theorem dX8_tellsBy_1 : decode cX8_tellsBy 1 = .ok (.getfield 20, 3) := by decide +kernel
theorem dX8_tellsBy_4 : decode cX8_tellsBy 4 = .ok (.astore_n 3, 1) := by decide +kernel
theorem dX8_tellsBy_5 : decode cX8_tellsBy 5 = .ok (.aload_n 3, 1) := by decide +kernel
theorem dX8_tellsBy_6 : decode cX8_tellsBy 6 = .ok (.arraylength, 1) := by decide +kernel
theorem dX8_tellsBy_7 : decode cX8_tellsBy 7 = .ok (.iconst 4, 1) := by decide +kernel
theorem dX8_tellsBy_8 : decode cX8_tellsBy 8 = .ok (.isub, 1) := by decide +kernel
theorem dX8_tellsBy_9 : decode cX8_tellsBy 9 = .ok (.istore 4, 2) := by decide +kernel
theorem dX8_tellsBy_11 : decode cX8_tellsBy 11 = .ok (.iload 4, 2) := by decide +kernel
theorem dX8_tellsBy_13 : decode cX8_tellsBy 13 = .ok (.ifCond .lt 110, 3) := by decide +kernel
theorem dX8_tellsBy_16 : decode cX8_tellsBy 16 = .ok (.aload_n 3, 1) := by decide +kernel
theorem dX8_tellsBy_17 : decode cX8_tellsBy 17 = .ok (.iload 4, 2) := by decide +kernel
theorem dX8_tellsBy_19 : decode cX8_tellsBy 19 = .ok (.iaload, 1) := by decide +kernel
theorem dX8_tellsBy_20 : decode cX8_tellsBy 20 = .ok (.iload_n 2, 1) := by decide +kernel
theorem dX8_tellsBy_21 : decode cX8_tellsBy 21 = .ok (.if_icmp .eq 6, 3) := by decide +kernel
theorem dX8_tellsBy_24 : decode cX8_tellsBy 24 = .ok (.goto 93, 3) := by decide +kernel
theorem dX8_tellsBy_27 : decode cX8_tellsBy 27 = .ok (.aload_n 3, 1) := by decide +kernel
theorem dX8_tellsBy_28 : decode cX8_tellsBy 28 = .ok (.iload 4, 2) := by decide +kernel
theorem dX8_tellsBy_30 : decode cX8_tellsBy 30 = .ok (.iconst 2, 1) := by decide +kernel
theorem dX8_tellsBy_31 : decode cX8_tellsBy 31 = .ok (.iadd, 1) := by decide +kernel
theorem dX8_tellsBy_32 : decode cX8_tellsBy 32 = .ok (.iaload, 1) := by decide +kernel
theorem dX8_tellsBy_33 : decode cX8_tellsBy 33 = .ok (.istore 5, 2) := by decide +kernel
theorem dX8_tellsBy_35 : decode cX8_tellsBy 35 = .ok (.aload_n 3, 1) := by decide +kernel
theorem dX8_tellsBy_36 : decode cX8_tellsBy 36 = .ok (.iload 4, 2) := by decide +kernel
theorem dX8_tellsBy_38 : decode cX8_tellsBy 38 = .ok (.iconst 3, 1) := by decide +kernel
theorem dX8_tellsBy_39 : decode cX8_tellsBy 39 = .ok (.iadd, 1) := by decide +kernel
theorem dX8_tellsBy_40 : decode cX8_tellsBy 40 = .ok (.iaload, 1) := by decide +kernel
theorem dX8_tellsBy_41 : decode cX8_tellsBy 41 = .ok (.istore 6, 2) := by decide +kernel
theorem dX8_tellsBy_43 : decode cX8_tellsBy 43 = .ok (.iload 6, 2) := by decide +kernel
theorem dX8_tellsBy_45 : decode cX8_tellsBy 45 = .ok (.iload 5, 2) := by decide +kernel
theorem dX8_tellsBy_47 : decode cX8_tellsBy 47 = .ok (.if_icmp .eq 27, 3) := by decide +kernel
theorem dX8_tellsBy_50 : decode cX8_tellsBy 50 = .ok (.aload_n 0, 1) := by decide +kernel
theorem dX8_tellsBy_51 : decode cX8_tellsBy 51 = .ok (.aload_n 1, 1) := by decide +kernel
theorem dX8_tellsBy_52 : decode cX8_tellsBy 52 = .ok (.getfield 25, 3) := by decide +kernel
theorem dX8_tellsBy_55 : decode cX8_tellsBy 55 = .ok (.iload 5, 2) := by decide +kernel
theorem dX8_tellsBy_57 : decode cX8_tellsBy 57 = .ok (.iload 6, 2) := by decide +kernel
theorem dX8_tellsBy_59 : decode cX8_tellsBy 59 = .ok (.invokevirtual 28, 3) := by decide +kernel
theorem dX8_tellsBy_62 : decode cX8_tellsBy 62 = .ok (.ifCond .eq 16, 3) := by decide +kernel
theorem dX8_tellsBy_65 : decode cX8_tellsBy 65 = .ok (.aload_n 0, 1) := by decide +kernel
theorem dX8_tellsBy_66 : decode cX8_tellsBy 66 = .ok (.getfield 13, 3) := by decide +kernel
theorem dX8_tellsBy_69 : decode cX8_tellsBy 69 = .ok (.iconst 0, 1) := by decide +kernel
theorem dX8_tellsBy_70 : decode cX8_tellsBy 70 = .ok (.iaload, 1) := by decide +kernel
theorem dX8_tellsBy_71 : decode cX8_tellsBy 71 = .ok (.ifCond .eq 7, 3) := by decide +kernel
theorem dX8_tellsBy_74 : decode cX8_tellsBy 74 = .ok (.iconst 1, 1) := by decide +kernel
theorem dX8_tellsBy_75 : decode cX8_tellsBy 75 = .ok (.goto 4, 3) := by decide +kernel
theorem dX8_tellsBy_78 : decode cX8_tellsBy 78 = .ok (.iconst 0, 1) := by decide +kernel
theorem dX8_tellsBy_79 : decode cX8_tellsBy 79 = .ok (.istore 7, 2) := by decide +kernel
theorem dX8_tellsBy_81 : decode cX8_tellsBy 81 = .ok (.iload 7, 2) := by decide +kernel
theorem dX8_tellsBy_83 : decode cX8_tellsBy 83 = .ok (.ifCond .eq 34, 3) := by decide +kernel
theorem dX8_tellsBy_86 : decode cX8_tellsBy 86 = .ok (.aload_n 0, 1) := by decide +kernel
theorem dX8_tellsBy_87 : decode cX8_tellsBy 87 = .ok (.aload_n 1, 1) := by decide +kernel
theorem dX8_tellsBy_88 : decode cX8_tellsBy 88 = .ok (.getfield 25, 3) := by decide +kernel
theorem dX8_tellsBy_91 : decode cX8_tellsBy 91 = .ok (.aload_n 3, 1) := by decide +kernel
theorem dX8_tellsBy_92 : decode cX8_tellsBy 92 = .ok (.iload 4, 2) := by decide +kernel
theorem dX8_tellsBy_94 : decode cX8_tellsBy 94 = .ok (.iconst 1, 1) := by decide +kernel
