theorem dX8_tellsBy_95 : decode cX8_tellsBy 95 = .ok (.iadd, 1) := by decide +kernel
theorem dX8_tellsBy_96 : decode cX8_tellsBy 96 = .ok (.iaload, 1) := by decide +kernel
theorem dX8_tellsBy_97 : decode cX8_tellsBy 97 = .ok (.iload 5, 2) := by decide +kernel
theorem dX8_tellsBy_99 : decode cX8_tellsBy 99 = .ok (.invokevirtual 28, 3) := by decide +kernel
theorem dX8_tellsBy_102 : decode cX8_tellsBy 102 = .ok (.ifCond .eq 15, 3) := by decide +kernel
theorem dX8_tellsBy_105 : decode cX8_tellsBy 105 = .ok (.aload_n 0, 1) := by decide +kernel
theorem dX8_tellsBy_106 : decode cX8_tellsBy 106 = .ok (.aload_n 0, 1) := by decide +kernel
theorem dX8_tellsBy_107 : decode cX8_tellsBy 107 = .ok (.getfield 13, 3) := by decide +kernel
theorem dX8_tellsBy_110 : decode cX8_tellsBy 110 = .ok (.iconst 0, 1) := by decide +kernel
theorem dX8_tellsBy_111 : decode cX8_tellsBy 111 = .ok (.iaload, 1) := by decide +kernel
theorem dX8_tellsBy_112 : decode cX8_tellsBy 112 = .ok (.putfield 16, 3) := by decide +kernel
theorem dX8_tellsBy_115 : decode cX8_tellsBy 115 = .ok (.iconst 1, 1) := by decide +kernel
theorem dX8_tellsBy_116 : decode cX8_tellsBy 116 = .ok (.ireturn, 1) := by decide +kernel
theorem dX8_tellsBy_117 : decode cX8_tellsBy 117 = .ok (.iinc 4 (-4), 3) := by decide +kernel
theorem dX8_tellsBy_120 : decode cX8_tellsBy 120 = .ok (.goto (-109), 3) := by decide +kernel
theorem dX8_tellsBy_123 : decode cX8_tellsBy 123 = .ok (.iconst 0, 1) := by decide +kernel
theorem dX8_tellsBy_124 : decode cX8_tellsBy 124 = .ok (.ireturn, 1) := by decide +kernel
theorem dX8_worksOut_0 : decode cX8_worksOut 0 = .ok (.iconst (-1), 1) := by decide +kernel
theorem dX8_worksOut_1 : decode cX8_worksOut 1 = .ok (.istore 4, 2) := by decide +kernel
theorem dX8_worksOut_3 : decode cX8_worksOut 3 = .ok (.iload_n 2, 1) := by decide +kernel
theorem dX8_worksOut_4 : decode cX8_worksOut 4 = .ok (.istore 5, 2) := by decide +kernel
theorem dX8_worksOut_6 : decode cX8_worksOut 6 = .ok (.iload 5, 2) := by decide +kernel
theorem dX8_worksOut_8 : decode cX8_worksOut 8 = .ok (.iload_n 3, 1) := by decide +kernel
theorem dX8_worksOut_9 : decode cX8_worksOut 9 = .ok (.if_icmp .ge 188, 3) := by decide +kernel
theorem dX8_worksOut_12 : decode cX8_worksOut 12 = .ok (.aload_n 1, 1) := by decide +kernel
theorem dX8_worksOut_13 : decode cX8_worksOut 13 = .ok (.iload 5, 2) := by decide +kernel
theorem dX8_worksOut_15 : decode cX8_worksOut 15 = .ok (.iaload, 1) := by decide +kernel
theorem dX8_worksOut_16 : decode cX8_worksOut 16 = .ok (.bipush 15, 2) := by decide +kernel
theorem dX8_worksOut_18 : decode cX8_worksOut 18 = .ok (.iand, 1) := by decide +kernel
theorem dX8_worksOut_19 : decode cX8_worksOut 19 = .ok (.istore 6, 2) := by decide +kernel
theorem dX8_worksOut_21 : decode cX8_worksOut 21 = .ok (.aload_n 1, 1) := by decide +kernel
theorem dX8_worksOut_22 : decode cX8_worksOut 22 = .ok (.iload 5, 2) := by decide +kernel
theorem dX8_worksOut_24 : decode cX8_worksOut 24 = .ok (.iaload, 1) := by decide +kernel
theorem dX8_worksOut_25 : decode cX8_worksOut 25 = .ok (.iconst 4, 1) := by decide +kernel
theorem dX8_worksOut_26 : decode cX8_worksOut 26 = .ok (.ishr, 1) := by decide +kernel
theorem dX8_worksOut_27 : decode cX8_worksOut 27 = .ok (.istore 7, 2) := by decide +kernel
theorem dX8_worksOut_29 : decode cX8_worksOut 29 = .ok (.iload 6, 2) := by decide +kernel
theorem dX8_worksOut_31 : decode cX8_worksOut 31 = .ok (.iconst 1, 1) := by decide +kernel
theorem dX8_worksOut_32 : decode cX8_worksOut 32 = .ok (.if_icmp .gt 45, 3) := by decide +kernel
theorem dX8_worksOut_35 : decode cX8_worksOut 35 = .ok (.iload 4, 2) := by decide +kernel
theorem dX8_worksOut_37 : decode cX8_worksOut 37 = .ok (.bipush 63, 2) := by decide +kernel
theorem dX8_worksOut_39 : decode cX8_worksOut 39 = .ok (.if_icmp .lt 5, 3) := by decide +kernel
theorem dX8_worksOut_42 : decode cX8_worksOut 42 = .ok (.iconst 0, 1) := by decide +kernel
theorem dX8_worksOut_43 : decode cX8_worksOut 43 = .ok (.ireturn, 1) := by decide +kernel
theorem dX8_worksOut_44 : decode cX8_worksOut 44 = .ok (.iinc 4 1, 3) := by decide +kernel
theorem dX8_worksOut_47 : decode cX8_worksOut 47 = .ok (.aload_n 0, 1) := by decide +kernel
theorem dX8_worksOut_48 : decode cX8_worksOut 48 = .ok (.getfield 13, 3) := by decide +kernel
theorem dX8_worksOut_51 : decode cX8_worksOut 51 = .ok (.iload 4, 2) := by decide +kernel
theorem dX8_worksOut_53 : decode cX8_worksOut 53 = .ok (.iload 6, 2) := by decide +kernel
theorem dX8_worksOut_55 : decode cX8_worksOut 55 = .ok (.ifCond .ne 8, 3) := by decide +kernel
theorem dX8_worksOut_58 : decode cX8_worksOut 58 = .ok (.iload 7, 2) := by decide +kernel
theorem dX8_worksOut_60 : decode cX8_worksOut 60 = .ok (.goto 13, 3) := by decide +kernel
theorem dX8_worksOut_63 : decode cX8_worksOut 63 = .ok (.aload_n 0, 1) := by decide +kernel
theorem dX8_worksOut_64 : decode cX8_worksOut 64 = .ok (.getfield 9, 3) := by decide +kernel
theorem dX8_worksOut_67 : decode cX8_worksOut 67 = .ok (.iload 7, 2) := by decide +kernel
theorem dX8_worksOut_69 : decode cX8_worksOut 69 = .ok (.bipush 7, 2) := by decide +kernel
theorem dX8_worksOut_71 : decode cX8_worksOut 71 = .ok (.irem, 1) := by decide +kernel
theorem dX8_worksOut_72 : decode cX8_worksOut 72 = .ok (.iaload, 1) := by decide +kernel
theorem dX8_worksOut_73 : decode cX8_worksOut 73 = .ok (.iastore, 1) := by decide +kernel
theorem dX8_worksOut_74 : decode cX8_worksOut 74 = .ok (.goto 117, 3) := by decide +kernel
theorem dX8_worksOut_77 : decode cX8_worksOut 77 = .ok (.iload 6, 2) := by decide +kernel
theorem dX8_worksOut_79 : decode cX8_worksOut 79 = .ok (.bipush 8, 2) := by decide +kernel
theorem dX8_worksOut_81 : decode cX8_worksOut 81 = .ok (.if_icmp .gt 30, 3) := by decide +kernel
theorem dX8_worksOut_84 : decode cX8_worksOut 84 = .ok (.iload 4, 2) := by decide +kernel
theorem dX8_worksOut_86 : decode cX8_worksOut 86 = .ok (.iconst 1, 1) := by decide +kernel
theorem dX8_worksOut_87 : decode cX8_worksOut 87 = .ok (.if_icmp .lt 16, 3) := by decide +kernel
theorem dX8_worksOut_90 : decode cX8_worksOut 90 = .ok (.aload_n 0, 1) := by decide +kernel
theorem dX8_worksOut_91 : decode cX8_worksOut 91 = .ok (.iload 6, 2) := by decide +kernel
theorem dX8_worksOut_93 : decode cX8_worksOut 93 = .ok (.iload 4, 2) := by decide +kernel
theorem dX8_worksOut_95 : decode cX8_worksOut 95 = .ok (.iconst 1, 1) := by decide +kernel
theorem dX8_worksOut_96 : decode cX8_worksOut 96 = .ok (.isub, 1) := by decide +kernel
theorem dX8_worksOut_97 : decode cX8_worksOut 97 = .ok (.invokevirtual 32, 3) := by decide +kernel
theorem dX8_worksOut_100 : decode cX8_worksOut 100 = .ok (.ifCond .ne 5, 3) := by decide +kernel
theorem dX8_worksOut_103 : decode cX8_worksOut 103 = .ok (.iconst 0, 1) := by decide +kernel
theorem dX8_worksOut_104 : decode cX8_worksOut 104 = .ok (.ireturn, 1) := by decide +kernel
theorem dX8_worksOut_105 : decode cX8_worksOut 105 = .ok (.iinc 4 (-1), 3) := by decide +kernel
theorem dX8_worksOut_108 : decode cX8_worksOut 108 = .ok (.goto 83, 3) := by decide +kernel
theorem dX8_worksOut_111 : decode cX8_worksOut 111 = .ok (.iload 4, 2) := by decide +kernel
theorem dX8_worksOut_113 : decode cX8_worksOut 113 = .ok (.ifCond .ge 5, 3) := by decide +kernel
theorem dX8_worksOut_116 : decode cX8_worksOut 116 = .ok (.iconst 0, 1) := by decide +kernel
theorem dX8_worksOut_117 : decode cX8_worksOut 117 = .ok (.ireturn, 1) := by decide +kernel
theorem dX8_worksOut_118 : decode cX8_worksOut 118 = .ok (.iload 6, 2) := by decide +kernel
theorem dX8_worksOut_120 : decode cX8_worksOut 120 = .ok (.bipush 9, 2) := by decide +kernel
theorem dX8_worksOut_122 : decode cX8_worksOut 122 = .ok (.if_icmp .ne 22, 3) := by decide +kernel
theorem dX8_worksOut_125 : decode cX8_worksOut 125 = .ok (.aload_n 0, 1) := by decide +kernel
theorem dX8_worksOut_126 : decode cX8_worksOut 126 = .ok (.getfield 13, 3) := by decide +kernel
theorem dX8_worksOut_129 : decode cX8_worksOut 129 = .ok (.iload 4, 2) := by decide +kernel
theorem dX8_worksOut_131 : decode cX8_worksOut 131 = .ok (.iconst 1, 1) := by decide +kernel
theorem dX8_worksOut_132 : decode cX8_worksOut 132 = .ok (.aload_n 0, 1) := by decide +kernel
theorem dX8_worksOut_133 : decode cX8_worksOut 133 = .ok (.getfield 13, 3) := by decide +kernel
theorem dX8_worksOut_136 : decode cX8_worksOut 136 = .ok (.iload 4, 2) := by decide +kernel
theorem dX8_worksOut_138 : decode cX8_worksOut 138 = .ok (.iaload, 1) := by decide +kernel
theorem dX8_worksOut_139 : decode cX8_worksOut 139 = .ok (.isub, 1) := by decide +kernel
theorem dX8_worksOut_140 : decode cX8_worksOut 140 = .ok (.iastore, 1) := by decide +kernel
theorem dX8_worksOut_141 : decode cX8_worksOut 141 = .ok (.goto 50, 3) := by decide +kernel
theorem dX8_worksOut_144 : decode cX8_worksOut 144 = .ok (.aload_n 0, 1) := by decide +kernel
theorem dX8_worksOut_145 : decode cX8_worksOut 145 = .ok (.getfield 13, 3) := by decide +kernel
theorem dX8_worksOut_148 : decode cX8_worksOut 148 = .ok (.iload 4, 2) := by decide +kernel
theorem dX8_worksOut_150 : decode cX8_worksOut 150 = .ok (.iaload, 1) := by decide +kernel
theorem dX8_worksOut_151 : decode cX8_worksOut 151 = .ok (.ifCond .eq 7, 3) := by decide +kernel
theorem dX8_worksOut_154 : decode cX8_worksOut 154 = .ok (.iconst 1, 1) := by decide +kernel
theorem dX8_worksOut_155 : decode cX8_worksOut 155 = .ok (.goto 4, 3) := by decide +kernel
theorem dX8_worksOut_158 : decode cX8_worksOut 158 = .ok (.iconst 0, 1) := by decide +kernel
theorem dX8_worksOut_159 : decode cX8_worksOut 159 = .ok (.iload 6, 2) := by decide +kernel
theorem dX8_worksOut_161 : decode cX8_worksOut 161 = .ok (.bipush 10, 2) := by decide +kernel
theorem dX8_worksOut_163 : decode cX8_worksOut 163 = .ok (.if_icmp .ne 7, 3) := by decide +kernel
theorem dX8_worksOut_166 : decode cX8_worksOut 166 = .ok (.iconst 1, 1) := by decide +kernel
theorem dX8_worksOut_167 : decode cX8_worksOut 167 = .ok (.goto 4, 3) := by decide +kernel
theorem dX8_worksOut_170 : decode cX8_worksOut 170 = .ok (.iconst 0, 1) := by decide +kernel
theorem dX8_worksOut_171 : decode cX8_worksOut 171 = .ok (.if_icmp .ne 17, 3) := by decide +kernel
theorem dX8_worksOut_174 : decode cX8_worksOut 174 = .ok (.iload 5, 2) := by decide +kernel
theorem dX8_worksOut_176 : decode cX8_worksOut 176 = .ok (.iload 7, 2) := by decide +kernel
theorem dX8_worksOut_178 : decode cX8_worksOut 178 = .ok (.iconst 1, 1) := by decide +kernel
theorem dX8_worksOut_179 : decode cX8_worksOut 179 = .ok (.isub, 1) := by decide +kernel
theorem dX8_worksOut_180 : decode cX8_worksOut 180 = .ok (.invokestatic 36, 3) := by decide +kernel
theorem dX8_worksOut_183 : decode cX8_worksOut 183 = .ok (.istore 5, 2) := by decide +kernel
theorem dX8_worksOut_185 : decode cX8_worksOut 185 = .ok (.goto 6, 3) := by decide +kernel
theorem dX8_worksOut_188 : decode cX8_worksOut 188 = .ok (.iinc 4 (-1), 3) := by decide +kernel
theorem dX8_worksOut_191 : decode cX8_worksOut 191 = .ok (.iinc 5 1, 3) := by decide +kernel
theorem dX8_worksOut_194 : decode cX8_worksOut 194 = .ok (.goto (-188), 3) := by decide +kernel
theorem dX8_worksOut_197 : decode cX8_worksOut 197 = .ok (.iload 4, 2) := by decide +kernel
theorem dX8_worksOut_199 : decode cX8_worksOut 199 = .ok (.ifCond .ne 7, 3) := by decide +kernel
theorem dX8_worksOut_202 : decode cX8_worksOut 202 = .ok (.iconst 1, 1) := by decide +kernel
theorem dX8_worksOut_203 : decode cX8_worksOut 203 = .ok (.goto 4, 3) := by decide +kernel
theorem dX8_worksOut_206 : decode cX8_worksOut 206 = .ok (.iconst 0, 1) := by decide +kernel
theorem dX8_worksOut_207 : decode cX8_worksOut 207 = .ok (.ireturn, 1) := by decide +kernel
theorem dX8_joins_0 : decode cX8_joins 0 = .ok (.aload_n 0, 1) := by decide +kernel
theorem dX8_joins_1 : decode cX8_joins 1 = .ok (.getfield 13, 3) := by decide +kernel
theorem dX8_joins_4 : decode cX8_joins 4 = .ok (.iload_n 2, 1) := by decide +kernel
theorem dX8_joins_5 : decode cX8_joins 5 = .ok (.iaload, 1) := by decide +kernel
theorem dX8_joins_6 : decode cX8_joins 6 = .ok (.i2l, 1) := by decide +kernel
theorem dX8_joins_7 : decode cX8_joins 7 = .ok (.lstore_n 3, 1) := by decide +kernel
theorem dX8_joins_8 : decode cX8_joins 8 = .ok (.aload_n 0, 1) := by decide +kernel
theorem dX8_joins_9 : decode cX8_joins 9 = .ok (.getfield 13, 3) := by decide +kernel
theorem dX8_joins_12 : decode cX8_joins 12 = .ok (.iload_n 2, 1) := by decide +kernel
theorem dX8_joins_13 : decode cX8_joins 13 = .ok (.iconst 1, 1) := by decide +kernel
theorem dX8_joins_14 : decode cX8_joins 14 = .ok (.iadd, 1) := by decide +kernel
theorem dX8_joins_15 : decode cX8_joins 15 = .ok (.iaload, 1) := by decide +kernel
theorem dX8_joins_16 : decode cX8_joins 16 = .ok (.i2l, 1) := by decide +kernel
theorem dX8_joins_17 : decode cX8_joins 17 = .ok (.lstore 5, 2) := by decide +kernel
theorem dX8_joins_19 : decode cX8_joins 19 = .ok (.iload_n 1, 1) := by decide +kernel
theorem dX8_joins_20 : decode cX8_joins 20 = .ok (.tableswitch 119 2 7 #[40, 49, 58, 67, 85, 102], 40) := by decide +kernel
theorem dX8_joins_60 : decode cX8_joins 60 = .ok (.lload_n 3, 1) := by decide +kernel
theorem dX8_joins_61 : decode cX8_joins 61 = .ok (.lload 5, 2) := by decide +kernel
theorem dX8_joins_63 : decode cX8_joins 63 = .ok (.ladd, 1) := by decide +kernel
theorem dX8_joins_64 : decode cX8_joins 64 = .ok (.lstore 7, 2) := by decide +kernel
theorem dX8_joins_66 : decode cX8_joins 66 = .ok (.goto 87, 3) := by decide +kernel
theorem dX8_joins_69 : decode cX8_joins 69 = .ok (.lload_n 3, 1) := by decide +kernel
theorem dX8_joins_70 : decode cX8_joins 70 = .ok (.lload 5, 2) := by decide +kernel
theorem dX8_joins_72 : decode cX8_joins 72 = .ok (.lsub, 1) := by decide +kernel
theorem dX8_joins_73 : decode cX8_joins 73 = .ok (.lstore 7, 2) := by decide +kernel
theorem dX8_joins_75 : decode cX8_joins 75 = .ok (.goto 78, 3) := by decide +kernel
theorem dX8_joins_78 : decode cX8_joins 78 = .ok (.lload_n 3, 1) := by decide +kernel
theorem dX8_joins_79 : decode cX8_joins 79 = .ok (.lload 5, 2) := by decide +kernel
theorem dX8_joins_81 : decode cX8_joins 81 = .ok (.lmul, 1) := by decide +kernel
theorem dX8_joins_82 : decode cX8_joins 82 = .ok (.lstore 7, 2) := by decide +kernel
theorem dX8_joins_84 : decode cX8_joins 84 = .ok (.goto 69, 3) := by decide +kernel
theorem dX8_joins_87 : decode cX8_joins 87 = .ok (.lload 5, 2) := by decide +kernel
theorem dX8_joins_89 : decode cX8_joins 89 = .ok (.lconst 0, 1) := by decide +kernel
theorem dX8_joins_90 : decode cX8_joins 90 = .ok (.lcmp, 1) := by decide +kernel
theorem dX8_joins_91 : decode cX8_joins 91 = .ok (.ifCond .ne 5, 3) := by decide +kernel
theorem dX8_joins_94 : decode cX8_joins 94 = .ok (.iconst 0, 1) := by decide +kernel
theorem dX8_joins_95 : decode cX8_joins 95 = .ok (.ireturn, 1) := by decide +kernel
theorem dX8_joins_96 : decode cX8_joins 96 = .ok (.lload_n 3, 1) := by decide +kernel
theorem dX8_joins_97 : decode cX8_joins 97 = .ok (.lload 5, 2) := by decide +kernel
theorem dX8_joins_99 : decode cX8_joins 99 = .ok (.ldiv, 1) := by decide +kernel
theorem dX8_joins_100 : decode cX8_joins 100 = .ok (.lstore 7, 2) := by decide +kernel
theorem dX8_joins_102 : decode cX8_joins 102 = .ok (.goto 51, 3) := by decide +kernel
theorem dX8_joins_105 : decode cX8_joins 105 = .ok (.lload_n 3, 1) := by decide +kernel
theorem dX8_joins_106 : decode cX8_joins 106 = .ok (.lload 5, 2) := by decide +kernel
theorem dX8_joins_108 : decode cX8_joins 108 = .ok (.lcmp, 1) := by decide +kernel
theorem dX8_joins_109 : decode cX8_joins 109 = .ok (.ifCond .ge 7, 3) := by decide +kernel
theorem dX8_joins_112 : decode cX8_joins 112 = .ok (.lconst 1, 1) := by decide +kernel
theorem dX8_joins_113 : decode cX8_joins 113 = .ok (.goto 4, 3) := by decide +kernel
theorem dX8_joins_116 : decode cX8_joins 116 = .ok (.lconst 0, 1) := by decide +kernel
theorem dX8_joins_117 : decode cX8_joins 117 = .ok (.lstore 7, 2) := by decide +kernel
theorem dX8_joins_119 : decode cX8_joins 119 = .ok (.goto 34, 3) := by decide +kernel
theorem dX8_joins_122 : decode cX8_joins 122 = .ok (.lload_n 3, 1) := by decide +kernel
theorem dX8_joins_123 : decode cX8_joins 123 = .ok (.lload 5, 2) := by decide +kernel
theorem dX8_joins_125 : decode cX8_joins 125 = .ok (.lcmp, 1) := by decide +kernel
theorem dX8_joins_126 : decode cX8_joins 126 = .ok (.ifCond .le 7, 3) := by decide +kernel
theorem dX8_joins_129 : decode cX8_joins 129 = .ok (.lconst 1, 1) := by decide +kernel
theorem dX8_joins_130 : decode cX8_joins 130 = .ok (.goto 4, 3) := by decide +kernel
theorem dX8_joins_133 : decode cX8_joins 133 = .ok (.lconst 0, 1) := by decide +kernel
theorem dX8_joins_134 : decode cX8_joins 134 = .ok (.lstore 7, 2) := by decide +kernel
theorem dX8_joins_136 : decode cX8_joins 136 = .ok (.goto 17, 3) := by decide +kernel
theorem dX8_joins_139 : decode cX8_joins 139 = .ok (.lload_n 3, 1) := by decide +kernel
theorem dX8_joins_140 : decode cX8_joins 140 = .ok (.lload 5, 2) := by decide +kernel
theorem dX8_joins_142 : decode cX8_joins 142 = .ok (.lcmp, 1) := by decide +kernel
theorem dX8_joins_143 : decode cX8_joins 143 = .ok (.ifCond .ne 7, 3) := by decide +kernel
theorem dX8_joins_146 : decode cX8_joins 146 = .ok (.lconst 1, 1) := by decide +kernel
theorem dX8_joins_147 : decode cX8_joins 147 = .ok (.goto 4, 3) := by decide +kernel
theorem dX8_joins_150 : decode cX8_joins 150 = .ok (.lconst 0, 1) := by decide +kernel
theorem dX8_joins_151 : decode cX8_joins 151 = .ok (.lstore 7, 2) := by decide +kernel
theorem dX8_joins_153 : decode cX8_joins 153 = .ok (.lload 7, 2) := by decide +kernel
theorem dX8_joins_155 : decode cX8_joins 155 = .ok (.ldc2_w 42, 3) := by decide +kernel
theorem dX8_joins_158 : decode cX8_joins 158 = .ok (.lcmp, 1) := by decide +kernel
theorem dX8_joins_159 : decode cX8_joins 159 = .ok (.ifCond .gt 12, 3) := by decide +kernel
theorem dX8_joins_162 : decode cX8_joins 162 = .ok (.lload 7, 2) := by decide +kernel
theorem dX8_joins_164 : decode cX8_joins 164 = .ok (.ldc2_w 44, 3) := by decide +kernel
theorem dX8_joins_167 : decode cX8_joins 167 = .ok (.lcmp, 1) := by decide +kernel
theorem dX8_joins_168 : decode cX8_joins 168 = .ok (.ifCond .ge 5, 3) := by decide +kernel
theorem dX8_joins_171 : decode cX8_joins 171 = .ok (.iconst 0, 1) := by decide +kernel
theorem dX8_joins_172 : decode cX8_joins 172 = .ok (.ireturn, 1) := by decide +kernel
theorem dX8_joins_173 : decode cX8_joins 173 = .ok (.aload_n 0, 1) := by decide +kernel
theorem dX8_joins_174 : decode cX8_joins 174 = .ok (.getfield 13, 3) := by decide +kernel
theorem dX8_joins_177 : decode cX8_joins 177 = .ok (.iload_n 2, 1) := by decide +kernel
theorem dX8_joins_178 : decode cX8_joins 178 = .ok (.lload 7, 2) := by decide +kernel
theorem dX8_joins_180 : decode cX8_joins 180 = .ok (.l2i, 1) := by decide +kernel
theorem dX8_joins_181 : decode cX8_joins 181 = .ok (.iastore, 1) := by decide +kernel
theorem dX8_joins_182 : decode cX8_joins 182 = .ok (.iconst 1, 1) := by decide +kernel
theorem dX8_joins_183 : decode cX8_joins 183 = .ok (.ireturn, 1) := by decide +kernel
theorem dJ9_abs_0f7a4_0 : decode cJ9_abs_0f7a4 0 = .ok (.iload_n 0, 1) := by decide +kernel
theorem dJ9_abs_0f7a4_1 : decode cJ9_abs_0f7a4 1 = .ok (.ifCond .ge 8, 3) := by decide +kernel
theorem dJ9_abs_0f7a4_4 : decode cJ9_abs_0f7a4 4 = .ok (.iload_n 0, 1) := by decide +kernel
theorem dJ9_abs_0f7a4_5 : decode cJ9_abs_0f7a4 5 = .ok (.ineg, 1) := by decide +kernel
theorem dJ9_abs_0f7a4_6 : decode cJ9_abs_0f7a4 6 = .ok (.goto 4, 3) := by decide +kernel
theorem dJ9_abs_0f7a4_9 : decode cJ9_abs_0f7a4 9 = .ok (.iload_n 0, 1) := by decide +kernel
theorem dJ9_abs_0f7a4_10 : decode cJ9_abs_0f7a4 10 = .ok (.ireturn, 1) := by decide +kernel
theorem dJ9_max_7cf53_0 : decode cJ9_max_7cf53 0 = .ok (.iload_n 0, 1) := by decide +kernel
theorem dJ9_max_7cf53_1 : decode cJ9_max_7cf53 1 = .ok (.iload_n 1, 1) := by decide +kernel
theorem dJ9_max_7cf53_2 : decode cJ9_max_7cf53 2 = .ok (.if_icmp .lt 7, 3) := by decide +kernel
theorem dJ9_max_7cf53_5 : decode cJ9_max_7cf53 5 = .ok (.iload_n 0, 1) := by decide +kernel
theorem dJ9_max_7cf53_6 : decode cJ9_max_7cf53 6 = .ok (.goto 4, 3) := by decide +kernel
theorem dJ9_max_7cf53_9 : decode cJ9_max_7cf53 9 = .ok (.iload_n 1, 1) := by decide +kernel
theorem dJ9_max_7cf53_10 : decode cJ9_max_7cf53 10 = .ok (.ireturn, 1) := by decide +kernel
theorem dJ9_min_7cf53_0 : decode cJ9_min_7cf53 0 = .ok (.iload_n 0, 1) := by decide +kernel
theorem dJ9_min_7cf53_1 : decode cJ9_min_7cf53 1 = .ok (.iload_n 1, 1) := by decide +kernel
theorem dJ9_min_7cf53_2 : decode cJ9_min_7cf53 2 = .ok (.if_icmp .gt 7, 3) := by decide +kernel
theorem dJ9_min_7cf53_5 : decode cJ9_min_7cf53 5 = .ok (.iload_n 0, 1) := by decide +kernel
theorem dJ9_min_7cf53_6 : decode cJ9_min_7cf53 6 = .ok (.goto 4, 3) := by decide +kernel
theorem dJ9_min_7cf53_9 : decode cJ9_min_7cf53 9 = .ok (.iload_n 1, 1) := by decide +kernel
theorem dJ9_min_7cf53_10 : decode cJ9_min_7cf53 10 = .ok (.ireturn, 1) := by decide +kernel
theorem dJ0_length_8abf5_0 : decode cJ0_length_8abf5 0 = .ok (.aload_n 0, 1) := by decide +kernel
theorem dJ0_length_8abf5_1 : decode cJ0_length_8abf5 1 = .ok (.getfield 9, 3) := by decide +kernel
theorem dJ0_length_8abf5_4 : decode cJ0_length_8abf5 4 = .ok (.arraylength, 1) := by decide +kernel
theorem dJ0_length_8abf5_5 : decode cJ0_length_8abf5 5 = .ok (.aload_n 0, 1) := by decide +kernel
theorem dJ0_length_8abf5_6 : decode cJ0_length_8abf5 6 = .ok (.invokevirtual 335, 3) := by decide +kernel
theorem dJ0_length_8abf5_9 : decode cJ0_length_8abf5 9 = .ok (.ishr, 1) := by decide +kernel
theorem dJ0_length_8abf5_10 : decode cJ0_length_8abf5 10 = .ok (.ireturn, 1) := by decide +kernel
theorem dJ0_charAt_5068e_0 : decode cJ0_charAt_5068e 0 = .ok (.aload_n 0, 1) := by decide +kernel
theorem dJ0_charAt_5068e_1 : decode cJ0_charAt_5068e 1 = .ok (.invokevirtual 492, 3) := by decide +kernel
theorem dJ0_charAt_5068e_4 : decode cJ0_charAt_5068e 4 = .ok (.ifCond .eq 12, 3) := by decide +kernel
theorem dJ0_charAt_5068e_7 : decode cJ0_charAt_5068e 7 = .ok (.aload_n 0, 1) := by decide +kernel
theorem dJ0_charAt_5068e_8 : decode cJ0_charAt_5068e 8 = .ok (.getfield 9, 3) := by decide +kernel
theorem dJ0_charAt_5068e_11 : decode cJ0_charAt_5068e 11 = .ok (.iload_n 1, 1) := by decide +kernel
theorem dJ0_charAt_5068e_12 : decode cJ0_charAt_5068e 12 = .ok (.invokestatic 495, 3) := by decide +kernel
theorem dJ0_charAt_5068e_15 : decode cJ0_charAt_5068e 15 = .ok (.ireturn, 1) := by decide +kernel
theorem dJ0_charAt_5068e_16 : decode cJ0_charAt_5068e 16 = .ok (.aload_n 0, 1) := by decide +kernel
theorem dJ0_charAt_5068e_17 : decode cJ0_charAt_5068e 17 = .ok (.getfield 9, 3) := by decide +kernel
theorem dJ0_charAt_5068e_20 : decode cJ0_charAt_5068e 20 = .ok (.iload_n 1, 1) := by decide +kernel
theorem dJ0_charAt_5068e_21 : decode cJ0_charAt_5068e 21 = .ok (.invokestatic 498, 3) := by decide +kernel
theorem dJ0_charAt_5068e_24 : decode cJ0_charAt_5068e 24 = .ok (.ireturn, 1) := by decide +kernel
theorem dJ0_coder_7d493_0 : decode cJ0_coder_7d493 0 = .ok (.getstatic 38, 3) := by decide +kernel
theorem dJ0_coder_7d493_3 : decode cJ0_coder_7d493 3 = .ok (.ifCond .eq 10, 3) := by decide +kernel
theorem dJ0_coder_7d493_6 : decode cJ0_coder_7d493 6 = .ok (.aload_n 0, 1) := by decide +kernel
theorem dJ0_coder_7d493_7 : decode cJ0_coder_7d493 7 = .ok (.getfield 15, 3) := by decide +kernel
theorem dJ0_coder_7d493_10 : decode cJ0_coder_7d493 10 = .ok (.goto 4, 3) := by decide +kernel
theorem dJ0_coder_7d493_13 : decode cJ0_coder_7d493 13 = .ok (.iconst 1, 1) := by decide +kernel
theorem dJ0_coder_7d493_14 : decode cJ0_coder_7d493 14 = .ok (.ireturn, 1) := by decide +kernel
theorem dJ0_isLatin1_aae02_0 : decode cJ0_isLatin1_aae02 0 = .ok (.getstatic 38, 3) := by decide +kernel
theorem dJ0_isLatin1_aae02_3 : decode cJ0_isLatin1_aae02 3 = .ok (.ifCond .eq 14, 3) := by decide +kernel
theorem dJ0_isLatin1_aae02_6 : decode cJ0_isLatin1_aae02 6 = .ok (.aload_n 0, 1) := by decide +kernel
theorem dJ0_isLatin1_aae02_7 : decode cJ0_isLatin1_aae02 7 = .ok (.getfield 15, 3) := by decide +kernel
theorem dJ0_isLatin1_aae02_10 : decode cJ0_isLatin1_aae02 10 = .ok (.ifCond .ne 7, 3) := by decide +kernel
theorem dJ0_isLatin1_aae02_13 : decode cJ0_isLatin1_aae02 13 = .ok (.iconst 1, 1) := by decide +kernel
theorem dJ0_isLatin1_aae02_14 : decode cJ0_isLatin1_aae02 14 = .ok (.goto 4, 3) := by decide +kernel
theorem dJ0_isLatin1_aae02_17 : decode cJ0_isLatin1_aae02 17 = .ok (.iconst 0, 1) := by decide +kernel
theorem dJ0_isLatin1_aae02_18 : decode cJ0_isLatin1_aae02 18 = .ok (.ireturn, 1) := by decide +kernel
theorem dJ0_checkIndex_df160_0 : decode cJ0_checkIndex_df160 0 = .ok (.iload_n 0, 1) := by decide +kernel
theorem dJ0_checkIndex_df160_1 : decode cJ0_checkIndex_df160 1 = .ok (.iload_n 1, 1) := by decide +kernel
theorem dJ0_checkIndex_df160_2 : decode cJ0_checkIndex_df160 2 = .ok (.getstatic 1053, 3) := by decide +kernel
theorem dJ0_checkIndex_df160_5 : decode cJ0_checkIndex_df160 5 = .ok (.invokestatic 1059, 3) := by decide +kernel
theorem dJ0_checkIndex_df160_8 : decode cJ0_checkIndex_df160 8 = .ok (.pop, 1) := by decide +kernel
theorem dJ0_checkIndex_df160_9 : decode cJ0_checkIndex_df160 9 = .ok (.return_, 1) := by decide +kernel
theorem dJ1_charAt_3b067_0 : decode cJ1_charAt_3b067 0 = .ok (.iload_n 1, 1) := by decide +kernel
theorem dJ1_charAt_3b067_1 : decode cJ1_charAt_3b067 1 = .ok (.aload_n 0, 1) := by decide +kernel
theorem dJ1_charAt_3b067_2 : decode cJ1_charAt_3b067 2 = .ok (.arraylength, 1) := by decide +kernel
theorem dJ1_charAt_3b067_3 : decode cJ1_charAt_3b067 3 = .ok (.invokestatic 9, 3) := by decide +kernel
theorem dJ1_charAt_3b067_6 : decode cJ1_charAt_3b067 6 = .ok (.aload_n 0, 1) := by decide +kernel
theorem dJ1_charAt_3b067_7 : decode cJ1_charAt_3b067 7 = .ok (.iload_n 1, 1) := by decide +kernel
theorem dJ1_charAt_3b067_8 : decode cJ1_charAt_3b067 8 = .ok (.baload, 1) := by decide +kernel
theorem dJ1_charAt_3b067_9 : decode cJ1_charAt_3b067 9 = .ok (.sipush 255, 3) := by decide +kernel
theorem dJ1_charAt_3b067_12 : decode cJ1_charAt_3b067 12 = .ok (.iand, 1) := by decide +kernel
theorem dJ1_charAt_3b067_13 : decode cJ1_charAt_3b067 13 = .ok (.i2c, 1) := by decide +kernel
theorem dJ1_charAt_3b067_14 : decode cJ1_charAt_3b067 14 = .ok (.ireturn, 1) := by decide +kernel
theorem dJ2_getChar_3b067_0 : decode cJ2_getChar_3b067 0 = .ok (.getstatic 44, 3) := by decide +kernel
theorem dJ2_getChar_3b067_3 : decode cJ2_getChar_3b067 3 = .ok (.ifCond .ne 25, 3) := by decide +kernel
theorem dJ2_getChar_3b067_6 : decode cJ2_getChar_3b067 6 = .ok (.iload_n 1, 1) := by decide +kernel
theorem dJ2_getChar_3b067_7 : decode cJ2_getChar_3b067 7 = .ok (.ifCond .lt 11, 3) := by decide +kernel
theorem dJ2_getChar_3b067_10 : decode cJ2_getChar_3b067 10 = .ok (.iload_n 1, 1) := by decide +kernel
theorem dJ2_getChar_3b067_11 : decode cJ2_getChar_3b067 11 = .ok (.aload_n 0, 1) := by decide +kernel
theorem dJ2_getChar_3b067_12 : decode cJ2_getChar_3b067 12 = .ok (.invokestatic 48, 3) := by decide +kernel
theorem dJ2_getChar_3b067_15 : decode cJ2_getChar_3b067 15 = .ok (.if_icmp .lt 13, 3) := by decide +kernel
theorem dJ2_getChar_3b067_18 : decode cJ2_getChar_3b067 18 = .ok (.new 52, 3) := by decide +kernel
theorem dJ2_getChar_3b067_21 : decode cJ2_getChar_3b067 21 = .ok (.dup, 1) := by decide +kernel
theorem dJ2_getChar_3b067_22 : decode cJ2_getChar_3b067 22 = .ok (.ldc 54, 2) := by decide +kernel
theorem dJ2_getChar_3b067_24 : decode cJ2_getChar_3b067 24 = .ok (.invokespecial 56, 3) := by decide +kernel
theorem dJ2_getChar_3b067_27 : decode cJ2_getChar_3b067 27 = .ok (.athrow, 1) := by decide +kernel
theorem dJ2_getChar_3b067_28 : decode cJ2_getChar_3b067 28 = .ok (.iload_n 1, 1) := by decide +kernel
theorem dJ2_getChar_3b067_29 : decode cJ2_getChar_3b067 29 = .ok (.iconst 1, 1) := by decide +kernel
theorem dJ2_getChar_3b067_30 : decode cJ2_getChar_3b067 30 = .ok (.ishl, 1) := by decide +kernel
theorem dJ2_getChar_3b067_31 : decode cJ2_getChar_3b067 31 = .ok (.istore_n 1, 1) := by decide +kernel
theorem dJ2_getChar_3b067_32 : decode cJ2_getChar_3b067 32 = .ok (.aload_n 0, 1) := by decide +kernel
theorem dJ2_getChar_3b067_33 : decode cJ2_getChar_3b067 33 = .ok (.iload_n 1, 1) := by decide +kernel
theorem dJ2_getChar_3b067_34 : decode cJ2_getChar_3b067 34 = .ok (.iinc 1 1, 3) := by decide +kernel
theorem dJ2_getChar_3b067_37 : decode cJ2_getChar_3b067 37 = .ok (.baload, 1) := by decide +kernel
theorem dJ2_getChar_3b067_38 : decode cJ2_getChar_3b067 38 = .ok (.sipush 255, 3) := by decide +kernel
theorem dJ2_getChar_3b067_41 : decode cJ2_getChar_3b067 41 = .ok (.iand, 1) := by decide +kernel
theorem dJ2_getChar_3b067_42 : decode cJ2_getChar_3b067 42 = .ok (.getstatic 59, 3) := by decide +kernel
theorem dJ2_getChar_3b067_45 : decode cJ2_getChar_3b067 45 = .ok (.ishl, 1) := by decide +kernel
theorem dJ2_getChar_3b067_46 : decode cJ2_getChar_3b067 46 = .ok (.aload_n 0, 1) := by decide +kernel
theorem dJ2_getChar_3b067_47 : decode cJ2_getChar_3b067 47 = .ok (.iload_n 1, 1) := by decide +kernel
theorem dJ2_getChar_3b067_48 : decode cJ2_getChar_3b067 48 = .ok (.baload, 1) := by decide +kernel
theorem dJ2_getChar_3b067_49 : decode cJ2_getChar_3b067 49 = .ok (.sipush 255, 3) := by decide +kernel
theorem dJ2_getChar_3b067_52 : decode cJ2_getChar_3b067 52 = .ok (.iand, 1) := by decide +kernel
theorem dJ2_getChar_3b067_53 : decode cJ2_getChar_3b067 53 = .ok (.getstatic 63, 3) := by decide +kernel
theorem dJ2_getChar_3b067_56 : decode cJ2_getChar_3b067 56 = .ok (.ishl, 1) := by decide +kernel
theorem dJ2_getChar_3b067_57 : decode cJ2_getChar_3b067 57 = .ok (.ior, 1) := by decide +kernel
theorem dJ2_getChar_3b067_58 : decode cJ2_getChar_3b067 58 = .ok (.i2c, 1) := by decide +kernel
theorem dJ2_getChar_3b067_59 : decode cJ2_getChar_3b067 59 = .ok (.ireturn, 1) := by decide +kernel
theorem dJ2_length_9d52b_0 : decode cJ2_length_9d52b 0 = .ok (.aload_n 0, 1) := by decide +kernel
theorem dJ2_length_9d52b_1 : decode cJ2_length_9d52b 1 = .ok (.arraylength, 1) := by decide +kernel
theorem dJ2_length_9d52b_2 : decode cJ2_length_9d52b 2 = .ok (.iconst 1, 1) := by decide +kernel
theorem dJ2_length_9d52b_3 : decode cJ2_length_9d52b 3 = .ok (.ishr, 1) := by decide +kernel
theorem dJ2_length_9d52b_4 : decode cJ2_length_9d52b 4 = .ok (.ireturn, 1) := by decide +kernel
theorem dJ2_charAt_3b067_0 : decode cJ2_charAt_3b067 0 = .ok (.iload_n 1, 1) := by decide +kernel
theorem dJ2_charAt_3b067_1 : decode cJ2_charAt_3b067 1 = .ok (.aload_n 0, 1) := by decide +kernel
theorem dJ2_charAt_3b067_2 : decode cJ2_charAt_3b067 2 = .ok (.invokestatic 67, 3) := by decide +kernel
theorem dJ2_charAt_3b067_5 : decode cJ2_charAt_3b067 5 = .ok (.aload_n 0, 1) := by decide +kernel
theorem dJ2_charAt_3b067_6 : decode cJ2_charAt_3b067 6 = .ok (.iload_n 1, 1) := by decide +kernel
theorem dJ2_charAt_3b067_7 : decode cJ2_charAt_3b067 7 = .ok (.invokestatic 71, 3) := by decide +kernel
theorem dJ2_charAt_3b067_10 : decode cJ2_charAt_3b067 10 = .ok (.ireturn, 1) := by decide +kernel
theorem dJ2_checkIndex_2214a_0 : decode cJ2_checkIndex_2214a 0 = .ok (.iload_n 0, 1) := by decide +kernel
theorem dJ2_checkIndex_2214a_1 : decode cJ2_checkIndex_2214a 1 = .ok (.aload_n 1, 1) := by decide +kernel
theorem dJ2_checkIndex_2214a_2 : decode cJ2_checkIndex_2214a 2 = .ok (.invokestatic 48, 3) := by decide +kernel
theorem dJ2_checkIndex_2214a_5 : decode cJ2_checkIndex_2214a 5 = .ok (.invokestatic 414, 3) := by decide +kernel
theorem dJ2_checkIndex_2214a_8 : decode cJ2_checkIndex_2214a 8 = .ok (.return_, 1) := by decide +kernel
theorem dJ7_fill_d0a16_0 : decode cJ7_fill_d0a16 0 = .ok (.iconst 0, 1) := by decide +kernel
theorem dJ7_fill_d0a16_1 : decode cJ7_fill_d0a16 1 = .ok (.istore_n 3, 1) := by decide +kernel
theorem dJ7_fill_d0a16_2 : decode cJ7_fill_d0a16 2 = .ok (.aload_n 0, 1) := by decide +kernel
theorem dJ7_fill_d0a16_3 : decode cJ7_fill_d0a16 3 = .ok (.arraylength, 1) := by decide +kernel
theorem dJ7_fill_d0a16_4 : decode cJ7_fill_d0a16 4 = .ok (.istore 4, 2) := by decide +kernel
theorem dJ7_fill_d0a16_6 : decode cJ7_fill_d0a16 6 = .ok (.iload_n 3, 1) := by decide +kernel
theorem dJ7_fill_d0a16_7 : decode cJ7_fill_d0a16 7 = .ok (.iload 4, 2) := by decide +kernel
theorem dJ7_fill_d0a16_9 : decode cJ7_fill_d0a16 9 = .ok (.if_icmp .ge 13, 3) := by decide +kernel
theorem dJ7_fill_d0a16_12 : decode cJ7_fill_d0a16 12 = .ok (.aload_n 0, 1) := by decide +kernel
theorem dJ7_fill_d0a16_13 : decode cJ7_fill_d0a16 13 = .ok (.iload_n 3, 1) := by decide +kernel
theorem dJ7_fill_d0a16_14 : decode cJ7_fill_d0a16 14 = .ok (.lload_n 1, 1) := by decide +kernel
theorem dJ7_fill_d0a16_15 : decode cJ7_fill_d0a16 15 = .ok (.lastore, 1) := by decide +kernel
theorem dJ7_fill_d0a16_16 : decode cJ7_fill_d0a16 16 = .ok (.iinc 3 1, 3) := by decide +kernel
theorem dJ7_fill_d0a16_19 : decode cJ7_fill_d0a16 19 = .ok (.goto (-13), 3) := by decide +kernel
theorem dJ7_fill_d0a16_22 : decode cJ7_fill_d0a16 22 = .ok (.return_, 1) := by decide +kernel
theorem dJ7_fill_53178_0 : decode cJ7_fill_53178 0 = .ok (.iconst 0, 1) := by decide +kernel
theorem dJ7_fill_53178_1 : decode cJ7_fill_53178 1 = .ok (.istore_n 2, 1) := by decide +kernel
theorem dJ7_fill_53178_2 : decode cJ7_fill_53178 2 = .ok (.aload_n 0, 1) := by decide +kernel
theorem dJ7_fill_53178_3 : decode cJ7_fill_53178 3 = .ok (.arraylength, 1) := by decide +kernel
theorem dJ7_fill_53178_4 : decode cJ7_fill_53178 4 = .ok (.istore_n 3, 1) := by decide +kernel
theorem dJ7_fill_53178_5 : decode cJ7_fill_53178 5 = .ok (.iload_n 2, 1) := by decide +kernel
theorem dJ7_fill_53178_6 : decode cJ7_fill_53178 6 = .ok (.iload_n 3, 1) := by decide +kernel
theorem dJ7_fill_53178_7 : decode cJ7_fill_53178 7 = .ok (.if_icmp .ge 13, 3) := by decide +kernel
theorem dJ7_fill_53178_10 : decode cJ7_fill_53178 10 = .ok (.aload_n 0, 1) := by decide +kernel
theorem dJ7_fill_53178_11 : decode cJ7_fill_53178 11 = .ok (.iload_n 2, 1) := by decide +kernel
theorem dJ7_fill_53178_12 : decode cJ7_fill_53178 12 = .ok (.iload_n 1, 1) := by decide +kernel
theorem dJ7_fill_53178_13 : decode cJ7_fill_53178 13 = .ok (.iastore, 1) := by decide +kernel
theorem dJ7_fill_53178_14 : decode cJ7_fill_53178 14 = .ok (.iinc 2 1, 3) := by decide +kernel
theorem dJ7_fill_53178_17 : decode cJ7_fill_53178 17 = .ok (.goto (-12), 3) := by decide +kernel
theorem dJ7_fill_53178_20 : decode cJ7_fill_53178 20 = .ok (.return_, 1) := by decide +kernel
theorem dJ7_copyOf_59c91_0 : decode cJ7_copyOf_59c91 0 = .ok (.iload_n 1, 1) := by decide +kernel
theorem dJ7_copyOf_59c91_1 : decode cJ7_copyOf_59c91 1 = .ok (.aload_n 0, 1) := by decide +kernel
theorem dJ7_copyOf_59c91_2 : decode cJ7_copyOf_59c91 2 = .ok (.arraylength, 1) := by decide +kernel
theorem dJ7_copyOf_59c91_3 : decode cJ7_copyOf_59c91 3 = .ok (.if_icmp .ne 11, 3) := by decide +kernel
theorem dJ7_copyOf_59c91_6 : decode cJ7_copyOf_59c91 6 = .ok (.aload_n 0, 1) := by decide +kernel
theorem dJ7_copyOf_59c91_7 : decode cJ7_copyOf_59c91 7 = .ok (.invokevirtual 316, 3) := by decide +kernel
theorem dJ7_copyOf_59c91_10 : decode cJ7_copyOf_59c91 10 = .ok (.checkcast 317, 3) := by decide +kernel
theorem dJ7_copyOf_59c91_13 : decode cJ7_copyOf_59c91 13 = .ok (.areturn, 1) := by decide +kernel
theorem dJ7_copyOf_59c91_14 : decode cJ7_copyOf_59c91 14 = .ok (.iload_n 1, 1) := by decide +kernel
theorem dJ7_copyOf_59c91_15 : decode cJ7_copyOf_59c91 15 = .ok (.newarray .int, 2) := by decide +kernel
theorem dJ7_copyOf_59c91_17 : decode cJ7_copyOf_59c91 17 = .ok (.astore_n 2, 1) := by decide +kernel
theorem dJ7_copyOf_59c91_18 : decode cJ7_copyOf_59c91 18 = .ok (.aload_n 0, 1) := by decide +kernel
theorem dJ7_copyOf_59c91_19 : decode cJ7_copyOf_59c91 19 = .ok (.iconst 0, 1) := by decide +kernel
theorem dJ7_copyOf_59c91_20 : decode cJ7_copyOf_59c91 20 = .ok (.aload_n 2, 1) := by decide +kernel
theorem dJ7_copyOf_59c91_21 : decode cJ7_copyOf_59c91 21 = .ok (.iconst 0, 1) := by decide +kernel
theorem dJ7_copyOf_59c91_22 : decode cJ7_copyOf_59c91 22 = .ok (.aload_n 0, 1) := by decide +kernel
theorem dJ7_copyOf_59c91_23 : decode cJ7_copyOf_59c91 23 = .ok (.arraylength, 1) := by decide +kernel
theorem dJ7_copyOf_59c91_24 : decode cJ7_copyOf_59c91 24 = .ok (.iload_n 1, 1) := by decide +kernel
theorem dJ7_copyOf_59c91_25 : decode cJ7_copyOf_59c91 25 = .ok (.invokestatic 304, 3) := by decide +kernel
theorem dJ7_copyOf_59c91_28 : decode cJ7_copyOf_59c91 28 = .ok (.invokestatic 150, 3) := by decide +kernel
theorem dJ7_copyOf_59c91_31 : decode cJ7_copyOf_59c91 31 = .ok (.aload_n 2, 1) := by decide +kernel
theorem dJ7_copyOf_59c91_32 : decode cJ7_copyOf_59c91 32 = .ok (.areturn, 1) := by decide +kernel
theorem dJ3_checkIndex_8e157_0 : decode cJ3_checkIndex_8e157 0 = .ok (.iload_n 0, 1) := by decide +kernel
theorem dJ3_checkIndex_8e157_1 : decode cJ3_checkIndex_8e157 1 = .ok (.ifCond .lt 8, 3) := by decide +kernel
theorem dJ3_checkIndex_8e157_4 : decode cJ3_checkIndex_8e157 4 = .ok (.iload_n 0, 1) := by decide +kernel
theorem dJ3_checkIndex_8e157_5 : decode cJ3_checkIndex_8e157 5 = .ok (.iload_n 1, 1) := by decide +kernel
theorem dJ3_checkIndex_8e157_6 : decode cJ3_checkIndex_8e157 6 = .ok (.if_icmp .lt 10, 3) := by decide +kernel
theorem dJ3_checkIndex_8e157_9 : decode cJ3_checkIndex_8e157 9 = .ok (.aload_n 2, 1) := by decide +kernel
theorem dJ3_checkIndex_8e157_10 : decode cJ3_checkIndex_8e157 10 = .ok (.iload_n 0, 1) := by decide +kernel
theorem dJ3_checkIndex_8e157_11 : decode cJ3_checkIndex_8e157 11 = .ok (.iload_n 1, 1) := by decide +kernel
theorem dJ3_checkIndex_8e157_12 : decode cJ3_checkIndex_8e157 12 = .ok (.invokestatic 95, 3) := by decide +kernel
theorem dJ3_checkIndex_8e157_15 : decode cJ3_checkIndex_8e157 15 = .ok (.athrow, 1) := by decide +kernel
theorem dJ3_checkIndex_8e157_16 : decode cJ3_checkIndex_8e157 16 = .ok (.iload_n 0, 1) := by decide +kernel
theorem dJ3_checkIndex_8e157_17 : decode cJ3_checkIndex_8e157 17 = .ok (.ireturn, 1) := by decide +kernel
