theorem dX12_lies_0 : decode cX12_lies 0 = .ok (.iload_n 0, 1) := by decide +kernel
theorem dX12_lies_1 : decode cX12_lies 1 = .ok (.iload_n 1, 1) := by decide +kernel
theorem dX12_lies_2 : decode cX12_lies 2 = .ok (.if_icmp .lt 12, 3) := by decide +kernel
theorem dX12_lies_5 : decode cX12_lies 5 = .ok (.iload_n 0, 1) := by decide +kernel
theorem dX12_lies_6 : decode cX12_lies 6 = .ok (.iload_n 2, 1) := by decide +kernel
theorem dX12_lies_7 : decode cX12_lies 7 = .ok (.if_icmp .gt 7, 3) := by decide +kernel
theorem dX12_lies_10 : decode cX12_lies 10 = .ok (.iconst 1, 1) := by decide +kernel
theorem dX12_lies_11 : decode cX12_lies 11 = .ok (.goto 4, 3) := by decide +kernel
theorem dX12_lies_14 : decode cX12_lies 14 = .ok (.iconst 0, 1) := by decide +kernel
theorem dX12_lies_15 : decode cX12_lies 15 = .ok (.ireturn, 1) := by decide +kernel
theorem dX12_refuses_0 : decode cX12_refuses 0 = .ok (.aload_n 0, 1) := by decide +kernel
theorem dX12_refuses_1 : decode cX12_refuses 1 = .ok (.iload_n 1, 1) := by decide +kernel
theorem dX12_refuses_2 : decode cX12_refuses 2 = .ok (.putfield 3, 3) := by decide +kernel
theorem dX12_refuses_5 : decode cX12_refuses 5 = .ok (.aload_n 0, 1) := by decide +kernel
theorem dX12_refuses_6 : decode cX12_refuses 6 = .ok (.getfield 7, 3) := by decide +kernel
theorem dX12_refuses_9 : decode cX12_refuses 9 = .ok (.iload_n 1, 1) := by decide +kernel
theorem dX12_refuses_10 : decode cX12_refuses 10 = .ok (.ineg, 1) := by decide +kernel
theorem dX12_refuses_11 : decode cX12_refuses 11 = .ok (.dup2, 1) := by decide +kernel
theorem dX12_refuses_12 : decode cX12_refuses 12 = .ok (.iaload, 1) := by decide +kernel
theorem dX12_refuses_13 : decode cX12_refuses 13 = .ok (.iconst 1, 1) := by decide +kernel
theorem dX12_refuses_14 : decode cX12_refuses 14 = .ok (.iadd, 1) := by decide +kernel
theorem dX12_refuses_15 : decode cX12_refuses 15 = .ok (.iastore, 1) := by decide +kernel
theorem dX12_refuses_16 : decode cX12_refuses 16 = .ok (.iload_n 1, 1) := by decide +kernel
theorem dX12_refuses_17 : decode cX12_refuses 17 = .ok (.ireturn, 1) := by decide +kernel
theorem dX12_good_0 : decode cX12_good 0 = .ok (.aload_n 0, 1) := by decide +kernel
theorem dX12_good_1 : decode cX12_good 1 = .ok (.iconst 0, 1) := by decide +kernel
theorem dX12_good_2 : decode cX12_good 2 = .ok (.putfield 3, 3) := by decide +kernel
theorem dX12_good_5 : decode cX12_good 5 = .ok (.aload_n 0, 1) := by decide +kernel
theorem dX12_good_6 : decode cX12_good 6 = .ok (.dup, 1) := by decide +kernel
theorem dX12_good_7 : decode cX12_good 7 = .ok (.getfield 11, 3) := by decide +kernel
theorem dX12_good_10 : decode cX12_good 10 = .ok (.iconst 1, 1) := by decide +kernel
theorem dX12_good_11 : decode cX12_good 11 = .ok (.iadd, 1) := by decide +kernel
theorem dX12_good_12 : decode cX12_good 12 = .ok (.putfield 11, 3) := by decide +kernel
theorem dX12_good_15 : decode cX12_good 15 = .ok (.iload_n 1, 1) := by decide +kernel
theorem dX12_good_16 : decode cX12_good 16 = .ok (.ireturn, 1) := by decide +kernel
theorem dX12_size_0 : decode cX12_size 0 = .ok (.iload_n 0, 1) := by decide +kernel
theorem dX12_size_1 : decode cX12_size 1 = .ok (.ifCond .ge 8, 3) := by decide +kernel
theorem dX12_size_4 : decode cX12_size 4 = .ok (.iload_n 0, 1) := by decide +kernel
theorem dX12_size_5 : decode cX12_size 5 = .ok (.ineg, 1) := by decide +kernel
theorem dX12_size_6 : decode cX12_size 6 = .ok (.goto 4, 3) := by decide +kernel
theorem dX12_size_9 : decode cX12_size 9 = .ok (.iload_n 0, 1) := by decide +kernel
theorem dX12_size_10 : decode cX12_size 10 = .ok (.ireturn, 1) := by decide +kernel
theorem dX12_near_0 : decode cX12_near 0 = .ok (.lload_n 0, 1) := by decide +kernel
theorem dX12_near_1 : decode cX12_near 1 = .ok (.iload_n 2, 1) := by decide +kernel
theorem dX12_near_2 : decode cX12_near 2 = .ok (.i2l, 1) := by decide +kernel
theorem dX12_near_3 : decode cX12_near 3 = .ok (.lcmp, 1) := by decide +kernel
theorem dX12_near_4 : decode cX12_near 4 = .ok (.ifCond .ge 7, 3) := by decide +kernel
theorem dX12_near_7 : decode cX12_near 7 = .ok (.iload_n 2, 1) := by decide +kernel
theorem dX12_near_8 : decode cX12_near 8 = .ok (.goto 16, 3) := by decide +kernel
theorem dX12_near_11 : decode cX12_near 11 = .ok (.lload_n 0, 1) := by decide +kernel
theorem dX12_near_12 : decode cX12_near 12 = .ok (.iload_n 3, 1) := by decide +kernel
theorem dX12_near_13 : decode cX12_near 13 = .ok (.i2l, 1) := by decide +kernel
theorem dX12_near_14 : decode cX12_near 14 = .ok (.lcmp, 1) := by decide +kernel
theorem dX12_near_15 : decode cX12_near 15 = .ok (.ifCond .le 7, 3) := by decide +kernel
theorem dX12_near_18 : decode cX12_near 18 = .ok (.iload_n 3, 1) := by decide +kernel
theorem dX12_near_19 : decode cX12_near 19 = .ok (.goto 5, 3) := by decide +kernel
theorem dX12_near_22 : decode cX12_near 22 = .ok (.lload_n 0, 1) := by decide +kernel
theorem dX12_near_23 : decode cX12_near 23 = .ok (.l2i, 1) := by decide +kernel
theorem dX12_near_24 : decode cX12_near 24 = .ok (.ireturn, 1) := by decide +kernel
theorem dX12_init_0 : decode cX12_init 0 = .ok (.aload_n 0, 1) := by decide +kernel
theorem dX12_init_1 : decode cX12_init 1 = .ok (.invokespecial 14, 3) := by decide +kernel
theorem dX12_init_4 : decode cX12_init 4 = .ok (.aload_n 0, 1) := by decide +kernel
theorem dX12_init_5 : decode cX12_init 5 = .ok (.bipush 7, 2) := by decide +kernel
theorem dX12_init_7 : decode cX12_init 7 = .ok (.newarray .int, 2) := by decide +kernel
theorem dX12_init_9 : decode cX12_init 9 = .ok (.putfield 7, 3) := by decide +kernel
theorem dX12_init_12 : decode cX12_init 12 = .ok (.aload_n 0, 1) := by decide +kernel
theorem dX12_init_13 : decode cX12_init 13 = .ok (.sipush 4998, 3) := by decide +kernel
theorem dX12_init_16 : decode cX12_init 16 = .ok (.newarray .int, 2) := by decide +kernel
theorem dX12_init_18 : decode cX12_init 18 = .ok (.putfield 20, 3) := by decide +kernel
theorem dX12_init_21 : decode cX12_init 21 = .ok (.aload_n 0, 1) := by decide +kernel
theorem dX12_init_22 : decode cX12_init 22 = .ok (.sipush 9996, 3) := by decide +kernel
theorem dX12_init_25 : decode cX12_init 25 = .ok (.newarray .int, 2) := by decide +kernel
theorem dX12_init_27 : decode cX12_init 27 = .ok (.putfield 23, 3) := by decide +kernel
theorem dX12_init_30 : decode cX12_init 30 = .ok (.aload_n 0, 1) := by decide +kernel
theorem dX12_init_31 : decode cX12_init 31 = .ok (.iconst 2, 1) := by decide +kernel
theorem dX12_init_32 : decode cX12_init 32 = .ok (.newarray .boolean, 2) := by decide +kernel
theorem dX12_init_34 : decode cX12_init 34 = .ok (.putfield 26, 3) := by decide +kernel
theorem dX12_init_37 : decode cX12_init 37 = .ok (.aload_n 0, 1) := by decide +kernel
theorem dX12_init_38 : decode cX12_init 38 = .ok (.bipush 68, 2) := by decide +kernel
theorem dX12_init_40 : decode cX12_init 40 = .ok (.newarray .byte, 2) := by decide +kernel
theorem dX12_init_42 : decode cX12_init 42 = .ok (.dup, 1) := by decide +kernel
theorem dX12_init_43 : decode cX12_init 43 = .ok (.iconst 0, 1) := by decide +kernel
theorem dX12_init_44 : decode cX12_init 44 = .ok (.bipush 103, 2) := by decide +kernel
theorem dX12_init_46 : decode cX12_init 46 = .ok (.bastore, 1) := by decide +kernel
theorem dX12_init_47 : decode cX12_init 47 = .ok (.dup, 1) := by decide +kernel
theorem dX12_init_48 : decode cX12_init 48 = .ok (.iconst 1, 1) := by decide +kernel
theorem dX12_init_49 : decode cX12_init 49 = .ok (.bipush 97, 2) := by decide +kernel
theorem dX12_init_51 : decode cX12_init 51 = .ok (.bastore, 1) := by decide +kernel
theorem dX12_init_52 : decode cX12_init 52 = .ok (.dup, 1) := by decide +kernel
theorem dX12_init_53 : decode cX12_init 53 = .ok (.iconst 2, 1) := by decide +kernel
theorem dX12_init_54 : decode cX12_init 54 = .ok (.bipush 105, 2) := by decide +kernel
theorem dX12_init_56 : decode cX12_init 56 = .ok (.bastore, 1) := by decide +kernel
theorem dX12_init_57 : decode cX12_init 57 = .ok (.dup, 1) := by decide +kernel
theorem dX12_init_58 : decode cX12_init 58 = .ok (.iconst 3, 1) := by decide +kernel
theorem dX12_init_59 : decode cX12_init 59 = .ok (.bipush 110, 2) := by decide +kernel
theorem dX12_init_61 : decode cX12_init 61 = .ok (.bastore, 1) := by decide +kernel
theorem dX12_init_62 : decode cX12_init 62 = .ok (.dup, 1) := by decide +kernel
theorem dX12_init_63 : decode cX12_init 63 = .ok (.iconst 4, 1) := by decide +kernel
theorem dX12_init_64 : decode cX12_init 64 = .ok (.bipush 115, 2) := by decide +kernel
theorem dX12_init_66 : decode cX12_init 66 = .ok (.bastore, 1) := by decide +kernel
theorem dX12_init_67 : decode cX12_init 67 = .ok (.dup, 1) := by decide +kernel
theorem dX12_init_68 : decode cX12_init 68 = .ok (.iconst 5, 1) := by decide +kernel
theorem dX12_init_69 : decode cX12_init 69 = .ok (.bipush 32, 2) := by decide +kernel
theorem dX12_init_71 : decode cX12_init 71 = .ok (.bastore, 1) := by decide +kernel
theorem dX12_init_72 : decode cX12_init 72 = .ok (.dup, 1) := by decide +kernel
theorem dX12_init_73 : decode cX12_init 73 = .ok (.bipush 6, 2) := by decide +kernel
theorem dX12_init_75 : decode cX12_init 75 = .ok (.bipush 119, 2) := by decide +kernel
theorem dX12_init_77 : decode cX12_init 77 = .ok (.bastore, 1) := by decide +kernel
theorem dX12_init_78 : decode cX12_init 78 = .ok (.dup, 1) := by decide +kernel
theorem dX12_init_79 : decode cX12_init 79 = .ok (.bipush 7, 2) := by decide +kernel
theorem dX12_init_81 : decode cX12_init 81 = .ok (.bipush 104, 2) := by decide +kernel
theorem dX12_init_83 : decode cX12_init 83 = .ok (.bastore, 1) := by decide +kernel
theorem dX12_init_84 : decode cX12_init 84 = .ok (.dup, 1) := by decide +kernel
theorem dX12_init_85 : decode cX12_init 85 = .ok (.bipush 8, 2) := by decide +kernel
theorem dX12_init_87 : decode cX12_init 87 = .ok (.bipush 105, 2) := by decide +kernel
theorem dX12_init_89 : decode cX12_init 89 = .ok (.bastore, 1) := by decide +kernel
theorem dX12_init_90 : decode cX12_init 90 = .ok (.dup, 1) := by decide +kernel
theorem dX12_init_91 : decode cX12_init 91 = .ok (.bipush 9, 2) := by decide +kernel
theorem dX12_init_93 : decode cX12_init 93 = .ok (.bipush 116, 2) := by decide +kernel
theorem dX12_init_95 : decode cX12_init 95 = .ok (.bastore, 1) := by decide +kernel
theorem dX12_init_96 : decode cX12_init 96 = .ok (.dup, 1) := by decide +kernel
theorem dX12_init_97 : decode cX12_init 97 = .ok (.bipush 10, 2) := by decide +kernel
theorem dX12_init_99 : decode cX12_init 99 = .ok (.bipush 101, 2) := by decide +kernel
theorem dX12_init_101 : decode cX12_init 101 = .ok (.bastore, 1) := by decide +kernel
theorem dX12_init_102 : decode cX12_init 102 = .ok (.dup, 1) := by decide +kernel
theorem dX12_init_103 : decode cX12_init 103 = .ok (.bipush 11, 2) := by decide +kernel
theorem dX12_init_105 : decode cX12_init 105 = .ok (.bipush 32, 2) := by decide +kernel
theorem dX12_init_107 : decode cX12_init 107 = .ok (.bastore, 1) := by decide +kernel
theorem dX12_init_108 : decode cX12_init 108 = .ok (.dup, 1) := by decide +kernel
theorem dX12_init_109 : decode cX12_init 109 = .ok (.bipush 12, 2) := by decide +kernel
theorem dX12_init_111 : decode cX12_init 111 = .ok (.bipush 105, 2) := by decide +kernel
theorem dX12_init_113 : decode cX12_init 113 = .ok (.bastore, 1) := by decide +kernel
theorem dX12_init_114 : decode cX12_init 114 = .ok (.dup, 1) := by decide +kernel
theorem dX12_init_115 : decode cX12_init 115 = .ok (.bipush 13, 2) := by decide +kernel
theorem dX12_init_117 : decode cX12_init 117 = .ok (.bipush 102, 2) := by decide +kernel
theorem dX12_init_119 : decode cX12_init 119 = .ok (.bastore, 1) := by decide +kernel
theorem dX12_init_120 : decode cX12_init 120 = .ok (.dup, 1) := by decide +kernel
theorem dX12_init_121 : decode cX12_init 121 = .ok (.bipush 14, 2) := by decide +kernel
theorem dX12_init_123 : decode cX12_init 123 = .ok (.bipush 32, 2) := by decide +kernel
theorem dX12_init_125 : decode cX12_init 125 = .ok (.bastore, 1) := by decide +kernel
theorem dX12_init_126 : decode cX12_init 126 = .ok (.dup, 1) := by decide +kernel
theorem dX12_init_127 : decode cX12_init 127 = .ok (.bipush 15, 2) := by decide +kernel
theorem dX12_init_129 : decode cX12_init 129 = .ok (.bipush 111, 2) := by decide +kernel
theorem dX12_init_131 : decode cX12_init 131 = .ok (.bastore, 1) := by decide +kernel
theorem dX12_init_132 : decode cX12_init 132 = .ok (.dup, 1) := by decide +kernel
theorem dX12_init_133 : decode cX12_init 133 = .ok (.bipush 16, 2) := by decide +kernel
theorem dX12_init_135 : decode cX12_init 135 = .ok (.bipush 114, 2) := by decide +kernel
theorem dX12_init_137 : decode cX12_init 137 = .ok (.bastore, 1) := by decide +kernel
theorem dX12_init_138 : decode cX12_init 138 = .ok (.dup, 1) := by decide +kernel
theorem dX12_init_139 : decode cX12_init 139 = .ok (.bipush 17, 2) := by decide +kernel
theorem dX12_init_141 : decode cX12_init 141 = .ok (.bipush 32, 2) := by decide +kernel
theorem dX12_init_143 : decode cX12_init 143 = .ok (.bastore, 1) := by decide +kernel
theorem dX12_init_144 : decode cX12_init 144 = .ok (.dup, 1) := by decide +kernel
theorem dX12_init_145 : decode cX12_init 145 = .ok (.bipush 18, 2) := by decide +kernel
theorem dX12_init_147 : decode cX12_init 147 = .ok (.bipush 97, 2) := by decide +kernel
theorem dX12_init_149 : decode cX12_init 149 = .ok (.bastore, 1) := by decide +kernel
theorem dX12_init_150 : decode cX12_init 150 = .ok (.dup, 1) := by decide +kernel
theorem dX12_init_151 : decode cX12_init 151 = .ok (.bipush 19, 2) := by decide +kernel
theorem dX12_init_153 : decode cX12_init 153 = .ok (.bipush 110, 2) := by decide +kernel
theorem dX12_init_155 : decode cX12_init 155 = .ok (.bastore, 1) := by decide +kernel
theorem dX12_init_156 : decode cX12_init 156 = .ok (.dup, 1) := by decide +kernel
theorem dX12_init_157 : decode cX12_init 157 = .ok (.bipush 20, 2) := by decide +kernel
theorem dX12_init_159 : decode cX12_init 159 = .ok (.bipush 100, 2) := by decide +kernel
theorem dX12_init_161 : decode cX12_init 161 = .ok (.bastore, 1) := by decide +kernel
theorem dX12_init_162 : decode cX12_init 162 = .ok (.dup, 1) := by decide +kernel
theorem dX12_init_163 : decode cX12_init 163 = .ok (.bipush 21, 2) := by decide +kernel
theorem dX12_init_165 : decode cX12_init 165 = .ok (.bipush 32, 2) := by decide +kernel
theorem dX12_init_167 : decode cX12_init 167 = .ok (.bastore, 1) := by decide +kernel
theorem dX12_init_168 : decode cX12_init 168 = .ok (.dup, 1) := by decide +kernel
theorem dX12_init_169 : decode cX12_init 169 = .ok (.bipush 22, 2) := by decide +kernel
theorem dX12_init_171 : decode cX12_init 171 = .ok (.bipush 110, 2) := by decide +kernel
theorem dX12_init_173 : decode cX12_init 173 = .ok (.bastore, 1) := by decide +kernel
theorem dX12_init_174 : decode cX12_init 174 = .ok (.dup, 1) := by decide +kernel
theorem dX12_init_175 : decode cX12_init 175 = .ok (.bipush 23, 2) := by decide +kernel
theorem dX12_init_177 : decode cX12_init 177 = .ok (.bipush 111, 2) := by decide +kernel
theorem dX12_init_179 : decode cX12_init 179 = .ok (.bastore, 1) := by decide +kernel
theorem dX12_init_180 : decode cX12_init 180 = .ok (.dup, 1) := by decide +kernel
theorem dX12_init_181 : decode cX12_init 181 = .ok (.bipush 24, 2) := by decide +kernel
theorem dX12_init_183 : decode cX12_init 183 = .ok (.bipush 116, 2) := by decide +kernel
theorem dX12_init_185 : decode cX12_init 185 = .ok (.bastore, 1) := by decide +kernel
theorem dX12_init_186 : decode cX12_init 186 = .ok (.dup, 1) := by decide +kernel
theorem dX12_init_187 : decode cX12_init 187 = .ok (.bipush 25, 2) := by decide +kernel
theorem dX12_init_189 : decode cX12_init 189 = .ok (.bipush 32, 2) := by decide +kernel
theorem dX12_init_191 : decode cX12_init 191 = .ok (.bastore, 1) := by decide +kernel
theorem dX12_init_192 : decode cX12_init 192 = .ok (.dup, 1) := by decide +kernel
theorem dX12_init_193 : decode cX12_init 193 = .ok (.bipush 26, 2) := by decide +kernel
theorem dX12_init_195 : decode cX12_init 195 = .ok (.bipush 102, 2) := by decide +kernel
theorem dX12_init_197 : decode cX12_init 197 = .ok (.bastore, 1) := by decide +kernel
theorem dX12_init_198 : decode cX12_init 198 = .ok (.dup, 1) := by decide +kernel
theorem dX12_init_199 : decode cX12_init 199 = .ok (.bipush 27, 2) := by decide +kernel
theorem dX12_init_201 : decode cX12_init 201 = .ok (.bipush 97, 2) := by decide +kernel
theorem dX12_init_203 : decode cX12_init 203 = .ok (.bastore, 1) := by decide +kernel
theorem dX12_init_204 : decode cX12_init 204 = .ok (.dup, 1) := by decide +kernel
theorem dX12_init_205 : decode cX12_init 205 = .ok (.bipush 28, 2) := by decide +kernel
theorem dX12_init_207 : decode cX12_init 207 = .ok (.bipush 108, 2) := by decide +kernel
theorem dX12_init_209 : decode cX12_init 209 = .ok (.bastore, 1) := by decide +kernel
theorem dX12_init_210 : decode cX12_init 210 = .ok (.dup, 1) := by decide +kernel
theorem dX12_init_211 : decode cX12_init 211 = .ok (.bipush 29, 2) := by decide +kernel
theorem dX12_init_213 : decode cX12_init 213 = .ok (.bipush 108, 2) := by decide +kernel
theorem dX12_init_215 : decode cX12_init 215 = .ok (.bastore, 1) := by decide +kernel
theorem dX12_init_216 : decode cX12_init 216 = .ok (.dup, 1) := by decide +kernel
theorem dX12_init_217 : decode cX12_init 217 = .ok (.bipush 30, 2) := by decide +kernel
theorem dX12_init_219 : decode cX12_init 219 = .ok (.bipush 32, 2) := by decide +kernel
theorem dX12_init_221 : decode cX12_init 221 = .ok (.bastore, 1) := by decide +kernel
theorem dX12_init_222 : decode cX12_init 222 = .ok (.dup, 1) := by decide +kernel
theorem dX12_init_223 : decode cX12_init 223 = .ok (.bipush 31, 2) := by decide +kernel
theorem dX12_init_225 : decode cX12_init 225 = .ok (.bipush 102, 2) := by decide +kernel
theorem dX12_init_227 : decode cX12_init 227 = .ok (.bastore, 1) := by decide +kernel
theorem dX12_init_228 : decode cX12_init 228 = .ok (.dup, 1) := by decide +kernel
theorem dX12_init_229 : decode cX12_init 229 = .ok (.bipush 32, 2) := by decide +kernel
theorem dX12_init_231 : decode cX12_init 231 = .ok (.bipush 108, 2) := by decide +kernel
theorem dX12_init_233 : decode cX12_init 233 = .ok (.bastore, 1) := by decide +kernel
theorem dX12_init_234 : decode cX12_init 234 = .ok (.dup, 1) := by decide +kernel
theorem dX12_init_235 : decode cX12_init 235 = .ok (.bipush 33, 2) := by decide +kernel
theorem dX12_init_237 : decode cX12_init 237 = .ok (.bipush 111, 2) := by decide +kernel
theorem dX12_init_239 : decode cX12_init 239 = .ok (.bastore, 1) := by decide +kernel
theorem dX12_init_240 : decode cX12_init 240 = .ok (.dup, 1) := by decide +kernel
theorem dX12_init_241 : decode cX12_init 241 = .ok (.bipush 34, 2) := by decide +kernel
theorem dX12_init_243 : decode cX12_init 243 = .ok (.bipush 119, 2) := by decide +kernel
theorem dX12_init_245 : decode cX12_init 245 = .ok (.bastore, 1) := by decide +kernel
theorem dX12_init_246 : decode cX12_init 246 = .ok (.dup, 1) := by decide +kernel
theorem dX12_init_247 : decode cX12_init 247 = .ok (.bipush 35, 2) := by decide +kernel
theorem dX12_init_249 : decode cX12_init 249 = .ok (.bipush 32, 2) := by decide +kernel
theorem dX12_init_251 : decode cX12_init 251 = .ok (.bastore, 1) := by decide +kernel
theorem dX12_init_252 : decode cX12_init 252 = .ok (.dup, 1) := by decide +kernel
theorem dX12_init_253 : decode cX12_init 253 = .ok (.bipush 36, 2) := by decide +kernel
theorem dX12_init_255 : decode cX12_init 255 = .ok (.bipush 109, 2) := by decide +kernel
theorem dX12_init_257 : decode cX12_init 257 = .ok (.bastore, 1) := by decide +kernel
theorem dX12_init_258 : decode cX12_init 258 = .ok (.dup, 1) := by decide +kernel
theorem dX12_init_259 : decode cX12_init 259 = .ok (.bipush 37, 2) := by decide +kernel
theorem dX12_init_261 : decode cX12_init 261 = .ok (.bipush 105, 2) := by decide +kernel
theorem dX12_init_263 : decode cX12_init 263 = .ok (.bastore, 1) := by decide +kernel
theorem dX12_init_264 : decode cX12_init 264 = .ok (.dup, 1) := by decide +kernel
theorem dX12_init_265 : decode cX12_init 265 = .ok (.bipush 38, 2) := by decide +kernel
theorem dX12_init_267 : decode cX12_init 267 = .ok (.bipush 110, 2) := by decide +kernel
theorem dX12_init_269 : decode cX12_init 269 = .ok (.bastore, 1) := by decide +kernel
theorem dX12_init_270 : decode cX12_init 270 = .ok (.dup, 1) := by decide +kernel
theorem dX12_init_271 : decode cX12_init 271 = .ok (.bipush 39, 2) := by decide +kernel
theorem dX12_init_273 : decode cX12_init 273 = .ok (.bipush 117, 2) := by decide +kernel
theorem dX12_init_275 : decode cX12_init 275 = .ok (.bastore, 1) := by decide +kernel
theorem dX12_init_276 : decode cX12_init 276 = .ok (.dup, 1) := by decide +kernel
theorem dX12_init_277 : decode cX12_init 277 = .ok (.bipush 40, 2) := by decide +kernel
theorem dX12_init_279 : decode cX12_init 279 = .ok (.bipush 116, 2) := by decide +kernel
theorem dX12_init_281 : decode cX12_init 281 = .ok (.bastore, 1) := by decide +kernel
theorem dX12_init_282 : decode cX12_init 282 = .ok (.dup, 1) := by decide +kernel
theorem dX12_init_283 : decode cX12_init 283 = .ok (.bipush 41, 2) := by decide +kernel
theorem dX12_init_285 : decode cX12_init 285 = .ok (.bipush 101, 2) := by decide +kernel
theorem dX12_init_287 : decode cX12_init 287 = .ok (.bastore, 1) := by decide +kernel
theorem dX12_init_288 : decode cX12_init 288 = .ok (.dup, 1) := by decide +kernel
theorem dX12_init_289 : decode cX12_init 289 = .ok (.bipush 42, 2) := by decide +kernel
theorem dX12_init_291 : decode cX12_init 291 = .ok (.bipush 32, 2) := by decide +kernel
theorem dX12_init_293 : decode cX12_init 293 = .ok (.bastore, 1) := by decide +kernel
theorem dX12_init_294 : decode cX12_init 294 = .ok (.dup, 1) := by decide +kernel
theorem dX12_init_295 : decode cX12_init 295 = .ok (.bipush 43, 2) := by decide +kernel
theorem dX12_init_297 : decode cX12_init 297 = .ok (.bipush 119, 2) := by decide +kernel
theorem dX12_init_299 : decode cX12_init 299 = .ok (.bastore, 1) := by decide +kernel
theorem dX12_init_300 : decode cX12_init 300 = .ok (.dup, 1) := by decide +kernel
theorem dX12_init_301 : decode cX12_init 301 = .ok (.bipush 44, 2) := by decide +kernel
theorem dX12_init_303 : decode cX12_init 303 = .ok (.bipush 105, 2) := by decide +kernel
theorem dX12_init_305 : decode cX12_init 305 = .ok (.bastore, 1) := by decide +kernel
theorem dX12_init_306 : decode cX12_init 306 = .ok (.dup, 1) := by decide +kernel
theorem dX12_init_307 : decode cX12_init 307 = .ok (.bipush 45, 2) := by decide +kernel
theorem dX12_init_309 : decode cX12_init 309 = .ok (.bipush 110, 2) := by decide +kernel
theorem dX12_init_311 : decode cX12_init 311 = .ok (.bastore, 1) := by decide +kernel
theorem dX12_init_312 : decode cX12_init 312 = .ok (.dup, 1) := by decide +kernel
theorem dX12_init_313 : decode cX12_init 313 = .ok (.bipush 46, 2) := by decide +kernel
theorem dX12_init_315 : decode cX12_init 315 = .ok (.bipush 100, 2) := by decide +kernel
theorem dX12_init_317 : decode cX12_init 317 = .ok (.bastore, 1) := by decide +kernel
theorem dX12_init_318 : decode cX12_init 318 = .ok (.dup, 1) := by decide +kernel
theorem dX12_init_319 : decode cX12_init 319 = .ok (.bipush 47, 2) := by decide +kernel
theorem dX12_init_321 : decode cX12_init 321 = .ok (.bipush 32, 2) := by decide +kernel
theorem dX12_init_323 : decode cX12_init 323 = .ok (.bastore, 1) := by decide +kernel
theorem dX12_init_324 : decode cX12_init 324 = .ok (.dup, 1) := by decide +kernel
theorem dX12_init_325 : decode cX12_init 325 = .ok (.bipush 48, 2) := by decide +kernel
theorem dX12_init_327 : decode cX12_init 327 = .ok (.bipush 103, 2) := by decide +kernel
theorem dX12_init_329 : decode cX12_init 329 = .ok (.bastore, 1) := by decide +kernel
theorem dX12_init_330 : decode cX12_init 330 = .ok (.dup, 1) := by decide +kernel
theorem dX12_init_331 : decode cX12_init 331 = .ok (.bipush 49, 2) := by decide +kernel
theorem dX12_init_333 : decode cX12_init 333 = .ok (.bipush 108, 2) := by decide +kernel
theorem dX12_init_335 : decode cX12_init 335 = .ok (.bastore, 1) := by decide +kernel
theorem dX12_init_336 : decode cX12_init 336 = .ok (.dup, 1) := by decide +kernel
theorem dX12_init_337 : decode cX12_init 337 = .ok (.bipush 50, 2) := by decide +kernel
theorem dX12_init_339 : decode cX12_init 339 = .ok (.bipush 97, 2) := by decide +kernel
theorem dX12_init_341 : decode cX12_init 341 = .ok (.bastore, 1) := by decide +kernel
theorem dX12_init_342 : decode cX12_init 342 = .ok (.dup, 1) := by decide +kernel
theorem dX12_init_343 : decode cX12_init 343 = .ok (.bipush 51, 2) := by decide +kernel
theorem dX12_init_345 : decode cX12_init 345 = .ok (.bipush 115, 2) := by decide +kernel
theorem dX12_init_347 : decode cX12_init 347 = .ok (.bastore, 1) := by decide +kernel
theorem dX12_init_348 : decode cX12_init 348 = .ok (.dup, 1) := by decide +kernel
theorem dX12_init_349 : decode cX12_init 349 = .ok (.bipush 52, 2) := by decide +kernel
theorem dX12_init_351 : decode cX12_init 351 = .ok (.bipush 115, 2) := by decide +kernel
theorem dX12_init_353 : decode cX12_init 353 = .ok (.bastore, 1) := by decide +kernel
theorem dX12_init_354 : decode cX12_init 354 = .ok (.dup, 1) := by decide +kernel
theorem dX12_init_355 : decode cX12_init 355 = .ok (.bipush 53, 2) := by decide +kernel
theorem dX12_init_357 : decode cX12_init 357 = .ok (.bipush 32, 2) := by decide +kernel
theorem dX12_init_359 : decode cX12_init 359 = .ok (.bastore, 1) := by decide +kernel
theorem dX12_init_360 : decode cX12_init 360 = .ok (.dup, 1) := by decide +kernel
theorem dX12_init_361 : decode cX12_init 361 = .ok (.bipush 54, 2) := by decide +kernel
theorem dX12_init_363 : decode cX12_init 363 = .ok (.bipush 107, 2) := by decide +kernel
theorem dX12_init_365 : decode cX12_init 365 = .ok (.bastore, 1) := by decide +kernel
theorem dX12_init_366 : decode cX12_init 366 = .ok (.dup, 1) := by decide +kernel
theorem dX12_init_367 : decode cX12_init 367 = .ok (.bipush 55, 2) := by decide +kernel
theorem dX12_init_369 : decode cX12_init 369 = .ok (.bipush 105, 2) := by decide +kernel
theorem dX12_init_371 : decode cX12_init 371 = .ok (.bastore, 1) := by decide +kernel
theorem dX12_init_372 : decode cX12_init 372 = .ok (.dup, 1) := by decide +kernel
theorem dX12_init_373 : decode cX12_init 373 = .ok (.bipush 56, 2) := by decide +kernel
theorem dX12_init_375 : decode cX12_init 375 = .ok (.bipush 110, 2) := by decide +kernel
theorem dX12_init_377 : decode cX12_init 377 = .ok (.bastore, 1) := by decide +kernel
theorem dX12_init_378 : decode cX12_init 378 = .ok (.dup, 1) := by decide +kernel
theorem dX12_init_379 : decode cX12_init 379 = .ok (.bipush 57, 2) := by decide +kernel
theorem dX12_init_381 : decode cX12_init 381 = .ok (.bipush 100, 2) := by decide +kernel
theorem dX12_init_383 : decode cX12_init 383 = .ok (.bastore, 1) := by decide +kernel
theorem dX12_init_384 : decode cX12_init 384 = .ok (.dup, 1) := by decide +kernel
theorem dX12_init_385 : decode cX12_init 385 = .ok (.bipush 58, 2) := by decide +kernel
theorem dX12_init_387 : decode cX12_init 387 = .ok (.bipush 32, 2) := by decide +kernel
theorem dX12_init_389 : decode cX12_init 389 = .ok (.bastore, 1) := by decide +kernel
theorem dX12_init_390 : decode cX12_init 390 = .ok (.dup, 1) := by decide +kernel
theorem dX12_init_391 : decode cX12_init 391 = .ok (.bipush 59, 2) := by decide +kernel
theorem dX12_init_393 : decode cX12_init 393 = .ok (.bipush 116, 2) := by decide +kernel
theorem dX12_init_395 : decode cX12_init 395 = .ok (.bastore, 1) := by decide +kernel
theorem dX12_init_396 : decode cX12_init 396 = .ok (.dup, 1) := by decide +kernel
theorem dX12_init_397 : decode cX12_init 397 = .ok (.bipush 60, 2) := by decide +kernel
theorem dX12_init_399 : decode cX12_init 399 = .ok (.bipush 117, 2) := by decide +kernel
theorem dX12_init_401 : decode cX12_init 401 = .ok (.bastore, 1) := by decide +kernel
theorem dX12_init_402 : decode cX12_init 402 = .ok (.dup, 1) := by decide +kernel
theorem dX12_init_403 : decode cX12_init 403 = .ok (.bipush 61, 2) := by decide +kernel
theorem dX12_init_405 : decode cX12_init 405 = .ok (.bipush 114, 2) := by decide +kernel
theorem dX12_init_407 : decode cX12_init 407 = .ok (.bastore, 1) := by decide +kernel
theorem dX12_init_408 : decode cX12_init 408 = .ok (.dup, 1) := by decide +kernel
theorem dX12_init_409 : decode cX12_init 409 = .ok (.bipush 62, 2) := by decide +kernel
theorem dX12_init_411 : decode cX12_init 411 = .ok (.bipush 98, 2) := by decide +kernel
theorem dX12_init_413 : decode cX12_init 413 = .ok (.bastore, 1) := by decide +kernel
theorem dX12_init_414 : decode cX12_init 414 = .ok (.dup, 1) := by decide +kernel
theorem dX12_init_415 : decode cX12_init 415 = .ok (.bipush 63, 2) := by decide +kernel
theorem dX12_init_417 : decode cX12_init 417 = .ok (.bipush 105, 2) := by decide +kernel
theorem dX12_init_419 : decode cX12_init 419 = .ok (.bastore, 1) := by decide +kernel
theorem dX12_init_420 : decode cX12_init 420 = .ok (.dup, 1) := by decide +kernel
theorem dX12_init_421 : decode cX12_init 421 = .ok (.bipush 64, 2) := by decide +kernel
theorem dX12_init_423 : decode cX12_init 423 = .ok (.bipush 110, 2) := by decide +kernel
theorem dX12_init_425 : decode cX12_init 425 = .ok (.bastore, 1) := by decide +kernel
theorem dX12_init_426 : decode cX12_init 426 = .ok (.dup, 1) := by decide +kernel
theorem dX12_init_427 : decode cX12_init 427 = .ok (.bipush 65, 2) := by decide +kernel
theorem dX12_init_429 : decode cX12_init 429 = .ok (.bipush 101, 2) := by decide +kernel
theorem dX12_init_431 : decode cX12_init 431 = .ok (.bastore, 1) := by decide +kernel
theorem dX12_init_432 : decode cX12_init 432 = .ok (.dup, 1) := by decide +kernel
theorem dX12_init_433 : decode cX12_init 433 = .ok (.bipush 66, 2) := by decide +kernel
theorem dX12_init_435 : decode cX12_init 435 = .ok (.bipush 115, 2) := by decide +kernel
theorem dX12_init_437 : decode cX12_init 437 = .ok (.bastore, 1) := by decide +kernel
theorem dX12_init_438 : decode cX12_init 438 = .ok (.dup, 1) := by decide +kernel
theorem dX12_init_439 : decode cX12_init 439 = .ok (.bipush 67, 2) := by decide +kernel
theorem dX12_init_441 : decode cX12_init 441 = .ok (.bipush 32, 2) := by decide +kernel
theorem dX12_init_443 : decode cX12_init 443 = .ok (.bastore, 1) := by decide +kernel
theorem dX12_init_444 : decode cX12_init 444 = .ok (.putfield 30, 3) := by decide +kernel
theorem dX12_init_447 : decode cX12_init 447 = .ok (.aload_n 0, 1) := by decide +kernel
theorem dX12_init_448 : decode cX12_init 448 = .ok (.sipush 400, 3) := by decide +kernel
theorem dX12_init_451 : decode cX12_init 451 = .ok (.newarray .byte, 2) := by decide +kernel
theorem dX12_init_453 : decode cX12_init 453 = .ok (.putfield 34, 3) := by decide +kernel
theorem dX12_init_456 : decode cX12_init 456 = .ok (.aload_n 0, 1) := by decide +kernel
theorem dX12_init_457 : decode cX12_init 457 = .ok (.iconst 5, 1) := by decide +kernel
theorem dX12_init_458 : decode cX12_init 458 = .ok (.newarray .int, 2) := by decide +kernel
theorem dX12_init_460 : decode cX12_init 460 = .ok (.putfield 37, 3) := by decide +kernel
theorem dX12_init_463 : decode cX12_init 463 = .ok (.aload_n 0, 1) := by decide +kernel
theorem dX12_init_464 : decode cX12_init 464 = .ok (.iconst (-1), 1) := by decide +kernel
theorem dX12_init_465 : decode cX12_init 465 = .ok (.putfield 40, 3) := by decide +kernel
theorem dX12_init_468 : decode cX12_init 468 = .ok (.aload_n 0, 1) := by decide +kernel
theorem dX12_init_469 : decode cX12_init 469 = .ok (.sipush 401, 3) := by decide +kernel
theorem dX12_init_472 : decode cX12_init 472 = .ok (.newarray .int, 2) := by decide +kernel
theorem dX12_init_474 : decode cX12_init 474 = .ok (.putfield 43, 3) := by decide +kernel
theorem dX12_init_477 : decode cX12_init 477 = .ok (.aload_n 0, 1) := by decide +kernel
theorem dX12_init_478 : decode cX12_init 478 = .ok (.sipush 401, 3) := by decide +kernel
theorem dX12_init_481 : decode cX12_init 481 = .ok (.newarray .int, 2) := by decide +kernel
theorem dX12_init_483 : decode cX12_init 483 = .ok (.putfield 46, 3) := by decide +kernel
theorem dX12_init_486 : decode cX12_init 486 = .ok (.aload_n 0, 1) := by decide +kernel
theorem dX12_init_487 : decode cX12_init 487 = .ok (.sipush 401, 3) := by decide +kernel
theorem dX12_init_490 : decode cX12_init 490 = .ok (.newarray .int, 2) := by decide +kernel
theorem dX12_init_492 : decode cX12_init 492 = .ok (.putfield 49, 3) := by decide +kernel
theorem dX12_init_495 : decode cX12_init 495 = .ok (.aload_n 0, 1) := by decide +kernel
theorem dX12_init_496 : decode cX12_init 496 = .ok (.bipush 7, 2) := by decide +kernel
theorem dX12_init_498 : decode cX12_init 498 = .ok (.newarray .int, 2) := by decide +kernel
theorem dX12_init_500 : decode cX12_init 500 = .ok (.putfield 52, 3) := by decide +kernel
theorem dX12_init_503 : decode cX12_init 503 = .ok (.aload_n 0, 1) := by decide +kernel
theorem dX12_init_504 : decode cX12_init 504 = .ok (.bipush 24, 2) := by decide +kernel
theorem dX12_init_506 : decode cX12_init 506 = .ok (.newarray .int, 2) := by decide +kernel
theorem dX12_init_508 : decode cX12_init 508 = .ok (.putfield 55, 3) := by decide +kernel
theorem dX12_init_511 : decode cX12_init 511 = .ok (.aload_n 0, 1) := by decide +kernel
theorem dX12_init_512 : decode cX12_init 512 = .ok (.sipush 1440, 3) := by decide +kernel
theorem dX12_init_515 : decode cX12_init 515 = .ok (.newarray .int, 2) := by decide +kernel
theorem dX12_init_517 : decode cX12_init 517 = .ok (.putfield 58, 3) := by decide +kernel
theorem dX12_init_520 : decode cX12_init 520 = .ok (.aload_n 0, 1) := by decide +kernel
theorem dX12_init_521 : decode cX12_init 521 = .ok (.sipush 1440, 3) := by decide +kernel
theorem dX12_init_524 : decode cX12_init 524 = .ok (.newarray .int, 2) := by decide +kernel
theorem dX12_init_526 : decode cX12_init 526 = .ok (.putfield 61, 3) := by decide +kernel
theorem dX12_init_529 : decode cX12_init 529 = .ok (.aload_n 0, 1) := by decide +kernel
theorem dX12_init_530 : decode cX12_init 530 = .ok (.iconst (-1), 1) := by decide +kernel
theorem dX12_init_531 : decode cX12_init 531 = .ok (.putfield 64, 3) := by decide +kernel
theorem dX12_init_534 : decode cX12_init 534 = .ok (.aload_n 0, 1) := by decide +kernel
theorem dX12_init_535 : decode cX12_init 535 = .ok (.sipush 8640, 3) := by decide +kernel
theorem dX12_init_538 : decode cX12_init 538 = .ok (.newarray .byte, 2) := by decide +kernel
theorem dX12_init_540 : decode cX12_init 540 = .ok (.putfield 67, 3) := by decide +kernel
theorem dX12_init_543 : decode cX12_init 543 = .ok (.aload_n 0, 1) := by decide +kernel
theorem dX12_init_544 : decode cX12_init 544 = .ok (.sipush 7200, 3) := by decide +kernel
theorem dX12_init_547 : decode cX12_init 547 = .ok (.newarray .boolean, 2) := by decide +kernel
theorem dX12_init_549 : decode cX12_init 549 = .ok (.putfield 70, 3) := by decide +kernel
theorem dX12_init_552 : decode cX12_init 552 = .ok (.aload_n 0, 1) := by decide +kernel
theorem dX12_init_553 : decode cX12_init 553 = .ok (.sipush 7200, 3) := by decide +kernel
theorem dX12_init_556 : decode cX12_init 556 = .ok (.newarray .boolean, 2) := by decide +kernel
theorem dX12_init_558 : decode cX12_init 558 = .ok (.putfield 73, 3) := by decide +kernel
theorem dX12_init_561 : decode cX12_init 561 = .ok (.aload_n 0, 1) := by decide +kernel
theorem dX12_init_562 : decode cX12_init 562 = .ok (.bipush 50, 2) := by decide +kernel
theorem dX12_init_564 : decode cX12_init 564 = .ok (.newarray .int, 2) := by decide +kernel
theorem dX12_init_566 : decode cX12_init 566 = .ok (.putfield 76, 3) := by decide +kernel
theorem dX12_init_569 : decode cX12_init 569 = .ok (.aload_n 0, 1) := by decide +kernel
theorem dX12_init_570 : decode cX12_init 570 = .ok (.bipush 50, 2) := by decide +kernel
theorem dX12_init_572 : decode cX12_init 572 = .ok (.newarray .int, 2) := by decide +kernel
theorem dX12_init_574 : decode cX12_init 574 = .ok (.putfield 79, 3) := by decide +kernel
theorem dX12_init_577 : decode cX12_init 577 = .ok (.aload_n 0, 1) := by decide +kernel
theorem dX12_init_578 : decode cX12_init 578 = .ok (.bipush 6, 2) := by decide +kernel
theorem dX12_init_580 : decode cX12_init 580 = .ok (.newarray .int, 2) := by decide +kernel
theorem dX12_init_582 : decode cX12_init 582 = .ok (.putfield 82, 3) := by decide +kernel
theorem dX12_init_585 : decode cX12_init 585 = .ok (.aload_n 0, 1) := by decide +kernel
theorem dX12_init_586 : decode cX12_init 586 = .ok (.bipush 6, 2) := by decide +kernel
theorem dX12_init_588 : decode cX12_init 588 = .ok (.newarray .int, 2) := by decide +kernel
theorem dX12_init_590 : decode cX12_init 590 = .ok (.putfield 85, 3) := by decide +kernel
theorem dX12_init_593 : decode cX12_init 593 = .ok (.aload_n 0, 1) := by decide +kernel
theorem dX12_init_594 : decode cX12_init 594 = .ok (.bipush 6, 2) := by decide +kernel
theorem dX12_init_596 : decode cX12_init 596 = .ok (.newarray .int, 2) := by decide +kernel
theorem dX12_init_598 : decode cX12_init 598 = .ok (.putfield 88, 3) := by decide +kernel
theorem dX12_init_601 : decode cX12_init 601 = .ok (.aload_n 0, 1) := by decide +kernel
theorem dX12_init_602 : decode cX12_init 602 = .ok (.bipush 6, 2) := by decide +kernel
theorem dX12_init_604 : decode cX12_init 604 = .ok (.newarray .int, 2) := by decide +kernel
theorem dX12_init_606 : decode cX12_init 606 = .ok (.putfield 91, 3) := by decide +kernel
theorem dX12_init_609 : decode cX12_init 609 = .ok (.aload_n 0, 1) := by decide +kernel
theorem dX12_init_610 : decode cX12_init 610 = .ok (.bipush 12, 2) := by decide +kernel
theorem dX12_init_612 : decode cX12_init 612 = .ok (.newarray .int, 2) := by decide +kernel
theorem dX12_init_614 : decode cX12_init 614 = .ok (.putfield 94, 3) := by decide +kernel
theorem dX12_init_617 : decode cX12_init 617 = .ok (.aload_n 0, 1) := by decide +kernel
theorem dX12_init_618 : decode cX12_init 618 = .ok (.sipush 1440, 3) := by decide +kernel
theorem dX12_init_621 : decode cX12_init 621 = .ok (.newarray .int, 2) := by decide +kernel
theorem dX12_init_623 : decode cX12_init 623 = .ok (.putfield 97, 3) := by decide +kernel
theorem dX12_init_626 : decode cX12_init 626 = .ok (.aload_n 0, 1) := by decide +kernel
theorem dX12_init_627 : decode cX12_init 627 = .ok (.sipush 1440, 3) := by decide +kernel
theorem dX12_init_630 : decode cX12_init 630 = .ok (.newarray .int, 2) := by decide +kernel
theorem dX12_init_632 : decode cX12_init 632 = .ok (.putfield 100, 3) := by decide +kernel
theorem dX12_init_635 : decode cX12_init 635 = .ok (.aload_n 0, 1) := by decide +kernel
theorem dX12_init_636 : decode cX12_init 636 = .ok (.bipush 52, 2) := by decide +kernel
theorem dX12_init_638 : decode cX12_init 638 = .ok (.newarray .long, 2) := by decide +kernel
theorem dX12_init_640 : decode cX12_init 640 = .ok (.putfield 103, 3) := by decide +kernel
theorem dX12_init_643 : decode cX12_init 643 = .ok (.aload_n 0, 1) := by decide +kernel
theorem dX12_init_644 : decode cX12_init 644 = .ok (.bipush 52, 2) := by decide +kernel
theorem dX12_init_646 : decode cX12_init 646 = .ok (.newarray .long, 2) := by decide +kernel
theorem dX12_init_648 : decode cX12_init 648 = .ok (.putfield 107, 3) := by decide +kernel
theorem dX12_init_651 : decode cX12_init 651 = .ok (.aload_n 0, 1) := by decide +kernel
theorem dX12_init_652 : decode cX12_init 652 = .ok (.sipush 1440, 3) := by decide +kernel
theorem dX12_init_655 : decode cX12_init 655 = .ok (.newarray .int, 2) := by decide +kernel
theorem dX12_init_657 : decode cX12_init 657 = .ok (.putfield 110, 3) := by decide +kernel
theorem dX12_init_660 : decode cX12_init 660 = .ok (.iconst 0, 1) := by decide +kernel
theorem dX12_init_661 : decode cX12_init 661 = .ok (.istore_n 1, 1) := by decide +kernel
theorem dX12_init_662 : decode cX12_init 662 = .ok (.iload_n 1, 1) := by decide +kernel
theorem dX12_init_663 : decode cX12_init 663 = .ok (.bipush 8, 2) := by decide +kernel
theorem dX12_init_665 : decode cX12_init 665 = .ok (.if_icmp .ge 25, 3) := by decide +kernel
theorem dX12_init_668 : decode cX12_init 668 = .ok (.aload_n 0, 1) := by decide +kernel
theorem dX12_init_669 : decode cX12_init 669 = .ok (.getfield 20, 3) := by decide +kernel
theorem dX12_init_672 : decode cX12_init 672 = .ok (.bipush 6, 2) := by decide +kernel
theorem dX12_init_674 : decode cX12_init 674 = .ok (.iconst 3, 1) := by decide +kernel
theorem dX12_init_675 : decode cX12_init 675 = .ok (.iload_n 1, 1) := by decide +kernel
theorem dX12_init_676 : decode cX12_init 676 = .ok (.imul, 1) := by decide +kernel
theorem dX12_init_677 : decode cX12_init 677 = .ok (.iadd, 1) := by decide +kernel
theorem dX12_init_678 : decode cX12_init 678 = .ok (.iconst 1, 1) := by decide +kernel
theorem dX12_init_679 : decode cX12_init 679 = .ok (.iadd, 1) := by decide +kernel
theorem dX12_init_680 : decode cX12_init 680 = .ok (.sipush 720, 3) := by decide +kernel
theorem dX12_init_683 : decode cX12_init 683 = .ok (.iastore, 1) := by decide +kernel
theorem dX12_init_684 : decode cX12_init 684 = .ok (.iinc 1 1, 3) := by decide +kernel
theorem dX12_init_687 : decode cX12_init 687 = .ok (.goto (-25), 3) := by decide +kernel
theorem dX12_init_690 : decode cX12_init 690 = .ok (.aload_n 0, 1) := by decide +kernel
theorem dX12_init_691 : decode cX12_init 691 = .ok (.getfield 20, 3) := by decide +kernel
theorem dX12_init_694 : decode cX12_init 694 = .ok (.bipush 30, 2) := by decide +kernel
theorem dX12_init_696 : decode cX12_init 696 = .ok (.bipush 8, 2) := by decide +kernel
theorem dX12_init_698 : decode cX12_init 698 = .ok (.iastore, 1) := by decide +kernel
theorem dX12_init_699 : decode cX12_init 699 = .ok (.aload_n 0, 1) := by decide +kernel
theorem dX12_init_700 : decode cX12_init 700 = .ok (.getfield 20, 3) := by decide +kernel
theorem dX12_init_703 : decode cX12_init 703 = .ok (.bipush 31, 2) := by decide +kernel
theorem dX12_init_705 : decode cX12_init 705 = .ok (.bipush 10, 2) := by decide +kernel
theorem dX12_init_707 : decode cX12_init 707 = .ok (.iastore, 1) := by decide +kernel
theorem dX12_init_708 : decode cX12_init 708 = .ok (.aload_n 0, 1) := by decide +kernel
theorem dX12_init_709 : decode cX12_init 709 = .ok (.getfield 20, 3) := by decide +kernel
theorem dX12_init_712 : decode cX12_init 712 = .ok (.bipush 32, 2) := by decide +kernel
theorem dX12_init_714 : decode cX12_init 714 = .ok (.bipush 40, 2) := by decide +kernel
theorem dX12_init_716 : decode cX12_init 716 = .ok (.iastore, 1) := by decide +kernel
theorem dX12_init_717 : decode cX12_init 717 = .ok (.aload_n 0, 1) := by decide +kernel
theorem dX12_init_718 : decode cX12_init 718 = .ok (.getfield 20, 3) := by decide +kernel
theorem dX12_init_721 : decode cX12_init 721 = .ok (.bipush 33, 2) := by decide +kernel
theorem dX12_init_723 : decode cX12_init 723 = .ok (.bipush 50, 2) := by decide +kernel
theorem dX12_init_725 : decode cX12_init 725 = .ok (.iastore, 1) := by decide +kernel
theorem dX12_init_726 : decode cX12_init 726 = .ok (.aload_n 0, 1) := by decide +kernel
theorem dX12_init_727 : decode cX12_init 727 = .ok (.getfield 20, 3) := by decide +kernel
theorem dX12_init_730 : decode cX12_init 730 = .ok (.bipush 35, 2) := by decide +kernel
theorem dX12_init_732 : decode cX12_init 732 = .ok (.bipush 20, 2) := by decide +kernel
theorem dX12_init_734 : decode cX12_init 734 = .ok (.iastore, 1) := by decide +kernel
theorem dX12_init_735 : decode cX12_init 735 = .ok (.aload_n 0, 1) := by decide +kernel
theorem dX12_init_736 : decode cX12_init 736 = .ok (.getfield 20, 3) := by decide +kernel
theorem dX12_init_739 : decode cX12_init 739 = .ok (.bipush 36, 2) := by decide +kernel
theorem dX12_init_741 : decode cX12_init 741 = .ok (.bipush 100, 2) := by decide +kernel
theorem dX12_init_743 : decode cX12_init 743 = .ok (.iastore, 1) := by decide +kernel
theorem dX12_init_744 : decode cX12_init 744 = .ok (.aload_n 0, 1) := by decide +kernel
theorem dX12_init_745 : decode cX12_init 745 = .ok (.getfield 20, 3) := by decide +kernel
theorem dX12_init_748 : decode cX12_init 748 = .ok (.bipush 37, 2) := by decide +kernel
theorem dX12_init_750 : decode cX12_init 750 = .ok (.iconst 2, 1) := by decide +kernel
theorem dX12_init_751 : decode cX12_init 751 = .ok (.iastore, 1) := by decide +kernel
theorem dX12_init_752 : decode cX12_init 752 = .ok (.aload_n 0, 1) := by decide +kernel
theorem dX12_init_753 : decode cX12_init 753 = .ok (.getfield 20, 3) := by decide +kernel
theorem dX12_init_756 : decode cX12_init 756 = .ok (.bipush 38, 2) := by decide +kernel
theorem dX12_init_758 : decode cX12_init 758 = .ok (.iconst 5, 1) := by decide +kernel
theorem dX12_init_759 : decode cX12_init 759 = .ok (.iastore, 1) := by decide +kernel
theorem dX12_init_760 : decode cX12_init 760 = .ok (.aload_n 0, 1) := by decide +kernel
theorem dX12_init_761 : decode cX12_init 761 = .ok (.getfield 20, 3) := by decide +kernel
theorem dX12_init_764 : decode cX12_init 764 = .ok (.bipush 40, 2) := by decide +kernel
theorem dX12_init_766 : decode cX12_init 766 = .ok (.sipush 1013, 3) := by decide +kernel
theorem dX12_init_769 : decode cX12_init 769 = .ok (.iastore, 1) := by decide +kernel
theorem dX12_init_770 : decode cX12_init 770 = .ok (.iconst 0, 1) := by decide +kernel
theorem dX12_init_771 : decode cX12_init 771 = .ok (.istore_n 1, 1) := by decide +kernel
theorem dX12_init_772 : decode cX12_init 772 = .ok (.iload_n 1, 1) := by decide +kernel
theorem dX12_init_773 : decode cX12_init 773 = .ok (.bipush 50, 2) := by decide +kernel
theorem dX12_init_775 : decode cX12_init 775 = .ok (.if_icmp .ge 19, 3) := by decide +kernel
theorem dX12_init_778 : decode cX12_init 778 = .ok (.aload_n 0, 1) := by decide +kernel
theorem dX12_init_779 : decode cX12_init 779 = .ok (.getfield 20, 3) := by decide +kernel
theorem dX12_init_782 : decode cX12_init 782 = .ok (.bipush 41, 2) := by decide +kernel
theorem dX12_init_784 : decode cX12_init 784 = .ok (.iload_n 1, 1) := by decide +kernel
theorem dX12_init_785 : decode cX12_init 785 = .ok (.iadd, 1) := by decide +kernel
theorem dX12_init_786 : decode cX12_init 786 = .ok (.iconst 1, 1) := by decide +kernel
theorem dX12_init_787 : decode cX12_init 787 = .ok (.iastore, 1) := by decide +kernel
theorem dX12_init_788 : decode cX12_init 788 = .ok (.iinc 1 1, 3) := by decide +kernel
theorem dX12_init_791 : decode cX12_init 791 = .ok (.goto (-19), 3) := by decide +kernel
theorem dX12_init_794 : decode cX12_init 794 = .ok (.aload_n 0, 1) := by decide +kernel
theorem dX12_init_795 : decode cX12_init 795 = .ok (.getfield 20, 3) := by decide +kernel
theorem dX12_init_798 : decode cX12_init 798 = .ok (.sipush 190, 3) := by decide +kernel
theorem dX12_init_801 : decode cX12_init 801 = .ok (.iconst (-1), 1) := by decide +kernel
theorem dX12_init_802 : decode cX12_init 802 = .ok (.iastore, 1) := by decide +kernel
theorem dX12_init_803 : decode cX12_init 803 = .ok (.return_, 1) := by decide +kernel
theorem dX12_image_0 : decode cX12_image 0 = .ok (.iload_n 1, 1) := by decide +kernel
theorem dX12_image_1 : decode cX12_image 1 = .ok (.iconst 0, 1) := by decide +kernel
theorem dX12_image_2 : decode cX12_image 2 = .ok (.iconst 1, 1) := by decide +kernel
theorem dX12_image_3 : decode cX12_image 3 = .ok (.invokestatic 113, 3) := by decide +kernel
theorem dX12_image_6 : decode cX12_image 6 = .ok (.ifCond .ne 9, 3) := by decide +kernel
theorem dX12_image_9 : decode cX12_image 9 = .ok (.aload_n 0, 1) := by decide +kernel
theorem dX12_image_10 : decode cX12_image 10 = .ok (.iconst (-1), 1) := by decide +kernel
theorem dX12_image_11 : decode cX12_image 11 = .ok (.invokevirtual 117, 3) := by decide +kernel
theorem dX12_image_14 : decode cX12_image 14 = .ok (.ireturn, 1) := by decide +kernel
theorem dX12_image_15 : decode cX12_image 15 = .ok (.iconst 0, 1) := by decide +kernel
theorem dX12_image_16 : decode cX12_image 16 = .ok (.istore_n 2, 1) := by decide +kernel
theorem dX12_image_17 : decode cX12_image 17 = .ok (.iload_n 2, 1) := by decide +kernel
theorem dX12_image_18 : decode cX12_image 18 = .ok (.sipush 4998, 3) := by decide +kernel
theorem dX12_image_21 : decode cX12_image 21 = .ok (.if_icmp .ge 27, 3) := by decide +kernel
theorem dX12_image_24 : decode cX12_image 24 = .ok (.aload_n 0, 1) := by decide +kernel
theorem dX12_image_25 : decode cX12_image 25 = .ok (.getfield 23, 3) := by decide +kernel
theorem dX12_image_28 : decode cX12_image 28 = .ok (.sipush 4998, 3) := by decide +kernel
theorem dX12_image_31 : decode cX12_image 31 = .ok (.iload_n 1, 1) := by decide +kernel
theorem dX12_image_32 : decode cX12_image 32 = .ok (.imul, 1) := by decide +kernel
theorem dX12_image_33 : decode cX12_image 33 = .ok (.iload_n 2, 1) := by decide +kernel
theorem dX12_image_34 : decode cX12_image 34 = .ok (.iadd, 1) := by decide +kernel
theorem dX12_image_35 : decode cX12_image 35 = .ok (.aload_n 0, 1) := by decide +kernel
theorem dX12_image_36 : decode cX12_image 36 = .ok (.getfield 20, 3) := by decide +kernel
theorem dX12_image_39 : decode cX12_image 39 = .ok (.iload_n 2, 1) := by decide +kernel
theorem dX12_image_40 : decode cX12_image 40 = .ok (.iaload, 1) := by decide +kernel
theorem dX12_image_41 : decode cX12_image 41 = .ok (.iastore, 1) := by decide +kernel
theorem dX12_image_42 : decode cX12_image 42 = .ok (.iinc 2 1, 3) := by decide +kernel
theorem dX12_image_45 : decode cX12_image 45 = .ok (.goto (-28), 3) := by decide +kernel
theorem dX12_image_48 : decode cX12_image 48 = .ok (.aload_n 0, 1) := by decide +kernel
theorem dX12_image_49 : decode cX12_image 49 = .ok (.getfield 26, 3) := by decide +kernel
theorem dX12_image_52 : decode cX12_image 52 = .ok (.iload_n 1, 1) := by decide +kernel
theorem dX12_image_53 : decode cX12_image 53 = .ok (.iconst 1, 1) := by decide +kernel
theorem dX12_image_54 : decode cX12_image 54 = .ok (.bastore, 1) := by decide +kernel
theorem dX12_image_55 : decode cX12_image 55 = .ok (.aload_n 0, 1) := by decide +kernel
theorem dX12_image_56 : decode cX12_image 56 = .ok (.iconst 0, 1) := by decide +kernel
theorem dX12_image_57 : decode cX12_image 57 = .ok (.invokevirtual 121, 3) := by decide +kernel
theorem dX12_image_60 : decode cX12_image 60 = .ok (.ireturn, 1) := by decide +kernel
theorem dX12_back_0 : decode cX12_back 0 = .ok (.iload_n 1, 1) := by decide +kernel
theorem dX12_back_1 : decode cX12_back 1 = .ok (.iconst 0, 1) := by decide +kernel
theorem dX12_back_2 : decode cX12_back 2 = .ok (.iconst 1, 1) := by decide +kernel
theorem dX12_back_3 : decode cX12_back 3 = .ok (.invokestatic 113, 3) := by decide +kernel
theorem dX12_back_6 : decode cX12_back 6 = .ok (.ifCond .ne 9, 3) := by decide +kernel
theorem dX12_back_9 : decode cX12_back 9 = .ok (.aload_n 0, 1) := by decide +kernel
theorem dX12_back_10 : decode cX12_back 10 = .ok (.iconst (-1), 1) := by decide +kernel
theorem dX12_back_11 : decode cX12_back 11 = .ok (.invokevirtual 117, 3) := by decide +kernel
theorem dX12_back_14 : decode cX12_back 14 = .ok (.ireturn, 1) := by decide +kernel
theorem dX12_back_15 : decode cX12_back 15 = .ok (.aload_n 0, 1) := by decide +kernel
theorem dX12_back_16 : decode cX12_back 16 = .ok (.getfield 26, 3) := by decide +kernel
theorem dX12_back_19 : decode cX12_back 19 = .ok (.iload_n 1, 1) := by decide +kernel
theorem dX12_back_20 : decode cX12_back 20 = .ok (.baload, 1) := by decide +kernel
theorem dX12_back_21 : decode cX12_back 21 = .ok (.ifCond .ne 10, 3) := by decide +kernel
theorem dX12_back_24 : decode cX12_back 24 = .ok (.aload_n 0, 1) := by decide +kernel
theorem dX12_back_25 : decode cX12_back 25 = .ok (.bipush (-2), 2) := by decide +kernel
theorem dX12_back_27 : decode cX12_back 27 = .ok (.invokevirtual 117, 3) := by decide +kernel
theorem dX12_back_30 : decode cX12_back 30 = .ok (.ireturn, 1) := by decide +kernel
theorem dX12_back_31 : decode cX12_back 31 = .ok (.iconst 0, 1) := by decide +kernel
theorem dX12_back_32 : decode cX12_back 32 = .ok (.istore_n 2, 1) := by decide +kernel
theorem dX12_back_33 : decode cX12_back 33 = .ok (.iload_n 2, 1) := by decide +kernel
theorem dX12_back_34 : decode cX12_back 34 = .ok (.sipush 4998, 3) := by decide +kernel
theorem dX12_back_37 : decode cX12_back 37 = .ok (.if_icmp .ge 27, 3) := by decide +kernel
theorem dX12_back_40 : decode cX12_back 40 = .ok (.aload_n 0, 1) := by decide +kernel
theorem dX12_back_41 : decode cX12_back 41 = .ok (.getfield 20, 3) := by decide +kernel
theorem dX12_back_44 : decode cX12_back 44 = .ok (.iload_n 2, 1) := by decide +kernel
theorem dX12_back_45 : decode cX12_back 45 = .ok (.aload_n 0, 1) := by decide +kernel
theorem dX12_back_46 : decode cX12_back 46 = .ok (.getfield 23, 3) := by decide +kernel
theorem dX12_back_49 : decode cX12_back 49 = .ok (.sipush 4998, 3) := by decide +kernel
theorem dX12_back_52 : decode cX12_back 52 = .ok (.iload_n 1, 1) := by decide +kernel
theorem dX12_back_53 : decode cX12_back 53 = .ok (.imul, 1) := by decide +kernel
theorem dX12_back_54 : decode cX12_back 54 = .ok (.iload_n 2, 1) := by decide +kernel
theorem dX12_back_55 : decode cX12_back 55 = .ok (.iadd, 1) := by decide +kernel
theorem dX12_back_56 : decode cX12_back 56 = .ok (.iaload, 1) := by decide +kernel
theorem dX12_back_57 : decode cX12_back 57 = .ok (.iastore, 1) := by decide +kernel
theorem dX12_back_58 : decode cX12_back 58 = .ok (.iinc 2 1, 3) := by decide +kernel
theorem dX12_back_61 : decode cX12_back 61 = .ok (.goto (-28), 3) := by decide +kernel
theorem dX12_back_64 : decode cX12_back 64 = .ok (.aload_n 0, 1) := by decide +kernel
theorem dX12_back_65 : decode cX12_back 65 = .ok (.iconst 0, 1) := by decide +kernel
theorem dX12_back_66 : decode cX12_back 66 = .ok (.invokevirtual 121, 3) := by decide +kernel
theorem dX12_back_69 : decode cX12_back 69 = .ok (.ireturn, 1) := by decide +kernel
theorem dX12_term_0 : decode cX12_term 0 = .ok (.aload_n 0, 1) := by decide +kernel
theorem dX12_term_1 : decode cX12_term 1 = .ok (.getfield 20, 3) := by decide +kernel
theorem dX12_term_4 : decode cX12_term 4 = .ok (.bipush 30, 2) := by decide +kernel
theorem dX12_term_6 : decode cX12_term 6 = .ok (.iload_n 1, 1) := by decide +kernel
theorem dX12_term_7 : decode cX12_term 7 = .ok (.iadd, 1) := by decide +kernel
theorem dX12_term_8 : decode cX12_term 8 = .ok (.iaload, 1) := by decide +kernel
theorem dX12_term_9 : decode cX12_term 9 = .ok (.ireturn, 1) := by decide +kernel
theorem dX12_isEnd_0 : decode cX12_isEnd 0 = .ok (.iload_n 0, 1) := by decide +kernel
theorem dX12_isEnd_1 : decode cX12_isEnd 1 = .ok (.iconst 0, 1) := by decide +kernel
theorem dX12_isEnd_2 : decode cX12_isEnd 2 = .ok (.iconst 1, 1) := by decide +kernel
theorem dX12_isEnd_3 : decode cX12_isEnd 3 = .ok (.invokestatic 113, 3) := by decide +kernel
theorem dX12_isEnd_6 : decode cX12_isEnd 6 = .ok (.ireturn, 1) := by decide +kernel
theorem dX12_isMoon_0 : decode cX12_isMoon 0 = .ok (.iload_n 0, 1) := by decide +kernel
theorem dX12_isMoon_1 : decode cX12_isMoon 1 = .ok (.iconst 0, 1) := by decide +kernel
theorem dX12_isMoon_2 : decode cX12_isMoon 2 = .ok (.iconst 3, 1) := by decide +kernel
theorem dX12_isMoon_3 : decode cX12_isMoon 3 = .ok (.invokestatic 113, 3) := by decide +kernel
theorem dX12_isMoon_6 : decode cX12_isMoon 6 = .ok (.ireturn, 1) := by decide +kernel
theorem dX12_isMinute_0 : decode cX12_isMinute 0 = .ok (.iload_n 0, 1) := by decide +kernel
theorem dX12_isMinute_1 : decode cX12_isMinute 1 = .ok (.iconst 0, 1) := by decide +kernel
theorem dX12_isMinute_2 : decode cX12_isMinute 2 = .ok (.sipush 1439, 3) := by decide +kernel
theorem dX12_isMinute_5 : decode cX12_isMinute 5 = .ok (.invokestatic 113, 3) := by decide +kernel
theorem dX12_isMinute_8 : decode cX12_isMinute 8 = .ok (.ireturn, 1) := by decide +kernel
theorem dX12_isStep_0 : decode cX12_isStep 0 = .ok (.iload_n 0, 1) := by decide +kernel
theorem dX12_isStep_1 : decode cX12_isStep 1 = .ok (.iconst 0, 1) := by decide +kernel
theorem dX12_isStep_2 : decode cX12_isStep 2 = .ok (.sipush 143, 3) := by decide +kernel
theorem dX12_isStep_5 : decode cX12_isStep 5 = .ok (.invokestatic 113, 3) := by decide +kernel
theorem dX12_isStep_8 : decode cX12_isStep 8 = .ok (.ireturn, 1) := by decide +kernel
theorem dX12_isCell_0 : decode cX12_isCell 0 = .ok (.iload_n 0, 1) := by decide +kernel
theorem dX12_isCell_1 : decode cX12_isCell 1 = .ok (.iconst 0, 1) := by decide +kernel
theorem dX12_isCell_2 : decode cX12_isCell 2 = .ok (.bipush 49, 2) := by decide +kernel
theorem dX12_isCell_4 : decode cX12_isCell 4 = .ok (.invokestatic 113, 3) := by decide +kernel
theorem dX12_isCell_7 : decode cX12_isCell 7 = .ok (.ireturn, 1) := by decide +kernel
theorem dX12_replaces_0 : decode cX12_replaces 0 = .ok (.aload_n 0, 1) := by decide +kernel
theorem dX12_replaces_1 : decode cX12_replaces 1 = .ok (.getfield 20, 3) := by decide +kernel
theorem dX12_replaces_4 : decode cX12_replaces 4 = .ok (.iload_n 1, 1) := by decide +kernel
theorem dX12_replaces_5 : decode cX12_replaces 5 = .ok (.iaload, 1) := by decide +kernel
theorem dX12_replaces_6 : decode cX12_replaces 6 = .ok (.istore_n 3, 1) := by decide +kernel
theorem dX12_replaces_7 : decode cX12_replaces 7 = .ok (.aload_n 0, 1) := by decide +kernel
theorem dX12_replaces_8 : decode cX12_replaces 8 = .ok (.getfield 20, 3) := by decide +kernel
theorem dX12_replaces_11 : decode cX12_replaces 11 = .ok (.iload_n 1, 1) := by decide +kernel
theorem dX12_replaces_12 : decode cX12_replaces 12 = .ok (.iload_n 2, 1) := by decide +kernel
theorem dX12_replaces_13 : decode cX12_replaces 13 = .ok (.iastore, 1) := by decide +kernel
theorem dX12_replaces_14 : decode cX12_replaces 14 = .ok (.aload_n 0, 1) := by decide +kernel
theorem dX12_replaces_15 : decode cX12_replaces 15 = .ok (.iload_n 3, 1) := by decide +kernel
theorem dX12_replaces_16 : decode cX12_replaces 16 = .ok (.invokevirtual 121, 3) := by decide +kernel
theorem dX12_replaces_19 : decode cX12_replaces 19 = .ok (.ireturn, 1) := by decide +kernel
theorem dX12_sea_0 : decode cX12_sea 0 = .ok (.iload_n 1, 1) := by decide +kernel
theorem dX12_sea_1 : decode cX12_sea 1 = .ok (.invokestatic 124, 3) := by decide +kernel
theorem dX12_sea_4 : decode cX12_sea 4 = .ok (.ifCond .eq 59, 3) := by decide +kernel
theorem dX12_sea_7 : decode cX12_sea 7 = .ok (.iload_n 2, 1) := by decide +kernel
theorem dX12_sea_8 : decode cX12_sea 8 = .ok (.iconst 0, 1) := by decide +kernel
theorem dX12_sea_9 : decode cX12_sea 9 = .ok (.iconst 2, 1) := by decide +kernel
theorem dX12_sea_10 : decode cX12_sea 10 = .ok (.invokestatic 113, 3) := by decide +kernel
theorem dX12_sea_13 : decode cX12_sea 13 = .ok (.ifCond .eq 50, 3) := by decide +kernel
theorem dX12_sea_16 : decode cX12_sea 16 = .ok (.iload_n 2, 1) := by decide +kernel
theorem dX12_sea_17 : decode cX12_sea 17 = .ok (.ifCond .ne 19, 3) := by decide +kernel
theorem dX12_sea_20 : decode cX12_sea 20 = .ok (.iload_n 3, 1) := by decide +kernel
theorem dX12_sea_21 : decode cX12_sea 21 = .ok (.sipush (-500), 3) := by decide +kernel
theorem dX12_sea_24 : decode cX12_sea 24 = .ok (.sipush 500, 3) := by decide +kernel
theorem dX12_sea_27 : decode cX12_sea 27 = .ok (.invokestatic 113, 3) := by decide +kernel
theorem dX12_sea_30 : decode cX12_sea 30 = .ok (.ifCond .eq 33, 3) := by decide +kernel
theorem dX12_sea_33 : decode cX12_sea 33 = .ok (.goto 36, 3) := by decide +kernel
theorem dX12_sea_36 : decode cX12_sea 36 = .ok (.iload_n 2, 1) := by decide +kernel
theorem dX12_sea_37 : decode cX12_sea 37 = .ok (.iconst 1, 1) := by decide +kernel
theorem dX12_sea_38 : decode cX12_sea 38 = .ok (.if_icmp .ne 15, 3) := by decide +kernel
theorem dX12_sea_41 : decode cX12_sea 41 = .ok (.iload_n 3, 1) := by decide +kernel
theorem dX12_sea_42 : decode cX12_sea 42 = .ok (.iconst 0, 1) := by decide +kernel
theorem dX12_sea_43 : decode cX12_sea 43 = .ok (.iconst 3, 1) := by decide +kernel
theorem dX12_sea_44 : decode cX12_sea 44 = .ok (.invokestatic 113, 3) := by decide +kernel
theorem dX12_sea_47 : decode cX12_sea 47 = .ok (.ifCond .eq 16, 3) := by decide +kernel
theorem dX12_sea_50 : decode cX12_sea 50 = .ok (.goto 19, 3) := by decide +kernel
theorem dX12_sea_53 : decode cX12_sea 53 = .ok (.iload_n 3, 1) := by decide +kernel
theorem dX12_sea_54 : decode cX12_sea 54 = .ok (.bipush (-5), 2) := by decide +kernel
theorem dX12_sea_56 : decode cX12_sea 56 = .ok (.iconst 5, 1) := by decide +kernel
theorem dX12_sea_57 : decode cX12_sea 57 = .ok (.invokestatic 113, 3) := by decide +kernel
theorem dX12_sea_60 : decode cX12_sea 60 = .ok (.ifCond .ne 9, 3) := by decide +kernel
theorem dX12_sea_63 : decode cX12_sea 63 = .ok (.aload_n 0, 1) := by decide +kernel
theorem dX12_sea_64 : decode cX12_sea 64 = .ok (.iconst (-1), 1) := by decide +kernel
theorem dX12_sea_65 : decode cX12_sea 65 = .ok (.invokevirtual 117, 3) := by decide +kernel
theorem dX12_sea_68 : decode cX12_sea 68 = .ok (.ireturn, 1) := by decide +kernel
theorem dX12_sea_69 : decode cX12_sea 69 = .ok (.aload_n 0, 1) := by decide +kernel
theorem dX12_sea_70 : decode cX12_sea 70 = .ok (.iconst 0, 1) := by decide +kernel
theorem dX12_sea_71 : decode cX12_sea 71 = .ok (.iconst 3, 1) := by decide +kernel
theorem dX12_sea_72 : decode cX12_sea 72 = .ok (.iload_n 1, 1) := by decide +kernel
theorem dX12_sea_73 : decode cX12_sea 73 = .ok (.imul, 1) := by decide +kernel
theorem dX12_sea_74 : decode cX12_sea 74 = .ok (.iadd, 1) := by decide +kernel
theorem dX12_sea_75 : decode cX12_sea 75 = .ok (.iload_n 2, 1) := by decide +kernel
theorem dX12_sea_76 : decode cX12_sea 76 = .ok (.iadd, 1) := by decide +kernel
theorem dX12_sea_77 : decode cX12_sea 77 = .ok (.iload_n 3, 1) := by decide +kernel
theorem dX12_sea_78 : decode cX12_sea 78 = .ok (.invokevirtual 128, 3) := by decide +kernel
theorem dX12_sea_81 : decode cX12_sea 81 = .ok (.ireturn, 1) := by decide +kernel
theorem dX12_moonOf_0 : decode cX12_moonOf 0 = .ok (.aload_n 0, 1) := by decide +kernel
theorem dX12_moonOf_1 : decode cX12_moonOf 1 = .ok (.getfield 20, 3) := by decide +kernel
theorem dX12_moonOf_4 : decode cX12_moonOf 4 = .ok (.bipush 6, 2) := by decide +kernel
theorem dX12_moonOf_6 : decode cX12_moonOf 6 = .ok (.bipush 12, 2) := by decide +kernel
theorem dX12_moonOf_8 : decode cX12_moonOf 8 = .ok (.iload_n 1, 1) := by decide +kernel
theorem dX12_moonOf_9 : decode cX12_moonOf 9 = .ok (.imul, 1) := by decide +kernel
theorem dX12_moonOf_10 : decode cX12_moonOf 10 = .ok (.iadd, 1) := by decide +kernel
theorem dX12_moonOf_11 : decode cX12_moonOf 11 = .ok (.iconst 3, 1) := by decide +kernel
theorem dX12_moonOf_12 : decode cX12_moonOf 12 = .ok (.iload_n 2, 1) := by decide +kernel
theorem dX12_moonOf_13 : decode cX12_moonOf 13 = .ok (.imul, 1) := by decide +kernel
theorem dX12_moonOf_14 : decode cX12_moonOf 14 = .ok (.iadd, 1) := by decide +kernel
theorem dX12_moonOf_15 : decode cX12_moonOf 15 = .ok (.iload_n 3, 1) := by decide +kernel
theorem dX12_moonOf_16 : decode cX12_moonOf 16 = .ok (.iadd, 1) := by decide +kernel
theorem dX12_moonOf_17 : decode cX12_moonOf 17 = .ok (.iaload, 1) := by decide +kernel
theorem dX12_moonOf_18 : decode cX12_moonOf 18 = .ok (.ireturn, 1) := by decide +kernel
theorem dX12_moon_0 : decode cX12_moon 0 = .ok (.iload_n 1, 1) := by decide +kernel
theorem dX12_moon_1 : decode cX12_moon 1 = .ok (.invokestatic 124, 3) := by decide +kernel
theorem dX12_moon_4 : decode cX12_moon 4 = .ok (.ifCond .eq 71, 3) := by decide +kernel
theorem dX12_moon_7 : decode cX12_moon 7 = .ok (.iload_n 2, 1) := by decide +kernel
theorem dX12_moon_8 : decode cX12_moon 8 = .ok (.invokestatic 132, 3) := by decide +kernel
theorem dX12_moon_11 : decode cX12_moon 11 = .ok (.ifCond .eq 64, 3) := by decide +kernel
theorem dX12_moon_14 : decode cX12_moon 14 = .ok (.iload_n 3, 1) := by decide +kernel
theorem dX12_moon_15 : decode cX12_moon 15 = .ok (.iconst 0, 1) := by decide +kernel
theorem dX12_moon_16 : decode cX12_moon 16 = .ok (.iconst 2, 1) := by decide +kernel
theorem dX12_moon_17 : decode cX12_moon 17 = .ok (.invokestatic 113, 3) := by decide +kernel
theorem dX12_moon_20 : decode cX12_moon 20 = .ok (.ifCond .eq 55, 3) := by decide +kernel
theorem dX12_moon_23 : decode cX12_moon 23 = .ok (.iload_n 3, 1) := by decide +kernel
theorem dX12_moon_24 : decode cX12_moon 24 = .ok (.ifCond .ne 18, 3) := by decide +kernel
theorem dX12_moon_27 : decode cX12_moon 27 = .ok (.iload 4, 2) := by decide +kernel
theorem dX12_moon_29 : decode cX12_moon 29 = .ok (.iconst 0, 1) := by decide +kernel
theorem dX12_moon_30 : decode cX12_moon 30 = .ok (.sipush 500, 3) := by decide +kernel
theorem dX12_moon_33 : decode cX12_moon 33 = .ok (.invokestatic 113, 3) := by decide +kernel
theorem dX12_moon_36 : decode cX12_moon 36 = .ok (.ifCond .eq 39, 3) := by decide +kernel
theorem dX12_moon_39 : decode cX12_moon 39 = .ok (.goto 42, 3) := by decide +kernel
theorem dX12_moon_42 : decode cX12_moon 42 = .ok (.iload_n 3, 1) := by decide +kernel
theorem dX12_moon_43 : decode cX12_moon 43 = .ok (.iconst 1, 1) := by decide +kernel
theorem dX12_moon_44 : decode cX12_moon 44 = .ok (.if_icmp .ne 19, 3) := by decide +kernel
theorem dX12_moon_47 : decode cX12_moon 47 = .ok (.iload 4, 2) := by decide +kernel
theorem dX12_moon_49 : decode cX12_moon 49 = .ok (.bipush 60, 2) := by decide +kernel
theorem dX12_moon_51 : decode cX12_moon 51 = .ok (.sipush 2000, 3) := by decide +kernel
theorem dX12_moon_54 : decode cX12_moon 54 = .ok (.invokestatic 113, 3) := by decide +kernel
theorem dX12_moon_57 : decode cX12_moon 57 = .ok (.ifCond .eq 18, 3) := by decide +kernel
theorem dX12_moon_60 : decode cX12_moon 60 = .ok (.goto 21, 3) := by decide +kernel
theorem dX12_moon_63 : decode cX12_moon 63 = .ok (.iload 4, 2) := by decide +kernel
theorem dX12_moon_65 : decode cX12_moon 65 = .ok (.iconst 0, 1) := by decide +kernel
theorem dX12_moon_66 : decode cX12_moon 66 = .ok (.sipush 1999, 3) := by decide +kernel
theorem dX12_moon_69 : decode cX12_moon 69 = .ok (.invokestatic 113, 3) := by decide +kernel
theorem dX12_moon_72 : decode cX12_moon 72 = .ok (.ifCond .ne 9, 3) := by decide +kernel
theorem dX12_moon_75 : decode cX12_moon 75 = .ok (.aload_n 0, 1) := by decide +kernel
theorem dX12_moon_76 : decode cX12_moon 76 = .ok (.iconst (-1), 1) := by decide +kernel
theorem dX12_moon_77 : decode cX12_moon 77 = .ok (.invokevirtual 117, 3) := by decide +kernel
theorem dX12_moon_80 : decode cX12_moon 80 = .ok (.ireturn, 1) := by decide +kernel
theorem dX12_moon_81 : decode cX12_moon 81 = .ok (.aload_n 0, 1) := by decide +kernel
theorem dX12_moon_82 : decode cX12_moon 82 = .ok (.bipush 6, 2) := by decide +kernel
theorem dX12_moon_84 : decode cX12_moon 84 = .ok (.bipush 12, 2) := by decide +kernel
theorem dX12_moon_86 : decode cX12_moon 86 = .ok (.iload_n 1, 1) := by decide +kernel
theorem dX12_moon_87 : decode cX12_moon 87 = .ok (.imul, 1) := by decide +kernel
theorem dX12_moon_88 : decode cX12_moon 88 = .ok (.iadd, 1) := by decide +kernel
theorem dX12_moon_89 : decode cX12_moon 89 = .ok (.iconst 3, 1) := by decide +kernel
theorem dX12_moon_90 : decode cX12_moon 90 = .ok (.iload_n 2, 1) := by decide +kernel
theorem dX12_moon_91 : decode cX12_moon 91 = .ok (.imul, 1) := by decide +kernel
theorem dX12_moon_92 : decode cX12_moon 92 = .ok (.iadd, 1) := by decide +kernel
theorem dX12_moon_93 : decode cX12_moon 93 = .ok (.iload_n 3, 1) := by decide +kernel
theorem dX12_moon_94 : decode cX12_moon 94 = .ok (.iadd, 1) := by decide +kernel
theorem dX12_moon_95 : decode cX12_moon 95 = .ok (.iload 4, 2) := by decide +kernel
theorem dX12_moon_97 : decode cX12_moon 97 = .ok (.invokevirtual 128, 3) := by decide +kernel
theorem dX12_moon_100 : decode cX12_moon 100 = .ok (.ireturn, 1) := by decide +kernel
theorem dX12_isTerm_0 : decode cX12_isTerm 0 = .ok (.iload_n 0, 1) := by decide +kernel
theorem dX12_isTerm_1 : decode cX12_isTerm 1 = .ok (.tableswitch 132 0 10 #[59, 59, 67, 76, 85, 96, 67, 104, 59, 112, 121], 59) := by decide +kernel
theorem dX12_isTerm_60 : decode cX12_isTerm 60 = .ok (.iload_n 1, 1) := by decide +kernel
theorem dX12_isTerm_61 : decode cX12_isTerm 61 = .ok (.iconst 0, 1) := by decide +kernel
theorem dX12_isTerm_62 : decode cX12_isTerm 62 = .ok (.bipush 50, 2) := by decide +kernel
theorem dX12_isTerm_64 : decode cX12_isTerm 64 = .ok (.invokestatic 113, 3) := by decide +kernel
theorem dX12_isTerm_67 : decode cX12_isTerm 67 = .ok (.ireturn, 1) := by decide +kernel
theorem dX12_isTerm_68 : decode cX12_isTerm 68 = .ok (.iload_n 1, 1) := by decide +kernel
theorem dX12_isTerm_69 : decode cX12_isTerm 69 = .ok (.iconst 1, 1) := by decide +kernel
theorem dX12_isTerm_70 : decode cX12_isTerm 70 = .ok (.sipush 500, 3) := by decide +kernel
theorem dX12_isTerm_73 : decode cX12_isTerm 73 = .ok (.invokestatic 113, 3) := by decide +kernel
theorem dX12_isTerm_76 : decode cX12_isTerm 76 = .ok (.ireturn, 1) := by decide +kernel
theorem dX12_isTerm_77 : decode cX12_isTerm 77 = .ok (.iload_n 1, 1) := by decide +kernel
theorem dX12_isTerm_78 : decode cX12_isTerm 78 = .ok (.iconst 0, 1) := by decide +kernel
theorem dX12_isTerm_79 : decode cX12_isTerm 79 = .ok (.sipush 500, 3) := by decide +kernel
theorem dX12_isTerm_82 : decode cX12_isTerm 82 = .ok (.invokestatic 113, 3) := by decide +kernel
theorem dX12_isTerm_85 : decode cX12_isTerm 85 = .ok (.ireturn, 1) := by decide +kernel
theorem dX12_isTerm_86 : decode cX12_isTerm 86 = .ok (.iload_n 1, 1) := by decide +kernel
theorem dX12_isTerm_87 : decode cX12_isTerm 87 = .ok (.sipush (-1000), 3) := by decide +kernel
theorem dX12_isTerm_90 : decode cX12_isTerm 90 = .ok (.sipush 1000, 3) := by decide +kernel
theorem dX12_isTerm_93 : decode cX12_isTerm 93 = .ok (.invokestatic 113, 3) := by decide +kernel
theorem dX12_isTerm_96 : decode cX12_isTerm 96 = .ok (.ireturn, 1) := by decide +kernel
theorem dX12_isTerm_97 : decode cX12_isTerm 97 = .ok (.iload_n 1, 1) := by decide +kernel
theorem dX12_isTerm_98 : decode cX12_isTerm 98 = .ok (.iconst 0, 1) := by decide +kernel
theorem dX12_isTerm_99 : decode cX12_isTerm 99 = .ok (.bipush 60, 2) := by decide +kernel
theorem dX12_isTerm_101 : decode cX12_isTerm 101 = .ok (.invokestatic 113, 3) := by decide +kernel
theorem dX12_isTerm_104 : decode cX12_isTerm 104 = .ok (.ireturn, 1) := by decide +kernel
theorem dX12_isTerm_105 : decode cX12_isTerm 105 = .ok (.iload_n 1, 1) := by decide +kernel
theorem dX12_isTerm_106 : decode cX12_isTerm 106 = .ok (.iconst 0, 1) := by decide +kernel
theorem dX12_isTerm_107 : decode cX12_isTerm 107 = .ok (.bipush 20, 2) := by decide +kernel
theorem dX12_isTerm_109 : decode cX12_isTerm 109 = .ok (.invokestatic 113, 3) := by decide +kernel
theorem dX12_isTerm_112 : decode cX12_isTerm 112 = .ok (.ireturn, 1) := by decide +kernel
theorem dX12_isTerm_113 : decode cX12_isTerm 113 = .ok (.iload_n 1, 1) := by decide +kernel
theorem dX12_isTerm_114 : decode cX12_isTerm 114 = .ok (.bipush (-40), 2) := by decide +kernel
theorem dX12_isTerm_116 : decode cX12_isTerm 116 = .ok (.bipush 40, 2) := by decide +kernel
theorem dX12_isTerm_118 : decode cX12_isTerm 118 = .ok (.invokestatic 113, 3) := by decide +kernel
theorem dX12_isTerm_121 : decode cX12_isTerm 121 = .ok (.ireturn, 1) := by decide +kernel
theorem dX12_isTerm_122 : decode cX12_isTerm 122 = .ok (.iload_n 1, 1) := by decide +kernel
theorem dX12_isTerm_123 : decode cX12_isTerm 123 = .ok (.sipush 950, 3) := by decide +kernel
theorem dX12_isTerm_126 : decode cX12_isTerm 126 = .ok (.sipush 1050, 3) := by decide +kernel
theorem dX12_isTerm_129 : decode cX12_isTerm 129 = .ok (.invokestatic 113, 3) := by decide +kernel
theorem dX12_isTerm_132 : decode cX12_isTerm 132 = .ok (.ireturn, 1) := by decide +kernel
theorem dX12_isTerm_133 : decode cX12_isTerm 133 = .ok (.iconst 0, 1) := by decide +kernel
theorem dX12_isTerm_134 : decode cX12_isTerm 134 = .ok (.ireturn, 1) := by decide +kernel
theorem dX12_terms_0 : decode cX12_terms 0 = .ok (.iload_n 1, 1) := by decide +kernel
theorem dX12_terms_1 : decode cX12_terms 1 = .ok (.iload_n 2, 1) := by decide +kernel
theorem dX12_terms_2 : decode cX12_terms 2 = .ok (.invokestatic 135, 3) := by decide +kernel
theorem dX12_terms_5 : decode cX12_terms 5 = .ok (.ifCond .eq 15, 3) := by decide +kernel
theorem dX12_terms_8 : decode cX12_terms 8 = .ok (.aload_n 0, 1) := by decide +kernel
theorem dX12_terms_9 : decode cX12_terms 9 = .ok (.bipush 30, 2) := by decide +kernel
theorem dX12_terms_11 : decode cX12_terms 11 = .ok (.iload_n 1, 1) := by decide +kernel
theorem dX12_terms_12 : decode cX12_terms 12 = .ok (.iadd, 1) := by decide +kernel
theorem dX12_terms_13 : decode cX12_terms 13 = .ok (.iload_n 2, 1) := by decide +kernel
theorem dX12_terms_14 : decode cX12_terms 14 = .ok (.invokevirtual 128, 3) := by decide +kernel
theorem dX12_terms_17 : decode cX12_terms 17 = .ok (.goto 8, 3) := by decide +kernel
theorem dX12_terms_20 : decode cX12_terms 20 = .ok (.aload_n 0, 1) := by decide +kernel
theorem dX12_terms_21 : decode cX12_terms 21 = .ok (.iconst (-1), 1) := by decide +kernel
theorem dX12_terms_22 : decode cX12_terms 22 = .ok (.invokevirtual 117, 3) := by decide +kernel
theorem dX12_terms_25 : decode cX12_terms 25 = .ok (.ireturn, 1) := by decide +kernel
theorem dX12_row_0 : decode cX12_row 0 = .ok (.aload_n 0, 1) := by decide +kernel
theorem dX12_row_1 : decode cX12_row 1 = .ok (.getfield 139, 3) := by decide +kernel
theorem dX12_row_4 : decode cX12_row 4 = .ok (.istore_n 1, 1) := by decide +kernel
theorem dX12_row_5 : decode cX12_row 5 = .ok (.aload_n 0, 1) := by decide +kernel
theorem dX12_row_6 : decode cX12_row 6 = .ok (.iconst 0, 1) := by decide +kernel
theorem dX12_row_7 : decode cX12_row 7 = .ok (.putfield 139, 3) := by decide +kernel
theorem dX12_row_10 : decode cX12_row 10 = .ok (.iload_n 1, 1) := by decide +kernel
theorem dX12_row_11 : decode cX12_row 11 = .ok (.ifCond .ne 10, 3) := by decide +kernel
theorem dX12_row_14 : decode cX12_row 14 = .ok (.aload_n 0, 1) := by decide +kernel
theorem dX12_row_15 : decode cX12_row 15 = .ok (.bipush (-6), 2) := by decide +kernel
theorem dX12_row_17 : decode cX12_row 17 = .ok (.invokevirtual 117, 3) := by decide +kernel
theorem dX12_row_20 : decode cX12_row 20 = .ok (.ireturn, 1) := by decide +kernel
theorem dX12_row_21 : decode cX12_row 21 = .ok (.iconst 0, 1) := by decide +kernel
theorem dX12_row_22 : decode cX12_row 22 = .ok (.istore_n 2, 1) := by decide +kernel
theorem dX12_row_23 : decode cX12_row 23 = .ok (.aload_n 0, 1) := by decide +kernel
theorem dX12_row_24 : decode cX12_row 24 = .ok (.iconst 0, 1) := by decide +kernel
theorem dX12_row_25 : decode cX12_row 25 = .ok (.putfield 142, 3) := by decide +kernel
theorem dX12_row_28 : decode cX12_row 28 = .ok (.iconst 0, 1) := by decide +kernel
theorem dX12_row_29 : decode cX12_row 29 = .ok (.istore_n 3, 1) := by decide +kernel
theorem dX12_row_30 : decode cX12_row 30 = .ok (.iload_n 3, 1) := by decide +kernel
theorem dX12_row_31 : decode cX12_row 31 = .ok (.iload_n 1, 1) := by decide +kernel
theorem dX12_row_32 : decode cX12_row 32 = .ok (.if_icmp .ge 88, 3) := by decide +kernel
theorem dX12_row_35 : decode cX12_row 35 = .ok (.iload_n 3, 1) := by decide +kernel
theorem dX12_row_36 : decode cX12_row 36 = .ok (.bipush 50, 2) := by decide +kernel
theorem dX12_row_38 : decode cX12_row 38 = .ok (.if_icmp .ge 21, 3) := by decide +kernel
theorem dX12_row_41 : decode cX12_row 41 = .ok (.aload_n 0, 1) := by decide +kernel
theorem dX12_row_42 : decode cX12_row 42 = .ok (.getfield 34, 3) := by decide +kernel
theorem dX12_row_45 : decode cX12_row 45 = .ok (.iload_n 3, 1) := by decide +kernel
theorem dX12_row_46 : decode cX12_row 46 = .ok (.baload, 1) := by decide +kernel
theorem dX12_row_47 : decode cX12_row 47 = .ok (.iconst 0, 1) := by decide +kernel
theorem dX12_row_48 : decode cX12_row 48 = .ok (.iconst 5, 1) := by decide +kernel
theorem dX12_row_49 : decode cX12_row 49 = .ok (.invokestatic 113, 3) := by decide +kernel
theorem dX12_row_52 : decode cX12_row 52 = .ok (.ifCond .eq 7, 3) := by decide +kernel
theorem dX12_row_55 : decode cX12_row 55 = .ok (.iconst 1, 1) := by decide +kernel
theorem dX12_row_56 : decode cX12_row 56 = .ok (.goto 4, 3) := by decide +kernel
theorem dX12_row_59 : decode cX12_row 59 = .ok (.iconst 0, 1) := by decide +kernel
theorem dX12_row_60 : decode cX12_row 60 = .ok (.istore 4, 2) := by decide +kernel
theorem dX12_row_62 : decode cX12_row 62 = .ok (.iload 4, 2) := by decide +kernel
theorem dX12_row_64 : decode cX12_row 64 = .ok (.ifCond .eq 18, 3) := by decide +kernel
theorem dX12_row_67 : decode cX12_row 67 = .ok (.aload_n 0, 1) := by decide +kernel
theorem dX12_row_68 : decode cX12_row 68 = .ok (.getfield 20, 3) := by decide +kernel
theorem dX12_row_71 : decode cX12_row 71 = .ok (.bipush 41, 2) := by decide +kernel
theorem dX12_row_73 : decode cX12_row 73 = .ok (.iload_n 3, 1) := by decide +kernel
theorem dX12_row_74 : decode cX12_row 74 = .ok (.iadd, 1) := by decide +kernel
theorem dX12_row_75 : decode cX12_row 75 = .ok (.aload_n 0, 1) := by decide +kernel
theorem dX12_row_76 : decode cX12_row 76 = .ok (.getfield 34, 3) := by decide +kernel
theorem dX12_row_79 : decode cX12_row 79 = .ok (.iload_n 3, 1) := by decide +kernel
theorem dX12_row_80 : decode cX12_row 80 = .ok (.baload, 1) := by decide +kernel
theorem dX12_row_81 : decode cX12_row 81 = .ok (.iastore, 1) := by decide +kernel
theorem dX12_row_82 : decode cX12_row 82 = .ok (.iload_n 2, 1) := by decide +kernel
theorem dX12_row_83 : decode cX12_row 83 = .ok (.iload 4, 2) := by decide +kernel
theorem dX12_row_85 : decode cX12_row 85 = .ok (.ifCond .eq 7, 3) := by decide +kernel
theorem dX12_row_88 : decode cX12_row 88 = .ok (.iconst 1, 1) := by decide +kernel
theorem dX12_row_89 : decode cX12_row 89 = .ok (.goto 4, 3) := by decide +kernel
theorem dX12_row_92 : decode cX12_row 92 = .ok (.iconst 0, 1) := by decide +kernel
theorem dX12_row_93 : decode cX12_row 93 = .ok (.iadd, 1) := by decide +kernel
theorem dX12_row_94 : decode cX12_row 94 = .ok (.istore_n 2, 1) := by decide +kernel
theorem dX12_row_95 : decode cX12_row 95 = .ok (.aload_n 0, 1) := by decide +kernel
theorem dX12_row_96 : decode cX12_row 96 = .ok (.dup, 1) := by decide +kernel
theorem dX12_row_97 : decode cX12_row 97 = .ok (.getfield 142, 3) := by decide +kernel
theorem dX12_row_100 : decode cX12_row 100 = .ok (.iload 4, 2) := by decide +kernel
theorem dX12_row_102 : decode cX12_row 102 = .ok (.ifCond .eq 7, 3) := by decide +kernel
theorem dX12_row_105 : decode cX12_row 105 = .ok (.iconst 0, 1) := by decide +kernel
theorem dX12_row_106 : decode cX12_row 106 = .ok (.goto 4, 3) := by decide +kernel
theorem dX12_row_109 : decode cX12_row 109 = .ok (.iconst 1, 1) := by decide +kernel
theorem dX12_row_110 : decode cX12_row 110 = .ok (.iadd, 1) := by decide +kernel
theorem dX12_row_111 : decode cX12_row 111 = .ok (.putfield 142, 3) := by decide +kernel
theorem dX12_row_114 : decode cX12_row 114 = .ok (.iinc 3 1, 3) := by decide +kernel
theorem dX12_row_117 : decode cX12_row 117 = .ok (.goto (-87), 3) := by decide +kernel
theorem dX12_row_120 : decode cX12_row 120 = .ok (.aload_n 0, 1) := by decide +kernel
theorem dX12_row_121 : decode cX12_row 121 = .ok (.iload_n 2, 1) := by decide +kernel
theorem dX12_row_122 : decode cX12_row 122 = .ok (.invokevirtual 121, 3) := by decide +kernel
theorem dX12_row_125 : decode cX12_row 125 = .ok (.ireturn, 1) := by decide +kernel
theorem dX12_foul_0 : decode cX12_foul 0 = .ok (.aload_n 0, 1) := by decide +kernel
theorem dX12_foul_1 : decode cX12_foul 1 = .ok (.getfield 142, 3) := by decide +kernel
theorem dX12_foul_4 : decode cX12_foul 4 = .ok (.ireturn, 1) := by decide +kernel
theorem dX12_feed_0 : decode cX12_feed 0 = .ok (.aload_n 0, 1) := by decide +kernel
theorem dX12_feed_1 : decode cX12_feed 1 = .ok (.getfield 139, 3) := by decide +kernel
theorem dX12_feed_4 : decode cX12_feed 4 = .ok (.bipush 20, 2) := by decide +kernel
theorem dX12_feed_6 : decode cX12_feed 6 = .ok (.iadd, 1) := by decide +kernel
theorem dX12_feed_7 : decode cX12_feed 7 = .ok (.sipush 400, 3) := by decide +kernel
theorem dX12_feed_10 : decode cX12_feed 10 = .ok (.if_icmp .le 5, 3) := by decide +kernel
theorem dX12_feed_13 : decode cX12_feed 13 = .ok (.iconst (-1), 1) := by decide +kernel
theorem dX12_feed_14 : decode cX12_feed 14 = .ok (.ireturn, 1) := by decide +kernel
theorem dX12_feed_15 : decode cX12_feed 15 = .ok (.aload_n 0, 1) := by decide +kernel
theorem dX12_feed_16 : decode cX12_feed 16 = .ok (.getfield 37, 3) := by decide +kernel
theorem dX12_feed_19 : decode cX12_feed 19 = .ok (.iconst 0, 1) := by decide +kernel
theorem dX12_feed_20 : decode cX12_feed 20 = .ok (.iload_n 1, 1) := by decide +kernel
theorem dX12_feed_21 : decode cX12_feed 21 = .ok (.iastore, 1) := by decide +kernel
theorem dX12_feed_22 : decode cX12_feed 22 = .ok (.aload_n 0, 1) := by decide +kernel
theorem dX12_feed_23 : decode cX12_feed 23 = .ok (.getfield 37, 3) := by decide +kernel
theorem dX12_feed_26 : decode cX12_feed 26 = .ok (.iconst 1, 1) := by decide +kernel
theorem dX12_feed_27 : decode cX12_feed 27 = .ok (.iload_n 2, 1) := by decide +kernel
theorem dX12_feed_28 : decode cX12_feed 28 = .ok (.iastore, 1) := by decide +kernel
theorem dX12_feed_29 : decode cX12_feed 29 = .ok (.aload_n 0, 1) := by decide +kernel
theorem dX12_feed_30 : decode cX12_feed 30 = .ok (.getfield 37, 3) := by decide +kernel
theorem dX12_feed_33 : decode cX12_feed 33 = .ok (.iconst 2, 1) := by decide +kernel
theorem dX12_feed_34 : decode cX12_feed 34 = .ok (.iload_n 3, 1) := by decide +kernel
theorem dX12_feed_35 : decode cX12_feed 35 = .ok (.iastore, 1) := by decide +kernel
theorem dX12_feed_36 : decode cX12_feed 36 = .ok (.aload_n 0, 1) := by decide +kernel
theorem dX12_feed_37 : decode cX12_feed 37 = .ok (.getfield 37, 3) := by decide +kernel
theorem dX12_feed_40 : decode cX12_feed 40 = .ok (.iconst 3, 1) := by decide +kernel
theorem dX12_feed_41 : decode cX12_feed 41 = .ok (.iload 4, 2) := by decide +kernel
theorem dX12_feed_43 : decode cX12_feed 43 = .ok (.iastore, 1) := by decide +kernel
theorem dX12_feed_44 : decode cX12_feed 44 = .ok (.aload_n 0, 1) := by decide +kernel
theorem dX12_feed_45 : decode cX12_feed 45 = .ok (.getfield 37, 3) := by decide +kernel
theorem dX12_feed_48 : decode cX12_feed 48 = .ok (.iconst 4, 1) := by decide +kernel
theorem dX12_feed_49 : decode cX12_feed 49 = .ok (.iload 5, 2) := by decide +kernel
theorem dX12_feed_51 : decode cX12_feed 51 = .ok (.iastore, 1) := by decide +kernel
theorem dX12_feed_52 : decode cX12_feed 52 = .ok (.iconst 0, 1) := by decide +kernel
theorem dX12_feed_53 : decode cX12_feed 53 = .ok (.istore 6, 2) := by decide +kernel
theorem dX12_feed_55 : decode cX12_feed 55 = .ok (.iload 6, 2) := by decide +kernel
theorem dX12_feed_57 : decode cX12_feed 57 = .ok (.bipush 20, 2) := by decide +kernel
theorem dX12_feed_59 : decode cX12_feed 59 = .ok (.if_icmp .ge 42, 3) := by decide +kernel
theorem dX12_feed_62 : decode cX12_feed 62 = .ok (.aload_n 0, 1) := by decide +kernel
theorem dX12_feed_63 : decode cX12_feed 63 = .ok (.getfield 34, 3) := by decide +kernel
theorem dX12_feed_66 : decode cX12_feed 66 = .ok (.aload_n 0, 1) := by decide +kernel
theorem dX12_feed_67 : decode cX12_feed 67 = .ok (.getfield 139, 3) := by decide +kernel
theorem dX12_feed_70 : decode cX12_feed 70 = .ok (.iload 6, 2) := by decide +kernel
theorem dX12_feed_72 : decode cX12_feed 72 = .ok (.iadd, 1) := by decide +kernel
theorem dX12_feed_73 : decode cX12_feed 73 = .ok (.aload_n 0, 1) := by decide +kernel
theorem dX12_feed_74 : decode cX12_feed 74 = .ok (.getfield 37, 3) := by decide +kernel
theorem dX12_feed_77 : decode cX12_feed 77 = .ok (.iload 6, 2) := by decide +kernel
theorem dX12_feed_79 : decode cX12_feed 79 = .ok (.iconst 4, 1) := by decide +kernel
theorem dX12_feed_80 : decode cX12_feed 80 = .ok (.idiv, 1) := by decide +kernel
theorem dX12_feed_81 : decode cX12_feed 81 = .ok (.iaload, 1) := by decide +kernel
theorem dX12_feed_82 : decode cX12_feed 82 = .ok (.bipush 24, 2) := by decide +kernel
theorem dX12_feed_84 : decode cX12_feed 84 = .ok (.bipush 8, 2) := by decide +kernel
theorem dX12_feed_86 : decode cX12_feed 86 = .ok (.iload 6, 2) := by decide +kernel
theorem dX12_feed_88 : decode cX12_feed 88 = .ok (.iconst 4, 1) := by decide +kernel
theorem dX12_feed_89 : decode cX12_feed 89 = .ok (.irem, 1) := by decide +kernel
theorem dX12_feed_90 : decode cX12_feed 90 = .ok (.imul, 1) := by decide +kernel
theorem dX12_feed_91 : decode cX12_feed 91 = .ok (.isub, 1) := by decide +kernel
theorem dX12_feed_92 : decode cX12_feed 92 = .ok (.ishr, 1) := by decide +kernel
theorem dX12_feed_93 : decode cX12_feed 93 = .ok (.i2b, 1) := by decide +kernel
theorem dX12_feed_94 : decode cX12_feed 94 = .ok (.bastore, 1) := by decide +kernel
theorem dX12_feed_95 : decode cX12_feed 95 = .ok (.iinc 6 1, 3) := by decide +kernel
theorem dX12_feed_98 : decode cX12_feed 98 = .ok (.goto (-43), 3) := by decide +kernel
theorem dX12_feed_101 : decode cX12_feed 101 = .ok (.aload_n 0, 1) := by decide +kernel
theorem dX12_feed_102 : decode cX12_feed 102 = .ok (.dup, 1) := by decide +kernel
theorem dX12_feed_103 : decode cX12_feed 103 = .ok (.getfield 139, 3) := by decide +kernel
theorem dX12_feed_106 : decode cX12_feed 106 = .ok (.bipush 20, 2) := by decide +kernel
theorem dX12_feed_108 : decode cX12_feed 108 = .ok (.iadd, 1) := by decide +kernel
theorem dX12_feed_109 : decode cX12_feed 109 = .ok (.putfield 139, 3) := by decide +kernel
theorem dX12_feed_112 : decode cX12_feed 112 = .ok (.aload_n 0, 1) := by decide +kernel
theorem dX12_feed_113 : decode cX12_feed 113 = .ok (.getfield 139, 3) := by decide +kernel
theorem dX12_feed_116 : decode cX12_feed 116 = .ok (.ireturn, 1) := by decide +kernel
theorem dX12_end_0 : decode cX12_end 0 = .ok (.iload_n 1, 1) := by decide +kernel
theorem dX12_end_1 : decode cX12_end 1 = .ok (.iconst 0, 1) := by decide +kernel
theorem dX12_end_2 : decode cX12_end 2 = .ok (.aload_n 0, 1) := by decide +kernel
theorem dX12_end_3 : decode cX12_end 3 = .ok (.getfield 139, 3) := by decide +kernel
theorem dX12_end_6 : decode cX12_end 6 = .ok (.invokestatic 113, 3) := by decide +kernel
theorem dX12_end_9 : decode cX12_end 9 = .ok (.ifCond .ne 5, 3) := by decide +kernel
theorem dX12_end_12 : decode cX12_end 12 = .ok (.iconst (-1), 1) := by decide +kernel
theorem dX12_end_13 : decode cX12_end 13 = .ok (.ireturn, 1) := by decide +kernel
theorem dX12_end_14 : decode cX12_end 14 = .ok (.aload_n 0, 1) := by decide +kernel
theorem dX12_end_15 : decode cX12_end 15 = .ok (.iload_n 1, 1) := by decide +kernel
theorem dX12_end_16 : decode cX12_end 16 = .ok (.putfield 139, 3) := by decide +kernel
theorem dX12_end_19 : decode cX12_end 19 = .ok (.iload_n 1, 1) := by decide +kernel
theorem dX12_end_20 : decode cX12_end 20 = .ok (.ireturn, 1) := by decide +kernel
theorem dX12_isSmall_0 : decode cX12_isSmall 0 = .ok (.iload_n 0, 1) := by decide +kernel
theorem dX12_isSmall_1 : decode cX12_isSmall 1 = .ok (.bipush 97, 2) := by decide +kernel
theorem dX12_isSmall_3 : decode cX12_isSmall 3 = .ok (.if_icmp .lt 13, 3) := by decide +kernel
theorem dX12_isSmall_6 : decode cX12_isSmall 6 = .ok (.iload_n 0, 1) := by decide +kernel
theorem dX12_isSmall_7 : decode cX12_isSmall 7 = .ok (.bipush 122, 2) := by decide +kernel
theorem dX12_isSmall_9 : decode cX12_isSmall 9 = .ok (.if_icmp .gt 7, 3) := by decide +kernel
theorem dX12_isSmall_12 : decode cX12_isSmall 12 = .ok (.iconst 1, 1) := by decide +kernel
theorem dX12_isSmall_13 : decode cX12_isSmall 13 = .ok (.goto 4, 3) := by decide +kernel
theorem dX12_isSmall_16 : decode cX12_isSmall 16 = .ok (.iconst 0, 1) := by decide +kernel
theorem dX12_isSmall_17 : decode cX12_isSmall 17 = .ok (.ireturn, 1) := by decide +kernel
theorem dX12_isDigit_0 : decode cX12_isDigit 0 = .ok (.iload_n 0, 1) := by decide +kernel
theorem dX12_isDigit_1 : decode cX12_isDigit 1 = .ok (.bipush 48, 2) := by decide +kernel
theorem dX12_isDigit_3 : decode cX12_isDigit 3 = .ok (.if_icmp .lt 13, 3) := by decide +kernel
theorem dX12_isDigit_6 : decode cX12_isDigit 6 = .ok (.iload_n 0, 1) := by decide +kernel
theorem dX12_isDigit_7 : decode cX12_isDigit 7 = .ok (.bipush 57, 2) := by decide +kernel
theorem dX12_isDigit_9 : decode cX12_isDigit 9 = .ok (.if_icmp .gt 7, 3) := by decide +kernel
theorem dX12_isDigit_12 : decode cX12_isDigit 12 = .ok (.iconst 1, 1) := by decide +kernel
theorem dX12_isDigit_13 : decode cX12_isDigit 13 = .ok (.goto 4, 3) := by decide +kernel
theorem dX12_isDigit_16 : decode cX12_isDigit 16 = .ok (.iconst 0, 1) := by decide +kernel
theorem dX12_isDigit_17 : decode cX12_isDigit 17 = .ok (.ireturn, 1) := by decide +kernel
theorem dX12_wordOf_0 : decode cX12_wordOf 0 = .ok (.iconst 1, 1) := by decide +kernel
theorem dX12_wordOf_1 : decode cX12_wordOf 1 = .ok (.istore_n 3, 1) := by decide +kernel
theorem dX12_wordOf_2 : decode cX12_wordOf 2 = .ok (.iconst 0, 1) := by decide +kernel
theorem dX12_wordOf_3 : decode cX12_wordOf 3 = .ok (.istore 4, 2) := by decide +kernel
theorem dX12_wordOf_5 : decode cX12_wordOf 5 = .ok (.iload 4, 2) := by decide +kernel
theorem dX12_wordOf_7 : decode cX12_wordOf 7 = .ok (.aload_n 0, 1) := by decide +kernel
theorem dX12_wordOf_8 : decode cX12_wordOf 8 = .ok (.getfield 30, 3) := by decide +kernel
theorem dX12_wordOf_11 : decode cX12_wordOf 11 = .ok (.arraylength, 1) := by decide +kernel
theorem dX12_wordOf_12 : decode cX12_wordOf 12 = .ok (.if_icmp .ge 114, 3) := by decide +kernel
theorem dX12_wordOf_15 : decode cX12_wordOf 15 = .ok (.iconst 0, 1) := by decide +kernel
theorem dX12_wordOf_16 : decode cX12_wordOf 16 = .ok (.istore 5, 2) := by decide +kernel
theorem dX12_wordOf_18 : decode cX12_wordOf 18 = .ok (.aload_n 0, 1) := by decide +kernel
theorem dX12_wordOf_19 : decode cX12_wordOf 19 = .ok (.getfield 30, 3) := by decide +kernel
theorem dX12_wordOf_22 : decode cX12_wordOf 22 = .ok (.iload 4, 2) := by decide +kernel
theorem dX12_wordOf_24 : decode cX12_wordOf 24 = .ok (.iload 5, 2) := by decide +kernel
theorem dX12_wordOf_26 : decode cX12_wordOf 26 = .ok (.iadd, 1) := by decide +kernel
theorem dX12_wordOf_27 : decode cX12_wordOf 27 = .ok (.baload, 1) := by decide +kernel
theorem dX12_wordOf_28 : decode cX12_wordOf 28 = .ok (.bipush 32, 2) := by decide +kernel
theorem dX12_wordOf_30 : decode cX12_wordOf 30 = .ok (.if_icmp .eq 9, 3) := by decide +kernel
theorem dX12_wordOf_33 : decode cX12_wordOf 33 = .ok (.iinc 5 1, 3) := by decide +kernel
theorem dX12_wordOf_36 : decode cX12_wordOf 36 = .ok (.goto (-18), 3) := by decide +kernel
theorem dX12_wordOf_39 : decode cX12_wordOf 39 = .ok (.iload 5, 2) := by decide +kernel
theorem dX12_wordOf_41 : decode cX12_wordOf 41 = .ok (.iload_n 2, 1) := by decide +kernel
theorem dX12_wordOf_42 : decode cX12_wordOf 42 = .ok (.iload_n 1, 1) := by decide +kernel
theorem dX12_wordOf_43 : decode cX12_wordOf 43 = .ok (.isub, 1) := by decide +kernel
theorem dX12_wordOf_44 : decode cX12_wordOf 44 = .ok (.if_icmp .ne 7, 3) := by decide +kernel
theorem dX12_wordOf_47 : decode cX12_wordOf 47 = .ok (.iconst 1, 1) := by decide +kernel
theorem dX12_wordOf_48 : decode cX12_wordOf 48 = .ok (.goto 4, 3) := by decide +kernel
theorem dX12_wordOf_51 : decode cX12_wordOf 51 = .ok (.iconst 0, 1) := by decide +kernel
theorem dX12_wordOf_52 : decode cX12_wordOf 52 = .ok (.istore 6, 2) := by decide +kernel
theorem dX12_wordOf_54 : decode cX12_wordOf 54 = .ok (.iconst 0, 1) := by decide +kernel
theorem dX12_wordOf_55 : decode cX12_wordOf 55 = .ok (.istore 7, 2) := by decide +kernel
theorem dX12_wordOf_57 : decode cX12_wordOf 57 = .ok (.iload 7, 2) := by decide +kernel
theorem dX12_wordOf_59 : decode cX12_wordOf 59 = .ok (.iload 5, 2) := by decide +kernel
theorem dX12_wordOf_61 : decode cX12_wordOf 61 = .ok (.if_icmp .ge 43, 3) := by decide +kernel
theorem dX12_wordOf_64 : decode cX12_wordOf 64 = .ok (.iload 6, 2) := by decide +kernel
theorem dX12_wordOf_66 : decode cX12_wordOf 66 = .ok (.ifCond .eq 38, 3) := by decide +kernel
theorem dX12_wordOf_69 : decode cX12_wordOf 69 = .ok (.aload_n 0, 1) := by decide +kernel
theorem dX12_wordOf_70 : decode cX12_wordOf 70 = .ok (.getfield 30, 3) := by decide +kernel
theorem dX12_wordOf_73 : decode cX12_wordOf 73 = .ok (.iload 4, 2) := by decide +kernel
theorem dX12_wordOf_75 : decode cX12_wordOf 75 = .ok (.iload 7, 2) := by decide +kernel
theorem dX12_wordOf_77 : decode cX12_wordOf 77 = .ok (.iadd, 1) := by decide +kernel
theorem dX12_wordOf_78 : decode cX12_wordOf 78 = .ok (.baload, 1) := by decide +kernel
theorem dX12_wordOf_79 : decode cX12_wordOf 79 = .ok (.aload_n 0, 1) := by decide +kernel
theorem dX12_wordOf_80 : decode cX12_wordOf 80 = .ok (.getfield 34, 3) := by decide +kernel
theorem dX12_wordOf_83 : decode cX12_wordOf 83 = .ok (.iload_n 1, 1) := by decide +kernel
theorem dX12_wordOf_84 : decode cX12_wordOf 84 = .ok (.iload 7, 2) := by decide +kernel
theorem dX12_wordOf_86 : decode cX12_wordOf 86 = .ok (.iadd, 1) := by decide +kernel
theorem dX12_wordOf_87 : decode cX12_wordOf 87 = .ok (.baload, 1) := by decide +kernel
theorem dX12_wordOf_88 : decode cX12_wordOf 88 = .ok (.if_icmp .ne 7, 3) := by decide +kernel
theorem dX12_wordOf_91 : decode cX12_wordOf 91 = .ok (.iconst 1, 1) := by decide +kernel
theorem dX12_wordOf_92 : decode cX12_wordOf 92 = .ok (.goto 4, 3) := by decide +kernel
theorem dX12_wordOf_95 : decode cX12_wordOf 95 = .ok (.iconst 0, 1) := by decide +kernel
theorem dX12_wordOf_96 : decode cX12_wordOf 96 = .ok (.istore 6, 2) := by decide +kernel
theorem dX12_wordOf_98 : decode cX12_wordOf 98 = .ok (.iinc 7 1, 3) := by decide +kernel
theorem dX12_wordOf_101 : decode cX12_wordOf 101 = .ok (.goto (-44), 3) := by decide +kernel
theorem dX12_wordOf_104 : decode cX12_wordOf 104 = .ok (.iload 6, 2) := by decide +kernel
theorem dX12_wordOf_106 : decode cX12_wordOf 106 = .ok (.ifCond .eq 5, 3) := by decide +kernel
theorem dX12_wordOf_109 : decode cX12_wordOf 109 = .ok (.iload_n 3, 1) := by decide +kernel
theorem dX12_wordOf_110 : decode cX12_wordOf 110 = .ok (.ireturn, 1) := by decide +kernel
theorem dX12_wordOf_111 : decode cX12_wordOf 111 = .ok (.iload 4, 2) := by decide +kernel
theorem dX12_wordOf_113 : decode cX12_wordOf 113 = .ok (.iload 5, 2) := by decide +kernel
theorem dX12_wordOf_115 : decode cX12_wordOf 115 = .ok (.iconst 1, 1) := by decide +kernel
theorem dX12_wordOf_116 : decode cX12_wordOf 116 = .ok (.iadd, 1) := by decide +kernel
theorem dX12_wordOf_117 : decode cX12_wordOf 117 = .ok (.iadd, 1) := by decide +kernel
theorem dX12_wordOf_118 : decode cX12_wordOf 118 = .ok (.istore 4, 2) := by decide +kernel
theorem dX12_wordOf_120 : decode cX12_wordOf 120 = .ok (.iinc 3 1, 3) := by decide +kernel
theorem dX12_wordOf_123 : decode cX12_wordOf 123 = .ok (.goto (-118), 3) := by decide +kernel
theorem dX12_wordOf_126 : decode cX12_wordOf 126 = .ok (.iconst 0, 1) := by decide +kernel
theorem dX12_wordOf_127 : decode cX12_wordOf 127 = .ok (.ireturn, 1) := by decide +kernel
theorem dX12_splits_0 : decode cX12_splits 0 = .ok (.aload_n 0, 1) := by decide +kernel
theorem dX12_splits_1 : decode cX12_splits 1 = .ok (.iconst 0, 1) := by decide +kernel
theorem dX12_splits_2 : decode cX12_splits 2 = .ok (.putfield 145, 3) := by decide +kernel
theorem dX12_splits_5 : decode cX12_splits 5 = .ok (.iconst 0, 1) := by decide +kernel
theorem dX12_splits_6 : decode cX12_splits 6 = .ok (.istore_n 2, 1) := by decide +kernel
theorem dX12_splits_7 : decode cX12_splits 7 = .ok (.iload_n 2, 1) := by decide +kernel
theorem dX12_splits_8 : decode cX12_splits 8 = .ok (.iload_n 1, 1) := by decide +kernel
theorem dX12_splits_9 : decode cX12_splits 9 = .ok (.if_icmp .ge 254, 3) := by decide +kernel
theorem dX12_splits_12 : decode cX12_splits 12 = .ok (.aload_n 0, 1) := by decide +kernel
theorem dX12_splits_13 : decode cX12_splits 13 = .ok (.getfield 34, 3) := by decide +kernel
theorem dX12_splits_16 : decode cX12_splits 16 = .ok (.iload_n 2, 1) := by decide +kernel
theorem dX12_splits_17 : decode cX12_splits 17 = .ok (.baload, 1) := by decide +kernel
theorem dX12_splits_18 : decode cX12_splits 18 = .ok (.istore_n 3, 1) := by decide +kernel
theorem dX12_splits_19 : decode cX12_splits 19 = .ok (.iload_n 3, 1) := by decide +kernel
theorem dX12_splits_20 : decode cX12_splits 20 = .ok (.bipush 32, 2) := by decide +kernel
theorem dX12_splits_22 : decode cX12_splits 22 = .ok (.if_icmp .ne 9, 3) := by decide +kernel
theorem dX12_splits_25 : decode cX12_splits 25 = .ok (.iinc 2 1, 3) := by decide +kernel
theorem dX12_splits_28 : decode cX12_splits 28 = .ok (.goto (-21), 3) := by decide +kernel
theorem dX12_splits_31 : decode cX12_splits 31 = .ok (.iload_n 2, 1) := by decide +kernel
theorem dX12_splits_32 : decode cX12_splits 32 = .ok (.iconst 1, 1) := by decide +kernel
theorem dX12_splits_33 : decode cX12_splits 33 = .ok (.iadd, 1) := by decide +kernel
theorem dX12_splits_34 : decode cX12_splits 34 = .ok (.istore 4, 2) := by decide +kernel
theorem dX12_splits_36 : decode cX12_splits 36 = .ok (.iload_n 3, 1) := by decide +kernel
theorem dX12_splits_37 : decode cX12_splits 37 = .ok (.invokestatic 148, 3) := by decide +kernel
theorem dX12_splits_40 : decode cX12_splits 40 = .ok (.ifCond .eq 28, 3) := by decide +kernel
theorem dX12_splits_43 : decode cX12_splits 43 = .ok (.iload 4, 2) := by decide +kernel
theorem dX12_splits_45 : decode cX12_splits 45 = .ok (.iload_n 1, 1) := by decide +kernel
theorem dX12_splits_46 : decode cX12_splits 46 = .ok (.if_icmp .ge 22, 3) := by decide +kernel
theorem dX12_splits_49 : decode cX12_splits 49 = .ok (.aload_n 0, 1) := by decide +kernel
theorem dX12_splits_50 : decode cX12_splits 50 = .ok (.getfield 34, 3) := by decide +kernel
theorem dX12_splits_53 : decode cX12_splits 53 = .ok (.iload 4, 2) := by decide +kernel
theorem dX12_splits_55 : decode cX12_splits 55 = .ok (.baload, 1) := by decide +kernel
theorem dX12_splits_56 : decode cX12_splits 56 = .ok (.invokestatic 148, 3) := by decide +kernel
theorem dX12_splits_59 : decode cX12_splits 59 = .ok (.ifCond .eq 9, 3) := by decide +kernel
theorem dX12_splits_62 : decode cX12_splits 62 = .ok (.iinc 4 1, 3) := by decide +kernel
theorem dX12_splits_65 : decode cX12_splits 65 = .ok (.goto (-22), 3) := by decide +kernel
theorem dX12_splits_68 : decode cX12_splits 68 = .ok (.iload_n 3, 1) := by decide +kernel
theorem dX12_splits_69 : decode cX12_splits 69 = .ok (.invokestatic 151, 3) := by decide +kernel
theorem dX12_splits_72 : decode cX12_splits 72 = .ok (.ifCond .eq 28, 3) := by decide +kernel
theorem dX12_splits_75 : decode cX12_splits 75 = .ok (.iload 4, 2) := by decide +kernel
theorem dX12_splits_77 : decode cX12_splits 77 = .ok (.iload_n 1, 1) := by decide +kernel
theorem dX12_splits_78 : decode cX12_splits 78 = .ok (.if_icmp .ge 22, 3) := by decide +kernel
theorem dX12_splits_81 : decode cX12_splits 81 = .ok (.aload_n 0, 1) := by decide +kernel
theorem dX12_splits_82 : decode cX12_splits 82 = .ok (.getfield 34, 3) := by decide +kernel
theorem dX12_splits_85 : decode cX12_splits 85 = .ok (.iload 4, 2) := by decide +kernel
theorem dX12_splits_87 : decode cX12_splits 87 = .ok (.baload, 1) := by decide +kernel
theorem dX12_splits_88 : decode cX12_splits 88 = .ok (.invokestatic 151, 3) := by decide +kernel
theorem dX12_splits_91 : decode cX12_splits 91 = .ok (.ifCond .eq 9, 3) := by decide +kernel
theorem dX12_splits_94 : decode cX12_splits 94 = .ok (.iinc 4 1, 3) := by decide +kernel
theorem dX12_splits_97 : decode cX12_splits 97 = .ok (.goto (-22), 3) := by decide +kernel
theorem dX12_splits_100 : decode cX12_splits 100 = .ok (.aload_n 0, 1) := by decide +kernel
theorem dX12_splits_101 : decode cX12_splits 101 = .ok (.getfield 49, 3) := by decide +kernel
theorem dX12_splits_104 : decode cX12_splits 104 = .ok (.aload_n 0, 1) := by decide +kernel
theorem dX12_splits_105 : decode cX12_splits 105 = .ok (.getfield 145, 3) := by decide +kernel
theorem dX12_splits_108 : decode cX12_splits 108 = .ok (.iload_n 2, 1) := by decide +kernel
theorem dX12_splits_109 : decode cX12_splits 109 = .ok (.iastore, 1) := by decide +kernel
theorem dX12_splits_110 : decode cX12_splits 110 = .ok (.aload_n 0, 1) := by decide +kernel
theorem dX12_splits_111 : decode cX12_splits 111 = .ok (.getfield 46, 3) := by decide +kernel
theorem dX12_splits_114 : decode cX12_splits 114 = .ok (.aload_n 0, 1) := by decide +kernel
theorem dX12_splits_115 : decode cX12_splits 115 = .ok (.getfield 145, 3) := by decide +kernel
theorem dX12_splits_118 : decode cX12_splits 118 = .ok (.iconst 0, 1) := by decide +kernel
theorem dX12_splits_119 : decode cX12_splits 119 = .ok (.iastore, 1) := by decide +kernel
theorem dX12_splits_120 : decode cX12_splits 120 = .ok (.aload_n 0, 1) := by decide +kernel
theorem dX12_splits_121 : decode cX12_splits 121 = .ok (.getfield 43, 3) := by decide +kernel
theorem dX12_splits_124 : decode cX12_splits 124 = .ok (.aload_n 0, 1) := by decide +kernel
theorem dX12_splits_125 : decode cX12_splits 125 = .ok (.getfield 145, 3) := by decide +kernel
theorem dX12_splits_128 : decode cX12_splits 128 = .ok (.iload_n 3, 1) := by decide +kernel
theorem dX12_splits_129 : decode cX12_splits 129 = .ok (.invokestatic 148, 3) := by decide +kernel
theorem dX12_splits_132 : decode cX12_splits 132 = .ok (.ifCond .eq 13, 3) := by decide +kernel
theorem dX12_splits_135 : decode cX12_splits 135 = .ok (.aload_n 0, 1) := by decide +kernel
theorem dX12_splits_136 : decode cX12_splits 136 = .ok (.iload_n 2, 1) := by decide +kernel
theorem dX12_splits_137 : decode cX12_splits 137 = .ok (.iload 4, 2) := by decide +kernel
theorem dX12_splits_139 : decode cX12_splits 139 = .ok (.invokevirtual 154, 3) := by decide +kernel
theorem dX12_splits_142 : decode cX12_splits 142 = .ok (.goto 23, 3) := by decide +kernel
theorem dX12_splits_145 : decode cX12_splits 145 = .ok (.iload_n 3, 1) := by decide +kernel
theorem dX12_splits_146 : decode cX12_splits 146 = .ok (.invokestatic 151, 3) := by decide +kernel
theorem dX12_splits_149 : decode cX12_splits 149 = .ok (.ifCond .eq 8, 3) := by decide +kernel
theorem dX12_splits_152 : decode cX12_splits 152 = .ok (.bipush 50, 2) := by decide +kernel
theorem dX12_splits_154 : decode cX12_splits 154 = .ok (.goto 11, 3) := by decide +kernel
theorem dX12_splits_157 : decode cX12_splits 157 = .ok (.bipush 100, 2) := by decide +kernel
theorem dX12_splits_159 : decode cX12_splits 159 = .ok (.iload_n 3, 1) := by decide +kernel
theorem dX12_splits_160 : decode cX12_splits 160 = .ok (.sipush 255, 3) := by decide +kernel
theorem dX12_splits_163 : decode cX12_splits 163 = .ok (.iand, 1) := by decide +kernel
theorem dX12_splits_164 : decode cX12_splits 164 = .ok (.iadd, 1) := by decide +kernel
theorem dX12_splits_165 : decode cX12_splits 165 = .ok (.iastore, 1) := by decide +kernel
theorem dX12_splits_166 : decode cX12_splits 166 = .ok (.iload_n 2, 1) := by decide +kernel
theorem dX12_splits_167 : decode cX12_splits 167 = .ok (.istore 5, 2) := by decide +kernel
theorem dX12_splits_169 : decode cX12_splits 169 = .ok (.iload 5, 2) := by decide +kernel
theorem dX12_splits_171 : decode cX12_splits 171 = .ok (.iload 4, 2) := by decide +kernel
theorem dX12_splits_173 : decode cX12_splits 173 = .ok (.if_icmp .ge 74, 3) := by decide +kernel
theorem dX12_splits_176 : decode cX12_splits 176 = .ok (.iload_n 3, 1) := by decide +kernel
theorem dX12_splits_177 : decode cX12_splits 177 = .ok (.invokestatic 151, 3) := by decide +kernel
theorem dX12_splits_180 : decode cX12_splits 180 = .ok (.ifCond .eq 67, 3) := by decide +kernel
theorem dX12_splits_183 : decode cX12_splits 183 = .ok (.aload_n 0, 1) := by decide +kernel
theorem dX12_splits_184 : decode cX12_splits 184 = .ok (.getfield 46, 3) := by decide +kernel
theorem dX12_splits_187 : decode cX12_splits 187 = .ok (.aload_n 0, 1) := by decide +kernel
theorem dX12_splits_188 : decode cX12_splits 188 = .ok (.getfield 145, 3) := by decide +kernel
theorem dX12_splits_191 : decode cX12_splits 191 = .ok (.aload_n 0, 1) := by decide +kernel
theorem dX12_splits_192 : decode cX12_splits 192 = .ok (.getfield 46, 3) := by decide +kernel
theorem dX12_splits_195 : decode cX12_splits 195 = .ok (.aload_n 0, 1) := by decide +kernel
theorem dX12_splits_196 : decode cX12_splits 196 = .ok (.getfield 145, 3) := by decide +kernel
theorem dX12_splits_199 : decode cX12_splits 199 = .ok (.iaload, 1) := by decide +kernel
theorem dX12_splits_200 : decode cX12_splits 200 = .ok (.ldc 157, 2) := by decide +kernel
theorem dX12_splits_202 : decode cX12_splits 202 = .ok (.if_icmp .le 15, 3) := by decide +kernel
theorem dX12_splits_205 : decode cX12_splits 205 = .ok (.aload_n 0, 1) := by decide +kernel
theorem dX12_splits_206 : decode cX12_splits 206 = .ok (.getfield 46, 3) := by decide +kernel
theorem dX12_splits_209 : decode cX12_splits 209 = .ok (.aload_n 0, 1) := by decide +kernel
theorem dX12_splits_210 : decode cX12_splits 210 = .ok (.getfield 145, 3) := by decide +kernel
theorem dX12_splits_213 : decode cX12_splits 213 = .ok (.iaload, 1) := by decide +kernel
theorem dX12_splits_214 : decode cX12_splits 214 = .ok (.goto 26, 3) := by decide +kernel
theorem dX12_splits_217 : decode cX12_splits 217 = .ok (.bipush 10, 2) := by decide +kernel
theorem dX12_splits_219 : decode cX12_splits 219 = .ok (.aload_n 0, 1) := by decide +kernel
theorem dX12_splits_220 : decode cX12_splits 220 = .ok (.getfield 46, 3) := by decide +kernel
theorem dX12_splits_223 : decode cX12_splits 223 = .ok (.aload_n 0, 1) := by decide +kernel
theorem dX12_splits_224 : decode cX12_splits 224 = .ok (.getfield 145, 3) := by decide +kernel
theorem dX12_splits_227 : decode cX12_splits 227 = .ok (.iaload, 1) := by decide +kernel
theorem dX12_splits_228 : decode cX12_splits 228 = .ok (.imul, 1) := by decide +kernel
theorem dX12_splits_229 : decode cX12_splits 229 = .ok (.aload_n 0, 1) := by decide +kernel
theorem dX12_splits_230 : decode cX12_splits 230 = .ok (.getfield 34, 3) := by decide +kernel
theorem dX12_splits_233 : decode cX12_splits 233 = .ok (.iload 5, 2) := by decide +kernel
theorem dX12_splits_235 : decode cX12_splits 235 = .ok (.baload, 1) := by decide +kernel
theorem dX12_splits_236 : decode cX12_splits 236 = .ok (.iadd, 1) := by decide +kernel
theorem dX12_splits_237 : decode cX12_splits 237 = .ok (.bipush 48, 2) := by decide +kernel
theorem dX12_splits_239 : decode cX12_splits 239 = .ok (.isub, 1) := by decide +kernel
theorem dX12_splits_240 : decode cX12_splits 240 = .ok (.iastore, 1) := by decide +kernel
theorem dX12_splits_241 : decode cX12_splits 241 = .ok (.iinc 5 1, 3) := by decide +kernel
theorem dX12_splits_244 : decode cX12_splits 244 = .ok (.goto (-75), 3) := by decide +kernel
theorem dX12_splits_247 : decode cX12_splits 247 = .ok (.aload_n 0, 1) := by decide +kernel
theorem dX12_splits_248 : decode cX12_splits 248 = .ok (.dup, 1) := by decide +kernel
theorem dX12_splits_249 : decode cX12_splits 249 = .ok (.getfield 145, 3) := by decide +kernel
theorem dX12_splits_252 : decode cX12_splits 252 = .ok (.iconst 1, 1) := by decide +kernel
theorem dX12_splits_253 : decode cX12_splits 253 = .ok (.iadd, 1) := by decide +kernel
theorem dX12_splits_254 : decode cX12_splits 254 = .ok (.putfield 145, 3) := by decide +kernel
theorem dX12_splits_257 : decode cX12_splits 257 = .ok (.iload 4, 2) := by decide +kernel
theorem dX12_splits_259 : decode cX12_splits 259 = .ok (.istore_n 2, 1) := by decide +kernel
theorem dX12_splits_260 : decode cX12_splits 260 = .ok (.goto (-253), 3) := by decide +kernel
theorem dX12_splits_263 : decode cX12_splits 263 = .ok (.aload_n 0, 1) := by decide +kernel
theorem dX12_splits_264 : decode cX12_splits 264 = .ok (.getfield 49, 3) := by decide +kernel
theorem dX12_splits_267 : decode cX12_splits 267 = .ok (.aload_n 0, 1) := by decide +kernel
theorem dX12_splits_268 : decode cX12_splits 268 = .ok (.getfield 145, 3) := by decide +kernel
theorem dX12_splits_271 : decode cX12_splits 271 = .ok (.iload_n 1, 1) := by decide +kernel
theorem dX12_splits_272 : decode cX12_splits 272 = .ok (.iastore, 1) := by decide +kernel
theorem dX12_splits_273 : decode cX12_splits 273 = .ok (.aload_n 0, 1) := by decide +kernel
theorem dX12_splits_274 : decode cX12_splits 274 = .ok (.getfield 43, 3) := by decide +kernel
theorem dX12_splits_277 : decode cX12_splits 277 = .ok (.aload_n 0, 1) := by decide +kernel
theorem dX12_splits_278 : decode cX12_splits 278 = .ok (.getfield 145, 3) := by decide +kernel
theorem dX12_splits_281 : decode cX12_splits 281 = .ok (.iconst 0, 1) := by decide +kernel
theorem dX12_splits_282 : decode cX12_splits 282 = .ok (.iastore, 1) := by decide +kernel
theorem dX12_splits_283 : decode cX12_splits 283 = .ok (.aload_n 0, 1) := by decide +kernel
theorem dX12_splits_284 : decode cX12_splits 284 = .ok (.getfield 46, 3) := by decide +kernel
theorem dX12_splits_287 : decode cX12_splits 287 = .ok (.aload_n 0, 1) := by decide +kernel
theorem dX12_splits_288 : decode cX12_splits 288 = .ok (.getfield 145, 3) := by decide +kernel
theorem dX12_splits_291 : decode cX12_splits 291 = .ok (.iconst 0, 1) := by decide +kernel
theorem dX12_splits_292 : decode cX12_splits 292 = .ok (.iastore, 1) := by decide +kernel
theorem dX12_splits_293 : decode cX12_splits 293 = .ok (.return_, 1) := by decide +kernel
theorem dX12_fine_0 : decode cX12_fine 0 = .ok (.aload_n 0, 1) := by decide +kernel
theorem dX12_fine_1 : decode cX12_fine 1 = .ok (.getfield 158, 3) := by decide +kernel
theorem dX12_fine_4 : decode cX12_fine 4 = .ok (.iconst (-1), 1) := by decide +kernel
theorem dX12_fine_5 : decode cX12_fine 5 = .ok (.if_icmp .ne 7, 3) := by decide +kernel
theorem dX12_fine_8 : decode cX12_fine 8 = .ok (.iconst 1, 1) := by decide +kernel
theorem dX12_fine_9 : decode cX12_fine 9 = .ok (.goto 4, 3) := by decide +kernel
theorem dX12_fine_12 : decode cX12_fine 12 = .ok (.iconst 0, 1) := by decide +kernel
theorem dX12_fine_13 : decode cX12_fine 13 = .ok (.ireturn, 1) := by decide +kernel
theorem dX12_faults_0 : decode cX12_faults 0 = .ok (.aload_n 0, 1) := by decide +kernel
theorem dX12_faults_1 : decode cX12_faults 1 = .ok (.invokevirtual 161, 3) := by decide +kernel
theorem dX12_faults_4 : decode cX12_faults 4 = .ok (.ifCond .eq 16, 3) := by decide +kernel
theorem dX12_faults_7 : decode cX12_faults 7 = .ok (.aload_n 0, 1) := by decide +kernel
theorem dX12_faults_8 : decode cX12_faults 8 = .ok (.aload_n 0, 1) := by decide +kernel
theorem dX12_faults_9 : decode cX12_faults 9 = .ok (.getfield 49, 3) := by decide +kernel
theorem dX12_faults_12 : decode cX12_faults 12 = .ok (.aload_n 0, 1) := by decide +kernel
theorem dX12_faults_13 : decode cX12_faults 13 = .ok (.getfield 165, 3) := by decide +kernel
theorem dX12_faults_16 : decode cX12_faults 16 = .ok (.iaload, 1) := by decide +kernel
theorem dX12_faults_17 : decode cX12_faults 17 = .ok (.putfield 158, 3) := by decide +kernel
theorem dX12_faults_20 : decode cX12_faults 20 = .ok (.return_, 1) := by decide +kernel
theorem dX12_takes0_0 : decode cX12_takes0 0 = .ok (.aload_n 0, 1) := by decide +kernel
theorem dX12_takes0_1 : decode cX12_takes0 1 = .ok (.invokevirtual 161, 3) := by decide +kernel
theorem dX12_takes0_4 : decode cX12_takes0 4 = .ok (.ifCond .eq 20, 3) := by decide +kernel
theorem dX12_takes0_7 : decode cX12_takes0 7 = .ok (.aload_n 0, 1) := by decide +kernel
theorem dX12_takes0_8 : decode cX12_takes0 8 = .ok (.getfield 43, 3) := by decide +kernel
theorem dX12_takes0_11 : decode cX12_takes0 11 = .ok (.aload_n 0, 1) := by decide +kernel
theorem dX12_takes0_12 : decode cX12_takes0 12 = .ok (.getfield 165, 3) := by decide +kernel
theorem dX12_takes0_15 : decode cX12_takes0 15 = .ok (.iaload, 1) := by decide +kernel
theorem dX12_takes0_16 : decode cX12_takes0 16 = .ok (.iload_n 1, 1) := by decide +kernel
theorem dX12_takes0_17 : decode cX12_takes0 17 = .ok (.if_icmp .ne 7, 3) := by decide +kernel
theorem dX12_takes0_20 : decode cX12_takes0 20 = .ok (.iconst 1, 1) := by decide +kernel
theorem dX12_takes0_21 : decode cX12_takes0 21 = .ok (.goto 4, 3) := by decide +kernel
theorem dX12_takes0_24 : decode cX12_takes0 24 = .ok (.iconst 0, 1) := by decide +kernel
theorem dX12_takes0_25 : decode cX12_takes0 25 = .ok (.istore_n 2, 1) := by decide +kernel
theorem dX12_takes0_26 : decode cX12_takes0 26 = .ok (.iload_n 2, 1) := by decide +kernel
theorem dX12_takes0_27 : decode cX12_takes0 27 = .ok (.ifCond .eq 13, 3) := by decide +kernel
theorem dX12_takes0_30 : decode cX12_takes0 30 = .ok (.aload_n 0, 1) := by decide +kernel
theorem dX12_takes0_31 : decode cX12_takes0 31 = .ok (.dup, 1) := by decide +kernel
theorem dX12_takes0_32 : decode cX12_takes0 32 = .ok (.getfield 165, 3) := by decide +kernel
theorem dX12_takes0_35 : decode cX12_takes0 35 = .ok (.iconst 1, 1) := by decide +kernel
theorem dX12_takes0_36 : decode cX12_takes0 36 = .ok (.iadd, 1) := by decide +kernel
theorem dX12_takes0_37 : decode cX12_takes0 37 = .ok (.putfield 165, 3) := by decide +kernel
theorem dX12_takes0_40 : decode cX12_takes0 40 = .ok (.iload_n 2, 1) := by decide +kernel
theorem dX12_takes0_41 : decode cX12_takes0 41 = .ok (.ireturn, 1) := by decide +kernel
theorem dX12_must_0 : decode cX12_must 0 = .ok (.aload_n 0, 1) := by decide +kernel
theorem dX12_must_1 : decode cX12_must 1 = .ok (.iload_n 1, 1) := by decide +kernel
theorem dX12_must_2 : decode cX12_must 2 = .ok (.invokevirtual 168, 3) := by decide +kernel
theorem dX12_must_5 : decode cX12_must 5 = .ok (.ifCond .ne 7, 3) := by decide +kernel
theorem dX12_must_8 : decode cX12_must 8 = .ok (.aload_n 0, 1) := by decide +kernel
theorem dX12_must_9 : decode cX12_must 9 = .ok (.invokevirtual 171, 3) := by decide +kernel
theorem dX12_must_12 : decode cX12_must 12 = .ok (.return_, 1) := by decide +kernel
theorem dX12_leaf_0 : decode cX12_leaf 0 = .ok (.aload_n 0, 1) := by decide +kernel
theorem dX12_leaf_1 : decode cX12_leaf 1 = .ok (.getfield 174, 3) := by decide +kernel
theorem dX12_leaf_4 : decode cX12_leaf 4 = .ok (.bipush 50, 2) := by decide +kernel
theorem dX12_leaf_6 : decode cX12_leaf 6 = .ok (.if_icmp .ne 7, 3) := by decide +kernel
theorem dX12_leaf_9 : decode cX12_leaf 9 = .ok (.aload_n 0, 1) := by decide +kernel
theorem dX12_leaf_10 : decode cX12_leaf 10 = .ok (.invokevirtual 171, 3) := by decide +kernel
theorem dX12_leaf_13 : decode cX12_leaf 13 = .ok (.aload_n 0, 1) := by decide +kernel
theorem dX12_leaf_14 : decode cX12_leaf 14 = .ok (.dup, 1) := by decide +kernel
theorem dX12_leaf_15 : decode cX12_leaf 15 = .ok (.getfield 174, 3) := by decide +kernel
theorem dX12_leaf_18 : decode cX12_leaf 18 = .ok (.iconst 1, 1) := by decide +kernel
theorem dX12_leaf_19 : decode cX12_leaf 19 = .ok (.iadd, 1) := by decide +kernel
theorem dX12_leaf_20 : decode cX12_leaf 20 = .ok (.putfield 174, 3) := by decide +kernel
theorem dX12_leaf_23 : decode cX12_leaf 23 = .ok (.aload_n 0, 1) := by decide +kernel
theorem dX12_leaf_24 : decode cX12_leaf 24 = .ok (.invokevirtual 161, 3) := by decide +kernel
theorem dX12_leaf_27 : decode cX12_leaf 27 = .ok (.ifCond .eq 13, 3) := by decide +kernel
theorem dX12_leaf_30 : decode cX12_leaf 30 = .ok (.aload_n 0, 1) := by decide +kernel
theorem dX12_leaf_31 : decode cX12_leaf 31 = .ok (.dup, 1) := by decide +kernel
theorem dX12_leaf_32 : decode cX12_leaf 32 = .ok (.getfield 165, 3) := by decide +kernel
theorem dX12_leaf_35 : decode cX12_leaf 35 = .ok (.iconst 1, 1) := by decide +kernel
theorem dX12_leaf_36 : decode cX12_leaf 36 = .ok (.iadd, 1) := by decide +kernel
theorem dX12_leaf_37 : decode cX12_leaf 37 = .ok (.putfield 165, 3) := by decide +kernel
theorem dX12_leaf_40 : decode cX12_leaf 40 = .ok (.return_, 1) := by decide +kernel
theorem dX12_sign_0 : decode cX12_sign 0 = .ok (.bipush 100, 2) := by decide +kernel
theorem dX12_sign_2 : decode cX12_sign 2 = .ok (.iload_n 0, 1) := by decide +kernel
theorem dX12_sign_3 : decode cX12_sign 3 = .ok (.iadd, 1) := by decide +kernel
theorem dX12_sign_4 : decode cX12_sign 4 = .ok (.ireturn, 1) := by decide +kernel
theorem dX12_readClause_0 : decode cX12_readClause 0 = .ok (.aload_n 0, 1) := by decide +kernel
theorem dX12_readClause_1 : decode cX12_readClause 1 = .ok (.iconst 1, 1) := by decide +kernel
theorem dX12_readClause_2 : decode cX12_readClause 2 = .ok (.invokevirtual 168, 3) := by decide +kernel
theorem dX12_readClause_5 : decode cX12_readClause 5 = .ok (.ifCond .ne 8, 3) := by decide +kernel
theorem dX12_readClause_8 : decode cX12_readClause 8 = .ok (.aload_n 0, 1) := by decide +kernel
theorem dX12_readClause_9 : decode cX12_readClause 9 = .ok (.iconst 2, 1) := by decide +kernel
theorem dX12_readClause_10 : decode cX12_readClause 10 = .ok (.invokevirtual 177, 3) := by decide +kernel
theorem dX12_readClause_13 : decode cX12_readClause 13 = .ok (.aload_n 0, 1) := by decide +kernel
theorem dX12_readClause_14 : decode cX12_readClause 14 = .ok (.iconst 0, 1) := by decide +kernel
theorem dX12_readClause_15 : decode cX12_readClause 15 = .ok (.invokevirtual 181, 3) := by decide +kernel
theorem dX12_readClause_18 : decode cX12_readClause 18 = .ok (.aload_n 0, 1) := by decide +kernel
theorem dX12_readClause_19 : decode cX12_readClause 19 = .ok (.iconst 3, 1) := by decide +kernel
theorem dX12_readClause_20 : decode cX12_readClause 20 = .ok (.invokevirtual 168, 3) := by decide +kernel
theorem dX12_readClause_23 : decode cX12_readClause 23 = .ok (.ifCond .eq 8, 3) := by decide +kernel
theorem dX12_readClause_26 : decode cX12_readClause 26 = .ok (.aload_n 0, 1) := by decide +kernel
theorem dX12_readClause_27 : decode cX12_readClause 27 = .ok (.iconst 0, 1) := by decide +kernel
theorem dX12_readClause_28 : decode cX12_readClause 28 = .ok (.invokevirtual 184, 3) := by decide +kernel
theorem dX12_readClause_31 : decode cX12_readClause 31 = .ok (.return_, 1) := by decide +kernel
theorem dX12_readTest_0 : decode cX12_readTest 0 = .ok (.aload_n 0, 1) := by decide +kernel
theorem dX12_readTest_1 : decode cX12_readTest 1 = .ok (.iload_n 1, 1) := by decide +kernel
theorem dX12_readTest_2 : decode cX12_readTest 2 = .ok (.invokevirtual 187, 3) := by decide +kernel
theorem dX12_readTest_5 : decode cX12_readTest 5 = .ok (.aload_n 0, 1) := by decide +kernel
theorem dX12_readTest_6 : decode cX12_readTest 6 = .ok (.iconst 4, 1) := by decide +kernel
theorem dX12_readTest_7 : decode cX12_readTest 7 = .ok (.invokevirtual 168, 3) := by decide +kernel
theorem dX12_readTest_10 : decode cX12_readTest 10 = .ok (.ifCond .eq 11, 3) := by decide +kernel
theorem dX12_readTest_13 : decode cX12_readTest 13 = .ok (.aload_n 0, 1) := by decide +kernel
theorem dX12_readTest_14 : decode cX12_readTest 14 = .ok (.iload_n 1, 1) := by decide +kernel
theorem dX12_readTest_15 : decode cX12_readTest 15 = .ok (.invokevirtual 187, 3) := by decide +kernel
theorem dX12_readTest_18 : decode cX12_readTest 18 = .ok (.goto (-13), 3) := by decide +kernel
theorem dX12_readTest_21 : decode cX12_readTest 21 = .ok (.return_, 1) := by decide +kernel
theorem dX12_readBoth_0 : decode cX12_readBoth 0 = .ok (.aload_n 0, 1) := by decide +kernel
theorem dX12_readBoth_1 : decode cX12_readBoth 1 = .ok (.iload_n 1, 1) := by decide +kernel
theorem dX12_readBoth_2 : decode cX12_readBoth 2 = .ok (.invokevirtual 190, 3) := by decide +kernel
theorem dX12_readBoth_5 : decode cX12_readBoth 5 = .ok (.aload_n 0, 1) := by decide +kernel
theorem dX12_readBoth_6 : decode cX12_readBoth 6 = .ok (.iconst 5, 1) := by decide +kernel
theorem dX12_readBoth_7 : decode cX12_readBoth 7 = .ok (.invokevirtual 168, 3) := by decide +kernel
theorem dX12_readBoth_10 : decode cX12_readBoth 10 = .ok (.ifCond .eq 11, 3) := by decide +kernel
theorem dX12_readBoth_13 : decode cX12_readBoth 13 = .ok (.aload_n 0, 1) := by decide +kernel
theorem dX12_readBoth_14 : decode cX12_readBoth 14 = .ok (.iload_n 1, 1) := by decide +kernel
theorem dX12_readBoth_15 : decode cX12_readBoth 15 = .ok (.invokevirtual 190, 3) := by decide +kernel
theorem dX12_readBoth_18 : decode cX12_readBoth 18 = .ok (.goto (-13), 3) := by decide +kernel
theorem dX12_readBoth_21 : decode cX12_readBoth 21 = .ok (.return_, 1) := by decide +kernel
theorem dX12_readPlain_0 : decode cX12_readPlain 0 = .ok (.iconst 1, 1) := by decide +kernel
theorem dX12_readPlain_1 : decode cX12_readPlain 1 = .ok (.istore_n 2, 1) := by decide +kernel
theorem dX12_readPlain_2 : decode cX12_readPlain 2 = .ok (.iload_n 2, 1) := by decide +kernel
theorem dX12_readPlain_3 : decode cX12_readPlain 3 = .ok (.ifCond .eq 13, 3) := by decide +kernel
theorem dX12_readPlain_6 : decode cX12_readPlain 6 = .ok (.aload_n 0, 1) := by decide +kernel
theorem dX12_readPlain_7 : decode cX12_readPlain 7 = .ok (.bipush 6, 2) := by decide +kernel
theorem dX12_readPlain_9 : decode cX12_readPlain 9 = .ok (.invokevirtual 168, 3) := by decide +kernel
theorem dX12_readPlain_12 : decode cX12_readPlain 12 = .ok (.istore_n 2, 1) := by decide +kernel
theorem dX12_readPlain_13 : decode cX12_readPlain 13 = .ok (.goto (-11), 3) := by decide +kernel
theorem dX12_readPlain_16 : decode cX12_readPlain 16 = .ok (.aload_n 0, 1) := by decide +kernel
theorem dX12_readPlain_17 : decode cX12_readPlain 17 = .ok (.invokevirtual 161, 3) := by decide +kernel
theorem dX12_readPlain_20 : decode cX12_readPlain 20 = .ok (.ifCond .ne 4, 3) := by decide +kernel
theorem dX12_readPlain_23 : decode cX12_readPlain 23 = .ok (.return_, 1) := by decide +kernel
theorem dX12_readPlain_24 : decode cX12_readPlain 24 = .ok (.aload_n 0, 1) := by decide +kernel
theorem dX12_readPlain_25 : decode cX12_readPlain 25 = .ok (.getfield 43, 3) := by decide +kernel
theorem dX12_readPlain_28 : decode cX12_readPlain 28 = .ok (.aload_n 0, 1) := by decide +kernel
theorem dX12_readPlain_29 : decode cX12_readPlain 29 = .ok (.getfield 165, 3) := by decide +kernel
theorem dX12_readPlain_32 : decode cX12_readPlain 32 = .ok (.iaload, 1) := by decide +kernel
theorem dX12_readPlain_33 : decode cX12_readPlain 33 = .ok (.istore_n 3, 1) := by decide +kernel
theorem dX12_readPlain_34 : decode cX12_readPlain 34 = .ok (.iload_n 3, 1) := by decide +kernel
theorem dX12_readPlain_35 : decode cX12_readPlain 35 = .ok (.bipush 40, 2) := by decide +kernel
theorem dX12_readPlain_37 : decode cX12_readPlain 37 = .ok (.invokestatic 193, 3) := by decide +kernel
theorem dX12_readPlain_40 : decode cX12_readPlain 40 = .ok (.if_icmp .ne 50, 3) := by decide +kernel
theorem dX12_readPlain_43 : decode cX12_readPlain 43 = .ok (.iload_n 1, 1) := by decide +kernel
theorem dX12_readPlain_44 : decode cX12_readPlain 44 = .ok (.bipush 8, 2) := by decide +kernel
theorem dX12_readPlain_46 : decode cX12_readPlain 46 = .ok (.if_icmp .ne 7, 3) := by decide +kernel
theorem dX12_readPlain_49 : decode cX12_readPlain 49 = .ok (.aload_n 0, 1) := by decide +kernel
theorem dX12_readPlain_50 : decode cX12_readPlain 50 = .ok (.invokevirtual 171, 3) := by decide +kernel
theorem dX12_readPlain_53 : decode cX12_readPlain 53 = .ok (.aload_n 0, 1) := by decide +kernel
theorem dX12_readPlain_54 : decode cX12_readPlain 54 = .ok (.invokevirtual 161, 3) := by decide +kernel
theorem dX12_readPlain_57 : decode cX12_readPlain 57 = .ok (.ifCond .ne 4, 3) := by decide +kernel
theorem dX12_readPlain_60 : decode cX12_readPlain 60 = .ok (.return_, 1) := by decide +kernel
theorem dX12_readPlain_61 : decode cX12_readPlain 61 = .ok (.aload_n 0, 1) := by decide +kernel
theorem dX12_readPlain_62 : decode cX12_readPlain 62 = .ok (.dup, 1) := by decide +kernel
theorem dX12_readPlain_63 : decode cX12_readPlain 63 = .ok (.getfield 165, 3) := by decide +kernel
theorem dX12_readPlain_66 : decode cX12_readPlain 66 = .ok (.iconst 1, 1) := by decide +kernel
theorem dX12_readPlain_67 : decode cX12_readPlain 67 = .ok (.iadd, 1) := by decide +kernel
theorem dX12_readPlain_68 : decode cX12_readPlain 68 = .ok (.putfield 165, 3) := by decide +kernel
theorem dX12_readPlain_71 : decode cX12_readPlain 71 = .ok (.aload_n 0, 1) := by decide +kernel
theorem dX12_readPlain_72 : decode cX12_readPlain 72 = .ok (.iload_n 1, 1) := by decide +kernel
theorem dX12_readPlain_73 : decode cX12_readPlain 73 = .ok (.iconst 1, 1) := by decide +kernel
theorem dX12_readPlain_74 : decode cX12_readPlain 74 = .ok (.iadd, 1) := by decide +kernel
theorem dX12_readPlain_75 : decode cX12_readPlain 75 = .ok (.invokevirtual 184, 3) := by decide +kernel
theorem dX12_readPlain_78 : decode cX12_readPlain 78 = .ok (.aload_n 0, 1) := by decide +kernel
