theorem dX11_init_0 : decode cX11_init 0 = .ok (.aload_n 0, 1) := by decide +kernel
theorem dX11_init_1 : decode cX11_init 1 = .ok (.invokespecial 1, 3) := by decide +kernel
theorem dX11_init_4 : decode cX11_init 4 = .ok (.aload_n 0, 1) := by decide +kernel
theorem dX11_init_5 : decode cX11_init 5 = .ok (.new 7, 3) := by decide +kernel
theorem dX11_init_8 : decode cX11_init 8 = .ok (.dup, 1) := by decide +kernel
theorem dX11_init_9 : decode cX11_init 9 = .ok (.invokespecial 9, 3) := by decide +kernel
theorem dX11_init_12 : decode cX11_init 12 = .ok (.putfield 10, 3) := by decide +kernel
theorem dX11_init_15 : decode cX11_init 15 = .ok (.aload_n 0, 1) := by decide +kernel
theorem dX11_init_16 : decode cX11_init 16 = .ok (.iconst 2, 1) := by decide +kernel
theorem dX11_init_17 : decode cX11_init 17 = .ok (.anewarray 7, 3) := by decide +kernel
theorem dX11_init_20 : decode cX11_init 20 = .ok (.dup, 1) := by decide +kernel
theorem dX11_init_21 : decode cX11_init 21 = .ok (.iconst 0, 1) := by decide +kernel
theorem dX11_init_22 : decode cX11_init 22 = .ok (.new 7, 3) := by decide +kernel
theorem dX11_init_25 : decode cX11_init 25 = .ok (.dup, 1) := by decide +kernel
theorem dX11_init_26 : decode cX11_init 26 = .ok (.invokespecial 9, 3) := by decide +kernel
theorem dX11_init_29 : decode cX11_init 29 = .ok (.aastore, 1) := by decide +kernel
theorem dX11_init_30 : decode cX11_init 30 = .ok (.dup, 1) := by decide +kernel
theorem dX11_init_31 : decode cX11_init 31 = .ok (.iconst 1, 1) := by decide +kernel
theorem dX11_init_32 : decode cX11_init 32 = .ok (.new 7, 3) := by decide +kernel
theorem dX11_init_35 : decode cX11_init 35 = .ok (.dup, 1) := by decide +kernel
theorem dX11_init_36 : decode cX11_init 36 = .ok (.invokespecial 9, 3) := by decide +kernel
theorem dX11_init_39 : decode cX11_init 39 = .ok (.aastore, 1) := by decide +kernel
theorem dX11_init_40 : decode cX11_init 40 = .ok (.putfield 16, 3) := by decide +kernel
theorem dX11_init_43 : decode cX11_init 43 = .ok (.aload_n 0, 1) := by decide +kernel
theorem dX11_init_44 : decode cX11_init 44 = .ok (.iconst 2, 1) := by decide +kernel
theorem dX11_init_45 : decode cX11_init 45 = .ok (.newarray .boolean, 2) := by decide +kernel
theorem dX11_init_47 : decode cX11_init 47 = .ok (.putfield 20, 3) := by decide +kernel
theorem dX11_init_50 : decode cX11_init 50 = .ok (.aload_n 0, 1) := by decide +kernel
theorem dX11_init_51 : decode cX11_init 51 = .ok (.new 24, 3) := by decide +kernel
theorem dX11_init_54 : decode cX11_init 54 = .ok (.dup, 1) := by decide +kernel
theorem dX11_init_55 : decode cX11_init 55 = .ok (.invokespecial 26, 3) := by decide +kernel
theorem dX11_init_58 : decode cX11_init 58 = .ok (.putfield 27, 3) := by decide +kernel
theorem dX11_init_61 : decode cX11_init 61 = .ok (.aload_n 0, 1) := by decide +kernel
theorem dX11_init_62 : decode cX11_init 62 = .ok (.new 31, 3) := by decide +kernel
theorem dX11_init_65 : decode cX11_init 65 = .ok (.dup, 1) := by decide +kernel
theorem dX11_init_66 : decode cX11_init 66 = .ok (.aload_n 0, 1) := by decide +kernel
theorem dX11_init_67 : decode cX11_init 67 = .ok (.getfield 27, 3) := by decide +kernel
theorem dX11_init_70 : decode cX11_init 70 = .ok (.invokespecial 33, 3) := by decide +kernel
theorem dX11_init_73 : decode cX11_init 73 = .ok (.putfield 36, 3) := by decide +kernel
theorem dX11_init_76 : decode cX11_init 76 = .ok (.aload_n 0, 1) := by decide +kernel
theorem dX11_init_77 : decode cX11_init 77 = .ok (.new 40, 3) := by decide +kernel
theorem dX11_init_80 : decode cX11_init 80 = .ok (.dup, 1) := by decide +kernel
theorem dX11_init_81 : decode cX11_init 81 = .ok (.aload_n 0, 1) := by decide +kernel
theorem dX11_init_82 : decode cX11_init 82 = .ok (.getfield 10, 3) := by decide +kernel
theorem dX11_init_85 : decode cX11_init 85 = .ok (.invokespecial 42, 3) := by decide +kernel
theorem dX11_init_88 : decode cX11_init 88 = .ok (.putfield 45, 3) := by decide +kernel
theorem dX11_init_91 : decode cX11_init 91 = .ok (.aload_n 0, 1) := by decide +kernel
theorem dX11_init_92 : decode cX11_init 92 = .ok (.new 49, 3) := by decide +kernel
theorem dX11_init_95 : decode cX11_init 95 = .ok (.dup, 1) := by decide +kernel
theorem dX11_init_96 : decode cX11_init 96 = .ok (.aload_n 0, 1) := by decide +kernel
theorem dX11_init_97 : decode cX11_init 97 = .ok (.getfield 10, 3) := by decide +kernel
theorem dX11_init_100 : decode cX11_init 100 = .ok (.aload_n 0, 1) := by decide +kernel
theorem dX11_init_101 : decode cX11_init 101 = .ok (.getfield 45, 3) := by decide +kernel
theorem dX11_init_104 : decode cX11_init 104 = .ok (.invokespecial 51, 3) := by decide +kernel
theorem dX11_init_107 : decode cX11_init 107 = .ok (.putfield 54, 3) := by decide +kernel
theorem dX11_init_110 : decode cX11_init 110 = .ok (.aload_n 0, 1) := by decide +kernel
theorem dX11_init_111 : decode cX11_init 111 = .ok (.new 58, 3) := by decide +kernel
theorem dX11_init_114 : decode cX11_init 114 = .ok (.dup, 1) := by decide +kernel
theorem dX11_init_115 : decode cX11_init 115 = .ok (.aload_n 0, 1) := by decide +kernel
theorem dX11_init_116 : decode cX11_init 116 = .ok (.getfield 10, 3) := by decide +kernel
theorem dX11_init_119 : decode cX11_init 119 = .ok (.aload_n 0, 1) := by decide +kernel
theorem dX11_init_120 : decode cX11_init 120 = .ok (.getfield 45, 3) := by decide +kernel
theorem dX11_init_123 : decode cX11_init 123 = .ok (.invokespecial 60, 3) := by decide +kernel
theorem dX11_init_126 : decode cX11_init 126 = .ok (.putfield 61, 3) := by decide +kernel
theorem dX11_init_129 : decode cX11_init 129 = .ok (.aload_n 0, 1) := by decide +kernel
theorem dX11_init_130 : decode cX11_init 130 = .ok (.new 65, 3) := by decide +kernel
theorem dX11_init_133 : decode cX11_init 133 = .ok (.dup, 1) := by decide +kernel
theorem dX11_init_134 : decode cX11_init 134 = .ok (.aload_n 0, 1) := by decide +kernel
theorem dX11_init_135 : decode cX11_init 135 = .ok (.getfield 10, 3) := by decide +kernel
theorem dX11_init_138 : decode cX11_init 138 = .ok (.aload_n 0, 1) := by decide +kernel
theorem dX11_init_139 : decode cX11_init 139 = .ok (.getfield 45, 3) := by decide +kernel
theorem dX11_init_142 : decode cX11_init 142 = .ok (.invokespecial 67, 3) := by decide +kernel
theorem dX11_init_145 : decode cX11_init 145 = .ok (.putfield 68, 3) := by decide +kernel
theorem dX11_init_148 : decode cX11_init 148 = .ok (.aload_n 0, 1) := by decide +kernel
theorem dX11_init_149 : decode cX11_init 149 = .ok (.new 72, 3) := by decide +kernel
theorem dX11_init_152 : decode cX11_init 152 = .ok (.dup, 1) := by decide +kernel
theorem dX11_init_153 : decode cX11_init 153 = .ok (.aload_n 0, 1) := by decide +kernel
theorem dX11_init_154 : decode cX11_init 154 = .ok (.getfield 45, 3) := by decide +kernel
theorem dX11_init_157 : decode cX11_init 157 = .ok (.invokespecial 74, 3) := by decide +kernel
theorem dX11_init_160 : decode cX11_init 160 = .ok (.putfield 77, 3) := by decide +kernel
theorem dX11_init_163 : decode cX11_init 163 = .ok (.aload_n 0, 1) := by decide +kernel
theorem dX11_init_164 : decode cX11_init 164 = .ok (.new 81, 3) := by decide +kernel
theorem dX11_init_167 : decode cX11_init 167 = .ok (.dup, 1) := by decide +kernel
theorem dX11_init_168 : decode cX11_init 168 = .ok (.aload_n 0, 1) := by decide +kernel
theorem dX11_init_169 : decode cX11_init 169 = .ok (.getfield 10, 3) := by decide +kernel
theorem dX11_init_172 : decode cX11_init 172 = .ok (.aload_n 0, 1) := by decide +kernel
theorem dX11_init_173 : decode cX11_init 173 = .ok (.getfield 45, 3) := by decide +kernel
theorem dX11_init_176 : decode cX11_init 176 = .ok (.invokespecial 83, 3) := by decide +kernel
theorem dX11_init_179 : decode cX11_init 179 = .ok (.putfield 84, 3) := by decide +kernel
theorem dX11_init_182 : decode cX11_init 182 = .ok (.aload_n 0, 1) := by decide +kernel
theorem dX11_init_183 : decode cX11_init 183 = .ok (.iconst 4, 1) := by decide +kernel
theorem dX11_init_184 : decode cX11_init 184 = .ok (.newarray .int, 2) := by decide +kernel
theorem dX11_init_186 : decode cX11_init 186 = .ok (.putfield 88, 3) := by decide +kernel
theorem dX11_init_189 : decode cX11_init 189 = .ok (.aload_n 0, 1) := by decide +kernel
theorem dX11_init_190 : decode cX11_init 190 = .ok (.iconst 0, 1) := by decide +kernel
theorem dX11_init_191 : decode cX11_init 191 = .ok (.putfield 92, 3) := by decide +kernel
theorem dX11_init_194 : decode cX11_init 194 = .ok (.aload_n 0, 1) := by decide +kernel
theorem dX11_init_195 : decode cX11_init 195 = .ok (.iconst 0, 1) := by decide +kernel
theorem dX11_init_196 : decode cX11_init 196 = .ok (.putfield 96, 3) := by decide +kernel
theorem dX11_init_199 : decode cX11_init 199 = .ok (.aload_n 0, 1) := by decide +kernel
theorem dX11_init_200 : decode cX11_init 200 = .ok (.iconst (-1), 1) := by decide +kernel
theorem dX11_init_201 : decode cX11_init 201 = .ok (.putfield 99, 3) := by decide +kernel
theorem dX11_init_204 : decode cX11_init 204 = .ok (.return_, 1) := by decide +kernel
theorem dX11_sea_0 : decode cX11_sea 0 = .ok (.iload_n 1, 1) := by decide +kernel
theorem dX11_sea_1 : decode cX11_sea 1 = .ok (.iconst 0, 1) := by decide +kernel
theorem dX11_sea_2 : decode cX11_sea 2 = .ok (.iconst 1, 1) := by decide +kernel
theorem dX11_sea_3 : decode cX11_sea 3 = .ok (.invokestatic 102, 3) := by decide +kernel
theorem dX11_sea_6 : decode cX11_sea 6 = .ok (.ifCond .eq 29, 3) := by decide +kernel
theorem dX11_sea_9 : decode cX11_sea 9 = .ok (.iload_n 2, 1) := by decide +kernel
theorem dX11_sea_10 : decode cX11_sea 10 = .ok (.iconst 0, 1) := by decide +kernel
theorem dX11_sea_11 : decode cX11_sea 11 = .ok (.iconst 2, 1) := by decide +kernel
theorem dX11_sea_12 : decode cX11_sea 12 = .ok (.invokestatic 102, 3) := by decide +kernel
theorem dX11_sea_15 : decode cX11_sea 15 = .ok (.ifCond .eq 20, 3) := by decide +kernel
theorem dX11_sea_18 : decode cX11_sea 18 = .ok (.iload_n 3, 1) := by decide +kernel
theorem dX11_sea_19 : decode cX11_sea 19 = .ok (.getstatic 106, 3) := by decide +kernel
theorem dX11_sea_22 : decode cX11_sea 22 = .ok (.iload_n 2, 1) := by decide +kernel
theorem dX11_sea_23 : decode cX11_sea 23 = .ok (.iaload, 1) := by decide +kernel
theorem dX11_sea_24 : decode cX11_sea 24 = .ok (.getstatic 109, 3) := by decide +kernel
theorem dX11_sea_27 : decode cX11_sea 27 = .ok (.iload_n 2, 1) := by decide +kernel
theorem dX11_sea_28 : decode cX11_sea 28 = .ok (.iaload, 1) := by decide +kernel
theorem dX11_sea_29 : decode cX11_sea 29 = .ok (.invokestatic 102, 3) := by decide +kernel
theorem dX11_sea_32 : decode cX11_sea 32 = .ok (.ifCond .ne 9, 3) := by decide +kernel
theorem dX11_sea_35 : decode cX11_sea 35 = .ok (.aload_n 0, 1) := by decide +kernel
theorem dX11_sea_36 : decode cX11_sea 36 = .ok (.iconst (-1), 1) := by decide +kernel
theorem dX11_sea_37 : decode cX11_sea 37 = .ok (.invokevirtual 112, 3) := by decide +kernel
theorem dX11_sea_40 : decode cX11_sea 40 = .ok (.ireturn, 1) := by decide +kernel
theorem dX11_sea_41 : decode cX11_sea 41 = .ok (.iload_n 1, 1) := by decide +kernel
theorem dX11_sea_42 : decode cX11_sea 42 = .ok (.iconst 3, 1) := by decide +kernel
theorem dX11_sea_43 : decode cX11_sea 43 = .ok (.imul, 1) := by decide +kernel
theorem dX11_sea_44 : decode cX11_sea 44 = .ok (.iload_n 2, 1) := by decide +kernel
theorem dX11_sea_45 : decode cX11_sea 45 = .ok (.iadd, 1) := by decide +kernel
theorem dX11_sea_46 : decode cX11_sea 46 = .ok (.istore 4, 2) := by decide +kernel
theorem dX11_sea_48 : decode cX11_sea 48 = .ok (.aload_n 0, 1) := by decide +kernel
theorem dX11_sea_49 : decode cX11_sea 49 = .ok (.getfield 10, 3) := by decide +kernel
theorem dX11_sea_52 : decode cX11_sea 52 = .ok (.getfield 116, 3) := by decide +kernel
theorem dX11_sea_55 : decode cX11_sea 55 = .ok (.iload 4, 2) := by decide +kernel
theorem dX11_sea_57 : decode cX11_sea 57 = .ok (.iaload, 1) := by decide +kernel
theorem dX11_sea_58 : decode cX11_sea 58 = .ok (.istore 5, 2) := by decide +kernel
theorem dX11_sea_60 : decode cX11_sea 60 = .ok (.aload_n 0, 1) := by decide +kernel
theorem dX11_sea_61 : decode cX11_sea 61 = .ok (.getfield 10, 3) := by decide +kernel
theorem dX11_sea_64 : decode cX11_sea 64 = .ok (.getfield 116, 3) := by decide +kernel
theorem dX11_sea_67 : decode cX11_sea 67 = .ok (.iload 4, 2) := by decide +kernel
theorem dX11_sea_69 : decode cX11_sea 69 = .ok (.iload_n 3, 1) := by decide +kernel
theorem dX11_sea_70 : decode cX11_sea 70 = .ok (.iastore, 1) := by decide +kernel
theorem dX11_sea_71 : decode cX11_sea 71 = .ok (.aload_n 0, 1) := by decide +kernel
theorem dX11_sea_72 : decode cX11_sea 72 = .ok (.invokevirtual 119, 3) := by decide +kernel
theorem dX11_sea_75 : decode cX11_sea 75 = .ok (.aload_n 0, 1) := by decide +kernel
theorem dX11_sea_76 : decode cX11_sea 76 = .ok (.iload 5, 2) := by decide +kernel
theorem dX11_sea_78 : decode cX11_sea 78 = .ok (.invokevirtual 122, 3) := by decide +kernel
theorem dX11_sea_81 : decode cX11_sea 81 = .ok (.ireturn, 1) := by decide +kernel
theorem dX11_moon_0 : decode cX11_moon 0 = .ok (.iload_n 1, 1) := by decide +kernel
theorem dX11_moon_1 : decode cX11_moon 1 = .ok (.iconst 0, 1) := by decide +kernel
theorem dX11_moon_2 : decode cX11_moon 2 = .ok (.iconst 1, 1) := by decide +kernel
theorem dX11_moon_3 : decode cX11_moon 3 = .ok (.invokestatic 102, 3) := by decide +kernel
theorem dX11_moon_6 : decode cX11_moon 6 = .ok (.ifCond .eq 37, 3) := by decide +kernel
theorem dX11_moon_9 : decode cX11_moon 9 = .ok (.iload_n 2, 1) := by decide +kernel
theorem dX11_moon_10 : decode cX11_moon 10 = .ok (.invokestatic 125, 3) := by decide +kernel
theorem dX11_moon_13 : decode cX11_moon 13 = .ok (.ifCond .eq 30, 3) := by decide +kernel
theorem dX11_moon_16 : decode cX11_moon 16 = .ok (.iload_n 3, 1) := by decide +kernel
theorem dX11_moon_17 : decode cX11_moon 17 = .ok (.iconst 0, 1) := by decide +kernel
theorem dX11_moon_18 : decode cX11_moon 18 = .ok (.iconst 2, 1) := by decide +kernel
theorem dX11_moon_19 : decode cX11_moon 19 = .ok (.invokestatic 102, 3) := by decide +kernel
theorem dX11_moon_22 : decode cX11_moon 22 = .ok (.ifCond .eq 21, 3) := by decide +kernel
theorem dX11_moon_25 : decode cX11_moon 25 = .ok (.iload 4, 2) := by decide +kernel
theorem dX11_moon_27 : decode cX11_moon 27 = .ok (.getstatic 129, 3) := by decide +kernel
theorem dX11_moon_30 : decode cX11_moon 30 = .ok (.iload_n 3, 1) := by decide +kernel
theorem dX11_moon_31 : decode cX11_moon 31 = .ok (.iaload, 1) := by decide +kernel
theorem dX11_moon_32 : decode cX11_moon 32 = .ok (.getstatic 132, 3) := by decide +kernel
theorem dX11_moon_35 : decode cX11_moon 35 = .ok (.iload_n 3, 1) := by decide +kernel
theorem dX11_moon_36 : decode cX11_moon 36 = .ok (.iaload, 1) := by decide +kernel
theorem dX11_moon_37 : decode cX11_moon 37 = .ok (.invokestatic 102, 3) := by decide +kernel
theorem dX11_moon_40 : decode cX11_moon 40 = .ok (.ifCond .ne 9, 3) := by decide +kernel
theorem dX11_moon_43 : decode cX11_moon 43 = .ok (.aload_n 0, 1) := by decide +kernel
theorem dX11_moon_44 : decode cX11_moon 44 = .ok (.iconst (-1), 1) := by decide +kernel
theorem dX11_moon_45 : decode cX11_moon 45 = .ok (.invokevirtual 112, 3) := by decide +kernel
theorem dX11_moon_48 : decode cX11_moon 48 = .ok (.ireturn, 1) := by decide +kernel
theorem dX11_moon_49 : decode cX11_moon 49 = .ok (.iload_n 1, 1) := by decide +kernel
theorem dX11_moon_50 : decode cX11_moon 50 = .ok (.iload_n 2, 1) := by decide +kernel
theorem dX11_moon_51 : decode cX11_moon 51 = .ok (.invokestatic 135, 3) := by decide +kernel
theorem dX11_moon_54 : decode cX11_moon 54 = .ok (.iload_n 3, 1) := by decide +kernel
theorem dX11_moon_55 : decode cX11_moon 55 = .ok (.iadd, 1) := by decide +kernel
theorem dX11_moon_56 : decode cX11_moon 56 = .ok (.istore 5, 2) := by decide +kernel
theorem dX11_moon_58 : decode cX11_moon 58 = .ok (.aload_n 0, 1) := by decide +kernel
theorem dX11_moon_59 : decode cX11_moon 59 = .ok (.getfield 10, 3) := by decide +kernel
theorem dX11_moon_62 : decode cX11_moon 62 = .ok (.getfield 139, 3) := by decide +kernel
theorem dX11_moon_65 : decode cX11_moon 65 = .ok (.iload 5, 2) := by decide +kernel
theorem dX11_moon_67 : decode cX11_moon 67 = .ok (.iaload, 1) := by decide +kernel
theorem dX11_moon_68 : decode cX11_moon 68 = .ok (.istore 6, 2) := by decide +kernel
theorem dX11_moon_70 : decode cX11_moon 70 = .ok (.aload_n 0, 1) := by decide +kernel
theorem dX11_moon_71 : decode cX11_moon 71 = .ok (.getfield 10, 3) := by decide +kernel
theorem dX11_moon_74 : decode cX11_moon 74 = .ok (.getfield 139, 3) := by decide +kernel
theorem dX11_moon_77 : decode cX11_moon 77 = .ok (.iload 5, 2) := by decide +kernel
theorem dX11_moon_79 : decode cX11_moon 79 = .ok (.iload 4, 2) := by decide +kernel
theorem dX11_moon_81 : decode cX11_moon 81 = .ok (.iastore, 1) := by decide +kernel
theorem dX11_moon_82 : decode cX11_moon 82 = .ok (.aload_n 0, 1) := by decide +kernel
theorem dX11_moon_83 : decode cX11_moon 83 = .ok (.invokevirtual 119, 3) := by decide +kernel
theorem dX11_moon_86 : decode cX11_moon 86 = .ok (.aload_n 0, 1) := by decide +kernel
theorem dX11_moon_87 : decode cX11_moon 87 = .ok (.iload 6, 2) := by decide +kernel
theorem dX11_moon_89 : decode cX11_moon 89 = .ok (.invokevirtual 122, 3) := by decide +kernel
theorem dX11_moon_92 : decode cX11_moon 92 = .ok (.ireturn, 1) := by decide +kernel
theorem dX11_terms_0 : decode cX11_terms 0 = .ok (.iload_n 1, 1) := by decide +kernel
theorem dX11_terms_1 : decode cX11_terms 1 = .ok (.iconst 0, 1) := by decide +kernel
theorem dX11_terms_2 : decode cX11_terms 2 = .ok (.bipush 10, 2) := by decide +kernel
theorem dX11_terms_4 : decode cX11_terms 4 = .ok (.invokestatic 102, 3) := by decide +kernel
theorem dX11_terms_7 : decode cX11_terms 7 = .ok (.ifCond .eq 20, 3) := by decide +kernel
theorem dX11_terms_10 : decode cX11_terms 10 = .ok (.iload_n 2, 1) := by decide +kernel
theorem dX11_terms_11 : decode cX11_terms 11 = .ok (.getstatic 142, 3) := by decide +kernel
theorem dX11_terms_14 : decode cX11_terms 14 = .ok (.iload_n 1, 1) := by decide +kernel
theorem dX11_terms_15 : decode cX11_terms 15 = .ok (.iaload, 1) := by decide +kernel
theorem dX11_terms_16 : decode cX11_terms 16 = .ok (.getstatic 145, 3) := by decide +kernel
theorem dX11_terms_19 : decode cX11_terms 19 = .ok (.iload_n 1, 1) := by decide +kernel
theorem dX11_terms_20 : decode cX11_terms 20 = .ok (.iaload, 1) := by decide +kernel
theorem dX11_terms_21 : decode cX11_terms 21 = .ok (.invokestatic 102, 3) := by decide +kernel
theorem dX11_terms_24 : decode cX11_terms 24 = .ok (.ifCond .ne 9, 3) := by decide +kernel
theorem dX11_terms_27 : decode cX11_terms 27 = .ok (.aload_n 0, 1) := by decide +kernel
theorem dX11_terms_28 : decode cX11_terms 28 = .ok (.iconst (-1), 1) := by decide +kernel
theorem dX11_terms_29 : decode cX11_terms 29 = .ok (.invokevirtual 112, 3) := by decide +kernel
theorem dX11_terms_32 : decode cX11_terms 32 = .ok (.ireturn, 1) := by decide +kernel
theorem dX11_terms_33 : decode cX11_terms 33 = .ok (.aload_n 0, 1) := by decide +kernel
theorem dX11_terms_34 : decode cX11_terms 34 = .ok (.getfield 10, 3) := by decide +kernel
theorem dX11_terms_37 : decode cX11_terms 37 = .ok (.getfield 148, 3) := by decide +kernel
theorem dX11_terms_40 : decode cX11_terms 40 = .ok (.iload_n 1, 1) := by decide +kernel
theorem dX11_terms_41 : decode cX11_terms 41 = .ok (.iaload, 1) := by decide +kernel
theorem dX11_terms_42 : decode cX11_terms 42 = .ok (.istore_n 3, 1) := by decide +kernel
theorem dX11_terms_43 : decode cX11_terms 43 = .ok (.aload_n 0, 1) := by decide +kernel
theorem dX11_terms_44 : decode cX11_terms 44 = .ok (.getfield 10, 3) := by decide +kernel
theorem dX11_terms_47 : decode cX11_terms 47 = .ok (.getfield 148, 3) := by decide +kernel
theorem dX11_terms_50 : decode cX11_terms 50 = .ok (.iload_n 1, 1) := by decide +kernel
theorem dX11_terms_51 : decode cX11_terms 51 = .ok (.iload_n 2, 1) := by decide +kernel
theorem dX11_terms_52 : decode cX11_terms 52 = .ok (.iastore, 1) := by decide +kernel
theorem dX11_terms_53 : decode cX11_terms 53 = .ok (.aload_n 0, 1) := by decide +kernel
theorem dX11_terms_54 : decode cX11_terms 54 = .ok (.invokevirtual 151, 3) := by decide +kernel
theorem dX11_terms_57 : decode cX11_terms 57 = .ok (.aload_n 0, 1) := by decide +kernel
theorem dX11_terms_58 : decode cX11_terms 58 = .ok (.iload_n 3, 1) := by decide +kernel
theorem dX11_terms_59 : decode cX11_terms 59 = .ok (.invokevirtual 122, 3) := by decide +kernel
theorem dX11_terms_62 : decode cX11_terms 62 = .ok (.ireturn, 1) := by decide +kernel
theorem dX11_feed_0 : decode cX11_feed 0 = .ok (.aload_n 0, 1) := by decide +kernel
theorem dX11_feed_1 : decode cX11_feed 1 = .ok (.getfield 27, 3) := by decide +kernel
theorem dX11_feed_4 : decode cX11_feed 4 = .ok (.getfield 154, 3) := by decide +kernel
theorem dX11_feed_7 : decode cX11_feed 7 = .ok (.bipush 20, 2) := by decide +kernel
theorem dX11_feed_9 : decode cX11_feed 9 = .ok (.iadd, 1) := by decide +kernel
theorem dX11_feed_10 : decode cX11_feed 10 = .ok (.sipush 400, 3) := by decide +kernel
theorem dX11_feed_13 : decode cX11_feed 13 = .ok (.if_icmp .le 5, 3) := by decide +kernel
theorem dX11_feed_16 : decode cX11_feed 16 = .ok (.iconst (-1), 1) := by decide +kernel
theorem dX11_feed_17 : decode cX11_feed 17 = .ok (.ireturn, 1) := by decide +kernel
theorem dX11_feed_18 : decode cX11_feed 18 = .ok (.aload_n 0, 1) := by decide +kernel
theorem dX11_feed_19 : decode cX11_feed 19 = .ok (.getfield 27, 3) := by decide +kernel
theorem dX11_feed_22 : decode cX11_feed 22 = .ok (.iload_n 1, 1) := by decide +kernel
theorem dX11_feed_23 : decode cX11_feed 23 = .ok (.invokevirtual 157, 3) := by decide +kernel
theorem dX11_feed_26 : decode cX11_feed 26 = .ok (.aload_n 0, 1) := by decide +kernel
theorem dX11_feed_27 : decode cX11_feed 27 = .ok (.getfield 27, 3) := by decide +kernel
theorem dX11_feed_30 : decode cX11_feed 30 = .ok (.iload_n 2, 1) := by decide +kernel
theorem dX11_feed_31 : decode cX11_feed 31 = .ok (.invokevirtual 157, 3) := by decide +kernel
theorem dX11_feed_34 : decode cX11_feed 34 = .ok (.aload_n 0, 1) := by decide +kernel
theorem dX11_feed_35 : decode cX11_feed 35 = .ok (.getfield 27, 3) := by decide +kernel
theorem dX11_feed_38 : decode cX11_feed 38 = .ok (.iload_n 3, 1) := by decide +kernel
theorem dX11_feed_39 : decode cX11_feed 39 = .ok (.invokevirtual 157, 3) := by decide +kernel
theorem dX11_feed_42 : decode cX11_feed 42 = .ok (.aload_n 0, 1) := by decide +kernel
theorem dX11_feed_43 : decode cX11_feed 43 = .ok (.getfield 27, 3) := by decide +kernel
theorem dX11_feed_46 : decode cX11_feed 46 = .ok (.iload 4, 2) := by decide +kernel
theorem dX11_feed_48 : decode cX11_feed 48 = .ok (.invokevirtual 157, 3) := by decide +kernel
theorem dX11_feed_51 : decode cX11_feed 51 = .ok (.aload_n 0, 1) := by decide +kernel
theorem dX11_feed_52 : decode cX11_feed 52 = .ok (.getfield 27, 3) := by decide +kernel
theorem dX11_feed_55 : decode cX11_feed 55 = .ok (.iload 5, 2) := by decide +kernel
theorem dX11_feed_57 : decode cX11_feed 57 = .ok (.invokevirtual 157, 3) := by decide +kernel
theorem dX11_feed_60 : decode cX11_feed 60 = .ok (.aload_n 0, 1) := by decide +kernel
theorem dX11_feed_61 : decode cX11_feed 61 = .ok (.getfield 27, 3) := by decide +kernel
theorem dX11_feed_64 : decode cX11_feed 64 = .ok (.getfield 154, 3) := by decide +kernel
theorem dX11_feed_67 : decode cX11_feed 67 = .ok (.ireturn, 1) := by decide +kernel
theorem dX11_end_0 : decode cX11_end 0 = .ok (.iload_n 1, 1) := by decide +kernel
theorem dX11_end_1 : decode cX11_end 1 = .ok (.iconst 0, 1) := by decide +kernel
theorem dX11_end_2 : decode cX11_end 2 = .ok (.aload_n 0, 1) := by decide +kernel
theorem dX11_end_3 : decode cX11_end 3 = .ok (.getfield 27, 3) := by decide +kernel
theorem dX11_end_6 : decode cX11_end 6 = .ok (.getfield 154, 3) := by decide +kernel
theorem dX11_end_9 : decode cX11_end 9 = .ok (.invokestatic 102, 3) := by decide +kernel
theorem dX11_end_12 : decode cX11_end 12 = .ok (.ifCond .ne 5, 3) := by decide +kernel
theorem dX11_end_15 : decode cX11_end 15 = .ok (.iconst (-1), 1) := by decide +kernel
theorem dX11_end_16 : decode cX11_end 16 = .ok (.ireturn, 1) := by decide +kernel
theorem dX11_end_17 : decode cX11_end 17 = .ok (.aload_n 0, 1) := by decide +kernel
theorem dX11_end_18 : decode cX11_end 18 = .ok (.getfield 27, 3) := by decide +kernel
theorem dX11_end_21 : decode cX11_end 21 = .ok (.iload_n 1, 1) := by decide +kernel
theorem dX11_end_22 : decode cX11_end 22 = .ok (.putfield 154, 3) := by decide +kernel
theorem dX11_end_25 : decode cX11_end 25 = .ok (.iload_n 1, 1) := by decide +kernel
theorem dX11_end_26 : decode cX11_end 26 = .ok (.ireturn, 1) := by decide +kernel
theorem dX11_row_0 : decode cX11_row 0 = .ok (.aload_n 0, 1) := by decide +kernel
theorem dX11_row_1 : decode cX11_row 1 = .ok (.getfield 27, 3) := by decide +kernel
theorem dX11_row_4 : decode cX11_row 4 = .ok (.getfield 154, 3) := by decide +kernel
theorem dX11_row_7 : decode cX11_row 7 = .ok (.ifCond .ne 10, 3) := by decide +kernel
theorem dX11_row_10 : decode cX11_row 10 = .ok (.aload_n 0, 1) := by decide +kernel
theorem dX11_row_11 : decode cX11_row 11 = .ok (.bipush (-6), 2) := by decide +kernel
theorem dX11_row_13 : decode cX11_row 13 = .ok (.invokevirtual 112, 3) := by decide +kernel
theorem dX11_row_16 : decode cX11_row 16 = .ok (.ireturn, 1) := by decide +kernel
theorem dX11_row_17 : decode cX11_row 17 = .ok (.iconst 0, 1) := by decide +kernel
theorem dX11_row_18 : decode cX11_row 18 = .ok (.istore_n 1, 1) := by decide +kernel
theorem dX11_row_19 : decode cX11_row 19 = .ok (.iconst 0, 1) := by decide +kernel
theorem dX11_row_20 : decode cX11_row 20 = .ok (.istore_n 2, 1) := by decide +kernel
theorem dX11_row_21 : decode cX11_row 21 = .ok (.iload_n 2, 1) := by decide +kernel
theorem dX11_row_22 : decode cX11_row 22 = .ok (.aload_n 0, 1) := by decide +kernel
theorem dX11_row_23 : decode cX11_row 23 = .ok (.getfield 27, 3) := by decide +kernel
theorem dX11_row_26 : decode cX11_row 26 = .ok (.getfield 154, 3) := by decide +kernel
theorem dX11_row_29 : decode cX11_row 29 = .ok (.if_icmp .ge 50, 3) := by decide +kernel
theorem dX11_row_32 : decode cX11_row 32 = .ok (.iload_n 2, 1) := by decide +kernel
theorem dX11_row_33 : decode cX11_row 33 = .ok (.bipush 50, 2) := by decide +kernel
theorem dX11_row_35 : decode cX11_row 35 = .ok (.if_icmp .ge 38, 3) := by decide +kernel
theorem dX11_row_38 : decode cX11_row 38 = .ok (.aload_n 0, 1) := by decide +kernel
theorem dX11_row_39 : decode cX11_row 39 = .ok (.getfield 27, 3) := by decide +kernel
theorem dX11_row_42 : decode cX11_row 42 = .ok (.getfield 161, 3) := by decide +kernel
theorem dX11_row_45 : decode cX11_row 45 = .ok (.iload_n 2, 1) := by decide +kernel
theorem dX11_row_46 : decode cX11_row 46 = .ok (.iaload, 1) := by decide +kernel
theorem dX11_row_47 : decode cX11_row 47 = .ok (.bipush 6, 2) := by decide +kernel
theorem dX11_row_49 : decode cX11_row 49 = .ok (.if_icmp .ge 24, 3) := by decide +kernel
theorem dX11_row_52 : decode cX11_row 52 = .ok (.aload_n 0, 1) := by decide +kernel
theorem dX11_row_53 : decode cX11_row 53 = .ok (.getfield 10, 3) := by decide +kernel
theorem dX11_row_56 : decode cX11_row 56 = .ok (.getfield 164, 3) := by decide +kernel
theorem dX11_row_59 : decode cX11_row 59 = .ok (.iload_n 2, 1) := by decide +kernel
theorem dX11_row_60 : decode cX11_row 60 = .ok (.aload_n 0, 1) := by decide +kernel
theorem dX11_row_61 : decode cX11_row 61 = .ok (.getfield 27, 3) := by decide +kernel
theorem dX11_row_64 : decode cX11_row 64 = .ok (.getfield 161, 3) := by decide +kernel
theorem dX11_row_67 : decode cX11_row 67 = .ok (.iload_n 2, 1) := by decide +kernel
theorem dX11_row_68 : decode cX11_row 68 = .ok (.iaload, 1) := by decide +kernel
theorem dX11_row_69 : decode cX11_row 69 = .ok (.iastore, 1) := by decide +kernel
theorem dX11_row_70 : decode cX11_row 70 = .ok (.iinc 1 1, 3) := by decide +kernel
theorem dX11_row_73 : decode cX11_row 73 = .ok (.iinc 2 1, 3) := by decide +kernel
theorem dX11_row_76 : decode cX11_row 76 = .ok (.goto (-55), 3) := by decide +kernel
theorem dX11_row_79 : decode cX11_row 79 = .ok (.aload_n 0, 1) := by decide +kernel
theorem dX11_row_80 : decode cX11_row 80 = .ok (.aload_n 0, 1) := by decide +kernel
theorem dX11_row_81 : decode cX11_row 81 = .ok (.getfield 27, 3) := by decide +kernel
theorem dX11_row_84 : decode cX11_row 84 = .ok (.getfield 154, 3) := by decide +kernel
theorem dX11_row_87 : decode cX11_row 87 = .ok (.iload_n 1, 1) := by decide +kernel
theorem dX11_row_88 : decode cX11_row 88 = .ok (.isub, 1) := by decide +kernel
theorem dX11_row_89 : decode cX11_row 89 = .ok (.putfield 96, 3) := by decide +kernel
theorem dX11_row_92 : decode cX11_row 92 = .ok (.aload_n 0, 1) := by decide +kernel
theorem dX11_row_93 : decode cX11_row 93 = .ok (.getfield 27, 3) := by decide +kernel
theorem dX11_row_96 : decode cX11_row 96 = .ok (.iconst 0, 1) := by decide +kernel
theorem dX11_row_97 : decode cX11_row 97 = .ok (.putfield 154, 3) := by decide +kernel
theorem dX11_row_100 : decode cX11_row 100 = .ok (.aload_n 0, 1) := by decide +kernel
theorem dX11_row_101 : decode cX11_row 101 = .ok (.iload_n 1, 1) := by decide +kernel
theorem dX11_row_102 : decode cX11_row 102 = .ok (.invokevirtual 122, 3) := by decide +kernel
theorem dX11_row_105 : decode cX11_row 105 = .ok (.ireturn, 1) := by decide +kernel
theorem dX11_foul_0 : decode cX11_foul 0 = .ok (.aload_n 0, 1) := by decide +kernel
theorem dX11_foul_1 : decode cX11_foul 1 = .ok (.getfield 96, 3) := by decide +kernel
theorem dX11_foul_4 : decode cX11_foul 4 = .ok (.ireturn, 1) := by decide +kernel
theorem dX11_law_0 : decode cX11_law 0 = .ok (.aload_n 0, 1) := by decide +kernel
theorem dX11_law_1 : decode cX11_law 1 = .ok (.getfield 10, 3) := by decide +kernel
theorem dX11_law_4 : decode cX11_law 4 = .ok (.getfield 167, 3) := by decide +kernel
theorem dX11_law_7 : decode cX11_law 7 = .ok (.bipush 6, 2) := by decide +kernel
theorem dX11_law_9 : decode cX11_law 9 = .ok (.if_icmp .lt 18, 3) := by decide +kernel
theorem dX11_law_12 : decode cX11_law 12 = .ok (.aload_n 0, 1) := by decide +kernel
theorem dX11_law_13 : decode cX11_law 13 = .ok (.getfield 27, 3) := by decide +kernel
theorem dX11_law_16 : decode cX11_law 16 = .ok (.iconst 0, 1) := by decide +kernel
theorem dX11_law_17 : decode cX11_law 17 = .ok (.putfield 154, 3) := by decide +kernel
theorem dX11_law_20 : decode cX11_law 20 = .ok (.aload_n 0, 1) := by decide +kernel
theorem dX11_law_21 : decode cX11_law 21 = .ok (.bipush (-5), 2) := by decide +kernel
theorem dX11_law_23 : decode cX11_law 23 = .ok (.invokevirtual 112, 3) := by decide +kernel
theorem dX11_law_26 : decode cX11_law 26 = .ok (.ireturn, 1) := by decide +kernel
theorem dX11_law_27 : decode cX11_law 27 = .ok (.aload_n 0, 1) := by decide +kernel
theorem dX11_law_28 : decode cX11_law 28 = .ok (.getfield 36, 3) := by decide +kernel
theorem dX11_law_31 : decode cX11_law 31 = .ok (.invokevirtual 170, 3) := by decide +kernel
theorem dX11_law_34 : decode cX11_law 34 = .ok (.astore_n 1, 1) := by decide +kernel
theorem dX11_law_35 : decode cX11_law 35 = .ok (.aload_n 0, 1) := by decide +kernel
theorem dX11_law_36 : decode cX11_law 36 = .ok (.aload_n 0, 1) := by decide +kernel
theorem dX11_law_37 : decode cX11_law 37 = .ok (.getfield 36, 3) := by decide +kernel
theorem dX11_law_40 : decode cX11_law 40 = .ok (.getfield 174, 3) := by decide +kernel
theorem dX11_law_43 : decode cX11_law 43 = .ok (.putfield 99, 3) := by decide +kernel
theorem dX11_law_46 : decode cX11_law 46 = .ok (.aload_n 0, 1) := by decide +kernel
theorem dX11_law_47 : decode cX11_law 47 = .ok (.getfield 27, 3) := by decide +kernel
theorem dX11_law_50 : decode cX11_law 50 = .ok (.iconst 0, 1) := by decide +kernel
theorem dX11_law_51 : decode cX11_law 51 = .ok (.putfield 154, 3) := by decide +kernel
theorem dX11_law_54 : decode cX11_law 54 = .ok (.aload_n 1, 1) := by decide +kernel
theorem dX11_law_55 : decode cX11_law 55 = .ok (.ifnonnull 10, 3) := by decide +kernel
theorem dX11_law_58 : decode cX11_law 58 = .ok (.aload_n 0, 1) := by decide +kernel
theorem dX11_law_59 : decode cX11_law 59 = .ok (.bipush (-6), 2) := by decide +kernel
theorem dX11_law_61 : decode cX11_law 61 = .ok (.invokevirtual 112, 3) := by decide +kernel
theorem dX11_law_64 : decode cX11_law 64 = .ok (.ireturn, 1) := by decide +kernel
theorem dX11_law_65 : decode cX11_law 65 = .ok (.aload_n 0, 1) := by decide +kernel
theorem dX11_law_66 : decode cX11_law 66 = .ok (.getfield 10, 3) := by decide +kernel
theorem dX11_law_69 : decode cX11_law 69 = .ok (.getfield 177, 3) := by decide +kernel
theorem dX11_law_72 : decode cX11_law 72 = .ok (.aload_n 0, 1) := by decide +kernel
theorem dX11_law_73 : decode cX11_law 73 = .ok (.getfield 10, 3) := by decide +kernel
theorem dX11_law_76 : decode cX11_law 76 = .ok (.getfield 167, 3) := by decide +kernel
theorem dX11_law_79 : decode cX11_law 79 = .ok (.aload_n 1, 1) := by decide +kernel
theorem dX11_law_80 : decode cX11_law 80 = .ok (.aastore, 1) := by decide +kernel
theorem dX11_law_81 : decode cX11_law 81 = .ok (.aload_n 0, 1) := by decide +kernel
theorem dX11_law_82 : decode cX11_law 82 = .ok (.getfield 10, 3) := by decide +kernel
theorem dX11_law_85 : decode cX11_law 85 = .ok (.dup, 1) := by decide +kernel
theorem dX11_law_86 : decode cX11_law 86 = .ok (.getfield 167, 3) := by decide +kernel
theorem dX11_law_89 : decode cX11_law 89 = .ok (.iconst 1, 1) := by decide +kernel
theorem dX11_law_90 : decode cX11_law 90 = .ok (.iadd, 1) := by decide +kernel
theorem dX11_law_91 : decode cX11_law 91 = .ok (.putfield 167, 3) := by decide +kernel
theorem dX11_law_94 : decode cX11_law 94 = .ok (.aload_n 0, 1) := by decide +kernel
theorem dX11_law_95 : decode cX11_law 95 = .ok (.aload_n 0, 1) := by decide +kernel
theorem dX11_law_96 : decode cX11_law 96 = .ok (.getfield 10, 3) := by decide +kernel
theorem dX11_law_99 : decode cX11_law 99 = .ok (.getfield 167, 3) := by decide +kernel
theorem dX11_law_102 : decode cX11_law 102 = .ok (.iconst 1, 1) := by decide +kernel
theorem dX11_law_103 : decode cX11_law 103 = .ok (.isub, 1) := by decide +kernel
theorem dX11_law_104 : decode cX11_law 104 = .ok (.invokevirtual 122, 3) := by decide +kernel
theorem dX11_law_107 : decode cX11_law 107 = .ok (.ireturn, 1) := by decide +kernel
theorem dX11_fault_0 : decode cX11_fault 0 = .ok (.aload_n 0, 1) := by decide +kernel
theorem dX11_fault_1 : decode cX11_fault 1 = .ok (.getfield 99, 3) := by decide +kernel
theorem dX11_fault_4 : decode cX11_fault 4 = .ok (.ireturn, 1) := by decide +kernel
theorem dX11_force_0 : decode cX11_force 0 = .ok (.iload_n 1, 1) := by decide +kernel
theorem dX11_force_1 : decode cX11_force 1 = .ok (.iconst (-1), 1) := by decide +kernel
theorem dX11_force_2 : decode cX11_force 2 = .ok (.aload_n 0, 1) := by decide +kernel
theorem dX11_force_3 : decode cX11_force 3 = .ok (.getfield 10, 3) := by decide +kernel
theorem dX11_force_6 : decode cX11_force 6 = .ok (.getfield 167, 3) := by decide +kernel
theorem dX11_force_9 : decode cX11_force 9 = .ok (.iconst 1, 1) := by decide +kernel
theorem dX11_force_10 : decode cX11_force 10 = .ok (.isub, 1) := by decide +kernel
theorem dX11_force_11 : decode cX11_force 11 = .ok (.invokestatic 102, 3) := by decide +kernel
theorem dX11_force_14 : decode cX11_force 14 = .ok (.ifCond .ne 10, 3) := by decide +kernel
theorem dX11_force_17 : decode cX11_force 17 = .ok (.aload_n 0, 1) := by decide +kernel
theorem dX11_force_18 : decode cX11_force 18 = .ok (.bipush (-2), 2) := by decide +kernel
theorem dX11_force_20 : decode cX11_force 20 = .ok (.invokevirtual 112, 3) := by decide +kernel
theorem dX11_force_23 : decode cX11_force 23 = .ok (.ireturn, 1) := by decide +kernel
theorem dX11_force_24 : decode cX11_force 24 = .ok (.aload_n 0, 1) := by decide +kernel
theorem dX11_force_25 : decode cX11_force 25 = .ok (.getfield 10, 3) := by decide +kernel
theorem dX11_force_28 : decode cX11_force 28 = .ok (.getfield 181, 3) := by decide +kernel
theorem dX11_force_31 : decode cX11_force 31 = .ok (.istore_n 2, 1) := by decide +kernel
theorem dX11_force_32 : decode cX11_force 32 = .ok (.aload_n 0, 1) := by decide +kernel
theorem dX11_force_33 : decode cX11_force 33 = .ok (.getfield 10, 3) := by decide +kernel
theorem dX11_force_36 : decode cX11_force 36 = .ok (.iload_n 1, 1) := by decide +kernel
theorem dX11_force_37 : decode cX11_force 37 = .ok (.putfield 181, 3) := by decide +kernel
theorem dX11_force_40 : decode cX11_force 40 = .ok (.aload_n 0, 1) := by decide +kernel
theorem dX11_force_41 : decode cX11_force 41 = .ok (.invokevirtual 151, 3) := by decide +kernel
theorem dX11_force_44 : decode cX11_force 44 = .ok (.aload_n 0, 1) := by decide +kernel
theorem dX11_force_45 : decode cX11_force 45 = .ok (.iload_n 2, 1) := by decide +kernel
theorem dX11_force_46 : decode cX11_force 46 = .ok (.invokevirtual 122, 3) := by decide +kernel
theorem dX11_force_49 : decode cX11_force 49 = .ok (.ireturn, 1) := by decide +kernel
theorem dX11_level_0 : decode cX11_level 0 = .ok (.iload_n 1, 1) := by decide +kernel
theorem dX11_level_1 : decode cX11_level 1 = .ok (.iconst 0, 1) := by decide +kernel
theorem dX11_level_2 : decode cX11_level 2 = .ok (.iconst 1, 1) := by decide +kernel
theorem dX11_level_3 : decode cX11_level 3 = .ok (.invokestatic 102, 3) := by decide +kernel
theorem dX11_level_6 : decode cX11_level 6 = .ok (.ifCond .eq 10, 3) := by decide +kernel
theorem dX11_level_9 : decode cX11_level 9 = .ok (.iload_n 2, 1) := by decide +kernel
theorem dX11_level_10 : decode cX11_level 10 = .ok (.invokestatic 184, 3) := by decide +kernel
theorem dX11_level_13 : decode cX11_level 13 = .ok (.ifCond .ne 6, 3) := by decide +kernel
theorem dX11_level_16 : decode cX11_level 16 = .ok (.ldc 187, 2) := by decide +kernel
theorem dX11_level_18 : decode cX11_level 18 = .ok (.ireturn, 1) := by decide +kernel
theorem dX11_level_19 : decode cX11_level 19 = .ok (.aload_n 0, 1) := by decide +kernel
theorem dX11_level_20 : decode cX11_level 20 = .ok (.getfield 45, 3) := by decide +kernel
theorem dX11_level_23 : decode cX11_level 23 = .ok (.invokevirtual 188, 3) := by decide +kernel
theorem dX11_level_26 : decode cX11_level 26 = .ok (.aload_n 0, 1) := by decide +kernel
theorem dX11_level_27 : decode cX11_level 27 = .ok (.getfield 45, 3) := by decide +kernel
theorem dX11_level_30 : decode cX11_level 30 = .ok (.iload_n 1, 1) := by decide +kernel
theorem dX11_level_31 : decode cX11_level 31 = .ok (.iload_n 2, 1) := by decide +kernel
theorem dX11_level_32 : decode cX11_level 32 = .ok (.invokevirtual 191, 3) := by decide +kernel
theorem dX11_level_35 : decode cX11_level 35 = .ok (.ireturn, 1) := by decide +kernel
theorem dX11_flow_0 : decode cX11_flow 0 = .ok (.iload_n 1, 1) := by decide +kernel
theorem dX11_flow_1 : decode cX11_flow 1 = .ok (.invokestatic 184, 3) := by decide +kernel
theorem dX11_flow_4 : decode cX11_flow 4 = .ok (.ifCond .ne 6, 3) := by decide +kernel
theorem dX11_flow_7 : decode cX11_flow 7 = .ok (.ldc 187, 2) := by decide +kernel
theorem dX11_flow_9 : decode cX11_flow 9 = .ok (.ireturn, 1) := by decide +kernel
theorem dX11_flow_10 : decode cX11_flow 10 = .ok (.aload_n 0, 1) := by decide +kernel
theorem dX11_flow_11 : decode cX11_flow 11 = .ok (.getfield 45, 3) := by decide +kernel
theorem dX11_flow_14 : decode cX11_flow 14 = .ok (.invokevirtual 194, 3) := by decide +kernel
theorem dX11_flow_17 : decode cX11_flow 17 = .ok (.aload_n 0, 1) := by decide +kernel
theorem dX11_flow_18 : decode cX11_flow 18 = .ok (.getfield 45, 3) := by decide +kernel
theorem dX11_flow_21 : decode cX11_flow 21 = .ok (.getfield 197, 3) := by decide +kernel
theorem dX11_flow_24 : decode cX11_flow 24 = .ok (.iload_n 1, 1) := by decide +kernel
theorem dX11_flow_25 : decode cX11_flow 25 = .ok (.iaload, 1) := by decide +kernel
theorem dX11_flow_26 : decode cX11_flow 26 = .ok (.ireturn, 1) := by decide +kernel
theorem dX11_kind_0 : decode cX11_kind 0 = .ok (.iload_n 1, 1) := by decide +kernel
theorem dX11_kind_1 : decode cX11_kind 1 = .ok (.invokestatic 200, 3) := by decide +kernel
theorem dX11_kind_4 : decode cX11_kind 4 = .ok (.ifCond .eq 12, 3) := by decide +kernel
theorem dX11_kind_7 : decode cX11_kind 7 = .ok (.iload_n 2, 1) := by decide +kernel
theorem dX11_kind_8 : decode cX11_kind 8 = .ok (.iconst 0, 1) := by decide +kernel
theorem dX11_kind_9 : decode cX11_kind 9 = .ok (.iconst 5, 1) := by decide +kernel
theorem dX11_kind_10 : decode cX11_kind 10 = .ok (.invokestatic 102, 3) := by decide +kernel
theorem dX11_kind_13 : decode cX11_kind 13 = .ok (.ifCond .ne 9, 3) := by decide +kernel
theorem dX11_kind_16 : decode cX11_kind 16 = .ok (.aload_n 0, 1) := by decide +kernel
theorem dX11_kind_17 : decode cX11_kind 17 = .ok (.iconst (-1), 1) := by decide +kernel
theorem dX11_kind_18 : decode cX11_kind 18 = .ok (.invokevirtual 112, 3) := by decide +kernel
theorem dX11_kind_21 : decode cX11_kind 21 = .ok (.ireturn, 1) := by decide +kernel
theorem dX11_kind_22 : decode cX11_kind 22 = .ok (.aload_n 0, 1) := by decide +kernel
theorem dX11_kind_23 : decode cX11_kind 23 = .ok (.getfield 10, 3) := by decide +kernel
theorem dX11_kind_26 : decode cX11_kind 26 = .ok (.getfield 164, 3) := by decide +kernel
theorem dX11_kind_29 : decode cX11_kind 29 = .ok (.iload_n 1, 1) := by decide +kernel
theorem dX11_kind_30 : decode cX11_kind 30 = .ok (.iaload, 1) := by decide +kernel
theorem dX11_kind_31 : decode cX11_kind 31 = .ok (.istore_n 3, 1) := by decide +kernel
theorem dX11_kind_32 : decode cX11_kind 32 = .ok (.aload_n 0, 1) := by decide +kernel
theorem dX11_kind_33 : decode cX11_kind 33 = .ok (.getfield 10, 3) := by decide +kernel
theorem dX11_kind_36 : decode cX11_kind 36 = .ok (.getfield 164, 3) := by decide +kernel
theorem dX11_kind_39 : decode cX11_kind 39 = .ok (.iload_n 1, 1) := by decide +kernel
theorem dX11_kind_40 : decode cX11_kind 40 = .ok (.iload_n 2, 1) := by decide +kernel
theorem dX11_kind_41 : decode cX11_kind 41 = .ok (.iastore, 1) := by decide +kernel
theorem dX11_kind_42 : decode cX11_kind 42 = .ok (.aload_n 0, 1) := by decide +kernel
theorem dX11_kind_43 : decode cX11_kind 43 = .ok (.iload_n 3, 1) := by decide +kernel
theorem dX11_kind_44 : decode cX11_kind 44 = .ok (.invokevirtual 122, 3) := by decide +kernel
theorem dX11_kind_47 : decode cX11_kind 47 = .ok (.ireturn, 1) := by decide +kernel
theorem dX11_cell_0 : decode cX11_cell 0 = .ok (.iload_n 1, 1) := by decide +kernel
theorem dX11_cell_1 : decode cX11_cell 1 = .ok (.invokestatic 200, 3) := by decide +kernel
theorem dX11_cell_4 : decode cX11_cell 4 = .ok (.ifCond .eq 19, 3) := by decide +kernel
theorem dX11_cell_7 : decode cX11_cell 7 = .ok (.iload_n 2, 1) := by decide +kernel
theorem dX11_cell_8 : decode cX11_cell 8 = .ok (.invokestatic 184, 3) := by decide +kernel
theorem dX11_cell_11 : decode cX11_cell 11 = .ok (.ifCond .eq 12, 3) := by decide +kernel
theorem dX11_cell_14 : decode cX11_cell 14 = .ok (.iload_n 3, 1) := by decide +kernel
theorem dX11_cell_15 : decode cX11_cell 15 = .ok (.iconst 0, 1) := by decide +kernel
theorem dX11_cell_16 : decode cX11_cell 16 = .ok (.iconst 2, 1) := by decide +kernel
theorem dX11_cell_17 : decode cX11_cell 17 = .ok (.invokestatic 102, 3) := by decide +kernel
theorem dX11_cell_20 : decode cX11_cell 20 = .ok (.ifCond .ne 6, 3) := by decide +kernel
theorem dX11_cell_23 : decode cX11_cell 23 = .ok (.ldc 187, 2) := by decide +kernel
theorem dX11_cell_25 : decode cX11_cell 25 = .ok (.ireturn, 1) := by decide +kernel
theorem dX11_cell_26 : decode cX11_cell 26 = .ok (.aload_n 0, 1) := by decide +kernel
theorem dX11_cell_27 : decode cX11_cell 27 = .ok (.getfield 10, 3) := by decide +kernel
theorem dX11_cell_30 : decode cX11_cell 30 = .ok (.getfield 164, 3) := by decide +kernel
theorem dX11_cell_33 : decode cX11_cell 33 = .ok (.iload_n 1, 1) := by decide +kernel
theorem dX11_cell_34 : decode cX11_cell 34 = .ok (.iaload, 1) := by decide +kernel
theorem dX11_cell_35 : decode cX11_cell 35 = .ok (.istore 4, 2) := by decide +kernel
theorem dX11_cell_37 : decode cX11_cell 37 = .ok (.iload_n 3, 1) := by decide +kernel
theorem dX11_cell_38 : decode cX11_cell 38 = .ok (.iconst 2, 1) := by decide +kernel
theorem dX11_cell_39 : decode cX11_cell 39 = .ok (.if_icmp .ne 6, 3) := by decide +kernel
theorem dX11_cell_42 : decode cX11_cell 42 = .ok (.iload 4, 2) := by decide +kernel
theorem dX11_cell_44 : decode cX11_cell 44 = .ok (.ireturn, 1) := by decide +kernel
theorem dX11_cell_45 : decode cX11_cell 45 = .ok (.aload_n 0, 1) := by decide +kernel
theorem dX11_cell_46 : decode cX11_cell 46 = .ok (.getfield 45, 3) := by decide +kernel
theorem dX11_cell_49 : decode cX11_cell 49 = .ok (.invokevirtual 194, 3) := by decide +kernel
theorem dX11_cell_52 : decode cX11_cell 52 = .ok (.iload_n 3, 1) := by decide +kernel
theorem dX11_cell_53 : decode cX11_cell 53 = .ok (.ifCond .ne 16, 3) := by decide +kernel
theorem dX11_cell_56 : decode cX11_cell 56 = .ok (.aload_n 0, 1) := by decide +kernel
theorem dX11_cell_57 : decode cX11_cell 57 = .ok (.getfield 45, 3) := by decide +kernel
theorem dX11_cell_60 : decode cX11_cell 60 = .ok (.iload 4, 2) := by decide +kernel
theorem dX11_cell_62 : decode cX11_cell 62 = .ok (.iload_n 2, 1) := by decide +kernel
theorem dX11_cell_63 : decode cX11_cell 63 = .ok (.invokevirtual 203, 3) := by decide +kernel
theorem dX11_cell_66 : decode cX11_cell 66 = .ok (.goto 13, 3) := by decide +kernel
theorem dX11_cell_69 : decode cX11_cell 69 = .ok (.aload_n 0, 1) := by decide +kernel
theorem dX11_cell_70 : decode cX11_cell 70 = .ok (.getfield 45, 3) := by decide +kernel
theorem dX11_cell_73 : decode cX11_cell 73 = .ok (.iload 4, 2) := by decide +kernel
theorem dX11_cell_75 : decode cX11_cell 75 = .ok (.iload_n 2, 1) := by decide +kernel
theorem dX11_cell_76 : decode cX11_cell 76 = .ok (.invokevirtual 206, 3) := by decide +kernel
theorem dX11_cell_79 : decode cX11_cell 79 = .ok (.ireturn, 1) := by decide +kernel
theorem dX11_slack_0 : decode cX11_slack 0 = .ok (.iload_n 2, 1) := by decide +kernel
theorem dX11_slack_1 : decode cX11_slack 1 = .ok (.iconst 0, 1) := by decide +kernel
theorem dX11_slack_2 : decode cX11_slack 2 = .ok (.iconst 3, 1) := by decide +kernel
theorem dX11_slack_3 : decode cX11_slack 3 = .ok (.invokestatic 102, 3) := by decide +kernel
theorem dX11_slack_6 : decode cX11_slack 6 = .ok (.ifCond .ne 6, 3) := by decide +kernel
theorem dX11_slack_9 : decode cX11_slack 9 = .ok (.ldc 187, 2) := by decide +kernel
theorem dX11_slack_11 : decode cX11_slack 11 = .ok (.ireturn, 1) := by decide +kernel
theorem dX11_slack_12 : decode cX11_slack 12 = .ok (.aload_n 0, 1) := by decide +kernel
theorem dX11_slack_13 : decode cX11_slack 13 = .ok (.getfield 45, 3) := by decide +kernel
theorem dX11_slack_16 : decode cX11_slack 16 = .ok (.invokevirtual 194, 3) := by decide +kernel
theorem dX11_slack_19 : decode cX11_slack 19 = .ok (.iload_n 1, 1) := by decide +kernel
theorem dX11_slack_20 : decode cX11_slack 20 = .ok (.iconst (-1), 1) := by decide +kernel
theorem dX11_slack_21 : decode cX11_slack 21 = .ok (.if_icmp .ne 18, 3) := by decide +kernel
theorem dX11_slack_24 : decode cX11_slack 24 = .ok (.aload_n 0, 1) := by decide +kernel
theorem dX11_slack_25 : decode cX11_slack 25 = .ok (.getfield 45, 3) := by decide +kernel
theorem dX11_slack_28 : decode cX11_slack 28 = .ok (.aload_n 0, 1) := by decide +kernel
theorem dX11_slack_29 : decode cX11_slack 29 = .ok (.getfield 45, 3) := by decide +kernel
theorem dX11_slack_32 : decode cX11_slack 32 = .ok (.getfield 197, 3) := by decide +kernel
theorem dX11_slack_35 : decode cX11_slack 35 = .ok (.invokevirtual 209, 3) := by decide +kernel
theorem dX11_slack_38 : decode cX11_slack 38 = .ok (.ireturn, 1) := by decide +kernel
theorem dX11_slack_39 : decode cX11_slack 39 = .ok (.aload_n 0, 1) := by decide +kernel
theorem dX11_slack_40 : decode cX11_slack 40 = .ok (.getfield 45, 3) := by decide +kernel
theorem dX11_slack_43 : decode cX11_slack 43 = .ok (.aload_n 0, 1) := by decide +kernel
theorem dX11_slack_44 : decode cX11_slack 44 = .ok (.getfield 45, 3) := by decide +kernel
theorem dX11_slack_47 : decode cX11_slack 47 = .ok (.getfield 197, 3) := by decide +kernel
theorem dX11_slack_50 : decode cX11_slack 50 = .ok (.iload_n 1, 1) := by decide +kernel
theorem dX11_slack_51 : decode cX11_slack 51 = .ok (.invokevirtual 213, 3) := by decide +kernel
theorem dX11_slack_54 : decode cX11_slack 54 = .ok (.istore_n 3, 1) := by decide +kernel
theorem dX11_slack_55 : decode cX11_slack 55 = .ok (.iload_n 3, 1) := by decide +kernel
theorem dX11_slack_56 : decode cX11_slack 56 = .ok (.ifCond .ge 6, 3) := by decide +kernel
theorem dX11_slack_59 : decode cX11_slack 59 = .ok (.ldc 187, 2) := by decide +kernel
theorem dX11_slack_61 : decode cX11_slack 61 = .ok (.ireturn, 1) := by decide +kernel
theorem dX11_slack_62 : decode cX11_slack 62 = .ok (.iload_n 2, 1) := by decide +kernel
theorem dX11_slack_63 : decode cX11_slack 63 = .ok (.tableswitch 63 0 2 #[25, 27, 43], 25) := by decide +kernel
theorem dX11_slack_88 : decode cX11_slack 88 = .ok (.iload_n 3, 1) := by decide +kernel
theorem dX11_slack_89 : decode cX11_slack 89 = .ok (.ireturn, 1) := by decide +kernel
theorem dX11_slack_90 : decode cX11_slack 90 = .ok (.aload_n 0, 1) := by decide +kernel
theorem dX11_slack_91 : decode cX11_slack 91 = .ok (.getfield 45, 3) := by decide +kernel
theorem dX11_slack_94 : decode cX11_slack 94 = .ok (.aload_n 0, 1) := by decide +kernel
theorem dX11_slack_95 : decode cX11_slack 95 = .ok (.getfield 45, 3) := by decide +kernel
theorem dX11_slack_98 : decode cX11_slack 98 = .ok (.getfield 197, 3) := by decide +kernel
theorem dX11_slack_101 : decode cX11_slack 101 = .ok (.iload_n 3, 1) := by decide +kernel
theorem dX11_slack_102 : decode cX11_slack 102 = .ok (.invokevirtual 217, 3) := by decide +kernel
theorem dX11_slack_105 : decode cX11_slack 105 = .ok (.ireturn, 1) := by decide +kernel
theorem dX11_slack_106 : decode cX11_slack 106 = .ok (.aload_n 0, 1) := by decide +kernel
theorem dX11_slack_107 : decode cX11_slack 107 = .ok (.getfield 45, 3) := by decide +kernel
theorem dX11_slack_110 : decode cX11_slack 110 = .ok (.iconst 0, 1) := by decide +kernel
theorem dX11_slack_111 : decode cX11_slack 111 = .ok (.iload_n 3, 1) := by decide +kernel
theorem dX11_slack_112 : decode cX11_slack 112 = .ok (.invokevirtual 191, 3) := by decide +kernel
theorem dX11_slack_115 : decode cX11_slack 115 = .ok (.aload_n 0, 1) := by decide +kernel
theorem dX11_slack_116 : decode cX11_slack 116 = .ok (.getfield 45, 3) := by decide +kernel
theorem dX11_slack_119 : decode cX11_slack 119 = .ok (.iconst 1, 1) := by decide +kernel
theorem dX11_slack_120 : decode cX11_slack 120 = .ok (.iload_n 3, 1) := by decide +kernel
theorem dX11_slack_121 : decode cX11_slack 121 = .ok (.invokevirtual 191, 3) := by decide +kernel
theorem dX11_slack_124 : decode cX11_slack 124 = .ok (.isub, 1) := by decide +kernel
theorem dX11_slack_125 : decode cX11_slack 125 = .ok (.ireturn, 1) := by decide +kernel
theorem dX11_slack_126 : decode cX11_slack 126 = .ok (.aload_n 0, 1) := by decide +kernel
theorem dX11_slack_127 : decode cX11_slack 127 = .ok (.getfield 45, 3) := by decide +kernel
theorem dX11_slack_130 : decode cX11_slack 130 = .ok (.iload_n 3, 1) := by decide +kernel
theorem dX11_slack_131 : decode cX11_slack 131 = .ok (.invokevirtual 220, 3) := by decide +kernel
theorem dX11_slack_134 : decode cX11_slack 134 = .ok (.ireturn, 1) := by decide +kernel
theorem dX11_late_0 : decode cX11_late 0 = .ok (.aload_n 0, 1) := by decide +kernel
theorem dX11_late_1 : decode cX11_late 1 = .ok (.getfield 45, 3) := by decide +kernel
theorem dX11_late_4 : decode cX11_late 4 = .ok (.invokevirtual 194, 3) := by decide +kernel
theorem dX11_late_7 : decode cX11_late 7 = .ok (.aload_n 0, 1) := by decide +kernel
theorem dX11_late_8 : decode cX11_late 8 = .ok (.getfield 45, 3) := by decide +kernel
theorem dX11_late_11 : decode cX11_late 11 = .ok (.invokevirtual 223, 3) := by decide +kernel
theorem dX11_late_14 : decode cX11_late 14 = .ok (.aload_n 0, 1) := by decide +kernel
theorem dX11_late_15 : decode cX11_late 15 = .ok (.getfield 45, 3) := by decide +kernel
theorem dX11_late_18 : decode cX11_late 18 = .ok (.aload_n 0, 1) := by decide +kernel
theorem dX11_late_19 : decode cX11_late 19 = .ok (.getfield 45, 3) := by decide +kernel
theorem dX11_late_22 : decode cX11_late 22 = .ok (.getfield 197, 3) := by decide +kernel
theorem dX11_late_25 : decode cX11_late 25 = .ok (.iload_n 1, 1) := by decide +kernel
theorem dX11_late_26 : decode cX11_late 26 = .ok (.invokevirtual 213, 3) := by decide +kernel
theorem dX11_late_29 : decode cX11_late 29 = .ok (.istore_n 2, 1) := by decide +kernel
theorem dX11_late_30 : decode cX11_late 30 = .ok (.aload_n 0, 1) := by decide +kernel
theorem dX11_late_31 : decode cX11_late 31 = .ok (.getfield 45, 3) := by decide +kernel
theorem dX11_late_34 : decode cX11_late 34 = .ok (.aload_n 0, 1) := by decide +kernel
theorem dX11_late_35 : decode cX11_late 35 = .ok (.getfield 45, 3) := by decide +kernel
theorem dX11_late_38 : decode cX11_late 38 = .ok (.getfield 226, 3) := by decide +kernel
theorem dX11_late_41 : decode cX11_late 41 = .ok (.iload_n 1, 1) := by decide +kernel
theorem dX11_late_42 : decode cX11_late 42 = .ok (.invokevirtual 213, 3) := by decide +kernel
theorem dX11_late_45 : decode cX11_late 45 = .ok (.istore_n 3, 1) := by decide +kernel
theorem dX11_late_46 : decode cX11_late 46 = .ok (.iload_n 2, 1) := by decide +kernel
theorem dX11_late_47 : decode cX11_late 47 = .ok (.ifCond .lt 7, 3) := by decide +kernel
theorem dX11_late_50 : decode cX11_late 50 = .ok (.iload_n 3, 1) := by decide +kernel
theorem dX11_late_51 : decode cX11_late 51 = .ok (.ifCond .ge 8, 3) := by decide +kernel
theorem dX11_late_54 : decode cX11_late 54 = .ok (.ldc 187, 2) := by decide +kernel
theorem dX11_late_56 : decode cX11_late 56 = .ok (.goto 6, 3) := by decide +kernel
theorem dX11_late_59 : decode cX11_late 59 = .ok (.iload_n 2, 1) := by decide +kernel
theorem dX11_late_60 : decode cX11_late 60 = .ok (.iload_n 3, 1) := by decide +kernel
theorem dX11_late_61 : decode cX11_late 61 = .ok (.isub, 1) := by decide +kernel
theorem dX11_late_62 : decode cX11_late 62 = .ok (.ireturn, 1) := by decide +kernel
theorem dX11_boat_0 : decode cX11_boat 0 = .ok (.iload_n 1, 1) := by decide +kernel
theorem dX11_boat_1 : decode cX11_boat 1 = .ok (.iconst 1, 1) := by decide +kernel
theorem dX11_boat_2 : decode cX11_boat 2 = .ok (.sipush 1500, 3) := by decide +kernel
theorem dX11_boat_5 : decode cX11_boat 5 = .ok (.invokestatic 102, 3) := by decide +kernel
theorem dX11_boat_8 : decode cX11_boat 8 = .ok (.ifCond .eq 13, 3) := by decide +kernel
theorem dX11_boat_11 : decode cX11_boat 11 = .ok (.iload_n 2, 1) := by decide +kernel
theorem dX11_boat_12 : decode cX11_boat 12 = .ok (.iconst 0, 1) := by decide +kernel
theorem dX11_boat_13 : decode cX11_boat 13 = .ok (.bipush 99, 2) := by decide +kernel
theorem dX11_boat_15 : decode cX11_boat 15 = .ok (.invokestatic 102, 3) := by decide +kernel
theorem dX11_boat_18 : decode cX11_boat 18 = .ok (.ifCond .ne 9, 3) := by decide +kernel
theorem dX11_boat_21 : decode cX11_boat 21 = .ok (.aload_n 0, 1) := by decide +kernel
theorem dX11_boat_22 : decode cX11_boat 22 = .ok (.iconst (-1), 1) := by decide +kernel
theorem dX11_boat_23 : decode cX11_boat 23 = .ok (.invokevirtual 112, 3) := by decide +kernel
theorem dX11_boat_26 : decode cX11_boat 26 = .ok (.ireturn, 1) := by decide +kernel
theorem dX11_boat_27 : decode cX11_boat 27 = .ok (.aload_n 0, 1) := by decide +kernel
theorem dX11_boat_28 : decode cX11_boat 28 = .ok (.getfield 10, 3) := by decide +kernel
theorem dX11_boat_31 : decode cX11_boat 31 = .ok (.getfield 229, 3) := by decide +kernel
theorem dX11_boat_34 : decode cX11_boat 34 = .ok (.bipush 6, 2) := by decide +kernel
theorem dX11_boat_36 : decode cX11_boat 36 = .ok (.if_icmp .lt 10, 3) := by decide +kernel
theorem dX11_boat_39 : decode cX11_boat 39 = .ok (.aload_n 0, 1) := by decide +kernel
theorem dX11_boat_40 : decode cX11_boat 40 = .ok (.bipush (-5), 2) := by decide +kernel
theorem dX11_boat_42 : decode cX11_boat 42 = .ok (.invokevirtual 112, 3) := by decide +kernel
theorem dX11_boat_45 : decode cX11_boat 45 = .ok (.ireturn, 1) := by decide +kernel
theorem dX11_boat_46 : decode cX11_boat 46 = .ok (.aload_n 0, 1) := by decide +kernel
theorem dX11_boat_47 : decode cX11_boat 47 = .ok (.getfield 10, 3) := by decide +kernel
theorem dX11_boat_50 : decode cX11_boat 50 = .ok (.getfield 232, 3) := by decide +kernel
theorem dX11_boat_53 : decode cX11_boat 53 = .ok (.aload_n 0, 1) := by decide +kernel
theorem dX11_boat_54 : decode cX11_boat 54 = .ok (.getfield 10, 3) := by decide +kernel
theorem dX11_boat_57 : decode cX11_boat 57 = .ok (.getfield 229, 3) := by decide +kernel
theorem dX11_boat_60 : decode cX11_boat 60 = .ok (.iload_n 1, 1) := by decide +kernel
theorem dX11_boat_61 : decode cX11_boat 61 = .ok (.iastore, 1) := by decide +kernel
theorem dX11_boat_62 : decode cX11_boat 62 = .ok (.aload_n 0, 1) := by decide +kernel
theorem dX11_boat_63 : decode cX11_boat 63 = .ok (.getfield 10, 3) := by decide +kernel
theorem dX11_boat_66 : decode cX11_boat 66 = .ok (.getfield 235, 3) := by decide +kernel
theorem dX11_boat_69 : decode cX11_boat 69 = .ok (.aload_n 0, 1) := by decide +kernel
theorem dX11_boat_70 : decode cX11_boat 70 = .ok (.getfield 10, 3) := by decide +kernel
theorem dX11_boat_73 : decode cX11_boat 73 = .ok (.getfield 229, 3) := by decide +kernel
theorem dX11_boat_76 : decode cX11_boat 76 = .ok (.iload_n 2, 1) := by decide +kernel
theorem dX11_boat_77 : decode cX11_boat 77 = .ok (.iastore, 1) := by decide +kernel
theorem dX11_boat_78 : decode cX11_boat 78 = .ok (.aload_n 0, 1) := by decide +kernel
theorem dX11_boat_79 : decode cX11_boat 79 = .ok (.getfield 10, 3) := by decide +kernel
theorem dX11_boat_82 : decode cX11_boat 82 = .ok (.dup, 1) := by decide +kernel
theorem dX11_boat_83 : decode cX11_boat 83 = .ok (.getfield 229, 3) := by decide +kernel
theorem dX11_boat_86 : decode cX11_boat 86 = .ok (.iconst 1, 1) := by decide +kernel
theorem dX11_boat_87 : decode cX11_boat 87 = .ok (.iadd, 1) := by decide +kernel
theorem dX11_boat_88 : decode cX11_boat 88 = .ok (.putfield 229, 3) := by decide +kernel
theorem dX11_boat_91 : decode cX11_boat 91 = .ok (.aload_n 0, 1) := by decide +kernel
theorem dX11_boat_92 : decode cX11_boat 92 = .ok (.aload_n 0, 1) := by decide +kernel
theorem dX11_boat_93 : decode cX11_boat 93 = .ok (.getfield 10, 3) := by decide +kernel
theorem dX11_boat_96 : decode cX11_boat 96 = .ok (.getfield 229, 3) := by decide +kernel
theorem dX11_boat_99 : decode cX11_boat 99 = .ok (.iconst 1, 1) := by decide +kernel
theorem dX11_boat_100 : decode cX11_boat 100 = .ok (.isub, 1) := by decide +kernel
theorem dX11_boat_101 : decode cX11_boat 101 = .ok (.invokevirtual 122, 3) := by decide +kernel
theorem dX11_boat_104 : decode cX11_boat 104 = .ok (.ireturn, 1) := by decide +kernel
theorem dX11_soonest_0 : decode cX11_soonest 0 = .ok (.aload_n 0, 1) := by decide +kernel
theorem dX11_soonest_1 : decode cX11_soonest 1 = .ok (.iload_n 1, 1) := by decide +kernel
theorem dX11_soonest_2 : decode cX11_soonest 2 = .ok (.invokevirtual 238, 3) := by decide +kernel
theorem dX11_soonest_5 : decode cX11_soonest 5 = .ok (.ifCond .eq 25, 3) := by decide +kernel
theorem dX11_soonest_8 : decode cX11_soonest 8 = .ok (.iload_n 2, 1) := by decide +kernel
theorem dX11_soonest_9 : decode cX11_soonest 9 = .ok (.invokestatic 241, 3) := by decide +kernel
theorem dX11_soonest_12 : decode cX11_soonest 12 = .ok (.ifCond .eq 18, 3) := by decide +kernel
theorem dX11_soonest_15 : decode cX11_soonest 15 = .ok (.iload_n 3, 1) := by decide +kernel
theorem dX11_soonest_16 : decode cX11_soonest 16 = .ok (.invokestatic 200, 3) := by decide +kernel
theorem dX11_soonest_19 : decode cX11_soonest 19 = .ok (.ifCond .eq 11, 3) := by decide +kernel
theorem dX11_soonest_22 : decode cX11_soonest 22 = .ok (.iload 4, 2) := by decide +kernel
theorem dX11_soonest_24 : decode cX11_soonest 24 = .ok (.invokestatic 200, 3) := by decide +kernel
theorem dX11_soonest_27 : decode cX11_soonest 27 = .ok (.ifCond .ne 5, 3) := by decide +kernel
theorem dX11_soonest_30 : decode cX11_soonest 30 = .ok (.iconst (-1), 1) := by decide +kernel
theorem dX11_soonest_31 : decode cX11_soonest 31 = .ok (.ireturn, 1) := by decide +kernel
theorem dX11_soonest_32 : decode cX11_soonest 32 = .ok (.aload_n 0, 1) := by decide +kernel
theorem dX11_soonest_33 : decode cX11_soonest 33 = .ok (.getfield 45, 3) := by decide +kernel
theorem dX11_soonest_36 : decode cX11_soonest 36 = .ok (.invokevirtual 194, 3) := by decide +kernel
theorem dX11_soonest_39 : decode cX11_soonest 39 = .ok (.aload_n 0, 1) := by decide +kernel
theorem dX11_soonest_40 : decode cX11_soonest 40 = .ok (.getfield 54, 3) := by decide +kernel
theorem dX11_soonest_43 : decode cX11_soonest 43 = .ok (.iload_n 1, 1) := by decide +kernel
theorem dX11_soonest_44 : decode cX11_soonest 44 = .ok (.invokevirtual 244, 3) := by decide +kernel
theorem dX11_soonest_47 : decode cX11_soonest 47 = .ok (.aload_n 0, 1) := by decide +kernel
theorem dX11_soonest_48 : decode cX11_soonest 48 = .ok (.getfield 54, 3) := by decide +kernel
theorem dX11_soonest_51 : decode cX11_soonest 51 = .ok (.iload_n 2, 1) := by decide +kernel
theorem dX11_soonest_52 : decode cX11_soonest 52 = .ok (.iload_n 3, 1) := by decide +kernel
theorem dX11_soonest_53 : decode cX11_soonest 53 = .ok (.iload 4, 2) := by decide +kernel
theorem dX11_soonest_55 : decode cX11_soonest 55 = .ok (.invokevirtual 247, 3) := by decide +kernel
theorem dX11_soonest_58 : decode cX11_soonest 58 = .ok (.ireturn, 1) := by decide +kernel
theorem dX11_way_0 : decode cX11_way 0 = .ok (.aload_n 0, 1) := by decide +kernel
theorem dX11_way_1 : decode cX11_way 1 = .ok (.iload_n 1, 1) := by decide +kernel
theorem dX11_way_2 : decode cX11_way 2 = .ok (.invokevirtual 238, 3) := by decide +kernel
theorem dX11_way_5 : decode cX11_way 5 = .ok (.ifCond .eq 33, 3) := by decide +kernel
theorem dX11_way_8 : decode cX11_way 8 = .ok (.iload_n 2, 1) := by decide +kernel
theorem dX11_way_9 : decode cX11_way 9 = .ok (.invokestatic 241, 3) := by decide +kernel
theorem dX11_way_12 : decode cX11_way 12 = .ok (.ifCond .eq 26, 3) := by decide +kernel
theorem dX11_way_15 : decode cX11_way 15 = .ok (.iload_n 3, 1) := by decide +kernel
theorem dX11_way_16 : decode cX11_way 16 = .ok (.invokestatic 200, 3) := by decide +kernel
theorem dX11_way_19 : decode cX11_way 19 = .ok (.ifCond .eq 19, 3) := by decide +kernel
theorem dX11_way_22 : decode cX11_way 22 = .ok (.iload 4, 2) := by decide +kernel
theorem dX11_way_24 : decode cX11_way 24 = .ok (.invokestatic 200, 3) := by decide +kernel
theorem dX11_way_27 : decode cX11_way 27 = .ok (.ifCond .eq 11, 3) := by decide +kernel
theorem dX11_way_30 : decode cX11_way 30 = .ok (.iload 5, 2) := by decide +kernel
theorem dX11_way_32 : decode cX11_way 32 = .ok (.invokestatic 241, 3) := by decide +kernel
theorem dX11_way_35 : decode cX11_way 35 = .ok (.ifCond .ne 5, 3) := by decide +kernel
theorem dX11_way_38 : decode cX11_way 38 = .ok (.iconst (-1), 1) := by decide +kernel
theorem dX11_way_39 : decode cX11_way 39 = .ok (.ireturn, 1) := by decide +kernel
theorem dX11_way_40 : decode cX11_way 40 = .ok (.aload_n 0, 1) := by decide +kernel
theorem dX11_way_41 : decode cX11_way 41 = .ok (.getfield 45, 3) := by decide +kernel
theorem dX11_way_44 : decode cX11_way 44 = .ok (.invokevirtual 194, 3) := by decide +kernel
theorem dX11_way_47 : decode cX11_way 47 = .ok (.aload_n 0, 1) := by decide +kernel
theorem dX11_way_48 : decode cX11_way 48 = .ok (.getfield 54, 3) := by decide +kernel
theorem dX11_way_51 : decode cX11_way 51 = .ok (.iload_n 1, 1) := by decide +kernel
theorem dX11_way_52 : decode cX11_way 52 = .ok (.invokevirtual 244, 3) := by decide +kernel
theorem dX11_way_55 : decode cX11_way 55 = .ok (.aload_n 0, 1) := by decide +kernel
theorem dX11_way_56 : decode cX11_way 56 = .ok (.getfield 54, 3) := by decide +kernel
theorem dX11_way_59 : decode cX11_way 59 = .ok (.iload_n 2, 1) := by decide +kernel
theorem dX11_way_60 : decode cX11_way 60 = .ok (.iload_n 3, 1) := by decide +kernel
theorem dX11_way_61 : decode cX11_way 61 = .ok (.iload 4, 2) := by decide +kernel
theorem dX11_way_63 : decode cX11_way 63 = .ok (.iload 5, 2) := by decide +kernel
theorem dX11_way_65 : decode cX11_way 65 = .ok (.invokevirtual 251, 3) := by decide +kernel
theorem dX11_way_68 : decode cX11_way 68 = .ok (.ireturn, 1) := by decide +kernel
theorem dX11_calmest_0 : decode cX11_calmest 0 = .ok (.aload_n 0, 1) := by decide +kernel
theorem dX11_calmest_1 : decode cX11_calmest 1 = .ok (.iload_n 1, 1) := by decide +kernel
theorem dX11_calmest_2 : decode cX11_calmest 2 = .ok (.invokevirtual 238, 3) := by decide +kernel
theorem dX11_calmest_5 : decode cX11_calmest 5 = .ok (.ifCond .eq 25, 3) := by decide +kernel
theorem dX11_calmest_8 : decode cX11_calmest 8 = .ok (.iload_n 2, 1) := by decide +kernel
theorem dX11_calmest_9 : decode cX11_calmest 9 = .ok (.invokestatic 241, 3) := by decide +kernel
theorem dX11_calmest_12 : decode cX11_calmest 12 = .ok (.ifCond .eq 18, 3) := by decide +kernel
theorem dX11_calmest_15 : decode cX11_calmest 15 = .ok (.iload_n 3, 1) := by decide +kernel
theorem dX11_calmest_16 : decode cX11_calmest 16 = .ok (.invokestatic 200, 3) := by decide +kernel
theorem dX11_calmest_19 : decode cX11_calmest 19 = .ok (.ifCond .eq 11, 3) := by decide +kernel
theorem dX11_calmest_22 : decode cX11_calmest 22 = .ok (.iload 4, 2) := by decide +kernel
theorem dX11_calmest_24 : decode cX11_calmest 24 = .ok (.invokestatic 200, 3) := by decide +kernel
theorem dX11_calmest_27 : decode cX11_calmest 27 = .ok (.ifCond .ne 5, 3) := by decide +kernel
theorem dX11_calmest_30 : decode cX11_calmest 30 = .ok (.iconst (-1), 1) := by decide +kernel
theorem dX11_calmest_31 : decode cX11_calmest 31 = .ok (.ireturn, 1) := by decide +kernel
theorem dX11_calmest_32 : decode cX11_calmest 32 = .ok (.aload_n 0, 1) := by decide +kernel
theorem dX11_calmest_33 : decode cX11_calmest 33 = .ok (.getfield 45, 3) := by decide +kernel
theorem dX11_calmest_36 : decode cX11_calmest 36 = .ok (.invokevirtual 194, 3) := by decide +kernel
theorem dX11_calmest_39 : decode cX11_calmest 39 = .ok (.aload_n 0, 1) := by decide +kernel
theorem dX11_calmest_40 : decode cX11_calmest 40 = .ok (.getfield 54, 3) := by decide +kernel
theorem dX11_calmest_43 : decode cX11_calmest 43 = .ok (.iload_n 1, 1) := by decide +kernel
theorem dX11_calmest_44 : decode cX11_calmest 44 = .ok (.invokevirtual 244, 3) := by decide +kernel
theorem dX11_calmest_47 : decode cX11_calmest 47 = .ok (.aload_n 0, 1) := by decide +kernel
theorem dX11_calmest_48 : decode cX11_calmest 48 = .ok (.getfield 54, 3) := by decide +kernel
theorem dX11_calmest_51 : decode cX11_calmest 51 = .ok (.iload_n 2, 1) := by decide +kernel
theorem dX11_calmest_52 : decode cX11_calmest 52 = .ok (.iload_n 3, 1) := by decide +kernel
theorem dX11_calmest_53 : decode cX11_calmest 53 = .ok (.iload 4, 2) := by decide +kernel
theorem dX11_calmest_55 : decode cX11_calmest 55 = .ok (.invokevirtual 255, 3) := by decide +kernel
theorem dX11_calmest_58 : decode cX11_calmest 58 = .ok (.ireturn, 1) := by decide +kernel
theorem dX11_latest_0 : decode cX11_latest 0 = .ok (.aload_n 0, 1) := by decide +kernel
theorem dX11_latest_1 : decode cX11_latest 1 = .ok (.iload_n 1, 1) := by decide +kernel
theorem dX11_latest_2 : decode cX11_latest 2 = .ok (.invokevirtual 238, 3) := by decide +kernel
theorem dX11_latest_5 : decode cX11_latest 5 = .ok (.ifCond .eq 25, 3) := by decide +kernel
theorem dX11_latest_8 : decode cX11_latest 8 = .ok (.iload_n 2, 1) := by decide +kernel
theorem dX11_latest_9 : decode cX11_latest 9 = .ok (.invokestatic 200, 3) := by decide +kernel
theorem dX11_latest_12 : decode cX11_latest 12 = .ok (.ifCond .eq 18, 3) := by decide +kernel
theorem dX11_latest_15 : decode cX11_latest 15 = .ok (.iload_n 3, 1) := by decide +kernel
theorem dX11_latest_16 : decode cX11_latest 16 = .ok (.invokestatic 200, 3) := by decide +kernel
theorem dX11_latest_19 : decode cX11_latest 19 = .ok (.ifCond .eq 11, 3) := by decide +kernel
theorem dX11_latest_22 : decode cX11_latest 22 = .ok (.iload 4, 2) := by decide +kernel
theorem dX11_latest_24 : decode cX11_latest 24 = .ok (.invokestatic 241, 3) := by decide +kernel
theorem dX11_latest_27 : decode cX11_latest 27 = .ok (.ifCond .ne 5, 3) := by decide +kernel
theorem dX11_latest_30 : decode cX11_latest 30 = .ok (.iconst (-1), 1) := by decide +kernel
theorem dX11_latest_31 : decode cX11_latest 31 = .ok (.ireturn, 1) := by decide +kernel
theorem dX11_latest_32 : decode cX11_latest 32 = .ok (.aload_n 0, 1) := by decide +kernel
theorem dX11_latest_33 : decode cX11_latest 33 = .ok (.getfield 45, 3) := by decide +kernel
theorem dX11_latest_36 : decode cX11_latest 36 = .ok (.invokevirtual 194, 3) := by decide +kernel
theorem dX11_latest_39 : decode cX11_latest 39 = .ok (.aload_n 0, 1) := by decide +kernel
theorem dX11_latest_40 : decode cX11_latest 40 = .ok (.getfield 54, 3) := by decide +kernel
theorem dX11_latest_43 : decode cX11_latest 43 = .ok (.iload_n 1, 1) := by decide +kernel
theorem dX11_latest_44 : decode cX11_latest 44 = .ok (.invokevirtual 244, 3) := by decide +kernel
theorem dX11_latest_47 : decode cX11_latest 47 = .ok (.aload_n 0, 1) := by decide +kernel
theorem dX11_latest_48 : decode cX11_latest 48 = .ok (.getfield 54, 3) := by decide +kernel
theorem dX11_latest_51 : decode cX11_latest 51 = .ok (.iload_n 2, 1) := by decide +kernel
theorem dX11_latest_52 : decode cX11_latest 52 = .ok (.iload_n 3, 1) := by decide +kernel
theorem dX11_latest_53 : decode cX11_latest 53 = .ok (.iload 4, 2) := by decide +kernel
theorem dX11_latest_55 : decode cX11_latest 55 = .ok (.invokevirtual 258, 3) := by decide +kernel
theorem dX11_latest_58 : decode cX11_latest 58 = .ok (.ireturn, 1) := by decide +kernel
theorem dX11_move_0 : decode cX11_move 0 = .ok (.iload_n 1, 1) := by decide +kernel
theorem dX11_move_1 : decode cX11_move 1 = .ok (.iconst 0, 1) := by decide +kernel
theorem dX11_move_2 : decode cX11_move 2 = .ok (.iconst 4, 1) := by decide +kernel
theorem dX11_move_3 : decode cX11_move 3 = .ok (.invokestatic 102, 3) := by decide +kernel
theorem dX11_move_6 : decode cX11_move 6 = .ok (.ifCond .ne 9, 3) := by decide +kernel
theorem dX11_move_9 : decode cX11_move 9 = .ok (.aload_n 0, 1) := by decide +kernel
theorem dX11_move_10 : decode cX11_move 10 = .ok (.iconst (-1), 1) := by decide +kernel
theorem dX11_move_11 : decode cX11_move 11 = .ok (.invokevirtual 112, 3) := by decide +kernel
theorem dX11_move_14 : decode cX11_move 14 = .ok (.ireturn, 1) := by decide +kernel
theorem dX11_move_15 : decode cX11_move 15 = .ok (.aload_n 0, 1) := by decide +kernel
theorem dX11_move_16 : decode cX11_move 16 = .ok (.getfield 10, 3) := by decide +kernel
theorem dX11_move_19 : decode cX11_move 19 = .ok (.getfield 261, 3) := by decide +kernel
theorem dX11_move_22 : decode cX11_move 22 = .ok (.bipush 40, 2) := by decide +kernel
theorem dX11_move_24 : decode cX11_move 24 = .ok (.if_icmp .lt 10, 3) := by decide +kernel
theorem dX11_move_27 : decode cX11_move 27 = .ok (.aload_n 0, 1) := by decide +kernel
theorem dX11_move_28 : decode cX11_move 28 = .ok (.bipush (-5), 2) := by decide +kernel
theorem dX11_move_30 : decode cX11_move 30 = .ok (.invokevirtual 112, 3) := by decide +kernel
theorem dX11_move_33 : decode cX11_move 33 = .ok (.ireturn, 1) := by decide +kernel
theorem dX11_move_34 : decode cX11_move 34 = .ok (.aload_n 0, 1) := by decide +kernel
theorem dX11_move_35 : decode cX11_move 35 = .ok (.getfield 10, 3) := by decide +kernel
theorem dX11_move_38 : decode cX11_move 38 = .ok (.getfield 264, 3) := by decide +kernel
theorem dX11_move_41 : decode cX11_move 41 = .ok (.aload_n 0, 1) := by decide +kernel
theorem dX11_move_42 : decode cX11_move 42 = .ok (.getfield 10, 3) := by decide +kernel
theorem dX11_move_45 : decode cX11_move 45 = .ok (.getfield 261, 3) := by decide +kernel
theorem dX11_move_48 : decode cX11_move 48 = .ok (.iload_n 1, 1) := by decide +kernel
theorem dX11_move_49 : decode cX11_move 49 = .ok (.iastore, 1) := by decide +kernel
theorem dX11_move_50 : decode cX11_move 50 = .ok (.aload_n 0, 1) := by decide +kernel
theorem dX11_move_51 : decode cX11_move 51 = .ok (.getfield 10, 3) := by decide +kernel
theorem dX11_move_54 : decode cX11_move 54 = .ok (.dup, 1) := by decide +kernel
theorem dX11_move_55 : decode cX11_move 55 = .ok (.getfield 261, 3) := by decide +kernel
theorem dX11_move_58 : decode cX11_move 58 = .ok (.iconst 1, 1) := by decide +kernel
theorem dX11_move_59 : decode cX11_move 59 = .ok (.iadd, 1) := by decide +kernel
theorem dX11_move_60 : decode cX11_move 60 = .ok (.putfield 261, 3) := by decide +kernel
theorem dX11_move_63 : decode cX11_move 63 = .ok (.aload_n 0, 1) := by decide +kernel
theorem dX11_move_64 : decode cX11_move 64 = .ok (.aload_n 0, 1) := by decide +kernel
theorem dX11_move_65 : decode cX11_move 65 = .ok (.getfield 10, 3) := by decide +kernel
theorem dX11_move_68 : decode cX11_move 68 = .ok (.getfield 261, 3) := by decide +kernel
theorem dX11_move_71 : decode cX11_move 71 = .ok (.invokevirtual 122, 3) := by decide +kernel
theorem dX11_move_74 : decode cX11_move 74 = .ok (.ireturn, 1) := by decide +kernel
theorem dX11_tear_0 : decode cX11_tear 0 = .ok (.aload_n 0, 1) := by decide +kernel
theorem dX11_tear_1 : decode cX11_tear 1 = .ok (.getfield 10, 3) := by decide +kernel
theorem dX11_tear_4 : decode cX11_tear 4 = .ok (.getfield 261, 3) := by decide +kernel
theorem dX11_tear_7 : decode cX11_tear 7 = .ok (.istore_n 1, 1) := by decide +kernel
theorem dX11_tear_8 : decode cX11_tear 8 = .ok (.aload_n 0, 1) := by decide +kernel
theorem dX11_tear_9 : decode cX11_tear 9 = .ok (.getfield 10, 3) := by decide +kernel
theorem dX11_tear_12 : decode cX11_tear 12 = .ok (.iconst 0, 1) := by decide +kernel
theorem dX11_tear_13 : decode cX11_tear 13 = .ok (.putfield 261, 3) := by decide +kernel
theorem dX11_tear_16 : decode cX11_tear 16 = .ok (.iload_n 1, 1) := by decide +kernel
theorem dX11_tear_17 : decode cX11_tear 17 = .ok (.ireturn, 1) := by decide +kernel
theorem dX11_done_0 : decode cX11_done 0 = .ok (.aload_n 0, 1) := by decide +kernel
theorem dX11_done_1 : decode cX11_done 1 = .ok (.iload_n 1, 1) := by decide +kernel
theorem dX11_done_2 : decode cX11_done 2 = .ok (.invokevirtual 238, 3) := by decide +kernel
theorem dX11_done_5 : decode cX11_done 5 = .ok (.ifCond .eq 29, 3) := by decide +kernel
theorem dX11_done_8 : decode cX11_done 8 = .ok (.iload_n 2, 1) := by decide +kernel
theorem dX11_done_9 : decode cX11_done 9 = .ok (.invokestatic 241, 3) := by decide +kernel
theorem dX11_done_12 : decode cX11_done 12 = .ok (.ifCond .eq 22, 3) := by decide +kernel
theorem dX11_done_15 : decode cX11_done 15 = .ok (.iload_n 3, 1) := by decide +kernel
theorem dX11_done_16 : decode cX11_done 16 = .ok (.invokestatic 200, 3) := by decide +kernel
theorem dX11_done_19 : decode cX11_done 19 = .ok (.ifCond .eq 15, 3) := by decide +kernel
theorem dX11_done_22 : decode cX11_done 22 = .ok (.iload 4, 2) := by decide +kernel
theorem dX11_done_24 : decode cX11_done 24 = .ok (.bipush (-60), 2) := by decide +kernel
theorem dX11_done_26 : decode cX11_done 26 = .ok (.bipush 60, 2) := by decide +kernel
theorem dX11_done_28 : decode cX11_done 28 = .ok (.invokestatic 102, 3) := by decide +kernel
theorem dX11_done_31 : decode cX11_done 31 = .ok (.ifCond .ne 5, 3) := by decide +kernel
theorem dX11_done_34 : decode cX11_done 34 = .ok (.iconst (-1), 1) := by decide +kernel
theorem dX11_done_35 : decode cX11_done 35 = .ok (.ireturn, 1) := by decide +kernel
theorem dX11_done_36 : decode cX11_done 36 = .ok (.aload_n 0, 1) := by decide +kernel
theorem dX11_done_37 : decode cX11_done 37 = .ok (.getfield 45, 3) := by decide +kernel
theorem dX11_done_40 : decode cX11_done 40 = .ok (.invokevirtual 194, 3) := by decide +kernel
theorem dX11_done_43 : decode cX11_done 43 = .ok (.aload_n 0, 1) := by decide +kernel
theorem dX11_done_44 : decode cX11_done 44 = .ok (.getfield 54, 3) := by decide +kernel
theorem dX11_done_47 : decode cX11_done 47 = .ok (.iload_n 1, 1) := by decide +kernel
theorem dX11_done_48 : decode cX11_done 48 = .ok (.iload_n 2, 1) := by decide +kernel
theorem dX11_done_49 : decode cX11_done 49 = .ok (.iload_n 3, 1) := by decide +kernel
theorem dX11_done_50 : decode cX11_done 50 = .ok (.iload 4, 2) := by decide +kernel
theorem dX11_done_52 : decode cX11_done 52 = .ok (.invokevirtual 267, 3) := by decide +kernel
theorem dX11_done_55 : decode cX11_done 55 = .ok (.ireturn, 1) := by decide +kernel
theorem dX11_margin_0 : decode cX11_margin 0 = .ok (.aload_n 0, 1) := by decide +kernel
theorem dX11_margin_1 : decode cX11_margin 1 = .ok (.iload_n 1, 1) := by decide +kernel
theorem dX11_margin_2 : decode cX11_margin 2 = .ok (.invokevirtual 238, 3) := by decide +kernel
theorem dX11_margin_5 : decode cX11_margin 5 = .ok (.ifCond .eq 17, 3) := by decide +kernel
theorem dX11_margin_8 : decode cX11_margin 8 = .ok (.iload_n 2, 1) := by decide +kernel
theorem dX11_margin_9 : decode cX11_margin 9 = .ok (.invokestatic 241, 3) := by decide +kernel
theorem dX11_margin_12 : decode cX11_margin 12 = .ok (.ifCond .eq 10, 3) := by decide +kernel
theorem dX11_margin_15 : decode cX11_margin 15 = .ok (.iload_n 3, 1) := by decide +kernel
theorem dX11_margin_16 : decode cX11_margin 16 = .ok (.invokestatic 200, 3) := by decide +kernel
theorem dX11_margin_19 : decode cX11_margin 19 = .ok (.ifCond .ne 5, 3) := by decide +kernel
theorem dX11_margin_22 : decode cX11_margin 22 = .ok (.iconst (-1), 1) := by decide +kernel
theorem dX11_margin_23 : decode cX11_margin 23 = .ok (.ireturn, 1) := by decide +kernel
theorem dX11_margin_24 : decode cX11_margin 24 = .ok (.aload_n 0, 1) := by decide +kernel
theorem dX11_margin_25 : decode cX11_margin 25 = .ok (.getfield 45, 3) := by decide +kernel
theorem dX11_margin_28 : decode cX11_margin 28 = .ok (.invokevirtual 194, 3) := by decide +kernel
theorem dX11_margin_31 : decode cX11_margin 31 = .ok (.aload_n 0, 1) := by decide +kernel
theorem dX11_margin_32 : decode cX11_margin 32 = .ok (.getfield 54, 3) := by decide +kernel
theorem dX11_margin_35 : decode cX11_margin 35 = .ok (.iload_n 1, 1) := by decide +kernel
theorem dX11_margin_36 : decode cX11_margin 36 = .ok (.iload_n 2, 1) := by decide +kernel
theorem dX11_margin_37 : decode cX11_margin 37 = .ok (.iload_n 3, 1) := by decide +kernel
theorem dX11_margin_38 : decode cX11_margin 38 = .ok (.invokevirtual 270, 3) := by decide +kernel
theorem dX11_margin_41 : decode cX11_margin 41 = .ok (.ireturn, 1) := by decide +kernel
theorem dX11_ship_0 : decode cX11_ship 0 = .ok (.iload_n 1, 1) := by decide +kernel
theorem dX11_ship_1 : decode cX11_ship 1 = .ok (.invokestatic 184, 3) := by decide +kernel
theorem dX11_ship_4 : decode cX11_ship 4 = .ok (.ifCond .eq 24, 3) := by decide +kernel
theorem dX11_ship_7 : decode cX11_ship 7 = .ok (.iload_n 2, 1) := by decide +kernel
theorem dX11_ship_8 : decode cX11_ship 8 = .ok (.iconst 1, 1) := by decide +kernel
theorem dX11_ship_9 : decode cX11_ship 9 = .ok (.bipush 120, 2) := by decide +kernel
theorem dX11_ship_11 : decode cX11_ship 11 = .ok (.invokestatic 102, 3) := by decide +kernel
theorem dX11_ship_14 : decode cX11_ship 14 = .ok (.ifCond .eq 14, 3) := by decide +kernel
theorem dX11_ship_17 : decode cX11_ship 17 = .ok (.iload_n 3, 1) := by decide +kernel
theorem dX11_ship_18 : decode cX11_ship 18 = .ok (.iconst 0, 1) := by decide +kernel
theorem dX11_ship_19 : decode cX11_ship 19 = .ok (.sipush 2000, 3) := by decide +kernel
theorem dX11_ship_22 : decode cX11_ship 22 = .ok (.invokestatic 102, 3) := by decide +kernel
theorem dX11_ship_25 : decode cX11_ship 25 = .ok (.ifCond .ne 9, 3) := by decide +kernel
theorem dX11_ship_28 : decode cX11_ship 28 = .ok (.aload_n 0, 1) := by decide +kernel
theorem dX11_ship_29 : decode cX11_ship 29 = .ok (.iconst (-1), 1) := by decide +kernel
theorem dX11_ship_30 : decode cX11_ship 30 = .ok (.invokevirtual 112, 3) := by decide +kernel
theorem dX11_ship_33 : decode cX11_ship 33 = .ok (.ireturn, 1) := by decide +kernel
theorem dX11_ship_34 : decode cX11_ship 34 = .ok (.aload_n 0, 1) := by decide +kernel
theorem dX11_ship_35 : decode cX11_ship 35 = .ok (.getfield 10, 3) := by decide +kernel
theorem dX11_ship_38 : decode cX11_ship 38 = .ok (.getfield 273, 3) := by decide +kernel
theorem dX11_ship_41 : decode cX11_ship 41 = .ok (.bipush 6, 2) := by decide +kernel
theorem dX11_ship_43 : decode cX11_ship 43 = .ok (.if_icmp .lt 10, 3) := by decide +kernel
theorem dX11_ship_46 : decode cX11_ship 46 = .ok (.aload_n 0, 1) := by decide +kernel
theorem dX11_ship_47 : decode cX11_ship 47 = .ok (.bipush (-5), 2) := by decide +kernel
theorem dX11_ship_49 : decode cX11_ship 49 = .ok (.invokevirtual 112, 3) := by decide +kernel
theorem dX11_ship_52 : decode cX11_ship 52 = .ok (.ireturn, 1) := by decide +kernel
theorem dX11_ship_53 : decode cX11_ship 53 = .ok (.aload_n 0, 1) := by decide +kernel
theorem dX11_ship_54 : decode cX11_ship 54 = .ok (.getfield 10, 3) := by decide +kernel
theorem dX11_ship_57 : decode cX11_ship 57 = .ok (.getfield 276, 3) := by decide +kernel
theorem dX11_ship_60 : decode cX11_ship 60 = .ok (.aload_n 0, 1) := by decide +kernel
theorem dX11_ship_61 : decode cX11_ship 61 = .ok (.getfield 10, 3) := by decide +kernel
theorem dX11_ship_64 : decode cX11_ship 64 = .ok (.getfield 273, 3) := by decide +kernel
theorem dX11_ship_67 : decode cX11_ship 67 = .ok (.iload_n 1, 1) := by decide +kernel
theorem dX11_ship_68 : decode cX11_ship 68 = .ok (.iastore, 1) := by decide +kernel
theorem dX11_ship_69 : decode cX11_ship 69 = .ok (.aload_n 0, 1) := by decide +kernel
theorem dX11_ship_70 : decode cX11_ship 70 = .ok (.getfield 10, 3) := by decide +kernel
theorem dX11_ship_73 : decode cX11_ship 73 = .ok (.getfield 279, 3) := by decide +kernel
theorem dX11_ship_76 : decode cX11_ship 76 = .ok (.aload_n 0, 1) := by decide +kernel
theorem dX11_ship_77 : decode cX11_ship 77 = .ok (.getfield 10, 3) := by decide +kernel
theorem dX11_ship_80 : decode cX11_ship 80 = .ok (.getfield 273, 3) := by decide +kernel
theorem dX11_ship_83 : decode cX11_ship 83 = .ok (.iload_n 2, 1) := by decide +kernel
theorem dX11_ship_84 : decode cX11_ship 84 = .ok (.iastore, 1) := by decide +kernel
theorem dX11_ship_85 : decode cX11_ship 85 = .ok (.aload_n 0, 1) := by decide +kernel
theorem dX11_ship_86 : decode cX11_ship 86 = .ok (.getfield 10, 3) := by decide +kernel
theorem dX11_ship_89 : decode cX11_ship 89 = .ok (.getfield 282, 3) := by decide +kernel
theorem dX11_ship_92 : decode cX11_ship 92 = .ok (.aload_n 0, 1) := by decide +kernel
theorem dX11_ship_93 : decode cX11_ship 93 = .ok (.getfield 10, 3) := by decide +kernel
theorem dX11_ship_96 : decode cX11_ship 96 = .ok (.getfield 273, 3) := by decide +kernel
theorem dX11_ship_99 : decode cX11_ship 99 = .ok (.iload_n 3, 1) := by decide +kernel
theorem dX11_ship_100 : decode cX11_ship 100 = .ok (.iastore, 1) := by decide +kernel
theorem dX11_ship_101 : decode cX11_ship 101 = .ok (.aload_n 0, 1) := by decide +kernel
theorem dX11_ship_102 : decode cX11_ship 102 = .ok (.getfield 10, 3) := by decide +kernel
theorem dX11_ship_105 : decode cX11_ship 105 = .ok (.dup, 1) := by decide +kernel
theorem dX11_ship_106 : decode cX11_ship 106 = .ok (.getfield 273, 3) := by decide +kernel
theorem dX11_ship_109 : decode cX11_ship 109 = .ok (.iconst 1, 1) := by decide +kernel
theorem dX11_ship_110 : decode cX11_ship 110 = .ok (.iadd, 1) := by decide +kernel
theorem dX11_ship_111 : decode cX11_ship 111 = .ok (.putfield 273, 3) := by decide +kernel
theorem dX11_ship_114 : decode cX11_ship 114 = .ok (.aload_n 0, 1) := by decide +kernel
theorem dX11_ship_115 : decode cX11_ship 115 = .ok (.getfield 61, 3) := by decide +kernel
theorem dX11_ship_118 : decode cX11_ship 118 = .ok (.iconst 0, 1) := by decide +kernel
theorem dX11_ship_119 : decode cX11_ship 119 = .ok (.putfield 285, 3) := by decide +kernel
theorem dX11_ship_122 : decode cX11_ship 122 = .ok (.aload_n 0, 1) := by decide +kernel
theorem dX11_ship_123 : decode cX11_ship 123 = .ok (.aload_n 0, 1) := by decide +kernel
theorem dX11_ship_124 : decode cX11_ship 124 = .ok (.getfield 10, 3) := by decide +kernel
theorem dX11_ship_127 : decode cX11_ship 127 = .ok (.getfield 273, 3) := by decide +kernel
theorem dX11_ship_130 : decode cX11_ship 130 = .ok (.iconst 1, 1) := by decide +kernel
theorem dX11_ship_131 : decode cX11_ship 131 = .ok (.isub, 1) := by decide +kernel
theorem dX11_ship_132 : decode cX11_ship 132 = .ok (.invokevirtual 122, 3) := by decide +kernel
theorem dX11_ship_135 : decode cX11_ship 135 = .ok (.ireturn, 1) := by decide +kernel
theorem dX11_order_0 : decode cX11_order 0 = .ok (.aload_n 0, 1) := by decide +kernel
theorem dX11_order_1 : decode cX11_order 1 = .ok (.getfield 45, 3) := by decide +kernel
theorem dX11_order_4 : decode cX11_order 4 = .ok (.invokevirtual 194, 3) := by decide +kernel
theorem dX11_order_7 : decode cX11_order 7 = .ok (.aload_n 0, 1) := by decide +kernel
theorem dX11_order_8 : decode cX11_order 8 = .ok (.getfield 61, 3) := by decide +kernel
theorem dX11_order_11 : decode cX11_order 11 = .ok (.invokevirtual 289, 3) := by decide +kernel
theorem dX11_order_14 : decode cX11_order 14 = .ok (.iload_n 1, 1) := by decide +kernel
theorem dX11_order_15 : decode cX11_order 15 = .ok (.iconst (-1), 1) := by decide +kernel
theorem dX11_order_16 : decode cX11_order 16 = .ok (.if_icmp .ne 11, 3) := by decide +kernel
theorem dX11_order_19 : decode cX11_order 19 = .ok (.aload_n 0, 1) := by decide +kernel
theorem dX11_order_20 : decode cX11_order 20 = .ok (.getfield 61, 3) := by decide +kernel
theorem dX11_order_23 : decode cX11_order 23 = .ok (.getfield 292, 3) := by decide +kernel
theorem dX11_order_26 : decode cX11_order 26 = .ok (.ireturn, 1) := by decide +kernel
theorem dX11_order_27 : decode cX11_order 27 = .ok (.iload_n 1, 1) := by decide +kernel
theorem dX11_order_28 : decode cX11_order 28 = .ok (.iconst 0, 1) := by decide +kernel
theorem dX11_order_29 : decode cX11_order 29 = .ok (.aload_n 0, 1) := by decide +kernel
theorem dX11_order_30 : decode cX11_order 30 = .ok (.getfield 10, 3) := by decide +kernel
theorem dX11_order_33 : decode cX11_order 33 = .ok (.getfield 273, 3) := by decide +kernel
theorem dX11_order_36 : decode cX11_order 36 = .ok (.iconst 1, 1) := by decide +kernel
theorem dX11_order_37 : decode cX11_order 37 = .ok (.isub, 1) := by decide +kernel
theorem dX11_order_38 : decode cX11_order 38 = .ok (.invokestatic 102, 3) := by decide +kernel
theorem dX11_order_41 : decode cX11_order 41 = .ok (.ifCond .eq 18, 3) := by decide +kernel
theorem dX11_order_44 : decode cX11_order 44 = .ok (.aload_n 0, 1) := by decide +kernel
theorem dX11_order_45 : decode cX11_order 45 = .ok (.getfield 61, 3) := by decide +kernel
theorem dX11_order_48 : decode cX11_order 48 = .ok (.getfield 292, 3) := by decide +kernel
theorem dX11_order_51 : decode cX11_order 51 = .ok (.iconst (-1), 1) := by decide +kernel
theorem dX11_order_52 : decode cX11_order 52 = .ok (.if_icmp .eq 7, 3) := by decide +kernel
theorem dX11_order_55 : decode cX11_order 55 = .ok (.iconst 1, 1) := by decide +kernel
theorem dX11_order_56 : decode cX11_order 56 = .ok (.goto 4, 3) := by decide +kernel
theorem dX11_order_59 : decode cX11_order 59 = .ok (.iconst 0, 1) := by decide +kernel
theorem dX11_order_60 : decode cX11_order 60 = .ok (.istore_n 2, 1) := by decide +kernel
theorem dX11_order_61 : decode cX11_order 61 = .ok (.iload_n 2, 1) := by decide +kernel
theorem dX11_order_62 : decode cX11_order 62 = .ok (.ifCond .eq 15, 3) := by decide +kernel
theorem dX11_order_65 : decode cX11_order 65 = .ok (.aload_n 0, 1) := by decide +kernel
theorem dX11_order_66 : decode cX11_order 66 = .ok (.getfield 61, 3) := by decide +kernel
theorem dX11_order_69 : decode cX11_order 69 = .ok (.getfield 295, 3) := by decide +kernel
theorem dX11_order_72 : decode cX11_order 72 = .ok (.iload_n 1, 1) := by decide +kernel
theorem dX11_order_73 : decode cX11_order 73 = .ok (.iaload, 1) := by decide +kernel
theorem dX11_order_74 : decode cX11_order 74 = .ok (.goto 4, 3) := by decide +kernel
theorem dX11_order_77 : decode cX11_order 77 = .ok (.iconst (-1), 1) := by decide +kernel
theorem dX11_order_78 : decode cX11_order 78 = .ok (.ireturn, 1) := by decide +kernel
theorem dX11_begins_0 : decode cX11_begins 0 = .ok (.iload_n 1, 1) := by decide +kernel
theorem dX11_begins_1 : decode cX11_begins 1 = .ok (.iconst 0, 1) := by decide +kernel
theorem dX11_begins_2 : decode cX11_begins 2 = .ok (.aload_n 0, 1) := by decide +kernel
theorem dX11_begins_3 : decode cX11_begins 3 = .ok (.getfield 10, 3) := by decide +kernel
theorem dX11_begins_6 : decode cX11_begins 6 = .ok (.getfield 273, 3) := by decide +kernel
theorem dX11_begins_9 : decode cX11_begins 9 = .ok (.iconst 1, 1) := by decide +kernel
theorem dX11_begins_10 : decode cX11_begins 10 = .ok (.isub, 1) := by decide +kernel
theorem dX11_begins_11 : decode cX11_begins 11 = .ok (.invokestatic 102, 3) := by decide +kernel
theorem dX11_begins_14 : decode cX11_begins 14 = .ok (.ifCond .ne 5, 3) := by decide +kernel
theorem dX11_begins_17 : decode cX11_begins 17 = .ok (.iconst (-1), 1) := by decide +kernel
theorem dX11_begins_18 : decode cX11_begins 18 = .ok (.ireturn, 1) := by decide +kernel
theorem dX11_begins_19 : decode cX11_begins 19 = .ok (.aload_n 0, 1) := by decide +kernel
theorem dX11_begins_20 : decode cX11_begins 20 = .ok (.getfield 45, 3) := by decide +kernel
theorem dX11_begins_23 : decode cX11_begins 23 = .ok (.invokevirtual 194, 3) := by decide +kernel
theorem dX11_begins_26 : decode cX11_begins 26 = .ok (.aload_n 0, 1) := by decide +kernel
theorem dX11_begins_27 : decode cX11_begins 27 = .ok (.getfield 61, 3) := by decide +kernel
theorem dX11_begins_30 : decode cX11_begins 30 = .ok (.invokevirtual 289, 3) := by decide +kernel
theorem dX11_begins_33 : decode cX11_begins 33 = .ok (.aload_n 0, 1) := by decide +kernel
theorem dX11_begins_34 : decode cX11_begins 34 = .ok (.getfield 61, 3) := by decide +kernel
theorem dX11_begins_37 : decode cX11_begins 37 = .ok (.getfield 292, 3) := by decide +kernel
theorem dX11_begins_40 : decode cX11_begins 40 = .ok (.iconst (-1), 1) := by decide +kernel
theorem dX11_begins_41 : decode cX11_begins 41 = .ok (.if_icmp .ne 7, 3) := by decide +kernel
theorem dX11_begins_44 : decode cX11_begins 44 = .ok (.iconst (-1), 1) := by decide +kernel
theorem dX11_begins_45 : decode cX11_begins 45 = .ok (.goto 12, 3) := by decide +kernel
theorem dX11_begins_48 : decode cX11_begins 48 = .ok (.aload_n 0, 1) := by decide +kernel
theorem dX11_begins_49 : decode cX11_begins 49 = .ok (.getfield 61, 3) := by decide +kernel
theorem dX11_begins_52 : decode cX11_begins 52 = .ok (.getfield 298, 3) := by decide +kernel
theorem dX11_begins_55 : decode cX11_begins 55 = .ok (.iload_n 1, 1) := by decide +kernel
theorem dX11_begins_56 : decode cX11_begins 56 = .ok (.iaload, 1) := by decide +kernel
theorem dX11_begins_57 : decode cX11_begins 57 = .ok (.ireturn, 1) := by decide +kernel
theorem dX11_taken_0 : decode cX11_taken 0 = .ok (.iload_n 1, 1) := by decide +kernel
theorem dX11_taken_1 : decode cX11_taken 1 = .ok (.iconst 0, 1) := by decide +kernel
theorem dX11_taken_2 : decode cX11_taken 2 = .ok (.bipush 20, 2) := by decide +kernel
theorem dX11_taken_4 : decode cX11_taken 4 = .ok (.invokestatic 102, 3) := by decide +kernel
theorem dX11_taken_7 : decode cX11_taken 7 = .ok (.ifCond .eq 14, 3) := by decide +kernel
theorem dX11_taken_10 : decode cX11_taken 10 = .ok (.aload_n 0, 1) := by decide +kernel
theorem dX11_taken_11 : decode cX11_taken 11 = .ok (.getfield 45, 3) := by decide +kernel
theorem dX11_taken_14 : decode cX11_taken 14 = .ok (.iload_n 1, 1) := by decide +kernel
theorem dX11_taken_15 : decode cX11_taken 15 = .ok (.invokevirtual 301, 3) := by decide +kernel
theorem dX11_taken_18 : decode cX11_taken 18 = .ok (.goto 6, 3) := by decide +kernel
theorem dX11_taken_21 : decode cX11_taken 21 = .ok (.ldc2_w 305, 3) := by decide +kernel
theorem dX11_taken_24 : decode cX11_taken 24 = .ok (.lreturn, 1) := by decide +kernel
theorem dX11_most_0 : decode cX11_most 0 = .ok (.iload_n 1, 1) := by decide +kernel
theorem dX11_most_1 : decode cX11_most 1 = .ok (.ifCond .ne 11, 3) := by decide +kernel
theorem dX11_most_4 : decode cX11_most 4 = .ok (.aload_n 0, 1) := by decide +kernel
theorem dX11_most_5 : decode cX11_most 5 = .ok (.getfield 45, 3) := by decide +kernel
theorem dX11_most_8 : decode cX11_most 8 = .ok (.invokevirtual 307, 3) := by decide +kernel
theorem dX11_most_11 : decode cX11_most 11 = .ok (.ireturn, 1) := by decide +kernel
theorem dX11_most_12 : decode cX11_most 12 = .ok (.iload_n 1, 1) := by decide +kernel
theorem dX11_most_13 : decode cX11_most 13 = .ok (.iconst 1, 1) := by decide +kernel
theorem dX11_most_14 : decode cX11_most 14 = .ok (.if_icmp .ne 10, 3) := by decide +kernel
theorem dX11_most_17 : decode cX11_most 17 = .ok (.iload_n 2, 1) := by decide +kernel
theorem dX11_most_18 : decode cX11_most 18 = .ok (.invokestatic 184, 3) := by decide +kernel
theorem dX11_most_21 : decode cX11_most 21 = .ok (.ifCond .ne 6, 3) := by decide +kernel
theorem dX11_most_24 : decode cX11_most 24 = .ok (.ldc 187, 2) := by decide +kernel
theorem dX11_most_26 : decode cX11_most 26 = .ok (.ireturn, 1) := by decide +kernel
theorem dX11_most_27 : decode cX11_most 27 = .ok (.aload_n 0, 1) := by decide +kernel
theorem dX11_most_28 : decode cX11_most 28 = .ok (.getfield 45, 3) := by decide +kernel
theorem dX11_most_31 : decode cX11_most 31 = .ok (.aload_n 0, 1) := by decide +kernel
theorem dX11_most_32 : decode cX11_most 32 = .ok (.getfield 45, 3) := by decide +kernel
theorem dX11_most_35 : decode cX11_most 35 = .ok (.invokevirtual 307, 3) := by decide +kernel
theorem dX11_most_38 : decode cX11_most 38 = .ok (.invokevirtual 311, 3) := by decide +kernel
theorem dX11_most_41 : decode cX11_most 41 = .ok (.aload_n 0, 1) := by decide +kernel
theorem dX11_most_42 : decode cX11_most 42 = .ok (.getfield 45, 3) := by decide +kernel
theorem dX11_most_45 : decode cX11_most 45 = .ok (.getfield 314, 3) := by decide +kernel
theorem dX11_most_48 : decode cX11_most 48 = .ok (.iload_n 2, 1) := by decide +kernel
theorem dX11_most_49 : decode cX11_most 49 = .ok (.iaload, 1) := by decide +kernel
theorem dX11_most_50 : decode cX11_most 50 = .ok (.ireturn, 1) := by decide +kernel
theorem dX11_cast_0 : decode cX11_cast 0 = .ok (.iload_n 1, 1) := by decide +kernel
theorem dX11_cast_1 : decode cX11_cast 1 = .ok (.invokestatic 184, 3) := by decide +kernel
theorem dX11_cast_4 : decode cX11_cast 4 = .ok (.ifCond .eq 16, 3) := by decide +kernel
theorem dX11_cast_7 : decode cX11_cast 7 = .ok (.iload_n 2, 1) := by decide +kernel
theorem dX11_cast_8 : decode cX11_cast 8 = .ok (.sipush (-9999), 3) := by decide +kernel
theorem dX11_cast_11 : decode cX11_cast 11 = .ok (.sipush 9999, 3) := by decide +kernel
theorem dX11_cast_14 : decode cX11_cast 14 = .ok (.invokestatic 102, 3) := by decide +kernel
theorem dX11_cast_17 : decode cX11_cast 17 = .ok (.ifCond .ne 9, 3) := by decide +kernel
theorem dX11_cast_20 : decode cX11_cast 20 = .ok (.aload_n 0, 1) := by decide +kernel
theorem dX11_cast_21 : decode cX11_cast 21 = .ok (.iconst (-1), 1) := by decide +kernel
theorem dX11_cast_22 : decode cX11_cast 22 = .ok (.invokevirtual 112, 3) := by decide +kernel
theorem dX11_cast_25 : decode cX11_cast 25 = .ok (.ireturn, 1) := by decide +kernel
theorem dX11_cast_26 : decode cX11_cast 26 = .ok (.aload_n 0, 1) := by decide +kernel
theorem dX11_cast_27 : decode cX11_cast 27 = .ok (.getfield 10, 3) := by decide +kernel
theorem dX11_cast_30 : decode cX11_cast 30 = .ok (.getfield 317, 3) := by decide +kernel
theorem dX11_cast_33 : decode cX11_cast 33 = .ok (.bipush 12, 2) := by decide +kernel
theorem dX11_cast_35 : decode cX11_cast 35 = .ok (.if_icmp .lt 10, 3) := by decide +kernel
theorem dX11_cast_38 : decode cX11_cast 38 = .ok (.aload_n 0, 1) := by decide +kernel
theorem dX11_cast_39 : decode cX11_cast 39 = .ok (.bipush (-5), 2) := by decide +kernel
theorem dX11_cast_41 : decode cX11_cast 41 = .ok (.invokevirtual 112, 3) := by decide +kernel
theorem dX11_cast_44 : decode cX11_cast 44 = .ok (.ireturn, 1) := by decide +kernel
theorem dX11_cast_45 : decode cX11_cast 45 = .ok (.aload_n 0, 1) := by decide +kernel
theorem dX11_cast_46 : decode cX11_cast 46 = .ok (.getfield 10, 3) := by decide +kernel
theorem dX11_cast_49 : decode cX11_cast 49 = .ok (.getfield 320, 3) := by decide +kernel
theorem dX11_cast_52 : decode cX11_cast 52 = .ok (.aload_n 0, 1) := by decide +kernel
theorem dX11_cast_53 : decode cX11_cast 53 = .ok (.getfield 10, 3) := by decide +kernel
theorem dX11_cast_56 : decode cX11_cast 56 = .ok (.getfield 317, 3) := by decide +kernel
theorem dX11_cast_59 : decode cX11_cast 59 = .ok (.iload_n 1, 1) := by decide +kernel
theorem dX11_cast_60 : decode cX11_cast 60 = .ok (.iastore, 1) := by decide +kernel
theorem dX11_cast_61 : decode cX11_cast 61 = .ok (.aload_n 0, 1) := by decide +kernel
theorem dX11_cast_62 : decode cX11_cast 62 = .ok (.getfield 10, 3) := by decide +kernel
theorem dX11_cast_65 : decode cX11_cast 65 = .ok (.getfield 323, 3) := by decide +kernel
theorem dX11_cast_68 : decode cX11_cast 68 = .ok (.aload_n 0, 1) := by decide +kernel
theorem dX11_cast_69 : decode cX11_cast 69 = .ok (.getfield 10, 3) := by decide +kernel
theorem dX11_cast_72 : decode cX11_cast 72 = .ok (.getfield 317, 3) := by decide +kernel
theorem dX11_cast_75 : decode cX11_cast 75 = .ok (.iload_n 2, 1) := by decide +kernel
theorem dX11_cast_76 : decode cX11_cast 76 = .ok (.iastore, 1) := by decide +kernel
theorem dX11_cast_77 : decode cX11_cast 77 = .ok (.aload_n 0, 1) := by decide +kernel
theorem dX11_cast_78 : decode cX11_cast 78 = .ok (.getfield 10, 3) := by decide +kernel
theorem dX11_cast_81 : decode cX11_cast 81 = .ok (.dup, 1) := by decide +kernel
theorem dX11_cast_82 : decode cX11_cast 82 = .ok (.getfield 317, 3) := by decide +kernel
theorem dX11_cast_85 : decode cX11_cast 85 = .ok (.iconst 1, 1) := by decide +kernel
theorem dX11_cast_86 : decode cX11_cast 86 = .ok (.iadd, 1) := by decide +kernel
theorem dX11_cast_87 : decode cX11_cast 87 = .ok (.putfield 317, 3) := by decide +kernel
theorem dX11_cast_90 : decode cX11_cast 90 = .ok (.aload_n 0, 1) := by decide +kernel
theorem dX11_cast_91 : decode cX11_cast 91 = .ok (.getfield 68, 3) := by decide +kernel
theorem dX11_cast_94 : decode cX11_cast 94 = .ok (.iconst (-1), 1) := by decide +kernel
theorem dX11_cast_95 : decode cX11_cast 95 = .ok (.putfield 326, 3) := by decide +kernel
theorem dX11_cast_98 : decode cX11_cast 98 = .ok (.aload_n 0, 1) := by decide +kernel
theorem dX11_cast_99 : decode cX11_cast 99 = .ok (.aload_n 0, 1) := by decide +kernel
theorem dX11_cast_100 : decode cX11_cast 100 = .ok (.getfield 10, 3) := by decide +kernel
theorem dX11_cast_103 : decode cX11_cast 103 = .ok (.getfield 317, 3) := by decide +kernel
theorem dX11_cast_106 : decode cX11_cast 106 = .ok (.iconst 1, 1) := by decide +kernel
theorem dX11_cast_107 : decode cX11_cast 107 = .ok (.isub, 1) := by decide +kernel
theorem dX11_cast_108 : decode cX11_cast 108 = .ok (.invokevirtual 122, 3) := by decide +kernel
theorem dX11_cast_111 : decode cX11_cast 111 = .ok (.ireturn, 1) := by decide +kernel
theorem dX11_agree_0 : decode cX11_agree 0 = .ok (.iload_n 1, 1) := by decide +kernel
theorem dX11_agree_1 : decode cX11_agree 1 = .ok (.invokestatic 125, 3) := by decide +kernel
theorem dX11_agree_4 : decode cX11_agree 4 = .ok (.ifCond .eq 12, 3) := by decide +kernel
theorem dX11_agree_7 : decode cX11_agree 7 = .ok (.iload_n 2, 1) := by decide +kernel
theorem dX11_agree_8 : decode cX11_agree 8 = .ok (.iconst 0, 1) := by decide +kernel
theorem dX11_agree_9 : decode cX11_agree 9 = .ok (.iconst 5, 1) := by decide +kernel
theorem dX11_agree_10 : decode cX11_agree 10 = .ok (.invokestatic 102, 3) := by decide +kernel
theorem dX11_agree_13 : decode cX11_agree 13 = .ok (.ifCond .ne 5, 3) := by decide +kernel
theorem dX11_agree_16 : decode cX11_agree 16 = .ok (.iconst (-1), 1) := by decide +kernel
theorem dX11_agree_17 : decode cX11_agree 17 = .ok (.ireturn, 1) := by decide +kernel
theorem dX11_agree_18 : decode cX11_agree 18 = .ok (.aload_n 0, 1) := by decide +kernel
theorem dX11_agree_19 : decode cX11_agree 19 = .ok (.getfield 68, 3) := by decide +kernel
theorem dX11_agree_22 : decode cX11_agree 22 = .ok (.iload_n 1, 1) := by decide +kernel
theorem dX11_agree_23 : decode cX11_agree 23 = .ok (.invokevirtual 329, 3) := by decide +kernel
theorem dX11_agree_26 : decode cX11_agree 26 = .ok (.iload_n 2, 1) := by decide +kernel
theorem dX11_agree_27 : decode cX11_agree 27 = .ok (.tableswitch 73 0 4 #[33, 41, 49, 57, 65], 33) := by decide +kernel
theorem dX11_agree_60 : decode cX11_agree 60 = .ok (.aload_n 0, 1) := by decide +kernel
theorem dX11_agree_61 : decode cX11_agree 61 = .ok (.getfield 68, 3) := by decide +kernel
theorem dX11_agree_64 : decode cX11_agree 64 = .ok (.getfield 331, 3) := by decide +kernel
theorem dX11_agree_67 : decode cX11_agree 67 = .ok (.ireturn, 1) := by decide +kernel
theorem dX11_agree_68 : decode cX11_agree 68 = .ok (.aload_n 0, 1) := by decide +kernel
theorem dX11_agree_69 : decode cX11_agree 69 = .ok (.getfield 68, 3) := by decide +kernel
theorem dX11_agree_72 : decode cX11_agree 72 = .ok (.getfield 334, 3) := by decide +kernel
theorem dX11_agree_75 : decode cX11_agree 75 = .ok (.ireturn, 1) := by decide +kernel
theorem dX11_agree_76 : decode cX11_agree 76 = .ok (.aload_n 0, 1) := by decide +kernel
theorem dX11_agree_77 : decode cX11_agree 77 = .ok (.getfield 68, 3) := by decide +kernel
theorem dX11_agree_80 : decode cX11_agree 80 = .ok (.getfield 337, 3) := by decide +kernel
theorem dX11_agree_83 : decode cX11_agree 83 = .ok (.ireturn, 1) := by decide +kernel
theorem dX11_agree_84 : decode cX11_agree 84 = .ok (.aload_n 0, 1) := by decide +kernel
theorem dX11_agree_85 : decode cX11_agree 85 = .ok (.getfield 68, 3) := by decide +kernel
theorem dX11_agree_88 : decode cX11_agree 88 = .ok (.getfield 340, 3) := by decide +kernel
theorem dX11_agree_91 : decode cX11_agree 91 = .ok (.ireturn, 1) := by decide +kernel
theorem dX11_agree_92 : decode cX11_agree 92 = .ok (.aload_n 0, 1) := by decide +kernel
theorem dX11_agree_93 : decode cX11_agree 93 = .ok (.getfield 68, 3) := by decide +kernel
theorem dX11_agree_96 : decode cX11_agree 96 = .ok (.getfield 343, 3) := by decide +kernel
theorem dX11_agree_99 : decode cX11_agree 99 = .ok (.ireturn, 1) := by decide +kernel
theorem dX11_agree_100 : decode cX11_agree 100 = .ok (.aload_n 0, 1) := by decide +kernel
theorem dX11_agree_101 : decode cX11_agree 101 = .ok (.getfield 68, 3) := by decide +kernel
theorem dX11_agree_104 : decode cX11_agree 104 = .ok (.getfield 346, 3) := by decide +kernel
theorem dX11_agree_107 : decode cX11_agree 107 = .ok (.ireturn, 1) := by decide +kernel
theorem dX11_tells_0 : decode cX11_tells 0 = .ok (.iload_n 1, 1) := by decide +kernel
theorem dX11_tells_1 : decode cX11_tells 1 = .ok (.invokestatic 125, 3) := by decide +kernel
theorem dX11_tells_4 : decode cX11_tells 4 = .ok (.ifCond .eq 13, 3) := by decide +kernel
theorem dX11_tells_7 : decode cX11_tells 7 = .ok (.aload_n 0, 1) := by decide +kernel
theorem dX11_tells_8 : decode cX11_tells 8 = .ok (.getfield 10, 3) := by decide +kernel
theorem dX11_tells_11 : decode cX11_tells 11 = .ok (.getfield 317, 3) := by decide +kernel
theorem dX11_tells_14 : decode cX11_tells 14 = .ok (.ifCond .ne 5, 3) := by decide +kernel
theorem dX11_tells_17 : decode cX11_tells 17 = .ok (.iconst (-1), 1) := by decide +kernel
theorem dX11_tells_18 : decode cX11_tells 18 = .ok (.ireturn, 1) := by decide +kernel
theorem dX11_tells_19 : decode cX11_tells 19 = .ok (.aload_n 0, 1) := by decide +kernel
theorem dX11_tells_20 : decode cX11_tells 20 = .ok (.getfield 68, 3) := by decide +kernel
theorem dX11_tells_23 : decode cX11_tells 23 = .ok (.iload_n 1, 1) := by decide +kernel
theorem dX11_tells_24 : decode cX11_tells 24 = .ok (.invokevirtual 329, 3) := by decide +kernel
theorem dX11_tells_27 : decode cX11_tells 27 = .ok (.aload_n 0, 1) := by decide +kernel
theorem dX11_tells_28 : decode cX11_tells 28 = .ok (.getfield 68, 3) := by decide +kernel
theorem dX11_tells_31 : decode cX11_tells 31 = .ok (.invokevirtual 349, 3) := by decide +kernel
theorem dX11_tells_34 : decode cX11_tells 34 = .ok (.ireturn, 1) := by decide +kernel
theorem dX11_right_0 : decode cX11_right 0 = .ok (.iload_n 1, 1) := by decide +kernel
theorem dX11_right_1 : decode cX11_right 1 = .ok (.invokestatic 184, 3) := by decide +kernel
theorem dX11_right_4 : decode cX11_right 4 = .ok (.ifCond .eq 10, 3) := by decide +kernel
theorem dX11_right_7 : decode cX11_right 7 = .ok (.iload_n 2, 1) := by decide +kernel
theorem dX11_right_8 : decode cX11_right 8 = .ok (.invokestatic 184, 3) := by decide +kernel
theorem dX11_right_11 : decode cX11_right 11 = .ok (.ifCond .ne 5, 3) := by decide +kernel
theorem dX11_right_14 : decode cX11_right 14 = .ok (.iconst (-1), 1) := by decide +kernel
theorem dX11_right_15 : decode cX11_right 15 = .ok (.ireturn, 1) := by decide +kernel
theorem dX11_right_16 : decode cX11_right 16 = .ok (.aload_n 0, 1) := by decide +kernel
theorem dX11_right_17 : decode cX11_right 17 = .ok (.getfield 45, 3) := by decide +kernel
theorem dX11_right_20 : decode cX11_right 20 = .ok (.invokevirtual 194, 3) := by decide +kernel
theorem dX11_right_23 : decode cX11_right 23 = .ok (.aload_n 0, 1) := by decide +kernel
theorem dX11_right_24 : decode cX11_right 24 = .ok (.getfield 77, 3) := by decide +kernel
theorem dX11_right_27 : decode cX11_right 27 = .ok (.invokevirtual 352, 3) := by decide +kernel
theorem dX11_right_30 : decode cX11_right 30 = .ok (.aload_n 0, 1) := by decide +kernel
theorem dX11_right_31 : decode cX11_right 31 = .ok (.getfield 77, 3) := by decide +kernel
theorem dX11_right_34 : decode cX11_right 34 = .ok (.iload_n 1, 1) := by decide +kernel
theorem dX11_right_35 : decode cX11_right 35 = .ok (.iload_n 2, 1) := by decide +kernel
theorem dX11_right_36 : decode cX11_right 36 = .ok (.invokevirtual 353, 3) := by decide +kernel
theorem dX11_right_39 : decode cX11_right 39 = .ok (.ireturn, 1) := by decide +kernel
theorem dX11_mark_0 : decode cX11_mark 0 = .ok (.iload_n 1, 1) := by decide +kernel
theorem dX11_mark_1 : decode cX11_mark 1 = .ok (.iconst 0, 1) := by decide +kernel
theorem dX11_mark_2 : decode cX11_mark 2 = .ok (.sipush 720, 3) := by decide +kernel
theorem dX11_mark_5 : decode cX11_mark 5 = .ok (.invokestatic 102, 3) := by decide +kernel
theorem dX11_mark_8 : decode cX11_mark 8 = .ok (.ifCond .ne 5, 3) := by decide +kernel
theorem dX11_mark_11 : decode cX11_mark 11 = .ok (.iconst (-1), 1) := by decide +kernel
theorem dX11_mark_12 : decode cX11_mark 12 = .ok (.ireturn, 1) := by decide +kernel
theorem dX11_mark_13 : decode cX11_mark 13 = .ok (.aload_n 0, 1) := by decide +kernel
theorem dX11_mark_14 : decode cX11_mark 14 = .ok (.getfield 45, 3) := by decide +kernel
theorem dX11_mark_17 : decode cX11_mark 17 = .ok (.invokevirtual 194, 3) := by decide +kernel
theorem dX11_mark_20 : decode cX11_mark 20 = .ok (.aload_n 0, 1) := by decide +kernel
theorem dX11_mark_21 : decode cX11_mark 21 = .ok (.getfield 77, 3) := by decide +kernel
theorem dX11_mark_24 : decode cX11_mark 24 = .ok (.invokevirtual 352, 3) := by decide +kernel
theorem dX11_mark_27 : decode cX11_mark 27 = .ok (.aload_n 0, 1) := by decide +kernel
theorem dX11_mark_28 : decode cX11_mark 28 = .ok (.getfield 77, 3) := by decide +kernel
theorem dX11_mark_31 : decode cX11_mark 31 = .ok (.iload_n 1, 1) := by decide +kernel
theorem dX11_mark_32 : decode cX11_mark 32 = .ok (.invokevirtual 356, 3) := by decide +kernel
theorem dX11_mark_35 : decode cX11_mark 35 = .ok (.ireturn, 1) := by decide +kernel
theorem dX11_lost_0 : decode cX11_lost 0 = .ok (.iload_n 1, 1) := by decide +kernel
theorem dX11_lost_1 : decode cX11_lost 1 = .ok (.invokestatic 200, 3) := by decide +kernel
theorem dX11_lost_4 : decode cX11_lost 4 = .ok (.ifCond .eq 52, 3) := by decide +kernel
theorem dX11_lost_7 : decode cX11_lost 7 = .ok (.iload_n 2, 1) := by decide +kernel
theorem dX11_lost_8 : decode cX11_lost 8 = .ok (.invokestatic 241, 3) := by decide +kernel
theorem dX11_lost_11 : decode cX11_lost 11 = .ok (.ifCond .eq 45, 3) := by decide +kernel
theorem dX11_lost_14 : decode cX11_lost 14 = .ok (.iload_n 3, 1) := by decide +kernel
theorem dX11_lost_15 : decode cX11_lost 15 = .ok (.iconst 0, 1) := by decide +kernel
theorem dX11_lost_16 : decode cX11_lost 16 = .ok (.bipush 6, 2) := by decide +kernel
theorem dX11_lost_18 : decode cX11_lost 18 = .ok (.invokestatic 102, 3) := by decide +kernel
theorem dX11_lost_21 : decode cX11_lost 21 = .ok (.ifCond .eq 35, 3) := by decide +kernel
theorem dX11_lost_24 : decode cX11_lost 24 = .ok (.iload_n 2, 1) := by decide +kernel
theorem dX11_lost_25 : decode cX11_lost 25 = .ok (.iload_n 3, 1) := by decide +kernel
theorem dX11_lost_26 : decode cX11_lost 26 = .ok (.iadd, 1) := by decide +kernel
theorem dX11_lost_27 : decode cX11_lost 27 = .ok (.invokestatic 241, 3) := by decide +kernel
theorem dX11_lost_30 : decode cX11_lost 30 = .ok (.ifCond .eq 26, 3) := by decide +kernel
theorem dX11_lost_33 : decode cX11_lost 33 = .ok (.iload 4, 2) := by decide +kernel
theorem dX11_lost_35 : decode cX11_lost 35 = .ok (.iconst 0, 1) := by decide +kernel
theorem dX11_lost_36 : decode cX11_lost 36 = .ok (.bipush 51, 2) := by decide +kernel
theorem dX11_lost_38 : decode cX11_lost 38 = .ok (.invokestatic 102, 3) := by decide +kernel
theorem dX11_lost_41 : decode cX11_lost 41 = .ok (.ifCond .eq 15, 3) := by decide +kernel
theorem dX11_lost_44 : decode cX11_lost 44 = .ok (.aload_n 0, 1) := by decide +kernel
theorem dX11_lost_45 : decode cX11_lost 45 = .ok (.getfield 10, 3) := by decide +kernel
theorem dX11_lost_48 : decode cX11_lost 48 = .ok (.getfield 164, 3) := by decide +kernel
theorem dX11_lost_51 : decode cX11_lost 51 = .ok (.iload_n 1, 1) := by decide +kernel
theorem dX11_lost_52 : decode cX11_lost 52 = .ok (.iaload, 1) := by decide +kernel
theorem dX11_lost_53 : decode cX11_lost 53 = .ok (.ifCond .ne 5, 3) := by decide +kernel
theorem dX11_lost_56 : decode cX11_lost 56 = .ok (.iconst (-1), 1) := by decide +kernel
theorem dX11_lost_57 : decode cX11_lost 57 = .ok (.ireturn, 1) := by decide +kernel
theorem dX11_lost_58 : decode cX11_lost 58 = .ok (.aload_n 0, 1) := by decide +kernel
theorem dX11_lost_59 : decode cX11_lost 59 = .ok (.getfield 45, 3) := by decide +kernel
theorem dX11_lost_62 : decode cX11_lost 62 = .ok (.invokevirtual 194, 3) := by decide +kernel
theorem dX11_lost_65 : decode cX11_lost 65 = .ok (.aload_n 0, 1) := by decide +kernel
theorem dX11_lost_66 : decode cX11_lost 66 = .ok (.getfield 84, 3) := by decide +kernel
theorem dX11_lost_69 : decode cX11_lost 69 = .ok (.iload_n 1, 1) := by decide +kernel
theorem dX11_lost_70 : decode cX11_lost 70 = .ok (.iload_n 2, 1) := by decide +kernel
theorem dX11_lost_71 : decode cX11_lost 71 = .ok (.iload_n 3, 1) := by decide +kernel
theorem dX11_lost_72 : decode cX11_lost 72 = .ok (.iload 4, 2) := by decide +kernel
theorem dX11_lost_74 : decode cX11_lost 74 = .ok (.invokevirtual 359, 3) := by decide +kernel
theorem dX11_lost_77 : decode cX11_lost 77 = .ok (.ireturn, 1) := by decide +kernel
theorem dX11_day_0 : decode cX11_day 0 = .ok (.iload_n 1, 1) := by decide +kernel
theorem dX11_day_1 : decode cX11_day 1 = .ok (.iconst 0, 1) := by decide +kernel
theorem dX11_day_2 : decode cX11_day 2 = .ok (.ldc_w 362, 3) := by decide +kernel
theorem dX11_day_5 : decode cX11_day 5 = .ok (.invokestatic 102, 3) := by decide +kernel
theorem dX11_day_8 : decode cX11_day 8 = .ok (.ifCond .ne 9, 3) := by decide +kernel
theorem dX11_day_11 : decode cX11_day 11 = .ok (.aload_n 0, 1) := by decide +kernel
theorem dX11_day_12 : decode cX11_day 12 = .ok (.iconst (-1), 1) := by decide +kernel
theorem dX11_day_13 : decode cX11_day 13 = .ok (.invokevirtual 112, 3) := by decide +kernel
theorem dX11_day_16 : decode cX11_day 16 = .ok (.ireturn, 1) := by decide +kernel
theorem dX11_day_17 : decode cX11_day 17 = .ok (.aload_n 0, 1) := by decide +kernel
theorem dX11_day_18 : decode cX11_day 18 = .ok (.getfield 45, 3) := by decide +kernel
theorem dX11_day_21 : decode cX11_day 21 = .ok (.iload_n 1, 1) := by decide +kernel
theorem dX11_day_22 : decode cX11_day 22 = .ok (.invokevirtual 363, 3) := by decide +kernel
theorem dX11_day_25 : decode cX11_day 25 = .ok (.aload_n 0, 1) := by decide +kernel
theorem dX11_day_26 : decode cX11_day 26 = .ok (.aload_n 0, 1) := by decide +kernel
theorem dX11_day_27 : decode cX11_day 27 = .ok (.getfield 45, 3) := by decide +kernel
theorem dX11_day_30 : decode cX11_day 30 = .ok (.aload_n 0, 1) := by decide +kernel
theorem dX11_day_31 : decode cX11_day 31 = .ok (.getfield 45, 3) := by decide +kernel
theorem dX11_day_34 : decode cX11_day 34 = .ok (.getfield 366, 3) := by decide +kernel
theorem dX11_day_37 : decode cX11_day 37 = .ok (.invokevirtual 209, 3) := by decide +kernel
theorem dX11_day_40 : decode cX11_day 40 = .ok (.invokevirtual 122, 3) := by decide +kernel
theorem dX11_day_43 : decode cX11_day 43 = .ok (.ireturn, 1) := by decide +kernel
theorem dX11_drawn_0 : decode cX11_drawn 0 = .ok (.aload_n 0, 1) := by decide +kernel
theorem dX11_drawn_1 : decode cX11_drawn 1 = .ok (.getfield 45, 3) := by decide +kernel
theorem dX11_drawn_4 : decode cX11_drawn 4 = .ok (.getfield 366, 3) := by decide +kernel
theorem dX11_drawn_7 : decode cX11_drawn 7 = .ok (.ifnull 10, 3) := by decide +kernel
theorem dX11_drawn_10 : decode cX11_drawn 10 = .ok (.iload_n 1, 1) := by decide +kernel
theorem dX11_drawn_11 : decode cX11_drawn 11 = .ok (.invokestatic 184, 3) := by decide +kernel
theorem dX11_drawn_14 : decode cX11_drawn 14 = .ok (.ifCond .ne 8, 3) := by decide +kernel
theorem dX11_drawn_17 : decode cX11_drawn 17 = .ok (.ldc 187, 2) := by decide +kernel
theorem dX11_drawn_19 : decode cX11_drawn 19 = .ok (.goto 12, 3) := by decide +kernel
theorem dX11_drawn_22 : decode cX11_drawn 22 = .ok (.aload_n 0, 1) := by decide +kernel
theorem dX11_drawn_23 : decode cX11_drawn 23 = .ok (.getfield 45, 3) := by decide +kernel
theorem dX11_drawn_26 : decode cX11_drawn 26 = .ok (.getfield 366, 3) := by decide +kernel
theorem dX11_drawn_29 : decode cX11_drawn 29 = .ok (.iload_n 1, 1) := by decide +kernel
theorem dX11_drawn_30 : decode cX11_drawn 30 = .ok (.iaload, 1) := by decide +kernel
theorem dX11_drawn_31 : decode cX11_drawn 31 = .ok (.ireturn, 1) := by decide +kernel
theorem dX11_image_0 : decode cX11_image 0 = .ok (.iload_n 1, 1) := by decide +kernel
theorem dX11_image_1 : decode cX11_image 1 = .ok (.iconst 0, 1) := by decide +kernel
theorem dX11_image_2 : decode cX11_image 2 = .ok (.iconst 1, 1) := by decide +kernel
theorem dX11_image_3 : decode cX11_image 3 = .ok (.invokestatic 102, 3) := by decide +kernel
theorem dX11_image_6 : decode cX11_image 6 = .ok (.ifCond .ne 9, 3) := by decide +kernel
theorem dX11_image_9 : decode cX11_image 9 = .ok (.aload_n 0, 1) := by decide +kernel
theorem dX11_image_10 : decode cX11_image 10 = .ok (.iconst (-1), 1) := by decide +kernel
theorem dX11_image_11 : decode cX11_image 11 = .ok (.invokevirtual 112, 3) := by decide +kernel
theorem dX11_image_14 : decode cX11_image 14 = .ok (.ireturn, 1) := by decide +kernel
theorem dX11_image_15 : decode cX11_image 15 = .ok (.aload_n 0, 1) := by decide +kernel
theorem dX11_image_16 : decode cX11_image 16 = .ok (.getfield 16, 3) := by decide +kernel
theorem dX11_image_19 : decode cX11_image 19 = .ok (.iload_n 1, 1) := by decide +kernel
theorem dX11_image_20 : decode cX11_image 20 = .ok (.aaload, 1) := by decide +kernel
theorem dX11_image_21 : decode cX11_image 21 = .ok (.aload_n 0, 1) := by decide +kernel
theorem dX11_image_22 : decode cX11_image 22 = .ok (.getfield 10, 3) := by decide +kernel
theorem dX11_image_25 : decode cX11_image 25 = .ok (.invokevirtual 369, 3) := by decide +kernel
theorem dX11_image_28 : decode cX11_image 28 = .ok (.aload_n 0, 1) := by decide +kernel
theorem dX11_image_29 : decode cX11_image 29 = .ok (.getfield 20, 3) := by decide +kernel
theorem dX11_image_32 : decode cX11_image 32 = .ok (.iload_n 1, 1) := by decide +kernel
theorem dX11_image_33 : decode cX11_image 33 = .ok (.iconst 1, 1) := by decide +kernel
theorem dX11_image_34 : decode cX11_image 34 = .ok (.bastore, 1) := by decide +kernel
theorem dX11_image_35 : decode cX11_image 35 = .ok (.aload_n 0, 1) := by decide +kernel
theorem dX11_image_36 : decode cX11_image 36 = .ok (.iconst 0, 1) := by decide +kernel
theorem dX11_image_37 : decode cX11_image 37 = .ok (.invokevirtual 122, 3) := by decide +kernel
theorem dX11_image_40 : decode cX11_image 40 = .ok (.ireturn, 1) := by decide +kernel
theorem dX11_back_0 : decode cX11_back 0 = .ok (.iload_n 1, 1) := by decide +kernel
theorem dX11_back_1 : decode cX11_back 1 = .ok (.iconst 0, 1) := by decide +kernel
theorem dX11_back_2 : decode cX11_back 2 = .ok (.iconst 1, 1) := by decide +kernel
theorem dX11_back_3 : decode cX11_back 3 = .ok (.invokestatic 102, 3) := by decide +kernel
theorem dX11_back_6 : decode cX11_back 6 = .ok (.ifCond .ne 9, 3) := by decide +kernel
theorem dX11_back_9 : decode cX11_back 9 = .ok (.aload_n 0, 1) := by decide +kernel
theorem dX11_back_10 : decode cX11_back 10 = .ok (.iconst (-1), 1) := by decide +kernel
theorem dX11_back_11 : decode cX11_back 11 = .ok (.invokevirtual 112, 3) := by decide +kernel
theorem dX11_back_14 : decode cX11_back 14 = .ok (.ireturn, 1) := by decide +kernel
theorem dX11_back_15 : decode cX11_back 15 = .ok (.aload_n 0, 1) := by decide +kernel
theorem dX11_back_16 : decode cX11_back 16 = .ok (.getfield 20, 3) := by decide +kernel
theorem dX11_back_19 : decode cX11_back 19 = .ok (.iload_n 1, 1) := by decide +kernel
theorem dX11_back_20 : decode cX11_back 20 = .ok (.baload, 1) := by decide +kernel
theorem dX11_back_21 : decode cX11_back 21 = .ok (.ifCond .ne 10, 3) := by decide +kernel
theorem dX11_back_24 : decode cX11_back 24 = .ok (.aload_n 0, 1) := by decide +kernel
theorem dX11_back_25 : decode cX11_back 25 = .ok (.bipush (-2), 2) := by decide +kernel
theorem dX11_back_27 : decode cX11_back 27 = .ok (.invokevirtual 112, 3) := by decide +kernel
theorem dX11_back_30 : decode cX11_back 30 = .ok (.ireturn, 1) := by decide +kernel
theorem dX11_back_31 : decode cX11_back 31 = .ok (.aload_n 0, 1) := by decide +kernel
theorem dX11_back_32 : decode cX11_back 32 = .ok (.getfield 10, 3) := by decide +kernel
theorem dX11_back_35 : decode cX11_back 35 = .ok (.aload_n 0, 1) := by decide +kernel
theorem dX11_back_36 : decode cX11_back 36 = .ok (.getfield 16, 3) := by decide +kernel
theorem dX11_back_39 : decode cX11_back 39 = .ok (.iload_n 1, 1) := by decide +kernel
theorem dX11_back_40 : decode cX11_back 40 = .ok (.aaload, 1) := by decide +kernel
theorem dX11_back_41 : decode cX11_back 41 = .ok (.invokevirtual 369, 3) := by decide +kernel
theorem dX11_back_44 : decode cX11_back 44 = .ok (.aload_n 0, 1) := by decide +kernel
theorem dX11_back_45 : decode cX11_back 45 = .ok (.invokevirtual 119, 3) := by decide +kernel
theorem dX11_back_48 : decode cX11_back 48 = .ok (.aload_n 0, 1) := by decide +kernel
theorem dX11_back_49 : decode cX11_back 49 = .ok (.iconst 0, 1) := by decide +kernel
theorem dX11_back_50 : decode cX11_back 50 = .ok (.invokevirtual 122, 3) := by decide +kernel
theorem dX11_back_53 : decode cX11_back 53 = .ok (.ireturn, 1) := by decide +kernel
theorem dX11_count_0 : decode cX11_count 0 = .ok (.iload_n 1, 1) := by decide +kernel
theorem dX11_count_1 : decode cX11_count 1 = .ok (.tableswitch 125 0 10 #[59, 67, 75, 83, 91, 99, 107, 107, 107, 107, 117], 59) := by decide +kernel
theorem dX11_count_60 : decode cX11_count 60 = .ok (.aload_n 0, 1) := by decide +kernel
theorem dX11_count_61 : decode cX11_count 61 = .ok (.getfield 10, 3) := by decide +kernel
theorem dX11_count_64 : decode cX11_count 64 = .ok (.getfield 229, 3) := by decide +kernel
theorem dX11_count_67 : decode cX11_count 67 = .ok (.ireturn, 1) := by decide +kernel
theorem dX11_count_68 : decode cX11_count 68 = .ok (.aload_n 0, 1) := by decide +kernel
theorem dX11_count_69 : decode cX11_count 69 = .ok (.getfield 10, 3) := by decide +kernel
theorem dX11_count_72 : decode cX11_count 72 = .ok (.getfield 273, 3) := by decide +kernel
theorem dX11_count_75 : decode cX11_count 75 = .ok (.ireturn, 1) := by decide +kernel
theorem dX11_count_76 : decode cX11_count 76 = .ok (.aload_n 0, 1) := by decide +kernel
theorem dX11_count_77 : decode cX11_count 77 = .ok (.getfield 10, 3) := by decide +kernel
theorem dX11_count_80 : decode cX11_count 80 = .ok (.getfield 167, 3) := by decide +kernel
theorem dX11_count_83 : decode cX11_count 83 = .ok (.ireturn, 1) := by decide +kernel
theorem dX11_count_84 : decode cX11_count 84 = .ok (.aload_n 0, 1) := by decide +kernel
theorem dX11_count_85 : decode cX11_count 85 = .ok (.getfield 10, 3) := by decide +kernel
theorem dX11_count_88 : decode cX11_count 88 = .ok (.getfield 261, 3) := by decide +kernel
theorem dX11_count_91 : decode cX11_count 91 = .ok (.ireturn, 1) := by decide +kernel
theorem dX11_count_92 : decode cX11_count 92 = .ok (.aload_n 0, 1) := by decide +kernel
theorem dX11_count_93 : decode cX11_count 93 = .ok (.getfield 10, 3) := by decide +kernel
theorem dX11_count_96 : decode cX11_count 96 = .ok (.getfield 317, 3) := by decide +kernel
theorem dX11_count_99 : decode cX11_count 99 = .ok (.ireturn, 1) := by decide +kernel
theorem dX11_count_100 : decode cX11_count 100 = .ok (.aload_n 0, 1) := by decide +kernel
theorem dX11_count_101 : decode cX11_count 101 = .ok (.getfield 27, 3) := by decide +kernel
theorem dX11_count_104 : decode cX11_count 104 = .ok (.getfield 154, 3) := by decide +kernel
theorem dX11_count_107 : decode cX11_count 107 = .ok (.ireturn, 1) := by decide +kernel
theorem dX11_count_108 : decode cX11_count 108 = .ok (.aload_n 0, 1) := by decide +kernel
theorem dX11_count_109 : decode cX11_count 109 = .ok (.getfield 88, 3) := by decide +kernel
theorem dX11_count_112 : decode cX11_count 112 = .ok (.iload_n 1, 1) := by decide +kernel
theorem dX11_count_113 : decode cX11_count 113 = .ok (.bipush 6, 2) := by decide +kernel
theorem dX11_count_115 : decode cX11_count 115 = .ok (.isub, 1) := by decide +kernel
theorem dX11_count_116 : decode cX11_count 116 = .ok (.iaload, 1) := by decide +kernel
theorem dX11_count_117 : decode cX11_count 117 = .ok (.ireturn, 1) := by decide +kernel
theorem dX11_count_118 : decode cX11_count 118 = .ok (.aload_n 0, 1) := by decide +kernel
theorem dX11_count_119 : decode cX11_count 119 = .ok (.getfield 10, 3) := by decide +kernel
theorem dX11_count_122 : decode cX11_count 122 = .ok (.getfield 181, 3) := by decide +kernel
theorem dX11_count_125 : decode cX11_count 125 = .ok (.ireturn, 1) := by decide +kernel
theorem dX11_count_126 : decode cX11_count 126 = .ok (.iconst (-1), 1) := by decide +kernel
theorem dX11_count_127 : decode cX11_count 127 = .ok (.ireturn, 1) := by decide +kernel
theorem dX11_status_0 : decode cX11_status 0 = .ok (.aload_n 0, 1) := by decide +kernel
theorem dX11_status_1 : decode cX11_status 1 = .ok (.getfield 92, 3) := by decide +kernel
theorem dX11_status_4 : decode cX11_status 4 = .ok (.ireturn, 1) := by decide +kernel
theorem dX11_refuse_0 : decode cX11_refuse 0 = .ok (.aload_n 0, 1) := by decide +kernel
