theorem dX12_whites_24 : decode cX12_whites 24 = .ok (.iload_n 1, 1) := by decide +kernel
theorem dX12_whites_25 : decode cX12_whites 25 = .ok (.imul, 1) := by decide +kernel
theorem dX12_whites_26 : decode cX12_whites 26 = .ok (.iload_n 2, 1) := by decide +kernel
theorem dX12_whites_27 : decode cX12_whites 27 = .ok (.iadd, 1) := by decide +kernel
theorem dX12_whites_28 : decode cX12_whites 28 = .ok (.aload_n 0, 1) := by decide +kernel
theorem dX12_whites_29 : decode cX12_whites 29 = .ok (.iload_n 1, 1) := by decide +kernel
theorem dX12_whites_30 : decode cX12_whites 30 = .ok (.iload_n 2, 1) := by decide +kernel
theorem dX12_whites_31 : decode cX12_whites 31 = .ok (.invokevirtual 337, 3) := by decide +kernel
theorem dX12_whites_34 : decode cX12_whites 34 = .ok (.i2b, 1) := by decide +kernel
theorem dX12_whites_35 : decode cX12_whites 35 = .ok (.bastore, 1) := by decide +kernel
theorem dX12_whites_36 : decode cX12_whites 36 = .ok (.iinc 2 1, 3) := by decide +kernel
theorem dX12_whites_39 : decode cX12_whites 39 = .ok (.goto (-29), 3) := by decide +kernel
theorem dX12_whites_42 : decode cX12_whites 42 = .ok (.iinc 1 1, 3) := by decide +kernel
theorem dX12_whites_45 : decode cX12_whites 45 = .ok (.goto (-43), 3) := by decide +kernel
theorem dX12_whites_48 : decode cX12_whites 48 = .ok (.return_, 1) := by decide +kernel
theorem dX12_whiteAt_0 : decode cX12_whiteAt 0 = .ok (.iload_n 1, 1) := by decide +kernel
theorem dX12_whiteAt_1 : decode cX12_whiteAt 1 = .ok (.ifCond .ne 5, 3) := by decide +kernel
theorem dX12_whiteAt_4 : decode cX12_whiteAt 4 = .ok (.iconst 0, 1) := by decide +kernel
theorem dX12_whiteAt_5 : decode cX12_whiteAt 5 = .ok (.ireturn, 1) := by decide +kernel
theorem dX12_whiteAt_6 : decode cX12_whiteAt 6 = .ok (.aload_n 0, 1) := by decide +kernel
theorem dX12_whiteAt_7 : decode cX12_whiteAt 7 = .ok (.iload_n 1, 1) := by decide +kernel
theorem dX12_whiteAt_8 : decode cX12_whiteAt 8 = .ok (.iload_n 2, 1) := by decide +kernel
theorem dX12_whiteAt_9 : decode cX12_whiteAt 9 = .ok (.invokevirtual 340, 3) := by decide +kernel
theorem dX12_whiteAt_12 : decode cX12_whiteAt 12 = .ok (.istore_n 3, 1) := by decide +kernel
theorem dX12_whiteAt_13 : decode cX12_whiteAt 13 = .ok (.aload_n 0, 1) := by decide +kernel
theorem dX12_whiteAt_14 : decode cX12_whiteAt 14 = .ok (.aload_n 0, 1) := by decide +kernel
theorem dX12_whiteAt_15 : decode cX12_whiteAt 15 = .ok (.iload_n 2, 1) := by decide +kernel
theorem dX12_whiteAt_16 : decode cX12_whiteAt 16 = .ok (.invokevirtual 328, 3) := by decide +kernel
theorem dX12_whiteAt_19 : decode cX12_whiteAt 19 = .ok (.iload_n 3, 1) := by decide +kernel
theorem dX12_whiteAt_20 : decode cX12_whiteAt 20 = .ok (.iload_n 2, 1) := by decide +kernel
theorem dX12_whiteAt_21 : decode cX12_whiteAt 21 = .ok (.aload_n 0, 1) := by decide +kernel
theorem dX12_whiteAt_22 : decode cX12_whiteAt 22 = .ok (.bipush 9, 2) := by decide +kernel
theorem dX12_whiteAt_24 : decode cX12_whiteAt 24 = .ok (.invokevirtual 283, 3) := by decide +kernel
theorem dX12_whiteAt_27 : decode cX12_whiteAt 27 = .ok (.aload_n 0, 1) := by decide +kernel
theorem dX12_whiteAt_28 : decode cX12_whiteAt 28 = .ok (.bipush 10, 2) := by decide +kernel
theorem dX12_whiteAt_30 : decode cX12_whiteAt 30 = .ok (.invokevirtual 283, 3) := by decide +kernel
theorem dX12_whiteAt_33 : decode cX12_whiteAt 33 = .ok (.iload_n 1, 1) := by decide +kernel
theorem dX12_whiteAt_34 : decode cX12_whiteAt 34 = .ok (.iconst 0, 1) := by decide +kernel
theorem dX12_whiteAt_35 : decode cX12_whiteAt 35 = .ok (.invokevirtual 293, 3) := by decide +kernel
theorem dX12_whiteAt_38 : decode cX12_whiteAt 38 = .ok (.aload_n 0, 1) := by decide +kernel
theorem dX12_whiteAt_39 : decode cX12_whiteAt 39 = .ok (.iconst 2, 1) := by decide +kernel
theorem dX12_whiteAt_40 : decode cX12_whiteAt 40 = .ok (.invokevirtual 297, 3) := by decide +kernel
theorem dX12_whiteAt_43 : decode cX12_whiteAt 43 = .ok (.aload_n 0, 1) := by decide +kernel
theorem dX12_whiteAt_44 : decode cX12_whiteAt 44 = .ok (.getfield 266, 3) := by decide +kernel
theorem dX12_whiteAt_47 : decode cX12_whiteAt 47 = .ok (.ifCond .eq 14, 3) := by decide +kernel
theorem dX12_whiteAt_50 : decode cX12_whiteAt 50 = .ok (.aload_n 0, 1) := by decide +kernel
theorem dX12_whiteAt_51 : decode cX12_whiteAt 51 = .ok (.getfield 262, 3) := by decide +kernel
theorem dX12_whiteAt_54 : decode cX12_whiteAt 54 = .ok (.iconst 0, 1) := by decide +kernel
theorem dX12_whiteAt_55 : decode cX12_whiteAt 55 = .ok (.bipush 99, 2) := by decide +kernel
theorem dX12_whiteAt_57 : decode cX12_whiteAt 57 = .ok (.invokestatic 300, 3) := by decide +kernel
theorem dX12_whiteAt_60 : decode cX12_whiteAt 60 = .ok (.ireturn, 1) := by decide +kernel
theorem dX12_whiteAt_61 : decode cX12_whiteAt 61 = .ok (.iload_n 3, 1) := by decide +kernel
theorem dX12_whiteAt_62 : decode cX12_whiteAt 62 = .ok (.aload_n 0, 1) := by decide +kernel
theorem dX12_whiteAt_63 : decode cX12_whiteAt 63 = .ok (.bipush 9, 2) := by decide +kernel
theorem dX12_whiteAt_65 : decode cX12_whiteAt 65 = .ok (.invokevirtual 283, 3) := by decide +kernel
theorem dX12_whiteAt_68 : decode cX12_whiteAt 68 = .ok (.imul, 1) := by decide +kernel
theorem dX12_whiteAt_69 : decode cX12_whiteAt 69 = .ok (.sipush 1000, 3) := by decide +kernel
theorem dX12_whiteAt_72 : decode cX12_whiteAt 72 = .ok (.idiv, 1) := by decide +kernel
theorem dX12_whiteAt_73 : decode cX12_whiteAt 73 = .ok (.ineg, 1) := by decide +kernel
theorem dX12_whiteAt_74 : decode cX12_whiteAt 74 = .ok (.istore 4, 2) := by decide +kernel
theorem dX12_whiteAt_76 : decode cX12_whiteAt 76 = .ok (.iload_n 1, 1) := by decide +kernel
theorem dX12_whiteAt_77 : decode cX12_whiteAt 77 = .ok (.iconst 5, 1) := by decide +kernel
theorem dX12_whiteAt_78 : decode cX12_whiteAt 78 = .ok (.if_icmp .ne 11, 3) := by decide +kernel
theorem dX12_whiteAt_81 : decode cX12_whiteAt 81 = .ok (.iload 4, 2) := by decide +kernel
theorem dX12_whiteAt_83 : decode cX12_whiteAt 83 = .ok (.iconst 2, 1) := by decide +kernel
theorem dX12_whiteAt_84 : decode cX12_whiteAt 84 = .ok (.imul, 1) := by decide +kernel
theorem dX12_whiteAt_85 : decode cX12_whiteAt 85 = .ok (.i2l, 1) := by decide +kernel
theorem dX12_whiteAt_86 : decode cX12_whiteAt 86 = .ok (.goto 24, 3) := by decide +kernel
theorem dX12_whiteAt_89 : decode cX12_whiteAt 89 = .ok (.iload_n 1, 1) := by decide +kernel
theorem dX12_whiteAt_90 : decode cX12_whiteAt 90 = .ok (.iconst 2, 1) := by decide +kernel
theorem dX12_whiteAt_91 : decode cX12_whiteAt 91 = .ok (.if_icmp .eq 8, 3) := by decide +kernel
theorem dX12_whiteAt_94 : decode cX12_whiteAt 94 = .ok (.iload_n 1, 1) := by decide +kernel
theorem dX12_whiteAt_95 : decode cX12_whiteAt 95 = .ok (.iconst 3, 1) := by decide +kernel
theorem dX12_whiteAt_96 : decode cX12_whiteAt 96 = .ok (.if_icmp .ne 11, 3) := by decide +kernel
theorem dX12_whiteAt_99 : decode cX12_whiteAt 99 = .ok (.iload 4, 2) := by decide +kernel
theorem dX12_whiteAt_101 : decode cX12_whiteAt 101 = .ok (.iconst 2, 1) := by decide +kernel
theorem dX12_whiteAt_102 : decode cX12_whiteAt 102 = .ok (.idiv, 1) := by decide +kernel
theorem dX12_whiteAt_103 : decode cX12_whiteAt 103 = .ok (.i2l, 1) := by decide +kernel
theorem dX12_whiteAt_104 : decode cX12_whiteAt 104 = .ok (.goto 6, 3) := by decide +kernel
theorem dX12_whiteAt_107 : decode cX12_whiteAt 107 = .ok (.iload 4, 2) := by decide +kernel
theorem dX12_whiteAt_109 : decode cX12_whiteAt 109 = .ok (.i2l, 1) := by decide +kernel
theorem dX12_whiteAt_110 : decode cX12_whiteAt 110 = .ok (.iconst 0, 1) := by decide +kernel
theorem dX12_whiteAt_111 : decode cX12_whiteAt 111 = .ok (.bipush 99, 2) := by decide +kernel
theorem dX12_whiteAt_113 : decode cX12_whiteAt 113 = .ok (.invokestatic 300, 3) := by decide +kernel
theorem dX12_whiteAt_116 : decode cX12_whiteAt 116 = .ok (.ireturn, 1) := by decide +kernel
theorem dX12_cell_0 : decode cX12_cell 0 = .ok (.iload_n 1, 1) := by decide +kernel
theorem dX12_cell_1 : decode cX12_cell 1 = .ok (.invokestatic 334, 3) := by decide +kernel
theorem dX12_cell_4 : decode cX12_cell 4 = .ok (.ifCond .eq 19, 3) := by decide +kernel
theorem dX12_cell_7 : decode cX12_cell 7 = .ok (.iload_n 2, 1) := by decide +kernel
theorem dX12_cell_8 : decode cX12_cell 8 = .ok (.invokestatic 280, 3) := by decide +kernel
theorem dX12_cell_11 : decode cX12_cell 11 = .ok (.ifCond .eq 12, 3) := by decide +kernel
theorem dX12_cell_14 : decode cX12_cell 14 = .ok (.iload_n 3, 1) := by decide +kernel
theorem dX12_cell_15 : decode cX12_cell 15 = .ok (.iconst 0, 1) := by decide +kernel
theorem dX12_cell_16 : decode cX12_cell 16 = .ok (.iconst 2, 1) := by decide +kernel
theorem dX12_cell_17 : decode cX12_cell 17 = .ok (.invokestatic 113, 3) := by decide +kernel
theorem dX12_cell_20 : decode cX12_cell 20 = .ok (.ifCond .ne 7, 3) := by decide +kernel
theorem dX12_cell_23 : decode cX12_cell 23 = .ok (.ldc_w 289, 3) := by decide +kernel
theorem dX12_cell_26 : decode cX12_cell 26 = .ok (.ireturn, 1) := by decide +kernel
theorem dX12_cell_27 : decode cX12_cell 27 = .ok (.aload_n 0, 1) := by decide +kernel
theorem dX12_cell_28 : decode cX12_cell 28 = .ok (.invokevirtual 321, 3) := by decide +kernel
theorem dX12_cell_31 : decode cX12_cell 31 = .ok (.iload_n 3, 1) := by decide +kernel
theorem dX12_cell_32 : decode cX12_cell 32 = .ok (.ifCond .ne 16, 3) := by decide +kernel
theorem dX12_cell_35 : decode cX12_cell 35 = .ok (.aload_n 0, 1) := by decide +kernel
theorem dX12_cell_36 : decode cX12_cell 36 = .ok (.aload_n 0, 1) := by decide +kernel
theorem dX12_cell_37 : decode cX12_cell 37 = .ok (.iload_n 1, 1) := by decide +kernel
theorem dX12_cell_38 : decode cX12_cell 38 = .ok (.invokevirtual 343, 3) := by decide +kernel
theorem dX12_cell_41 : decode cX12_cell 41 = .ok (.iload_n 2, 1) := by decide +kernel
theorem dX12_cell_42 : decode cX12_cell 42 = .ok (.invokevirtual 340, 3) := by decide +kernel
theorem dX12_cell_45 : decode cX12_cell 45 = .ok (.goto 32, 3) := by decide +kernel
theorem dX12_cell_48 : decode cX12_cell 48 = .ok (.iload_n 3, 1) := by decide +kernel
theorem dX12_cell_49 : decode cX12_cell 49 = .ok (.iconst 1, 1) := by decide +kernel
theorem dX12_cell_50 : decode cX12_cell 50 = .ok (.if_icmp .ne 22, 3) := by decide +kernel
theorem dX12_cell_53 : decode cX12_cell 53 = .ok (.aload_n 0, 1) := by decide +kernel
theorem dX12_cell_54 : decode cX12_cell 54 = .ok (.getfield 67, 3) := by decide +kernel
theorem dX12_cell_57 : decode cX12_cell 57 = .ok (.sipush 1440, 3) := by decide +kernel
theorem dX12_cell_60 : decode cX12_cell 60 = .ok (.aload_n 0, 1) := by decide +kernel
theorem dX12_cell_61 : decode cX12_cell 61 = .ok (.iload_n 1, 1) := by decide +kernel
theorem dX12_cell_62 : decode cX12_cell 62 = .ok (.invokevirtual 343, 3) := by decide +kernel
theorem dX12_cell_65 : decode cX12_cell 65 = .ok (.imul, 1) := by decide +kernel
theorem dX12_cell_66 : decode cX12_cell 66 = .ok (.iload_n 2, 1) := by decide +kernel
theorem dX12_cell_67 : decode cX12_cell 67 = .ok (.iadd, 1) := by decide +kernel
theorem dX12_cell_68 : decode cX12_cell 68 = .ok (.baload, 1) := by decide +kernel
theorem dX12_cell_69 : decode cX12_cell 69 = .ok (.goto 8, 3) := by decide +kernel
theorem dX12_cell_72 : decode cX12_cell 72 = .ok (.aload_n 0, 1) := by decide +kernel
theorem dX12_cell_73 : decode cX12_cell 73 = .ok (.iload_n 1, 1) := by decide +kernel
theorem dX12_cell_74 : decode cX12_cell 74 = .ok (.invokevirtual 343, 3) := by decide +kernel
theorem dX12_cell_77 : decode cX12_cell 77 = .ok (.ireturn, 1) := by decide +kernel
theorem dX12_boat_0 : decode cX12_boat 0 = .ok (.iload_n 1, 1) := by decide +kernel
theorem dX12_boat_1 : decode cX12_boat 1 = .ok (.iconst 1, 1) := by decide +kernel
theorem dX12_boat_2 : decode cX12_boat 2 = .ok (.sipush 1500, 3) := by decide +kernel
theorem dX12_boat_5 : decode cX12_boat 5 = .ok (.invokestatic 113, 3) := by decide +kernel
theorem dX12_boat_8 : decode cX12_boat 8 = .ok (.ifCond .eq 13, 3) := by decide +kernel
theorem dX12_boat_11 : decode cX12_boat 11 = .ok (.iload_n 2, 1) := by decide +kernel
theorem dX12_boat_12 : decode cX12_boat 12 = .ok (.iconst 0, 1) := by decide +kernel
theorem dX12_boat_13 : decode cX12_boat 13 = .ok (.bipush 99, 2) := by decide +kernel
theorem dX12_boat_15 : decode cX12_boat 15 = .ok (.invokestatic 113, 3) := by decide +kernel
theorem dX12_boat_18 : decode cX12_boat 18 = .ok (.ifCond .ne 9, 3) := by decide +kernel
theorem dX12_boat_21 : decode cX12_boat 21 = .ok (.aload_n 0, 1) := by decide +kernel
theorem dX12_boat_22 : decode cX12_boat 22 = .ok (.iconst (-1), 1) := by decide +kernel
theorem dX12_boat_23 : decode cX12_boat 23 = .ok (.invokevirtual 117, 3) := by decide +kernel
theorem dX12_boat_26 : decode cX12_boat 26 = .ok (.ireturn, 1) := by decide +kernel
theorem dX12_boat_27 : decode cX12_boat 27 = .ok (.aload_n 0, 1) := by decide +kernel
theorem dX12_boat_28 : decode cX12_boat 28 = .ok (.getfield 20, 3) := by decide +kernel
theorem dX12_boat_31 : decode cX12_boat 31 = .ok (.sipush 185, 3) := by decide +kernel
theorem dX12_boat_34 : decode cX12_boat 34 = .ok (.iaload, 1) := by decide +kernel
theorem dX12_boat_35 : decode cX12_boat 35 = .ok (.istore_n 3, 1) := by decide +kernel
theorem dX12_boat_36 : decode cX12_boat 36 = .ok (.iload_n 3, 1) := by decide +kernel
theorem dX12_boat_37 : decode cX12_boat 37 = .ok (.bipush 6, 2) := by decide +kernel
theorem dX12_boat_39 : decode cX12_boat 39 = .ok (.if_icmp .ne 10, 3) := by decide +kernel
theorem dX12_boat_42 : decode cX12_boat 42 = .ok (.aload_n 0, 1) := by decide +kernel
theorem dX12_boat_43 : decode cX12_boat 43 = .ok (.bipush (-5), 2) := by decide +kernel
theorem dX12_boat_45 : decode cX12_boat 45 = .ok (.invokevirtual 117, 3) := by decide +kernel
theorem dX12_boat_48 : decode cX12_boat 48 = .ok (.ireturn, 1) := by decide +kernel
theorem dX12_boat_49 : decode cX12_boat 49 = .ok (.aload_n 0, 1) := by decide +kernel
theorem dX12_boat_50 : decode cX12_boat 50 = .ok (.getfield 20, 3) := by decide +kernel
theorem dX12_boat_53 : decode cX12_boat 53 = .ok (.bipush 91, 2) := by decide +kernel
theorem dX12_boat_55 : decode cX12_boat 55 = .ok (.iconst 2, 1) := by decide +kernel
theorem dX12_boat_56 : decode cX12_boat 56 = .ok (.iload_n 3, 1) := by decide +kernel
theorem dX12_boat_57 : decode cX12_boat 57 = .ok (.imul, 1) := by decide +kernel
theorem dX12_boat_58 : decode cX12_boat 58 = .ok (.iadd, 1) := by decide +kernel
theorem dX12_boat_59 : decode cX12_boat 59 = .ok (.iload_n 1, 1) := by decide +kernel
theorem dX12_boat_60 : decode cX12_boat 60 = .ok (.iastore, 1) := by decide +kernel
theorem dX12_boat_61 : decode cX12_boat 61 = .ok (.aload_n 0, 1) := by decide +kernel
theorem dX12_boat_62 : decode cX12_boat 62 = .ok (.getfield 20, 3) := by decide +kernel
theorem dX12_boat_65 : decode cX12_boat 65 = .ok (.bipush 91, 2) := by decide +kernel
theorem dX12_boat_67 : decode cX12_boat 67 = .ok (.iconst 2, 1) := by decide +kernel
theorem dX12_boat_68 : decode cX12_boat 68 = .ok (.iload_n 3, 1) := by decide +kernel
theorem dX12_boat_69 : decode cX12_boat 69 = .ok (.imul, 1) := by decide +kernel
theorem dX12_boat_70 : decode cX12_boat 70 = .ok (.iadd, 1) := by decide +kernel
theorem dX12_boat_71 : decode cX12_boat 71 = .ok (.iconst 1, 1) := by decide +kernel
theorem dX12_boat_72 : decode cX12_boat 72 = .ok (.iadd, 1) := by decide +kernel
theorem dX12_boat_73 : decode cX12_boat 73 = .ok (.iload_n 2, 1) := by decide +kernel
theorem dX12_boat_74 : decode cX12_boat 74 = .ok (.iastore, 1) := by decide +kernel
theorem dX12_boat_75 : decode cX12_boat 75 = .ok (.aload_n 0, 1) := by decide +kernel
theorem dX12_boat_76 : decode cX12_boat 76 = .ok (.getfield 20, 3) := by decide +kernel
theorem dX12_boat_79 : decode cX12_boat 79 = .ok (.sipush 185, 3) := by decide +kernel
theorem dX12_boat_82 : decode cX12_boat 82 = .ok (.dup2, 1) := by decide +kernel
theorem dX12_boat_83 : decode cX12_boat 83 = .ok (.iaload, 1) := by decide +kernel
theorem dX12_boat_84 : decode cX12_boat 84 = .ok (.iconst 1, 1) := by decide +kernel
theorem dX12_boat_85 : decode cX12_boat 85 = .ok (.iadd, 1) := by decide +kernel
theorem dX12_boat_86 : decode cX12_boat 86 = .ok (.iastore, 1) := by decide +kernel
theorem dX12_boat_87 : decode cX12_boat 87 = .ok (.aload_n 0, 1) := by decide +kernel
theorem dX12_boat_88 : decode cX12_boat 88 = .ok (.iload_n 3, 1) := by decide +kernel
theorem dX12_boat_89 : decode cX12_boat 89 = .ok (.invokevirtual 121, 3) := by decide +kernel
theorem dX12_boat_92 : decode cX12_boat 92 = .ok (.ireturn, 1) := by decide +kernel
theorem dX12_isBoat_0 : decode cX12_isBoat 0 = .ok (.iload_n 1, 1) := by decide +kernel
theorem dX12_isBoat_1 : decode cX12_isBoat 1 = .ok (.iconst 0, 1) := by decide +kernel
theorem dX12_isBoat_2 : decode cX12_isBoat 2 = .ok (.aload_n 0, 1) := by decide +kernel
theorem dX12_isBoat_3 : decode cX12_isBoat 3 = .ok (.getfield 20, 3) := by decide +kernel
theorem dX12_isBoat_6 : decode cX12_isBoat 6 = .ok (.sipush 185, 3) := by decide +kernel
theorem dX12_isBoat_9 : decode cX12_isBoat 9 = .ok (.iaload, 1) := by decide +kernel
theorem dX12_isBoat_10 : decode cX12_isBoat 10 = .ok (.iconst 1, 1) := by decide +kernel
theorem dX12_isBoat_11 : decode cX12_isBoat 11 = .ok (.isub, 1) := by decide +kernel
theorem dX12_isBoat_12 : decode cX12_isBoat 12 = .ok (.invokestatic 113, 3) := by decide +kernel
theorem dX12_isBoat_15 : decode cX12_isBoat 15 = .ok (.ireturn, 1) := by decide +kernel
theorem dX12_minuteOf_0 : decode cX12_minuteOf 0 = .ok (.ldc2_w 346, 3) := by decide +kernel
theorem dX12_minuteOf_3 : decode cX12_minuteOf 3 = .ok (.iload_n 0, 1) := by decide +kernel
theorem dX12_minuteOf_4 : decode cX12_minuteOf 4 = .ok (.i2l, 1) := by decide +kernel
theorem dX12_minuteOf_5 : decode cX12_minuteOf 5 = .ok (.lmul, 1) := by decide +kernel
theorem dX12_minuteOf_6 : decode cX12_minuteOf 6 = .ok (.iload_n 1, 1) := by decide +kernel
theorem dX12_minuteOf_7 : decode cX12_minuteOf 7 = .ok (.i2l, 1) := by decide +kernel
theorem dX12_minuteOf_8 : decode cX12_minuteOf 8 = .ok (.ladd, 1) := by decide +kernel
theorem dX12_minuteOf_9 : decode cX12_minuteOf 9 = .ok (.iconst 0, 1) := by decide +kernel
theorem dX12_minuteOf_10 : decode cX12_minuteOf 10 = .ok (.sipush 1439, 3) := by decide +kernel
theorem dX12_minuteOf_13 : decode cX12_minuteOf 13 = .ok (.invokestatic 300, 3) := by decide +kernel
theorem dX12_minuteOf_16 : decode cX12_minuteOf 16 = .ok (.ireturn, 1) := by decide +kernel
theorem dX12_canBe_0 : decode cX12_canBe 0 = .ok (.aload_n 0, 1) := by decide +kernel
theorem dX12_canBe_1 : decode cX12_canBe 1 = .ok (.iload_n 2, 1) := by decide +kernel
theorem dX12_canBe_2 : decode cX12_canBe 2 = .ok (.invokevirtual 343, 3) := by decide +kernel
theorem dX12_canBe_5 : decode cX12_canBe 5 = .ok (.ifCond .eq 39, 3) := by decide +kernel
theorem dX12_canBe_8 : decode cX12_canBe 8 = .ok (.aload_n 0, 1) := by decide +kernel
theorem dX12_canBe_9 : decode cX12_canBe 9 = .ok (.getfield 67, 3) := by decide +kernel
theorem dX12_canBe_12 : decode cX12_canBe 12 = .ok (.sipush 1440, 3) := by decide +kernel
theorem dX12_canBe_15 : decode cX12_canBe 15 = .ok (.aload_n 0, 1) := by decide +kernel
theorem dX12_canBe_16 : decode cX12_canBe 16 = .ok (.iload_n 2, 1) := by decide +kernel
theorem dX12_canBe_17 : decode cX12_canBe 17 = .ok (.invokevirtual 343, 3) := by decide +kernel
theorem dX12_canBe_20 : decode cX12_canBe 20 = .ok (.imul, 1) := by decide +kernel
theorem dX12_canBe_21 : decode cX12_canBe 21 = .ok (.iload_n 3, 1) := by decide +kernel
theorem dX12_canBe_22 : decode cX12_canBe 22 = .ok (.iadd, 1) := by decide +kernel
theorem dX12_canBe_23 : decode cX12_canBe 23 = .ok (.baload, 1) := by decide +kernel
theorem dX12_canBe_24 : decode cX12_canBe 24 = .ok (.aload_n 0, 1) := by decide +kernel
theorem dX12_canBe_25 : decode cX12_canBe 25 = .ok (.getfield 20, 3) := by decide +kernel
theorem dX12_canBe_28 : decode cX12_canBe 28 = .ok (.bipush 91, 2) := by decide +kernel
theorem dX12_canBe_30 : decode cX12_canBe 30 = .ok (.iconst 2, 1) := by decide +kernel
theorem dX12_canBe_31 : decode cX12_canBe 31 = .ok (.iload_n 1, 1) := by decide +kernel
theorem dX12_canBe_32 : decode cX12_canBe 32 = .ok (.imul, 1) := by decide +kernel
theorem dX12_canBe_33 : decode cX12_canBe 33 = .ok (.iadd, 1) := by decide +kernel
theorem dX12_canBe_34 : decode cX12_canBe 34 = .ok (.iconst 1, 1) := by decide +kernel
theorem dX12_canBe_35 : decode cX12_canBe 35 = .ok (.iadd, 1) := by decide +kernel
theorem dX12_canBe_36 : decode cX12_canBe 36 = .ok (.iaload, 1) := by decide +kernel
theorem dX12_canBe_37 : decode cX12_canBe 37 = .ok (.if_icmp .gt 7, 3) := by decide +kernel
theorem dX12_canBe_40 : decode cX12_canBe 40 = .ok (.iconst 1, 1) := by decide +kernel
theorem dX12_canBe_41 : decode cX12_canBe 41 = .ok (.goto 4, 3) := by decide +kernel
theorem dX12_canBe_44 : decode cX12_canBe 44 = .ok (.iconst 0, 1) := by decide +kernel
theorem dX12_canBe_45 : decode cX12_canBe 45 = .ok (.ireturn, 1) := by decide +kernel
theorem dX12_toOf_0 : decode cX12_toOf 0 = .ok (.iload_n 1, 1) := by decide +kernel
theorem dX12_toOf_1 : decode cX12_toOf 1 = .ok (.iconst 1, 1) := by decide +kernel
theorem dX12_toOf_2 : decode cX12_toOf 2 = .ok (.if_icmp .ne 20, 3) := by decide +kernel
theorem dX12_toOf_5 : decode cX12_toOf 5 = .ok (.iload_n 0, 1) := by decide +kernel
theorem dX12_toOf_6 : decode cX12_toOf 6 = .ok (.bipush 10, 2) := by decide +kernel
theorem dX12_toOf_8 : decode cX12_toOf 8 = .ok (.irem, 1) := by decide +kernel
theorem dX12_toOf_9 : decode cX12_toOf 9 = .ok (.bipush 9, 2) := by decide +kernel
theorem dX12_toOf_11 : decode cX12_toOf 11 = .ok (.if_icmp .ne 7, 3) := by decide +kernel
theorem dX12_toOf_14 : decode cX12_toOf 14 = .ok (.iconst (-1), 1) := by decide +kernel
theorem dX12_toOf_15 : decode cX12_toOf 15 = .ok (.goto 6, 3) := by decide +kernel
theorem dX12_toOf_18 : decode cX12_toOf 18 = .ok (.iload_n 0, 1) := by decide +kernel
theorem dX12_toOf_19 : decode cX12_toOf 19 = .ok (.iconst 1, 1) := by decide +kernel
theorem dX12_toOf_20 : decode cX12_toOf 20 = .ok (.iadd, 1) := by decide +kernel
theorem dX12_toOf_21 : decode cX12_toOf 21 = .ok (.ireturn, 1) := by decide +kernel
theorem dX12_toOf_22 : decode cX12_toOf 22 = .ok (.iload_n 1, 1) := by decide +kernel
theorem dX12_toOf_23 : decode cX12_toOf 23 = .ok (.iconst 2, 1) := by decide +kernel
theorem dX12_toOf_24 : decode cX12_toOf 24 = .ok (.if_icmp .ne 18, 3) := by decide +kernel
theorem dX12_toOf_27 : decode cX12_toOf 27 = .ok (.iload_n 0, 1) := by decide +kernel
theorem dX12_toOf_28 : decode cX12_toOf 28 = .ok (.bipush 10, 2) := by decide +kernel
theorem dX12_toOf_30 : decode cX12_toOf 30 = .ok (.irem, 1) := by decide +kernel
theorem dX12_toOf_31 : decode cX12_toOf 31 = .ok (.ifCond .ne 7, 3) := by decide +kernel
theorem dX12_toOf_34 : decode cX12_toOf 34 = .ok (.iconst (-1), 1) := by decide +kernel
theorem dX12_toOf_35 : decode cX12_toOf 35 = .ok (.goto 6, 3) := by decide +kernel
theorem dX12_toOf_38 : decode cX12_toOf 38 = .ok (.iload_n 0, 1) := by decide +kernel
theorem dX12_toOf_39 : decode cX12_toOf 39 = .ok (.iconst 1, 1) := by decide +kernel
theorem dX12_toOf_40 : decode cX12_toOf 40 = .ok (.isub, 1) := by decide +kernel
theorem dX12_toOf_41 : decode cX12_toOf 41 = .ok (.ireturn, 1) := by decide +kernel
theorem dX12_toOf_42 : decode cX12_toOf 42 = .ok (.iload_n 1, 1) := by decide +kernel
theorem dX12_toOf_43 : decode cX12_toOf 43 = .ok (.iconst 3, 1) := by decide +kernel
theorem dX12_toOf_44 : decode cX12_toOf 44 = .ok (.if_icmp .ne 21, 3) := by decide +kernel
theorem dX12_toOf_47 : decode cX12_toOf 47 = .ok (.iload_n 0, 1) := by decide +kernel
theorem dX12_toOf_48 : decode cX12_toOf 48 = .ok (.bipush 10, 2) := by decide +kernel
theorem dX12_toOf_50 : decode cX12_toOf 50 = .ok (.iadd, 1) := by decide +kernel
theorem dX12_toOf_51 : decode cX12_toOf 51 = .ok (.bipush 50, 2) := by decide +kernel
theorem dX12_toOf_53 : decode cX12_toOf 53 = .ok (.if_icmp .ge 10, 3) := by decide +kernel
theorem dX12_toOf_56 : decode cX12_toOf 56 = .ok (.iload_n 0, 1) := by decide +kernel
theorem dX12_toOf_57 : decode cX12_toOf 57 = .ok (.bipush 10, 2) := by decide +kernel
theorem dX12_toOf_59 : decode cX12_toOf 59 = .ok (.iadd, 1) := by decide +kernel
theorem dX12_toOf_60 : decode cX12_toOf 60 = .ok (.goto 4, 3) := by decide +kernel
theorem dX12_toOf_63 : decode cX12_toOf 63 = .ok (.iconst (-1), 1) := by decide +kernel
theorem dX12_toOf_64 : decode cX12_toOf 64 = .ok (.ireturn, 1) := by decide +kernel
theorem dX12_toOf_65 : decode cX12_toOf 65 = .ok (.iload_n 1, 1) := by decide +kernel
theorem dX12_toOf_66 : decode cX12_toOf 66 = .ok (.iconst 4, 1) := by decide +kernel
theorem dX12_toOf_67 : decode cX12_toOf 67 = .ok (.if_icmp .ne 10, 3) := by decide +kernel
theorem dX12_toOf_70 : decode cX12_toOf 70 = .ok (.iload_n 0, 1) := by decide +kernel
theorem dX12_toOf_71 : decode cX12_toOf 71 = .ok (.bipush 10, 2) := by decide +kernel
theorem dX12_toOf_73 : decode cX12_toOf 73 = .ok (.isub, 1) := by decide +kernel
theorem dX12_toOf_74 : decode cX12_toOf 74 = .ok (.goto 4, 3) := by decide +kernel
theorem dX12_toOf_77 : decode cX12_toOf 77 = .ok (.iload_n 0, 1) := by decide +kernel
theorem dX12_toOf_78 : decode cX12_toOf 78 = .ok (.ireturn, 1) := by decide +kernel
theorem dX12_behind_0 : decode cX12_behind 0 = .ok (.iload_n 2, 1) := by decide +kernel
theorem dX12_behind_1 : decode cX12_behind 1 = .ok (.iload 4, 2) := by decide +kernel
theorem dX12_behind_3 : decode cX12_behind 3 = .ok (.invokestatic 348, 3) := by decide +kernel
theorem dX12_behind_6 : decode cX12_behind 6 = .ok (.istore 6, 2) := by decide +kernel
theorem dX12_behind_8 : decode cX12_behind 8 = .ok (.iload 6, 2) := by decide +kernel
theorem dX12_behind_10 : decode cX12_behind 10 = .ok (.ifCond .lt 12, 3) := by decide +kernel
theorem dX12_behind_13 : decode cX12_behind 13 = .ok (.iload_n 3, 1) := by decide +kernel
theorem dX12_behind_14 : decode cX12_behind 14 = .ok (.iconst 1, 1) := by decide +kernel
theorem dX12_behind_15 : decode cX12_behind 15 = .ok (.iadd, 1) := by decide +kernel
theorem dX12_behind_16 : decode cX12_behind 16 = .ok (.sipush 144, 3) := by decide +kernel
theorem dX12_behind_19 : decode cX12_behind 19 = .ok (.if_icmp .lt 5, 3) := by decide +kernel
theorem dX12_behind_22 : decode cX12_behind 22 = .ok (.iconst (-1), 1) := by decide +kernel
theorem dX12_behind_23 : decode cX12_behind 23 = .ok (.ireturn, 1) := by decide +kernel
theorem dX12_behind_24 : decode cX12_behind 24 = .ok (.aload_n 0, 1) := by decide +kernel
theorem dX12_behind_25 : decode cX12_behind 25 = .ok (.aload_n 0, 1) := by decide +kernel
theorem dX12_behind_26 : decode cX12_behind 26 = .ok (.iload_n 2, 1) := by decide +kernel
theorem dX12_behind_27 : decode cX12_behind 27 = .ok (.invokevirtual 343, 3) := by decide +kernel
theorem dX12_behind_30 : decode cX12_behind 30 = .ok (.iload_n 3, 1) := by decide +kernel
theorem dX12_behind_31 : decode cX12_behind 31 = .ok (.iload 5, 2) := by decide +kernel
theorem dX12_behind_33 : decode cX12_behind 33 = .ok (.invokestatic 351, 3) := by decide +kernel
theorem dX12_behind_36 : decode cX12_behind 36 = .ok (.invokevirtual 340, 3) := by decide +kernel
theorem dX12_behind_39 : decode cX12_behind 39 = .ok (.istore 7, 2) := by decide +kernel
theorem dX12_behind_41 : decode cX12_behind 41 = .ok (.aload_n 0, 1) := by decide +kernel
theorem dX12_behind_42 : decode cX12_behind 42 = .ok (.getfield 20, 3) := by decide +kernel
theorem dX12_behind_45 : decode cX12_behind 45 = .ok (.bipush 91, 2) := by decide +kernel
theorem dX12_behind_47 : decode cX12_behind 47 = .ok (.iconst 2, 1) := by decide +kernel
theorem dX12_behind_48 : decode cX12_behind 48 = .ok (.iload_n 1, 1) := by decide +kernel
theorem dX12_behind_49 : decode cX12_behind 49 = .ok (.imul, 1) := by decide +kernel
theorem dX12_behind_50 : decode cX12_behind 50 = .ok (.iadd, 1) := by decide +kernel
theorem dX12_behind_51 : decode cX12_behind 51 = .ok (.iaload, 1) := by decide +kernel
theorem dX12_behind_52 : decode cX12_behind 52 = .ok (.istore 8, 2) := by decide +kernel
theorem dX12_behind_54 : decode cX12_behind 54 = .ok (.iload 4, 2) := by decide +kernel
theorem dX12_behind_56 : decode cX12_behind 56 = .ok (.iconst 1, 1) := by decide +kernel
theorem dX12_behind_57 : decode cX12_behind 57 = .ok (.if_icmp .ne 25, 3) := by decide +kernel
theorem dX12_behind_60 : decode cX12_behind 60 = .ok (.iload 8, 2) := by decide +kernel
theorem dX12_behind_62 : decode cX12_behind 62 = .ok (.iload 7, 2) := by decide +kernel
theorem dX12_behind_64 : decode cX12_behind 64 = .ok (.iadd, 1) := by decide +kernel
theorem dX12_behind_65 : decode cX12_behind 65 = .ok (.aload_n 0, 1) := by decide +kernel
theorem dX12_behind_66 : decode cX12_behind 66 = .ok (.bipush 6, 2) := by decide +kernel
theorem dX12_behind_68 : decode cX12_behind 68 = .ok (.invokevirtual 283, 3) := by decide +kernel
theorem dX12_behind_71 : decode cX12_behind 71 = .ok (.if_icmp .lt 7, 3) := by decide +kernel
theorem dX12_behind_74 : decode cX12_behind 74 = .ok (.iconst 1, 1) := by decide +kernel
theorem dX12_behind_75 : decode cX12_behind 75 = .ok (.goto 50, 3) := by decide +kernel
theorem dX12_behind_78 : decode cX12_behind 78 = .ok (.iconst 0, 1) := by decide +kernel
theorem dX12_behind_79 : decode cX12_behind 79 = .ok (.goto 46, 3) := by decide +kernel
theorem dX12_behind_82 : decode cX12_behind 82 = .ok (.iload 4, 2) := by decide +kernel
theorem dX12_behind_84 : decode cX12_behind 84 = .ok (.iconst 2, 1) := by decide +kernel
theorem dX12_behind_85 : decode cX12_behind 85 = .ok (.if_icmp .ne 25, 3) := by decide +kernel
theorem dX12_behind_88 : decode cX12_behind 88 = .ok (.iload 8, 2) := by decide +kernel
theorem dX12_behind_90 : decode cX12_behind 90 = .ok (.iload 7, 2) := by decide +kernel
theorem dX12_behind_92 : decode cX12_behind 92 = .ok (.isub, 1) := by decide +kernel
theorem dX12_behind_93 : decode cX12_behind 93 = .ok (.aload_n 0, 1) := by decide +kernel
theorem dX12_behind_94 : decode cX12_behind 94 = .ok (.bipush 6, 2) := by decide +kernel
theorem dX12_behind_96 : decode cX12_behind 96 = .ok (.invokevirtual 283, 3) := by decide +kernel
theorem dX12_behind_99 : decode cX12_behind 99 = .ok (.if_icmp .lt 7, 3) := by decide +kernel
theorem dX12_behind_102 : decode cX12_behind 102 = .ok (.iconst 1, 1) := by decide +kernel
theorem dX12_behind_103 : decode cX12_behind 103 = .ok (.goto 22, 3) := by decide +kernel
theorem dX12_behind_106 : decode cX12_behind 106 = .ok (.iconst 0, 1) := by decide +kernel
theorem dX12_behind_107 : decode cX12_behind 107 = .ok (.goto 18, 3) := by decide +kernel
theorem dX12_behind_110 : decode cX12_behind 110 = .ok (.iload 7, 2) := by decide +kernel
theorem dX12_behind_112 : decode cX12_behind 112 = .ok (.invokestatic 304, 3) := by decide +kernel
theorem dX12_behind_115 : decode cX12_behind 115 = .ok (.iload 8, 2) := by decide +kernel
theorem dX12_behind_117 : decode cX12_behind 117 = .ok (.if_icmp .gt 7, 3) := by decide +kernel
theorem dX12_behind_120 : decode cX12_behind 120 = .ok (.iconst 1, 1) := by decide +kernel
theorem dX12_behind_121 : decode cX12_behind 121 = .ok (.goto 4, 3) := by decide +kernel
theorem dX12_behind_124 : decode cX12_behind 124 = .ok (.iconst 0, 1) := by decide +kernel
theorem dX12_behind_125 : decode cX12_behind 125 = .ok (.istore 9, 2) := by decide +kernel
theorem dX12_behind_127 : decode cX12_behind 127 = .ok (.iload 9, 2) := by decide +kernel
theorem dX12_behind_129 : decode cX12_behind 129 = .ok (.ifCond .eq 26, 3) := by decide +kernel
theorem dX12_behind_132 : decode cX12_behind 132 = .ok (.aload_n 0, 1) := by decide +kernel
theorem dX12_behind_133 : decode cX12_behind 133 = .ok (.iload_n 1, 1) := by decide +kernel
theorem dX12_behind_134 : decode cX12_behind 134 = .ok (.iload 6, 2) := by decide +kernel
theorem dX12_behind_136 : decode cX12_behind 136 = .ok (.iload_n 3, 1) := by decide +kernel
theorem dX12_behind_137 : decode cX12_behind 137 = .ok (.iconst 1, 1) := by decide +kernel
theorem dX12_behind_138 : decode cX12_behind 138 = .ok (.iadd, 1) := by decide +kernel
theorem dX12_behind_139 : decode cX12_behind 139 = .ok (.iload 5, 2) := by decide +kernel
theorem dX12_behind_141 : decode cX12_behind 141 = .ok (.invokestatic 351, 3) := by decide +kernel
theorem dX12_behind_144 : decode cX12_behind 144 = .ok (.invokevirtual 354, 3) := by decide +kernel
theorem dX12_behind_147 : decode cX12_behind 147 = .ok (.ifCond .eq 8, 3) := by decide +kernel
theorem dX12_behind_150 : decode cX12_behind 150 = .ok (.iload 6, 2) := by decide +kernel
theorem dX12_behind_152 : decode cX12_behind 152 = .ok (.goto 4, 3) := by decide +kernel
theorem dX12_behind_155 : decode cX12_behind 155 = .ok (.iconst (-1), 1) := by decide +kernel
theorem dX12_behind_156 : decode cX12_behind 156 = .ok (.ireturn, 1) := by decide +kernel
theorem dX12_soonestOf_0 : decode cX12_soonestOf 0 = .ok (.iload_n 2, 1) := by decide +kernel
theorem dX12_soonestOf_1 : decode cX12_soonestOf 1 = .ok (.istore 5, 2) := by decide +kernel
theorem dX12_soonestOf_3 : decode cX12_soonestOf 3 = .ok (.iload 5, 2) := by decide +kernel
theorem dX12_soonestOf_5 : decode cX12_soonestOf 5 = .ok (.sipush 144, 3) := by decide +kernel
theorem dX12_soonestOf_8 : decode cX12_soonestOf 8 = .ok (.if_icmp .ge 184, 3) := by decide +kernel
theorem dX12_soonestOf_11 : decode cX12_soonestOf 11 = .ok (.iconst 0, 1) := by decide +kernel
theorem dX12_soonestOf_12 : decode cX12_soonestOf 12 = .ok (.istore 6, 2) := by decide +kernel
theorem dX12_soonestOf_14 : decode cX12_soonestOf 14 = .ok (.iload 6, 2) := by decide +kernel
theorem dX12_soonestOf_16 : decode cX12_soonestOf 16 = .ok (.bipush 50, 2) := by decide +kernel
theorem dX12_soonestOf_18 : decode cX12_soonestOf 18 = .ok (.if_icmp .ge 55, 3) := by decide +kernel
theorem dX12_soonestOf_21 : decode cX12_soonestOf 21 = .ok (.aload_n 0, 1) := by decide +kernel
theorem dX12_soonestOf_22 : decode cX12_soonestOf 22 = .ok (.getfield 70, 3) := by decide +kernel
theorem dX12_soonestOf_25 : decode cX12_soonestOf 25 = .ok (.bipush 50, 2) := by decide +kernel
theorem dX12_soonestOf_27 : decode cX12_soonestOf 27 = .ok (.iload 5, 2) := by decide +kernel
theorem dX12_soonestOf_29 : decode cX12_soonestOf 29 = .ok (.imul, 1) := by decide +kernel
theorem dX12_soonestOf_30 : decode cX12_soonestOf 30 = .ok (.iload 6, 2) := by decide +kernel
theorem dX12_soonestOf_32 : decode cX12_soonestOf 32 = .ok (.iadd, 1) := by decide +kernel
theorem dX12_soonestOf_33 : decode cX12_soonestOf 33 = .ok (.iload 5, 2) := by decide +kernel
theorem dX12_soonestOf_35 : decode cX12_soonestOf 35 = .ok (.iload_n 2, 1) := by decide +kernel
theorem dX12_soonestOf_36 : decode cX12_soonestOf 36 = .ok (.if_icmp .ne 29, 3) := by decide +kernel
theorem dX12_soonestOf_39 : decode cX12_soonestOf 39 = .ok (.iload 6, 2) := by decide +kernel
theorem dX12_soonestOf_41 : decode cX12_soonestOf 41 = .ok (.iload_n 3, 1) := by decide +kernel
theorem dX12_soonestOf_42 : decode cX12_soonestOf 42 = .ok (.if_icmp .ne 23, 3) := by decide +kernel
theorem dX12_soonestOf_45 : decode cX12_soonestOf 45 = .ok (.aload_n 0, 1) := by decide +kernel
theorem dX12_soonestOf_46 : decode cX12_soonestOf 46 = .ok (.iload_n 1, 1) := by decide +kernel
theorem dX12_soonestOf_47 : decode cX12_soonestOf 47 = .ok (.iload 6, 2) := by decide +kernel
theorem dX12_soonestOf_49 : decode cX12_soonestOf 49 = .ok (.iload 5, 2) := by decide +kernel
theorem dX12_soonestOf_51 : decode cX12_soonestOf 51 = .ok (.iconst 0, 1) := by decide +kernel
theorem dX12_soonestOf_52 : decode cX12_soonestOf 52 = .ok (.invokestatic 351, 3) := by decide +kernel
theorem dX12_soonestOf_55 : decode cX12_soonestOf 55 = .ok (.invokevirtual 354, 3) := by decide +kernel
theorem dX12_soonestOf_58 : decode cX12_soonestOf 58 = .ok (.ifCond .eq 7, 3) := by decide +kernel
theorem dX12_soonestOf_61 : decode cX12_soonestOf 61 = .ok (.iconst 1, 1) := by decide +kernel
theorem dX12_soonestOf_62 : decode cX12_soonestOf 62 = .ok (.goto 4, 3) := by decide +kernel
theorem dX12_soonestOf_65 : decode cX12_soonestOf 65 = .ok (.iconst 0, 1) := by decide +kernel
theorem dX12_soonestOf_66 : decode cX12_soonestOf 66 = .ok (.bastore, 1) := by decide +kernel
theorem dX12_soonestOf_67 : decode cX12_soonestOf 67 = .ok (.iinc 6 1, 3) := by decide +kernel
theorem dX12_soonestOf_70 : decode cX12_soonestOf 70 = .ok (.goto (-56), 3) := by decide +kernel
theorem dX12_soonestOf_73 : decode cX12_soonestOf 73 = .ok (.iconst 0, 1) := by decide +kernel
theorem dX12_soonestOf_74 : decode cX12_soonestOf 74 = .ok (.istore 6, 2) := by decide +kernel
theorem dX12_soonestOf_76 : decode cX12_soonestOf 76 = .ok (.iload 6, 2) := by decide +kernel
theorem dX12_soonestOf_78 : decode cX12_soonestOf 78 = .ok (.bipush 50, 2) := by decide +kernel
theorem dX12_soonestOf_80 : decode cX12_soonestOf 80 = .ok (.if_icmp .ge 87, 3) := by decide +kernel
theorem dX12_soonestOf_83 : decode cX12_soonestOf 83 = .ok (.iload 5, 2) := by decide +kernel
theorem dX12_soonestOf_85 : decode cX12_soonestOf 85 = .ok (.iload_n 2, 1) := by decide +kernel
theorem dX12_soonestOf_86 : decode cX12_soonestOf 86 = .ok (.if_icmp .le 81, 3) := by decide +kernel
theorem dX12_soonestOf_89 : decode cX12_soonestOf 89 = .ok (.aload_n 0, 1) := by decide +kernel
theorem dX12_soonestOf_90 : decode cX12_soonestOf 90 = .ok (.getfield 70, 3) := by decide +kernel
theorem dX12_soonestOf_93 : decode cX12_soonestOf 93 = .ok (.bipush 50, 2) := by decide +kernel
theorem dX12_soonestOf_95 : decode cX12_soonestOf 95 = .ok (.iload 5, 2) := by decide +kernel
theorem dX12_soonestOf_97 : decode cX12_soonestOf 97 = .ok (.iconst 1, 1) := by decide +kernel
theorem dX12_soonestOf_98 : decode cX12_soonestOf 98 = .ok (.isub, 1) := by decide +kernel
theorem dX12_soonestOf_99 : decode cX12_soonestOf 99 = .ok (.imul, 1) := by decide +kernel
theorem dX12_soonestOf_100 : decode cX12_soonestOf 100 = .ok (.iload 6, 2) := by decide +kernel
theorem dX12_soonestOf_102 : decode cX12_soonestOf 102 = .ok (.iadd, 1) := by decide +kernel
theorem dX12_soonestOf_103 : decode cX12_soonestOf 103 = .ok (.baload, 1) := by decide +kernel
theorem dX12_soonestOf_104 : decode cX12_soonestOf 104 = .ok (.ifCond .ne 6, 3) := by decide +kernel
theorem dX12_soonestOf_107 : decode cX12_soonestOf 107 = .ok (.goto 54, 3) := by decide +kernel
theorem dX12_soonestOf_110 : decode cX12_soonestOf 110 = .ok (.iconst 0, 1) := by decide +kernel
theorem dX12_soonestOf_111 : decode cX12_soonestOf 111 = .ok (.istore 7, 2) := by decide +kernel
theorem dX12_soonestOf_113 : decode cX12_soonestOf 113 = .ok (.iload 7, 2) := by decide +kernel
theorem dX12_soonestOf_115 : decode cX12_soonestOf 115 = .ok (.iconst 5, 1) := by decide +kernel
theorem dX12_soonestOf_116 : decode cX12_soonestOf 116 = .ok (.if_icmp .ge 45, 3) := by decide +kernel
theorem dX12_soonestOf_119 : decode cX12_soonestOf 119 = .ok (.aload_n 0, 1) := by decide +kernel
theorem dX12_soonestOf_120 : decode cX12_soonestOf 120 = .ok (.iload_n 1, 1) := by decide +kernel
theorem dX12_soonestOf_121 : decode cX12_soonestOf 121 = .ok (.iload 6, 2) := by decide +kernel
theorem dX12_soonestOf_123 : decode cX12_soonestOf 123 = .ok (.iload 5, 2) := by decide +kernel
theorem dX12_soonestOf_125 : decode cX12_soonestOf 125 = .ok (.iconst 1, 1) := by decide +kernel
theorem dX12_soonestOf_126 : decode cX12_soonestOf 126 = .ok (.isub, 1) := by decide +kernel
theorem dX12_soonestOf_127 : decode cX12_soonestOf 127 = .ok (.iload 7, 2) := by decide +kernel
theorem dX12_soonestOf_129 : decode cX12_soonestOf 129 = .ok (.iconst 0, 1) := by decide +kernel
theorem dX12_soonestOf_130 : decode cX12_soonestOf 130 = .ok (.invokevirtual 357, 3) := by decide +kernel
theorem dX12_soonestOf_133 : decode cX12_soonestOf 133 = .ok (.istore 8, 2) := by decide +kernel
theorem dX12_soonestOf_135 : decode cX12_soonestOf 135 = .ok (.iload 8, 2) := by decide +kernel
theorem dX12_soonestOf_137 : decode cX12_soonestOf 137 = .ok (.iconst (-1), 1) := by decide +kernel
theorem dX12_soonestOf_138 : decode cX12_soonestOf 138 = .ok (.if_icmp .eq 17, 3) := by decide +kernel
theorem dX12_soonestOf_141 : decode cX12_soonestOf 141 = .ok (.aload_n 0, 1) := by decide +kernel
theorem dX12_soonestOf_142 : decode cX12_soonestOf 142 = .ok (.getfield 70, 3) := by decide +kernel
theorem dX12_soonestOf_145 : decode cX12_soonestOf 145 = .ok (.bipush 50, 2) := by decide +kernel
theorem dX12_soonestOf_147 : decode cX12_soonestOf 147 = .ok (.iload 5, 2) := by decide +kernel
theorem dX12_soonestOf_149 : decode cX12_soonestOf 149 = .ok (.imul, 1) := by decide +kernel
theorem dX12_soonestOf_150 : decode cX12_soonestOf 150 = .ok (.iload 8, 2) := by decide +kernel
theorem dX12_soonestOf_152 : decode cX12_soonestOf 152 = .ok (.iadd, 1) := by decide +kernel
theorem dX12_soonestOf_153 : decode cX12_soonestOf 153 = .ok (.iconst 1, 1) := by decide +kernel
theorem dX12_soonestOf_154 : decode cX12_soonestOf 154 = .ok (.bastore, 1) := by decide +kernel
theorem dX12_soonestOf_155 : decode cX12_soonestOf 155 = .ok (.iinc 7 1, 3) := by decide +kernel
theorem dX12_soonestOf_158 : decode cX12_soonestOf 158 = .ok (.goto (-45), 3) := by decide +kernel
theorem dX12_soonestOf_161 : decode cX12_soonestOf 161 = .ok (.iinc 6 1, 3) := by decide +kernel
theorem dX12_soonestOf_164 : decode cX12_soonestOf 164 = .ok (.goto (-88), 3) := by decide +kernel
theorem dX12_soonestOf_167 : decode cX12_soonestOf 167 = .ok (.aload_n 0, 1) := by decide +kernel
theorem dX12_soonestOf_168 : decode cX12_soonestOf 168 = .ok (.getfield 70, 3) := by decide +kernel
theorem dX12_soonestOf_171 : decode cX12_soonestOf 171 = .ok (.bipush 50, 2) := by decide +kernel
theorem dX12_soonestOf_173 : decode cX12_soonestOf 173 = .ok (.iload 5, 2) := by decide +kernel
theorem dX12_soonestOf_175 : decode cX12_soonestOf 175 = .ok (.imul, 1) := by decide +kernel
theorem dX12_soonestOf_176 : decode cX12_soonestOf 176 = .ok (.iload 4, 2) := by decide +kernel
theorem dX12_soonestOf_178 : decode cX12_soonestOf 178 = .ok (.iadd, 1) := by decide +kernel
theorem dX12_soonestOf_179 : decode cX12_soonestOf 179 = .ok (.baload, 1) := by decide +kernel
theorem dX12_soonestOf_180 : decode cX12_soonestOf 180 = .ok (.ifCond .eq 6, 3) := by decide +kernel
theorem dX12_soonestOf_183 : decode cX12_soonestOf 183 = .ok (.iload 5, 2) := by decide +kernel
theorem dX12_soonestOf_185 : decode cX12_soonestOf 185 = .ok (.ireturn, 1) := by decide +kernel
theorem dX12_soonestOf_186 : decode cX12_soonestOf 186 = .ok (.iinc 5 1, 3) := by decide +kernel
theorem dX12_soonestOf_189 : decode cX12_soonestOf 189 = .ok (.goto (-186), 3) := by decide +kernel
theorem dX12_soonestOf_192 : decode cX12_soonestOf 192 = .ok (.iconst (-1), 1) := by decide +kernel
theorem dX12_soonestOf_193 : decode cX12_soonestOf 193 = .ok (.ireturn, 1) := by decide +kernel
theorem dX12_isWay_0 : decode cX12_isWay 0 = .ok (.aload_n 0, 1) := by decide +kernel
theorem dX12_isWay_1 : decode cX12_isWay 1 = .ok (.iload_n 1, 1) := by decide +kernel
theorem dX12_isWay_2 : decode cX12_isWay 2 = .ok (.invokevirtual 361, 3) := by decide +kernel
theorem dX12_isWay_5 : decode cX12_isWay 5 = .ok (.ifCond .eq 29, 3) := by decide +kernel
theorem dX12_isWay_8 : decode cX12_isWay 8 = .ok (.iload_n 2, 1) := by decide +kernel
theorem dX12_isWay_9 : decode cX12_isWay 9 = .ok (.invokestatic 364, 3) := by decide +kernel
theorem dX12_isWay_12 : decode cX12_isWay 12 = .ok (.ifCond .eq 22, 3) := by decide +kernel
theorem dX12_isWay_15 : decode cX12_isWay 15 = .ok (.iload_n 3, 1) := by decide +kernel
theorem dX12_isWay_16 : decode cX12_isWay 16 = .ok (.invokestatic 334, 3) := by decide +kernel
theorem dX12_isWay_19 : decode cX12_isWay 19 = .ok (.ifCond .eq 15, 3) := by decide +kernel
theorem dX12_isWay_22 : decode cX12_isWay 22 = .ok (.iload 4, 2) := by decide +kernel
theorem dX12_isWay_24 : decode cX12_isWay 24 = .ok (.invokestatic 334, 3) := by decide +kernel
theorem dX12_isWay_27 : decode cX12_isWay 27 = .ok (.ifCond .eq 7, 3) := by decide +kernel
theorem dX12_isWay_30 : decode cX12_isWay 30 = .ok (.iconst 1, 1) := by decide +kernel
theorem dX12_isWay_31 : decode cX12_isWay 31 = .ok (.goto 4, 3) := by decide +kernel
theorem dX12_isWay_34 : decode cX12_isWay 34 = .ok (.iconst 0, 1) := by decide +kernel
theorem dX12_isWay_35 : decode cX12_isWay 35 = .ok (.ireturn, 1) := by decide +kernel
theorem dX12_soonest_0 : decode cX12_soonest 0 = .ok (.aload_n 0, 1) := by decide +kernel
theorem dX12_soonest_1 : decode cX12_soonest 1 = .ok (.iload_n 1, 1) := by decide +kernel
theorem dX12_soonest_2 : decode cX12_soonest 2 = .ok (.iload_n 2, 1) := by decide +kernel
theorem dX12_soonest_3 : decode cX12_soonest 3 = .ok (.iload_n 3, 1) := by decide +kernel
theorem dX12_soonest_4 : decode cX12_soonest 4 = .ok (.iload 4, 2) := by decide +kernel
theorem dX12_soonest_6 : decode cX12_soonest 6 = .ok (.invokevirtual 367, 3) := by decide +kernel
theorem dX12_soonest_9 : decode cX12_soonest 9 = .ok (.ifCond .ne 5, 3) := by decide +kernel
theorem dX12_soonest_12 : decode cX12_soonest 12 = .ok (.iconst (-1), 1) := by decide +kernel
theorem dX12_soonest_13 : decode cX12_soonest 13 = .ok (.ireturn, 1) := by decide +kernel
theorem dX12_soonest_14 : decode cX12_soonest 14 = .ok (.aload_n 0, 1) := by decide +kernel
theorem dX12_soonest_15 : decode cX12_soonest 15 = .ok (.invokevirtual 321, 3) := by decide +kernel
theorem dX12_soonest_18 : decode cX12_soonest 18 = .ok (.aload_n 0, 1) := by decide +kernel
theorem dX12_soonest_19 : decode cX12_soonest 19 = .ok (.iload_n 1, 1) := by decide +kernel
theorem dX12_soonest_20 : decode cX12_soonest 20 = .ok (.iload_n 2, 1) := by decide +kernel
theorem dX12_soonest_21 : decode cX12_soonest 21 = .ok (.iload_n 3, 1) := by decide +kernel
theorem dX12_soonest_22 : decode cX12_soonest 22 = .ok (.iload 4, 2) := by decide +kernel
theorem dX12_soonest_24 : decode cX12_soonest 24 = .ok (.invokevirtual 371, 3) := by decide +kernel
theorem dX12_soonest_27 : decode cX12_soonest 27 = .ok (.ireturn, 1) := by decide +kernel
theorem dX12_way_0 : decode cX12_way 0 = .ok (.aload_n 0, 1) := by decide +kernel
theorem dX12_way_1 : decode cX12_way 1 = .ok (.iload_n 1, 1) := by decide +kernel
theorem dX12_way_2 : decode cX12_way 2 = .ok (.iload_n 2, 1) := by decide +kernel
theorem dX12_way_3 : decode cX12_way 3 = .ok (.iload_n 3, 1) := by decide +kernel
theorem dX12_way_4 : decode cX12_way 4 = .ok (.iload 4, 2) := by decide +kernel
theorem dX12_way_6 : decode cX12_way 6 = .ok (.invokevirtual 367, 3) := by decide +kernel
theorem dX12_way_9 : decode cX12_way 9 = .ok (.ifCond .eq 11, 3) := by decide +kernel
theorem dX12_way_12 : decode cX12_way 12 = .ok (.iload 5, 2) := by decide +kernel
theorem dX12_way_14 : decode cX12_way 14 = .ok (.invokestatic 364, 3) := by decide +kernel
theorem dX12_way_17 : decode cX12_way 17 = .ok (.ifCond .ne 5, 3) := by decide +kernel
theorem dX12_way_20 : decode cX12_way 20 = .ok (.iconst (-1), 1) := by decide +kernel
theorem dX12_way_21 : decode cX12_way 21 = .ok (.ireturn, 1) := by decide +kernel
theorem dX12_way_22 : decode cX12_way 22 = .ok (.aload_n 0, 1) := by decide +kernel
theorem dX12_way_23 : decode cX12_way 23 = .ok (.invokevirtual 321, 3) := by decide +kernel
theorem dX12_way_26 : decode cX12_way 26 = .ok (.aload_n 0, 1) := by decide +kernel
theorem dX12_way_27 : decode cX12_way 27 = .ok (.iload_n 1, 1) := by decide +kernel
theorem dX12_way_28 : decode cX12_way 28 = .ok (.iload_n 2, 1) := by decide +kernel
theorem dX12_way_29 : decode cX12_way 29 = .ok (.iload_n 3, 1) := by decide +kernel
theorem dX12_way_30 : decode cX12_way 30 = .ok (.iload 4, 2) := by decide +kernel
theorem dX12_way_32 : decode cX12_way 32 = .ok (.invokevirtual 371, 3) := by decide +kernel
theorem dX12_way_35 : decode cX12_way 35 = .ok (.istore 6, 2) := by decide +kernel
theorem dX12_way_37 : decode cX12_way 37 = .ok (.iload 6, 2) := by decide +kernel
theorem dX12_way_39 : decode cX12_way 39 = .ok (.iconst (-1), 1) := by decide +kernel
theorem dX12_way_40 : decode cX12_way 40 = .ok (.if_icmp .eq 14, 3) := by decide +kernel
theorem dX12_way_43 : decode cX12_way 43 = .ok (.iload 5, 2) := by decide +kernel
theorem dX12_way_45 : decode cX12_way 45 = .ok (.iload_n 2, 1) := by decide +kernel
theorem dX12_way_46 : decode cX12_way 46 = .ok (.iload 6, 2) := by decide +kernel
theorem dX12_way_48 : decode cX12_way 48 = .ok (.invokestatic 113, 3) := by decide +kernel
theorem dX12_way_51 : decode cX12_way 51 = .ok (.ifCond .ne 5, 3) := by decide +kernel
theorem dX12_way_54 : decode cX12_way 54 = .ok (.iconst (-1), 1) := by decide +kernel
theorem dX12_way_55 : decode cX12_way 55 = .ok (.ireturn, 1) := by decide +kernel
theorem dX12_way_56 : decode cX12_way 56 = .ok (.iload 6, 2) := by decide +kernel
theorem dX12_way_58 : decode cX12_way 58 = .ok (.istore 7, 2) := by decide +kernel
theorem dX12_way_60 : decode cX12_way 60 = .ok (.iload 7, 2) := by decide +kernel
theorem dX12_way_62 : decode cX12_way 62 = .ok (.iload_n 2, 1) := by decide +kernel
theorem dX12_way_63 : decode cX12_way 63 = .ok (.if_icmp .lt 157, 3) := by decide +kernel
theorem dX12_way_66 : decode cX12_way 66 = .ok (.iconst 0, 1) := by decide +kernel
theorem dX12_way_67 : decode cX12_way 67 = .ok (.istore 8, 2) := by decide +kernel
theorem dX12_way_69 : decode cX12_way 69 = .ok (.iload 8, 2) := by decide +kernel
theorem dX12_way_71 : decode cX12_way 71 = .ok (.bipush 50, 2) := by decide +kernel
theorem dX12_way_73 : decode cX12_way 73 = .ok (.if_icmp .ge 141, 3) := by decide +kernel
theorem dX12_way_76 : decode cX12_way 76 = .ok (.iload 7, 2) := by decide +kernel
theorem dX12_way_78 : decode cX12_way 78 = .ok (.iload 6, 2) := by decide +kernel
theorem dX12_way_80 : decode cX12_way 80 = .ok (.if_icmp .ne 14, 3) := by decide +kernel
theorem dX12_way_83 : decode cX12_way 83 = .ok (.iload 8, 2) := by decide +kernel
theorem dX12_way_85 : decode cX12_way 85 = .ok (.iload 4, 2) := by decide +kernel
theorem dX12_way_87 : decode cX12_way 87 = .ok (.if_icmp .ne 7, 3) := by decide +kernel
theorem dX12_way_90 : decode cX12_way 90 = .ok (.iconst 1, 1) := by decide +kernel
theorem dX12_way_91 : decode cX12_way 91 = .ok (.goto 4, 3) := by decide +kernel
theorem dX12_way_94 : decode cX12_way 94 = .ok (.iconst 0, 1) := by decide +kernel
theorem dX12_way_95 : decode cX12_way 95 = .ok (.istore 9, 2) := by decide +kernel
theorem dX12_way_97 : decode cX12_way 97 = .ok (.iconst 0, 1) := by decide +kernel
theorem dX12_way_98 : decode cX12_way 98 = .ok (.istore 10, 2) := by decide +kernel
theorem dX12_way_100 : decode cX12_way 100 = .ok (.iload 10, 2) := by decide +kernel
theorem dX12_way_102 : decode cX12_way 102 = .ok (.iconst 5, 1) := by decide +kernel
theorem dX12_way_103 : decode cX12_way 103 = .ok (.if_icmp .ge 66, 3) := by decide +kernel
theorem dX12_way_106 : decode cX12_way 106 = .ok (.iload 7, 2) := by decide +kernel
theorem dX12_way_108 : decode cX12_way 108 = .ok (.iload 6, 2) := by decide +kernel
theorem dX12_way_110 : decode cX12_way 110 = .ok (.if_icmp .ge 59, 3) := by decide +kernel
theorem dX12_way_113 : decode cX12_way 113 = .ok (.aload_n 0, 1) := by decide +kernel
theorem dX12_way_114 : decode cX12_way 114 = .ok (.iload_n 1, 1) := by decide +kernel
theorem dX12_way_115 : decode cX12_way 115 = .ok (.iload 8, 2) := by decide +kernel
theorem dX12_way_117 : decode cX12_way 117 = .ok (.iload 7, 2) := by decide +kernel
theorem dX12_way_119 : decode cX12_way 119 = .ok (.iload 10, 2) := by decide +kernel
theorem dX12_way_121 : decode cX12_way 121 = .ok (.iconst 0, 1) := by decide +kernel
theorem dX12_way_122 : decode cX12_way 122 = .ok (.invokevirtual 357, 3) := by decide +kernel
theorem dX12_way_125 : decode cX12_way 125 = .ok (.istore 11, 2) := by decide +kernel
theorem dX12_way_127 : decode cX12_way 127 = .ok (.iload 9, 2) := by decide +kernel
theorem dX12_way_129 : decode cX12_way 129 = .ok (.ifCond .ne 27, 3) := by decide +kernel
theorem dX12_way_132 : decode cX12_way 132 = .ok (.iload 11, 2) := by decide +kernel
theorem dX12_way_134 : decode cX12_way 134 = .ok (.iconst (-1), 1) := by decide +kernel
theorem dX12_way_135 : decode cX12_way 135 = .ok (.if_icmp .eq 25, 3) := by decide +kernel
theorem dX12_way_138 : decode cX12_way 138 = .ok (.aload_n 0, 1) := by decide +kernel
theorem dX12_way_139 : decode cX12_way 139 = .ok (.getfield 73, 3) := by decide +kernel
theorem dX12_way_142 : decode cX12_way 142 = .ok (.bipush 50, 2) := by decide +kernel
theorem dX12_way_144 : decode cX12_way 144 = .ok (.iload 7, 2) := by decide +kernel
theorem dX12_way_146 : decode cX12_way 146 = .ok (.iconst 1, 1) := by decide +kernel
theorem dX12_way_147 : decode cX12_way 147 = .ok (.iadd, 1) := by decide +kernel
theorem dX12_way_148 : decode cX12_way 148 = .ok (.imul, 1) := by decide +kernel
theorem dX12_way_149 : decode cX12_way 149 = .ok (.iload 11, 2) := by decide +kernel
theorem dX12_way_151 : decode cX12_way 151 = .ok (.iadd, 1) := by decide +kernel
theorem dX12_way_152 : decode cX12_way 152 = .ok (.baload, 1) := by decide +kernel
theorem dX12_way_153 : decode cX12_way 153 = .ok (.ifCond .eq 7, 3) := by decide +kernel
theorem dX12_way_156 : decode cX12_way 156 = .ok (.iconst 1, 1) := by decide +kernel
theorem dX12_way_157 : decode cX12_way 157 = .ok (.goto 4, 3) := by decide +kernel
theorem dX12_way_160 : decode cX12_way 160 = .ok (.iconst 0, 1) := by decide +kernel
theorem dX12_way_161 : decode cX12_way 161 = .ok (.istore 9, 2) := by decide +kernel
theorem dX12_way_163 : decode cX12_way 163 = .ok (.iinc 10 1, 3) := by decide +kernel
theorem dX12_way_166 : decode cX12_way 166 = .ok (.goto (-66), 3) := by decide +kernel
theorem dX12_way_169 : decode cX12_way 169 = .ok (.aload_n 0, 1) := by decide +kernel
theorem dX12_way_170 : decode cX12_way 170 = .ok (.getfield 73, 3) := by decide +kernel
theorem dX12_way_173 : decode cX12_way 173 = .ok (.bipush 50, 2) := by decide +kernel
theorem dX12_way_175 : decode cX12_way 175 = .ok (.iload 7, 2) := by decide +kernel
theorem dX12_way_177 : decode cX12_way 177 = .ok (.imul, 1) := by decide +kernel
theorem dX12_way_178 : decode cX12_way 178 = .ok (.iload 8, 2) := by decide +kernel
theorem dX12_way_180 : decode cX12_way 180 = .ok (.iadd, 1) := by decide +kernel
theorem dX12_way_181 : decode cX12_way 181 = .ok (.iload 9, 2) := by decide +kernel
theorem dX12_way_183 : decode cX12_way 183 = .ok (.ifCond .eq 23, 3) := by decide +kernel
theorem dX12_way_186 : decode cX12_way 186 = .ok (.aload_n 0, 1) := by decide +kernel
theorem dX12_way_187 : decode cX12_way 187 = .ok (.getfield 70, 3) := by decide +kernel
theorem dX12_way_190 : decode cX12_way 190 = .ok (.bipush 50, 2) := by decide +kernel
theorem dX12_way_192 : decode cX12_way 192 = .ok (.iload 7, 2) := by decide +kernel
theorem dX12_way_194 : decode cX12_way 194 = .ok (.imul, 1) := by decide +kernel
theorem dX12_way_195 : decode cX12_way 195 = .ok (.iload 8, 2) := by decide +kernel
theorem dX12_way_197 : decode cX12_way 197 = .ok (.iadd, 1) := by decide +kernel
theorem dX12_way_198 : decode cX12_way 198 = .ok (.baload, 1) := by decide +kernel
theorem dX12_way_199 : decode cX12_way 199 = .ok (.ifCond .eq 7, 3) := by decide +kernel
theorem dX12_way_202 : decode cX12_way 202 = .ok (.iconst 1, 1) := by decide +kernel
theorem dX12_way_203 : decode cX12_way 203 = .ok (.goto 4, 3) := by decide +kernel
theorem dX12_way_206 : decode cX12_way 206 = .ok (.iconst 0, 1) := by decide +kernel
theorem dX12_way_207 : decode cX12_way 207 = .ok (.bastore, 1) := by decide +kernel
theorem dX12_way_208 : decode cX12_way 208 = .ok (.iinc 8 1, 3) := by decide +kernel
theorem dX12_way_211 : decode cX12_way 211 = .ok (.goto (-142), 3) := by decide +kernel
theorem dX12_way_214 : decode cX12_way 214 = .ok (.iinc 7 (-1), 3) := by decide +kernel
theorem dX12_way_217 : decode cX12_way 217 = .ok (.goto (-157), 3) := by decide +kernel
theorem dX12_way_220 : decode cX12_way 220 = .ok (.iload_n 3, 1) := by decide +kernel
theorem dX12_way_221 : decode cX12_way 221 = .ok (.istore 7, 2) := by decide +kernel
theorem dX12_way_223 : decode cX12_way 223 = .ok (.iload_n 2, 1) := by decide +kernel
theorem dX12_way_224 : decode cX12_way 224 = .ok (.istore 8, 2) := by decide +kernel
theorem dX12_way_226 : decode cX12_way 226 = .ok (.iload 8, 2) := by decide +kernel
theorem dX12_way_228 : decode cX12_way 228 = .ok (.iload 5, 2) := by decide +kernel
theorem dX12_way_230 : decode cX12_way 230 = .ok (.if_icmp .ge 81, 3) := by decide +kernel
theorem dX12_way_233 : decode cX12_way 233 = .ok (.bipush 50, 2) := by decide +kernel
theorem dX12_way_235 : decode cX12_way 235 = .ok (.istore 9, 2) := by decide +kernel
theorem dX12_way_237 : decode cX12_way 237 = .ok (.iconst 0, 1) := by decide +kernel
theorem dX12_way_238 : decode cX12_way 238 = .ok (.istore 10, 2) := by decide +kernel
theorem dX12_way_240 : decode cX12_way 240 = .ok (.iload 10, 2) := by decide +kernel
theorem dX12_way_242 : decode cX12_way 242 = .ok (.iconst 5, 1) := by decide +kernel
theorem dX12_way_243 : decode cX12_way 243 = .ok (.if_icmp .ge 58, 3) := by decide +kernel
theorem dX12_way_246 : decode cX12_way 246 = .ok (.aload_n 0, 1) := by decide +kernel
theorem dX12_way_247 : decode cX12_way 247 = .ok (.iload_n 1, 1) := by decide +kernel
theorem dX12_way_248 : decode cX12_way 248 = .ok (.iload 7, 2) := by decide +kernel
theorem dX12_way_250 : decode cX12_way 250 = .ok (.iload 8, 2) := by decide +kernel
theorem dX12_way_252 : decode cX12_way 252 = .ok (.iload 10, 2) := by decide +kernel
theorem dX12_way_254 : decode cX12_way 254 = .ok (.iconst 0, 1) := by decide +kernel
theorem dX12_way_255 : decode cX12_way 255 = .ok (.invokevirtual 357, 3) := by decide +kernel
theorem dX12_way_258 : decode cX12_way 258 = .ok (.istore 11, 2) := by decide +kernel
theorem dX12_way_260 : decode cX12_way 260 = .ok (.iload 11, 2) := by decide +kernel
theorem dX12_way_262 : decode cX12_way 262 = .ok (.iconst (-1), 1) := by decide +kernel
theorem dX12_way_263 : decode cX12_way 263 = .ok (.if_icmp .eq 32, 3) := by decide +kernel
theorem dX12_way_266 : decode cX12_way 266 = .ok (.iload 11, 2) := by decide +kernel
theorem dX12_way_268 : decode cX12_way 268 = .ok (.iload 9, 2) := by decide +kernel
theorem dX12_way_270 : decode cX12_way 270 = .ok (.if_icmp .ge 25, 3) := by decide +kernel
theorem dX12_way_273 : decode cX12_way 273 = .ok (.aload_n 0, 1) := by decide +kernel
theorem dX12_way_274 : decode cX12_way 274 = .ok (.getfield 73, 3) := by decide +kernel
theorem dX12_way_277 : decode cX12_way 277 = .ok (.bipush 50, 2) := by decide +kernel
theorem dX12_way_279 : decode cX12_way 279 = .ok (.iload 8, 2) := by decide +kernel
theorem dX12_way_281 : decode cX12_way 281 = .ok (.iconst 1, 1) := by decide +kernel
theorem dX12_way_282 : decode cX12_way 282 = .ok (.iadd, 1) := by decide +kernel
theorem dX12_way_283 : decode cX12_way 283 = .ok (.imul, 1) := by decide +kernel
theorem dX12_way_284 : decode cX12_way 284 = .ok (.iload 11, 2) := by decide +kernel
theorem dX12_way_286 : decode cX12_way 286 = .ok (.iadd, 1) := by decide +kernel
theorem dX12_way_287 : decode cX12_way 287 = .ok (.baload, 1) := by decide +kernel
theorem dX12_way_288 : decode cX12_way 288 = .ok (.ifCond .eq 7, 3) := by decide +kernel
theorem dX12_way_291 : decode cX12_way 291 = .ok (.iload 11, 2) := by decide +kernel
theorem dX12_way_293 : decode cX12_way 293 = .ok (.istore 9, 2) := by decide +kernel
theorem dX12_way_295 : decode cX12_way 295 = .ok (.iinc 10 1, 3) := by decide +kernel
theorem dX12_way_298 : decode cX12_way 298 = .ok (.goto (-58), 3) := by decide +kernel
theorem dX12_way_301 : decode cX12_way 301 = .ok (.iload 9, 2) := by decide +kernel
theorem dX12_way_303 : decode cX12_way 303 = .ok (.istore 7, 2) := by decide +kernel
theorem dX12_way_305 : decode cX12_way 305 = .ok (.iinc 8 1, 3) := by decide +kernel
theorem dX12_way_308 : decode cX12_way 308 = .ok (.goto (-82), 3) := by decide +kernel
theorem dX12_way_311 : decode cX12_way 311 = .ok (.iload 7, 2) := by decide +kernel
theorem dX12_way_313 : decode cX12_way 313 = .ok (.ireturn, 1) := by decide +kernel
theorem dX12_calmest_0 : decode cX12_calmest 0 = .ok (.aload_n 0, 1) := by decide +kernel
theorem dX12_calmest_1 : decode cX12_calmest 1 = .ok (.iload_n 1, 1) := by decide +kernel
theorem dX12_calmest_2 : decode cX12_calmest 2 = .ok (.iload_n 2, 1) := by decide +kernel
theorem dX12_calmest_3 : decode cX12_calmest 3 = .ok (.iload_n 3, 1) := by decide +kernel
theorem dX12_calmest_4 : decode cX12_calmest 4 = .ok (.iload 4, 2) := by decide +kernel
theorem dX12_calmest_6 : decode cX12_calmest 6 = .ok (.invokevirtual 367, 3) := by decide +kernel
theorem dX12_calmest_9 : decode cX12_calmest 9 = .ok (.ifCond .ne 5, 3) := by decide +kernel
theorem dX12_calmest_12 : decode cX12_calmest 12 = .ok (.iconst (-1), 1) := by decide +kernel
theorem dX12_calmest_13 : decode cX12_calmest 13 = .ok (.ireturn, 1) := by decide +kernel
theorem dX12_calmest_14 : decode cX12_calmest 14 = .ok (.aload_n 0, 1) := by decide +kernel
theorem dX12_calmest_15 : decode cX12_calmest 15 = .ok (.invokevirtual 321, 3) := by decide +kernel
theorem dX12_calmest_18 : decode cX12_calmest 18 = .ok (.iconst 0, 1) := by decide +kernel
theorem dX12_calmest_19 : decode cX12_calmest 19 = .ok (.istore 5, 2) := by decide +kernel
theorem dX12_calmest_21 : decode cX12_calmest 21 = .ok (.iload 5, 2) := by decide +kernel
theorem dX12_calmest_23 : decode cX12_calmest 23 = .ok (.bipush 50, 2) := by decide +kernel
theorem dX12_calmest_25 : decode cX12_calmest 25 = .ok (.if_icmp .ge 63, 3) := by decide +kernel
theorem dX12_calmest_28 : decode cX12_calmest 28 = .ok (.aload_n 0, 1) := by decide +kernel
theorem dX12_calmest_29 : decode cX12_calmest 29 = .ok (.getfield 76, 3) := by decide +kernel
theorem dX12_calmest_32 : decode cX12_calmest 32 = .ok (.iload 5, 2) := by decide +kernel
theorem dX12_calmest_34 : decode cX12_calmest 34 = .ok (.iload 5, 2) := by decide +kernel
theorem dX12_calmest_36 : decode cX12_calmest 36 = .ok (.iload_n 3, 1) := by decide +kernel
theorem dX12_calmest_37 : decode cX12_calmest 37 = .ok (.if_icmp .ne 42, 3) := by decide +kernel
theorem dX12_calmest_40 : decode cX12_calmest 40 = .ok (.aload_n 0, 1) := by decide +kernel
theorem dX12_calmest_41 : decode cX12_calmest 41 = .ok (.iload_n 1, 1) := by decide +kernel
theorem dX12_calmest_42 : decode cX12_calmest 42 = .ok (.iload 5, 2) := by decide +kernel
theorem dX12_calmest_44 : decode cX12_calmest 44 = .ok (.iload_n 2, 1) := by decide +kernel
theorem dX12_calmest_45 : decode cX12_calmest 45 = .ok (.iconst 0, 1) := by decide +kernel
theorem dX12_calmest_46 : decode cX12_calmest 46 = .ok (.invokestatic 351, 3) := by decide +kernel
theorem dX12_calmest_49 : decode cX12_calmest 49 = .ok (.invokevirtual 354, 3) := by decide +kernel
theorem dX12_calmest_52 : decode cX12_calmest 52 = .ok (.ifCond .eq 27, 3) := by decide +kernel
theorem dX12_calmest_55 : decode cX12_calmest 55 = .ok (.aload_n 0, 1) := by decide +kernel
theorem dX12_calmest_56 : decode cX12_calmest 56 = .ok (.getfield 67, 3) := by decide +kernel
theorem dX12_calmest_59 : decode cX12_calmest 59 = .ok (.sipush 1440, 3) := by decide +kernel
theorem dX12_calmest_62 : decode cX12_calmest 62 = .ok (.aload_n 0, 1) := by decide +kernel
theorem dX12_calmest_63 : decode cX12_calmest 63 = .ok (.iload 5, 2) := by decide +kernel
theorem dX12_calmest_65 : decode cX12_calmest 65 = .ok (.invokevirtual 343, 3) := by decide +kernel
theorem dX12_calmest_68 : decode cX12_calmest 68 = .ok (.imul, 1) := by decide +kernel
theorem dX12_calmest_69 : decode cX12_calmest 69 = .ok (.iload_n 2, 1) := by decide +kernel
theorem dX12_calmest_70 : decode cX12_calmest 70 = .ok (.iconst 0, 1) := by decide +kernel
theorem dX12_calmest_71 : decode cX12_calmest 71 = .ok (.invokestatic 351, 3) := by decide +kernel
theorem dX12_calmest_74 : decode cX12_calmest 74 = .ok (.iadd, 1) := by decide +kernel
theorem dX12_calmest_75 : decode cX12_calmest 75 = .ok (.baload, 1) := by decide +kernel
theorem dX12_calmest_76 : decode cX12_calmest 76 = .ok (.goto 5, 3) := by decide +kernel
theorem dX12_calmest_79 : decode cX12_calmest 79 = .ok (.ldc 157, 2) := by decide +kernel
theorem dX12_calmest_81 : decode cX12_calmest 81 = .ok (.iastore, 1) := by decide +kernel
theorem dX12_calmest_82 : decode cX12_calmest 82 = .ok (.iinc 5 1, 3) := by decide +kernel
theorem dX12_calmest_85 : decode cX12_calmest 85 = .ok (.goto (-64), 3) := by decide +kernel
theorem dX12_calmest_88 : decode cX12_calmest 88 = .ok (.aload_n 0, 1) := by decide +kernel
theorem dX12_calmest_89 : decode cX12_calmest 89 = .ok (.getfield 76, 3) := by decide +kernel
theorem dX12_calmest_92 : decode cX12_calmest 92 = .ok (.iload 4, 2) := by decide +kernel
theorem dX12_calmest_94 : decode cX12_calmest 94 = .ok (.iaload, 1) := by decide +kernel
theorem dX12_calmest_95 : decode cX12_calmest 95 = .ok (.istore 5, 2) := by decide +kernel
theorem dX12_calmest_97 : decode cX12_calmest 97 = .ok (.iload_n 2, 1) := by decide +kernel
theorem dX12_calmest_98 : decode cX12_calmest 98 = .ok (.istore 6, 2) := by decide +kernel
theorem dX12_calmest_100 : decode cX12_calmest 100 = .ok (.iload 6, 2) := by decide +kernel
theorem dX12_calmest_102 : decode cX12_calmest 102 = .ok (.iconst 1, 1) := by decide +kernel
theorem dX12_calmest_103 : decode cX12_calmest 103 = .ok (.iadd, 1) := by decide +kernel
theorem dX12_calmest_104 : decode cX12_calmest 104 = .ok (.sipush 144, 3) := by decide +kernel
theorem dX12_calmest_107 : decode cX12_calmest 107 = .ok (.if_icmp .ge 209, 3) := by decide +kernel
theorem dX12_calmest_110 : decode cX12_calmest 110 = .ok (.iconst 0, 1) := by decide +kernel
theorem dX12_calmest_111 : decode cX12_calmest 111 = .ok (.istore 7, 2) := by decide +kernel
theorem dX12_calmest_113 : decode cX12_calmest 113 = .ok (.iload 7, 2) := by decide +kernel
theorem dX12_calmest_115 : decode cX12_calmest 115 = .ok (.bipush 50, 2) := by decide +kernel
theorem dX12_calmest_117 : decode cX12_calmest 117 = .ok (.if_icmp .ge 18, 3) := by decide +kernel
theorem dX12_calmest_120 : decode cX12_calmest 120 = .ok (.aload_n 0, 1) := by decide +kernel
theorem dX12_calmest_121 : decode cX12_calmest 121 = .ok (.getfield 79, 3) := by decide +kernel
theorem dX12_calmest_124 : decode cX12_calmest 124 = .ok (.iload 7, 2) := by decide +kernel
theorem dX12_calmest_126 : decode cX12_calmest 126 = .ok (.ldc 157, 2) := by decide +kernel
theorem dX12_calmest_128 : decode cX12_calmest 128 = .ok (.iastore, 1) := by decide +kernel
theorem dX12_calmest_129 : decode cX12_calmest 129 = .ok (.iinc 7 1, 3) := by decide +kernel
theorem dX12_calmest_132 : decode cX12_calmest 132 = .ok (.goto (-19), 3) := by decide +kernel
theorem dX12_calmest_135 : decode cX12_calmest 135 = .ok (.iconst 0, 1) := by decide +kernel
theorem dX12_calmest_136 : decode cX12_calmest 136 = .ok (.istore 7, 2) := by decide +kernel
theorem dX12_calmest_138 : decode cX12_calmest 138 = .ok (.iload 7, 2) := by decide +kernel
theorem dX12_calmest_140 : decode cX12_calmest 140 = .ok (.bipush 50, 2) := by decide +kernel
theorem dX12_calmest_142 : decode cX12_calmest 142 = .ok (.if_icmp .ge 117, 3) := by decide +kernel
theorem dX12_calmest_145 : decode cX12_calmest 145 = .ok (.aload_n 0, 1) := by decide +kernel
theorem dX12_calmest_146 : decode cX12_calmest 146 = .ok (.getfield 76, 3) := by decide +kernel
theorem dX12_calmest_149 : decode cX12_calmest 149 = .ok (.iload 7, 2) := by decide +kernel
theorem dX12_calmest_151 : decode cX12_calmest 151 = .ok (.iaload, 1) := by decide +kernel
theorem dX12_calmest_152 : decode cX12_calmest 152 = .ok (.ldc 157, 2) := by decide +kernel
theorem dX12_calmest_154 : decode cX12_calmest 154 = .ok (.if_icmp .ne 6, 3) := by decide +kernel
theorem dX12_calmest_157 : decode cX12_calmest 157 = .ok (.goto 96, 3) := by decide +kernel
theorem dX12_calmest_160 : decode cX12_calmest 160 = .ok (.iconst 0, 1) := by decide +kernel
theorem dX12_calmest_161 : decode cX12_calmest 161 = .ok (.istore 8, 2) := by decide +kernel
theorem dX12_calmest_163 : decode cX12_calmest 163 = .ok (.iload 8, 2) := by decide +kernel
theorem dX12_calmest_165 : decode cX12_calmest 165 = .ok (.iconst 5, 1) := by decide +kernel
theorem dX12_calmest_166 : decode cX12_calmest 166 = .ok (.if_icmp .ge 87, 3) := by decide +kernel
theorem dX12_calmest_169 : decode cX12_calmest 169 = .ok (.aload_n 0, 1) := by decide +kernel
theorem dX12_calmest_170 : decode cX12_calmest 170 = .ok (.iload_n 1, 1) := by decide +kernel
theorem dX12_calmest_171 : decode cX12_calmest 171 = .ok (.iload 7, 2) := by decide +kernel
theorem dX12_calmest_173 : decode cX12_calmest 173 = .ok (.iload 6, 2) := by decide +kernel
theorem dX12_calmest_175 : decode cX12_calmest 175 = .ok (.iload 8, 2) := by decide +kernel
theorem dX12_calmest_177 : decode cX12_calmest 177 = .ok (.iconst 0, 1) := by decide +kernel
theorem dX12_calmest_178 : decode cX12_calmest 178 = .ok (.invokevirtual 357, 3) := by decide +kernel
theorem dX12_calmest_181 : decode cX12_calmest 181 = .ok (.istore 9, 2) := by decide +kernel
theorem dX12_calmest_183 : decode cX12_calmest 183 = .ok (.iload 9, 2) := by decide +kernel
theorem dX12_calmest_185 : decode cX12_calmest 185 = .ok (.iconst (-1), 1) := by decide +kernel
theorem dX12_calmest_186 : decode cX12_calmest 186 = .ok (.if_icmp .ne 6, 3) := by decide +kernel
theorem dX12_calmest_189 : decode cX12_calmest 189 = .ok (.goto 58, 3) := by decide +kernel
theorem dX12_calmest_192 : decode cX12_calmest 192 = .ok (.aload_n 0, 1) := by decide +kernel
theorem dX12_calmest_193 : decode cX12_calmest 193 = .ok (.getfield 76, 3) := by decide +kernel
theorem dX12_calmest_196 : decode cX12_calmest 196 = .ok (.iload 7, 2) := by decide +kernel
theorem dX12_calmest_198 : decode cX12_calmest 198 = .ok (.iaload, 1) := by decide +kernel
theorem dX12_calmest_199 : decode cX12_calmest 199 = .ok (.aload_n 0, 1) := by decide +kernel
theorem dX12_calmest_200 : decode cX12_calmest 200 = .ok (.getfield 67, 3) := by decide +kernel
theorem dX12_calmest_203 : decode cX12_calmest 203 = .ok (.sipush 1440, 3) := by decide +kernel
theorem dX12_calmest_206 : decode cX12_calmest 206 = .ok (.aload_n 0, 1) := by decide +kernel
theorem dX12_calmest_207 : decode cX12_calmest 207 = .ok (.iload 9, 2) := by decide +kernel
theorem dX12_calmest_209 : decode cX12_calmest 209 = .ok (.invokevirtual 343, 3) := by decide +kernel
theorem dX12_calmest_212 : decode cX12_calmest 212 = .ok (.imul, 1) := by decide +kernel
theorem dX12_calmest_213 : decode cX12_calmest 213 = .ok (.iload 6, 2) := by decide +kernel
theorem dX12_calmest_215 : decode cX12_calmest 215 = .ok (.iconst 1, 1) := by decide +kernel
theorem dX12_calmest_216 : decode cX12_calmest 216 = .ok (.iadd, 1) := by decide +kernel
theorem dX12_calmest_217 : decode cX12_calmest 217 = .ok (.iconst 0, 1) := by decide +kernel
theorem dX12_calmest_218 : decode cX12_calmest 218 = .ok (.invokestatic 351, 3) := by decide +kernel
theorem dX12_calmest_221 : decode cX12_calmest 221 = .ok (.iadd, 1) := by decide +kernel
theorem dX12_calmest_222 : decode cX12_calmest 222 = .ok (.baload, 1) := by decide +kernel
theorem dX12_calmest_223 : decode cX12_calmest 223 = .ok (.iadd, 1) := by decide +kernel
theorem dX12_calmest_224 : decode cX12_calmest 224 = .ok (.istore 10, 2) := by decide +kernel
theorem dX12_calmest_226 : decode cX12_calmest 226 = .ok (.iload 10, 2) := by decide +kernel
theorem dX12_calmest_228 : decode cX12_calmest 228 = .ok (.aload_n 0, 1) := by decide +kernel
theorem dX12_calmest_229 : decode cX12_calmest 229 = .ok (.getfield 79, 3) := by decide +kernel
theorem dX12_calmest_232 : decode cX12_calmest 232 = .ok (.iload 9, 2) := by decide +kernel
theorem dX12_calmest_234 : decode cX12_calmest 234 = .ok (.iaload, 1) := by decide +kernel
theorem dX12_calmest_235 : decode cX12_calmest 235 = .ok (.if_icmp .ge 12, 3) := by decide +kernel
theorem dX12_calmest_238 : decode cX12_calmest 238 = .ok (.aload_n 0, 1) := by decide +kernel
theorem dX12_calmest_239 : decode cX12_calmest 239 = .ok (.getfield 79, 3) := by decide +kernel
theorem dX12_calmest_242 : decode cX12_calmest 242 = .ok (.iload 9, 2) := by decide +kernel
theorem dX12_calmest_244 : decode cX12_calmest 244 = .ok (.iload 10, 2) := by decide +kernel
theorem dX12_calmest_246 : decode cX12_calmest 246 = .ok (.iastore, 1) := by decide +kernel
theorem dX12_calmest_247 : decode cX12_calmest 247 = .ok (.iinc 8 1, 3) := by decide +kernel
theorem dX12_calmest_250 : decode cX12_calmest 250 = .ok (.goto (-87), 3) := by decide +kernel
theorem dX12_calmest_253 : decode cX12_calmest 253 = .ok (.iinc 7 1, 3) := by decide +kernel
theorem dX12_calmest_256 : decode cX12_calmest 256 = .ok (.goto (-118), 3) := by decide +kernel
theorem dX12_calmest_259 : decode cX12_calmest 259 = .ok (.iconst 0, 1) := by decide +kernel
theorem dX12_calmest_260 : decode cX12_calmest 260 = .ok (.istore 7, 2) := by decide +kernel
theorem dX12_calmest_262 : decode cX12_calmest 262 = .ok (.iload 7, 2) := by decide +kernel
theorem dX12_calmest_264 : decode cX12_calmest 264 = .ok (.bipush 50, 2) := by decide +kernel
theorem dX12_calmest_266 : decode cX12_calmest 266 = .ok (.if_icmp .ge 23, 3) := by decide +kernel
theorem dX12_calmest_269 : decode cX12_calmest 269 = .ok (.aload_n 0, 1) := by decide +kernel
theorem dX12_calmest_270 : decode cX12_calmest 270 = .ok (.getfield 76, 3) := by decide +kernel
theorem dX12_calmest_273 : decode cX12_calmest 273 = .ok (.iload 7, 2) := by decide +kernel
theorem dX12_calmest_275 : decode cX12_calmest 275 = .ok (.aload_n 0, 1) := by decide +kernel
theorem dX12_calmest_276 : decode cX12_calmest 276 = .ok (.getfield 79, 3) := by decide +kernel
theorem dX12_calmest_279 : decode cX12_calmest 279 = .ok (.iload 7, 2) := by decide +kernel
theorem dX12_calmest_281 : decode cX12_calmest 281 = .ok (.iaload, 1) := by decide +kernel
theorem dX12_calmest_282 : decode cX12_calmest 282 = .ok (.iastore, 1) := by decide +kernel
theorem dX12_calmest_283 : decode cX12_calmest 283 = .ok (.iinc 7 1, 3) := by decide +kernel
theorem dX12_calmest_286 : decode cX12_calmest 286 = .ok (.goto (-24), 3) := by decide +kernel
theorem dX12_calmest_289 : decode cX12_calmest 289 = .ok (.aload_n 0, 1) := by decide +kernel
theorem dX12_calmest_290 : decode cX12_calmest 290 = .ok (.getfield 76, 3) := by decide +kernel
theorem dX12_calmest_293 : decode cX12_calmest 293 = .ok (.iload 4, 2) := by decide +kernel
theorem dX12_calmest_295 : decode cX12_calmest 295 = .ok (.iaload, 1) := by decide +kernel
theorem dX12_calmest_296 : decode cX12_calmest 296 = .ok (.iload 5, 2) := by decide +kernel
theorem dX12_calmest_298 : decode cX12_calmest 298 = .ok (.if_icmp .ge 12, 3) := by decide +kernel
theorem dX12_calmest_301 : decode cX12_calmest 301 = .ok (.aload_n 0, 1) := by decide +kernel
theorem dX12_calmest_302 : decode cX12_calmest 302 = .ok (.getfield 76, 3) := by decide +kernel
theorem dX12_calmest_305 : decode cX12_calmest 305 = .ok (.iload 4, 2) := by decide +kernel
theorem dX12_calmest_307 : decode cX12_calmest 307 = .ok (.iaload, 1) := by decide +kernel
theorem dX12_calmest_308 : decode cX12_calmest 308 = .ok (.istore 5, 2) := by decide +kernel
theorem dX12_calmest_310 : decode cX12_calmest 310 = .ok (.iinc 6 1, 3) := by decide +kernel
theorem dX12_calmest_313 : decode cX12_calmest 313 = .ok (.goto (-213), 3) := by decide +kernel
theorem dX12_calmest_316 : decode cX12_calmest 316 = .ok (.iload 5, 2) := by decide +kernel
theorem dX12_calmest_318 : decode cX12_calmest 318 = .ok (.ldc 157, 2) := by decide +kernel
theorem dX12_calmest_320 : decode cX12_calmest 320 = .ok (.if_icmp .ne 7, 3) := by decide +kernel
theorem dX12_calmest_323 : decode cX12_calmest 323 = .ok (.iconst (-1), 1) := by decide +kernel
theorem dX12_calmest_324 : decode cX12_calmest 324 = .ok (.goto 5, 3) := by decide +kernel
theorem dX12_calmest_327 : decode cX12_calmest 327 = .ok (.iload 5, 2) := by decide +kernel
theorem dX12_calmest_329 : decode cX12_calmest 329 = .ok (.ireturn, 1) := by decide +kernel
theorem dX12_latest_0 : decode cX12_latest 0 = .ok (.aload_n 0, 1) := by decide +kernel
theorem dX12_latest_1 : decode cX12_latest 1 = .ok (.iload_n 1, 1) := by decide +kernel
theorem dX12_latest_2 : decode cX12_latest 2 = .ok (.iload 4, 2) := by decide +kernel
theorem dX12_latest_4 : decode cX12_latest 4 = .ok (.iload_n 2, 1) := by decide +kernel
theorem dX12_latest_5 : decode cX12_latest 5 = .ok (.iload_n 3, 1) := by decide +kernel
theorem dX12_latest_6 : decode cX12_latest 6 = .ok (.invokevirtual 367, 3) := by decide +kernel
theorem dX12_latest_9 : decode cX12_latest 9 = .ok (.ifCond .ne 5, 3) := by decide +kernel
theorem dX12_latest_12 : decode cX12_latest 12 = .ok (.iconst (-1), 1) := by decide +kernel
theorem dX12_latest_13 : decode cX12_latest 13 = .ok (.ireturn, 1) := by decide +kernel
theorem dX12_latest_14 : decode cX12_latest 14 = .ok (.aload_n 0, 1) := by decide +kernel
theorem dX12_latest_15 : decode cX12_latest 15 = .ok (.invokevirtual 321, 3) := by decide +kernel
theorem dX12_latest_18 : decode cX12_latest 18 = .ok (.iload 4, 2) := by decide +kernel
theorem dX12_latest_20 : decode cX12_latest 20 = .ok (.istore 5, 2) := by decide +kernel
theorem dX12_latest_22 : decode cX12_latest 22 = .ok (.iload 5, 2) := by decide +kernel
theorem dX12_latest_24 : decode cX12_latest 24 = .ok (.ifCond .lt 167, 3) := by decide +kernel
theorem dX12_latest_27 : decode cX12_latest 27 = .ok (.iconst 0, 1) := by decide +kernel
theorem dX12_latest_28 : decode cX12_latest 28 = .ok (.istore 6, 2) := by decide +kernel
theorem dX12_latest_30 : decode cX12_latest 30 = .ok (.iload 6, 2) := by decide +kernel
theorem dX12_latest_32 : decode cX12_latest 32 = .ok (.bipush 50, 2) := by decide +kernel
theorem dX12_latest_34 : decode cX12_latest 34 = .ok (.if_icmp .ge 133, 3) := by decide +kernel
theorem dX12_latest_37 : decode cX12_latest 37 = .ok (.iload 6, 2) := by decide +kernel
theorem dX12_latest_39 : decode cX12_latest 39 = .ok (.iload_n 3, 1) := by decide +kernel
theorem dX12_latest_40 : decode cX12_latest 40 = .ok (.if_icmp .ne 7, 3) := by decide +kernel
theorem dX12_latest_43 : decode cX12_latest 43 = .ok (.iconst 1, 1) := by decide +kernel
theorem dX12_latest_44 : decode cX12_latest 44 = .ok (.goto 4, 3) := by decide +kernel
theorem dX12_latest_47 : decode cX12_latest 47 = .ok (.iconst 0, 1) := by decide +kernel
theorem dX12_latest_48 : decode cX12_latest 48 = .ok (.istore 7, 2) := by decide +kernel
theorem dX12_latest_50 : decode cX12_latest 50 = .ok (.iconst 0, 1) := by decide +kernel
theorem dX12_latest_51 : decode cX12_latest 51 = .ok (.istore 8, 2) := by decide +kernel
theorem dX12_latest_53 : decode cX12_latest 53 = .ok (.iload 8, 2) := by decide +kernel
theorem dX12_latest_55 : decode cX12_latest 55 = .ok (.iconst 5, 1) := by decide +kernel
theorem dX12_latest_56 : decode cX12_latest 56 = .ok (.if_icmp .ge 66, 3) := by decide +kernel
theorem dX12_latest_59 : decode cX12_latest 59 = .ok (.iload 5, 2) := by decide +kernel
theorem dX12_latest_61 : decode cX12_latest 61 = .ok (.iload 4, 2) := by decide +kernel
theorem dX12_latest_63 : decode cX12_latest 63 = .ok (.if_icmp .ge 59, 3) := by decide +kernel
theorem dX12_latest_66 : decode cX12_latest 66 = .ok (.aload_n 0, 1) := by decide +kernel
theorem dX12_latest_67 : decode cX12_latest 67 = .ok (.iload_n 1, 1) := by decide +kernel
theorem dX12_latest_68 : decode cX12_latest 68 = .ok (.iload 6, 2) := by decide +kernel
theorem dX12_latest_70 : decode cX12_latest 70 = .ok (.iload 5, 2) := by decide +kernel
theorem dX12_latest_72 : decode cX12_latest 72 = .ok (.iload 8, 2) := by decide +kernel
theorem dX12_latest_74 : decode cX12_latest 74 = .ok (.iconst 0, 1) := by decide +kernel
theorem dX12_latest_75 : decode cX12_latest 75 = .ok (.invokevirtual 357, 3) := by decide +kernel
theorem dX12_latest_78 : decode cX12_latest 78 = .ok (.istore 9, 2) := by decide +kernel
theorem dX12_latest_80 : decode cX12_latest 80 = .ok (.iload 7, 2) := by decide +kernel
theorem dX12_latest_82 : decode cX12_latest 82 = .ok (.ifCond .ne 27, 3) := by decide +kernel
theorem dX12_latest_85 : decode cX12_latest 85 = .ok (.iload 9, 2) := by decide +kernel
theorem dX12_latest_87 : decode cX12_latest 87 = .ok (.iconst (-1), 1) := by decide +kernel
theorem dX12_latest_88 : decode cX12_latest 88 = .ok (.if_icmp .eq 25, 3) := by decide +kernel
theorem dX12_latest_91 : decode cX12_latest 91 = .ok (.aload_n 0, 1) := by decide +kernel
theorem dX12_latest_92 : decode cX12_latest 92 = .ok (.getfield 73, 3) := by decide +kernel
theorem dX12_latest_95 : decode cX12_latest 95 = .ok (.bipush 50, 2) := by decide +kernel
theorem dX12_latest_97 : decode cX12_latest 97 = .ok (.iload 5, 2) := by decide +kernel
theorem dX12_latest_99 : decode cX12_latest 99 = .ok (.iconst 1, 1) := by decide +kernel
theorem dX12_latest_100 : decode cX12_latest 100 = .ok (.iadd, 1) := by decide +kernel
theorem dX12_latest_101 : decode cX12_latest 101 = .ok (.imul, 1) := by decide +kernel
theorem dX12_latest_102 : decode cX12_latest 102 = .ok (.iload 9, 2) := by decide +kernel
theorem dX12_latest_104 : decode cX12_latest 104 = .ok (.iadd, 1) := by decide +kernel
theorem dX12_latest_105 : decode cX12_latest 105 = .ok (.baload, 1) := by decide +kernel
theorem dX12_latest_106 : decode cX12_latest 106 = .ok (.ifCond .eq 7, 3) := by decide +kernel
theorem dX12_latest_109 : decode cX12_latest 109 = .ok (.iconst 1, 1) := by decide +kernel
theorem dX12_latest_110 : decode cX12_latest 110 = .ok (.goto 4, 3) := by decide +kernel
theorem dX12_latest_113 : decode cX12_latest 113 = .ok (.iconst 0, 1) := by decide +kernel
theorem dX12_latest_114 : decode cX12_latest 114 = .ok (.istore 7, 2) := by decide +kernel
theorem dX12_latest_116 : decode cX12_latest 116 = .ok (.iinc 8 1, 3) := by decide +kernel
theorem dX12_latest_119 : decode cX12_latest 119 = .ok (.goto (-66), 3) := by decide +kernel
theorem dX12_latest_122 : decode cX12_latest 122 = .ok (.aload_n 0, 1) := by decide +kernel
theorem dX12_latest_123 : decode cX12_latest 123 = .ok (.getfield 73, 3) := by decide +kernel
theorem dX12_latest_126 : decode cX12_latest 126 = .ok (.bipush 50, 2) := by decide +kernel
theorem dX12_latest_128 : decode cX12_latest 128 = .ok (.iload 5, 2) := by decide +kernel
theorem dX12_latest_130 : decode cX12_latest 130 = .ok (.imul, 1) := by decide +kernel
theorem dX12_latest_131 : decode cX12_latest 131 = .ok (.iload 6, 2) := by decide +kernel
theorem dX12_latest_133 : decode cX12_latest 133 = .ok (.iadd, 1) := by decide +kernel
theorem dX12_latest_134 : decode cX12_latest 134 = .ok (.iload 7, 2) := by decide +kernel
theorem dX12_latest_136 : decode cX12_latest 136 = .ok (.ifCond .eq 23, 3) := by decide +kernel
theorem dX12_latest_139 : decode cX12_latest 139 = .ok (.aload_n 0, 1) := by decide +kernel
theorem dX12_latest_140 : decode cX12_latest 140 = .ok (.iload_n 1, 1) := by decide +kernel
theorem dX12_latest_141 : decode cX12_latest 141 = .ok (.iload 6, 2) := by decide +kernel
theorem dX12_latest_143 : decode cX12_latest 143 = .ok (.iload 5, 2) := by decide +kernel
theorem dX12_latest_145 : decode cX12_latest 145 = .ok (.iconst 0, 1) := by decide +kernel
theorem dX12_latest_146 : decode cX12_latest 146 = .ok (.invokestatic 351, 3) := by decide +kernel
theorem dX12_latest_149 : decode cX12_latest 149 = .ok (.invokevirtual 354, 3) := by decide +kernel
theorem dX12_latest_152 : decode cX12_latest 152 = .ok (.ifCond .eq 7, 3) := by decide +kernel
theorem dX12_latest_155 : decode cX12_latest 155 = .ok (.iconst 1, 1) := by decide +kernel
theorem dX12_latest_156 : decode cX12_latest 156 = .ok (.goto 4, 3) := by decide +kernel
theorem dX12_latest_159 : decode cX12_latest 159 = .ok (.iconst 0, 1) := by decide +kernel
theorem dX12_latest_160 : decode cX12_latest 160 = .ok (.bastore, 1) := by decide +kernel
theorem dX12_latest_161 : decode cX12_latest 161 = .ok (.iinc 6 1, 3) := by decide +kernel
theorem dX12_latest_164 : decode cX12_latest 164 = .ok (.goto (-134), 3) := by decide +kernel
theorem dX12_latest_167 : decode cX12_latest 167 = .ok (.aload_n 0, 1) := by decide +kernel
theorem dX12_latest_168 : decode cX12_latest 168 = .ok (.getfield 73, 3) := by decide +kernel
theorem dX12_latest_171 : decode cX12_latest 171 = .ok (.bipush 50, 2) := by decide +kernel
theorem dX12_latest_173 : decode cX12_latest 173 = .ok (.iload 5, 2) := by decide +kernel
theorem dX12_latest_175 : decode cX12_latest 175 = .ok (.imul, 1) := by decide +kernel
theorem dX12_latest_176 : decode cX12_latest 176 = .ok (.iload_n 2, 1) := by decide +kernel
theorem dX12_latest_177 : decode cX12_latest 177 = .ok (.iadd, 1) := by decide +kernel
theorem dX12_latest_178 : decode cX12_latest 178 = .ok (.baload, 1) := by decide +kernel
theorem dX12_latest_179 : decode cX12_latest 179 = .ok (.ifCond .eq 6, 3) := by decide +kernel
theorem dX12_latest_182 : decode cX12_latest 182 = .ok (.iload 5, 2) := by decide +kernel
theorem dX12_latest_184 : decode cX12_latest 184 = .ok (.ireturn, 1) := by decide +kernel
theorem dX12_latest_185 : decode cX12_latest 185 = .ok (.iinc 5 (-1), 3) := by decide +kernel
theorem dX12_latest_188 : decode cX12_latest 188 = .ok (.goto (-166), 3) := by decide +kernel
theorem dX12_latest_191 : decode cX12_latest 191 = .ok (.iconst (-1), 1) := by decide +kernel
theorem dX12_latest_192 : decode cX12_latest 192 = .ok (.ireturn, 1) := by decide +kernel
theorem dX12_move_0 : decode cX12_move 0 = .ok (.iload_n 1, 1) := by decide +kernel
theorem dX12_move_1 : decode cX12_move 1 = .ok (.iconst 0, 1) := by decide +kernel
theorem dX12_move_2 : decode cX12_move 2 = .ok (.iconst 4, 1) := by decide +kernel
theorem dX12_move_3 : decode cX12_move 3 = .ok (.invokestatic 113, 3) := by decide +kernel
theorem dX12_move_6 : decode cX12_move 6 = .ok (.ifCond .ne 9, 3) := by decide +kernel
theorem dX12_move_9 : decode cX12_move 9 = .ok (.aload_n 0, 1) := by decide +kernel
theorem dX12_move_10 : decode cX12_move 10 = .ok (.iconst (-1), 1) := by decide +kernel
theorem dX12_move_11 : decode cX12_move 11 = .ok (.invokevirtual 117, 3) := by decide +kernel
theorem dX12_move_14 : decode cX12_move 14 = .ok (.ireturn, 1) := by decide +kernel
theorem dX12_move_15 : decode cX12_move 15 = .ok (.aload_n 0, 1) := by decide +kernel
theorem dX12_move_16 : decode cX12_move 16 = .ok (.getfield 20, 3) := by decide +kernel
theorem dX12_move_19 : decode cX12_move 19 = .ok (.sipush 187, 3) := by decide +kernel
theorem dX12_move_22 : decode cX12_move 22 = .ok (.iaload, 1) := by decide +kernel
theorem dX12_move_23 : decode cX12_move 23 = .ok (.istore_n 2, 1) := by decide +kernel
theorem dX12_move_24 : decode cX12_move 24 = .ok (.iload_n 2, 1) := by decide +kernel
theorem dX12_move_25 : decode cX12_move 25 = .ok (.bipush 40, 2) := by decide +kernel
theorem dX12_move_27 : decode cX12_move 27 = .ok (.if_icmp .ne 10, 3) := by decide +kernel
theorem dX12_move_30 : decode cX12_move 30 = .ok (.aload_n 0, 1) := by decide +kernel
theorem dX12_move_31 : decode cX12_move 31 = .ok (.bipush (-5), 2) := by decide +kernel
theorem dX12_move_33 : decode cX12_move 33 = .ok (.invokevirtual 117, 3) := by decide +kernel
theorem dX12_move_36 : decode cX12_move 36 = .ok (.ireturn, 1) := by decide +kernel
theorem dX12_move_37 : decode cX12_move 37 = .ok (.aload_n 0, 1) := by decide +kernel
theorem dX12_move_38 : decode cX12_move 38 = .ok (.getfield 20, 3) := by decide +kernel
theorem dX12_move_41 : decode cX12_move 41 = .ok (.bipush 121, 2) := by decide +kernel
theorem dX12_move_43 : decode cX12_move 43 = .ok (.iload_n 2, 1) := by decide +kernel
theorem dX12_move_44 : decode cX12_move 44 = .ok (.iadd, 1) := by decide +kernel
theorem dX12_move_45 : decode cX12_move 45 = .ok (.iload_n 1, 1) := by decide +kernel
theorem dX12_move_46 : decode cX12_move 46 = .ok (.iastore, 1) := by decide +kernel
theorem dX12_move_47 : decode cX12_move 47 = .ok (.aload_n 0, 1) := by decide +kernel
theorem dX12_move_48 : decode cX12_move 48 = .ok (.getfield 20, 3) := by decide +kernel
theorem dX12_move_51 : decode cX12_move 51 = .ok (.sipush 187, 3) := by decide +kernel
theorem dX12_move_54 : decode cX12_move 54 = .ok (.dup2, 1) := by decide +kernel
theorem dX12_move_55 : decode cX12_move 55 = .ok (.iaload, 1) := by decide +kernel
theorem dX12_move_56 : decode cX12_move 56 = .ok (.iconst 1, 1) := by decide +kernel
theorem dX12_move_57 : decode cX12_move 57 = .ok (.iadd, 1) := by decide +kernel
theorem dX12_move_58 : decode cX12_move 58 = .ok (.iastore, 1) := by decide +kernel
theorem dX12_move_59 : decode cX12_move 59 = .ok (.aload_n 0, 1) := by decide +kernel
theorem dX12_move_60 : decode cX12_move 60 = .ok (.iload_n 2, 1) := by decide +kernel
theorem dX12_move_61 : decode cX12_move 61 = .ok (.iconst 1, 1) := by decide +kernel
theorem dX12_move_62 : decode cX12_move 62 = .ok (.iadd, 1) := by decide +kernel
theorem dX12_move_63 : decode cX12_move 63 = .ok (.invokevirtual 121, 3) := by decide +kernel
theorem dX12_move_66 : decode cX12_move 66 = .ok (.ireturn, 1) := by decide +kernel
theorem dX12_tear_0 : decode cX12_tear 0 = .ok (.aload_n 0, 1) := by decide +kernel
theorem dX12_tear_1 : decode cX12_tear 1 = .ok (.getfield 20, 3) := by decide +kernel
theorem dX12_tear_4 : decode cX12_tear 4 = .ok (.sipush 187, 3) := by decide +kernel
theorem dX12_tear_7 : decode cX12_tear 7 = .ok (.iaload, 1) := by decide +kernel
theorem dX12_tear_8 : decode cX12_tear 8 = .ok (.istore_n 1, 1) := by decide +kernel
theorem dX12_tear_9 : decode cX12_tear 9 = .ok (.aload_n 0, 1) := by decide +kernel
theorem dX12_tear_10 : decode cX12_tear 10 = .ok (.getfield 20, 3) := by decide +kernel
theorem dX12_tear_13 : decode cX12_tear 13 = .ok (.sipush 187, 3) := by decide +kernel
theorem dX12_tear_16 : decode cX12_tear 16 = .ok (.iconst 0, 1) := by decide +kernel
theorem dX12_tear_17 : decode cX12_tear 17 = .ok (.iastore, 1) := by decide +kernel
theorem dX12_tear_18 : decode cX12_tear 18 = .ok (.aload_n 0, 1) := by decide +kernel
theorem dX12_tear_19 : decode cX12_tear 19 = .ok (.dup, 1) := by decide +kernel
theorem dX12_tear_20 : decode cX12_tear 20 = .ok (.getfield 11, 3) := by decide +kernel
theorem dX12_tear_23 : decode cX12_tear 23 = .ok (.iconst 1, 1) := by decide +kernel
theorem dX12_tear_24 : decode cX12_tear 24 = .ok (.iadd, 1) := by decide +kernel
theorem dX12_tear_25 : decode cX12_tear 25 = .ok (.putfield 11, 3) := by decide +kernel
theorem dX12_tear_28 : decode cX12_tear 28 = .ok (.iload_n 1, 1) := by decide +kernel
theorem dX12_tear_29 : decode cX12_tear 29 = .ok (.ireturn, 1) := by decide +kernel
theorem dX12_doneOf_0 : decode cX12_doneOf 0 = .ok (.aload_n 0, 1) := by decide +kernel
theorem dX12_doneOf_1 : decode cX12_doneOf 1 = .ok (.iload_n 1, 1) := by decide +kernel
theorem dX12_doneOf_2 : decode cX12_doneOf 2 = .ok (.iload_n 3, 1) := by decide +kernel
theorem dX12_doneOf_3 : decode cX12_doneOf 3 = .ok (.iload_n 2, 1) := by decide +kernel
theorem dX12_doneOf_4 : decode cX12_doneOf 4 = .ok (.iload 4, 2) := by decide +kernel
theorem dX12_doneOf_6 : decode cX12_doneOf 6 = .ok (.invokestatic 351, 3) := by decide +kernel
theorem dX12_doneOf_9 : decode cX12_doneOf 9 = .ok (.invokevirtual 354, 3) := by decide +kernel
theorem dX12_doneOf_12 : decode cX12_doneOf 12 = .ok (.ifCond .ne 5, 3) := by decide +kernel
theorem dX12_doneOf_15 : decode cX12_doneOf 15 = .ok (.iconst (-1), 1) := by decide +kernel
theorem dX12_doneOf_16 : decode cX12_doneOf 16 = .ok (.ireturn, 1) := by decide +kernel
theorem dX12_doneOf_17 : decode cX12_doneOf 17 = .ok (.iload_n 3, 1) := by decide +kernel
theorem dX12_doneOf_18 : decode cX12_doneOf 18 = .ok (.istore 5, 2) := by decide +kernel
theorem dX12_doneOf_20 : decode cX12_doneOf 20 = .ok (.iconst 0, 1) := by decide +kernel
theorem dX12_doneOf_21 : decode cX12_doneOf 21 = .ok (.istore 6, 2) := by decide +kernel
theorem dX12_doneOf_23 : decode cX12_doneOf 23 = .ok (.iload 6, 2) := by decide +kernel
theorem dX12_doneOf_25 : decode cX12_doneOf 25 = .ok (.aload_n 0, 1) := by decide +kernel
theorem dX12_doneOf_26 : decode cX12_doneOf 26 = .ok (.getfield 20, 3) := by decide +kernel
theorem dX12_doneOf_29 : decode cX12_doneOf 29 = .ok (.sipush 187, 3) := by decide +kernel
theorem dX12_doneOf_32 : decode cX12_doneOf 32 = .ok (.iaload, 1) := by decide +kernel
theorem dX12_doneOf_33 : decode cX12_doneOf 33 = .ok (.if_icmp .ge 43, 3) := by decide +kernel
theorem dX12_doneOf_36 : decode cX12_doneOf 36 = .ok (.aload_n 0, 1) := by decide +kernel
theorem dX12_doneOf_37 : decode cX12_doneOf 37 = .ok (.iload_n 1, 1) := by decide +kernel
theorem dX12_doneOf_38 : decode cX12_doneOf 38 = .ok (.iload 5, 2) := by decide +kernel
theorem dX12_doneOf_40 : decode cX12_doneOf 40 = .ok (.iload_n 2, 1) := by decide +kernel
theorem dX12_doneOf_41 : decode cX12_doneOf 41 = .ok (.iload 6, 2) := by decide +kernel
theorem dX12_doneOf_43 : decode cX12_doneOf 43 = .ok (.iadd, 1) := by decide +kernel
theorem dX12_doneOf_44 : decode cX12_doneOf 44 = .ok (.aload_n 0, 1) := by decide +kernel
theorem dX12_doneOf_45 : decode cX12_doneOf 45 = .ok (.getfield 20, 3) := by decide +kernel
theorem dX12_doneOf_48 : decode cX12_doneOf 48 = .ok (.bipush 121, 2) := by decide +kernel
theorem dX12_doneOf_50 : decode cX12_doneOf 50 = .ok (.iload 6, 2) := by decide +kernel
theorem dX12_doneOf_52 : decode cX12_doneOf 52 = .ok (.iadd, 1) := by decide +kernel
theorem dX12_doneOf_53 : decode cX12_doneOf 53 = .ok (.iaload, 1) := by decide +kernel
theorem dX12_doneOf_54 : decode cX12_doneOf 54 = .ok (.iload 4, 2) := by decide +kernel
theorem dX12_doneOf_56 : decode cX12_doneOf 56 = .ok (.invokevirtual 357, 3) := by decide +kernel
theorem dX12_doneOf_59 : decode cX12_doneOf 59 = .ok (.istore 5, 2) := by decide +kernel
theorem dX12_doneOf_61 : decode cX12_doneOf 61 = .ok (.iload 5, 2) := by decide +kernel
theorem dX12_doneOf_63 : decode cX12_doneOf 63 = .ok (.iconst (-1), 1) := by decide +kernel
theorem dX12_doneOf_64 : decode cX12_doneOf 64 = .ok (.if_icmp .ne 6, 3) := by decide +kernel
theorem dX12_doneOf_67 : decode cX12_doneOf 67 = .ok (.iload 6, 2) := by decide +kernel
theorem dX12_doneOf_69 : decode cX12_doneOf 69 = .ok (.ireturn, 1) := by decide +kernel
theorem dX12_doneOf_70 : decode cX12_doneOf 70 = .ok (.iinc 6 1, 3) := by decide +kernel
theorem dX12_doneOf_73 : decode cX12_doneOf 73 = .ok (.goto (-50), 3) := by decide +kernel
theorem dX12_doneOf_76 : decode cX12_doneOf 76 = .ok (.aload_n 0, 1) := by decide +kernel
theorem dX12_doneOf_77 : decode cX12_doneOf 77 = .ok (.getfield 20, 3) := by decide +kernel
theorem dX12_doneOf_80 : decode cX12_doneOf 80 = .ok (.sipush 187, 3) := by decide +kernel
theorem dX12_doneOf_83 : decode cX12_doneOf 83 = .ok (.iaload, 1) := by decide +kernel
theorem dX12_doneOf_84 : decode cX12_doneOf 84 = .ok (.ireturn, 1) := by decide +kernel
theorem dX12_done_0 : decode cX12_done 0 = .ok (.aload_n 0, 1) := by decide +kernel
theorem dX12_done_1 : decode cX12_done 1 = .ok (.iload_n 1, 1) := by decide +kernel
theorem dX12_done_2 : decode cX12_done 2 = .ok (.iload_n 2, 1) := by decide +kernel
theorem dX12_done_3 : decode cX12_done 3 = .ok (.iload_n 3, 1) := by decide +kernel
theorem dX12_done_4 : decode cX12_done 4 = .ok (.iload_n 3, 1) := by decide +kernel
theorem dX12_done_5 : decode cX12_done 5 = .ok (.invokevirtual 367, 3) := by decide +kernel
theorem dX12_done_8 : decode cX12_done 8 = .ok (.ifCond .eq 15, 3) := by decide +kernel
theorem dX12_done_11 : decode cX12_done 11 = .ok (.iload 4, 2) := by decide +kernel
theorem dX12_done_13 : decode cX12_done 13 = .ok (.bipush (-60), 2) := by decide +kernel
theorem dX12_done_15 : decode cX12_done 15 = .ok (.bipush 60, 2) := by decide +kernel
theorem dX12_done_17 : decode cX12_done 17 = .ok (.invokestatic 113, 3) := by decide +kernel
theorem dX12_done_20 : decode cX12_done 20 = .ok (.ifCond .ne 5, 3) := by decide +kernel
theorem dX12_done_23 : decode cX12_done 23 = .ok (.iconst (-1), 1) := by decide +kernel
theorem dX12_done_24 : decode cX12_done 24 = .ok (.ireturn, 1) := by decide +kernel
theorem dX12_done_25 : decode cX12_done 25 = .ok (.aload_n 0, 1) := by decide +kernel
theorem dX12_done_26 : decode cX12_done 26 = .ok (.invokevirtual 321, 3) := by decide +kernel
theorem dX12_done_29 : decode cX12_done 29 = .ok (.aload_n 0, 1) := by decide +kernel
theorem dX12_done_30 : decode cX12_done 30 = .ok (.iload_n 1, 1) := by decide +kernel
theorem dX12_done_31 : decode cX12_done 31 = .ok (.iload_n 2, 1) := by decide +kernel
theorem dX12_done_32 : decode cX12_done 32 = .ok (.iload_n 3, 1) := by decide +kernel
theorem dX12_done_33 : decode cX12_done 33 = .ok (.iload 4, 2) := by decide +kernel
theorem dX12_done_35 : decode cX12_done 35 = .ok (.invokevirtual 374, 3) := by decide +kernel
theorem dX12_done_38 : decode cX12_done 38 = .ok (.ireturn, 1) := by decide +kernel
theorem dX12_margin_0 : decode cX12_margin 0 = .ok (.aload_n 0, 1) := by decide +kernel
theorem dX12_margin_1 : decode cX12_margin 1 = .ok (.iload_n 1, 1) := by decide +kernel
theorem dX12_margin_2 : decode cX12_margin 2 = .ok (.iload_n 2, 1) := by decide +kernel
theorem dX12_margin_3 : decode cX12_margin 3 = .ok (.iload_n 3, 1) := by decide +kernel
theorem dX12_margin_4 : decode cX12_margin 4 = .ok (.iload_n 3, 1) := by decide +kernel
theorem dX12_margin_5 : decode cX12_margin 5 = .ok (.invokevirtual 367, 3) := by decide +kernel
theorem dX12_margin_8 : decode cX12_margin 8 = .ok (.ifCond .ne 5, 3) := by decide +kernel
theorem dX12_margin_11 : decode cX12_margin 11 = .ok (.iconst (-1), 1) := by decide +kernel
theorem dX12_margin_12 : decode cX12_margin 12 = .ok (.ireturn, 1) := by decide +kernel
theorem dX12_margin_13 : decode cX12_margin 13 = .ok (.aload_n 0, 1) := by decide +kernel
theorem dX12_margin_14 : decode cX12_margin 14 = .ok (.invokevirtual 321, 3) := by decide +kernel
theorem dX12_margin_17 : decode cX12_margin 17 = .ok (.iconst 0, 1) := by decide +kernel
theorem dX12_margin_18 : decode cX12_margin 18 = .ok (.istore 4, 2) := by decide +kernel
theorem dX12_margin_20 : decode cX12_margin 20 = .ok (.iload 4, 2) := by decide +kernel
theorem dX12_margin_22 : decode cX12_margin 22 = .ok (.bipush 60, 2) := by decide +kernel
theorem dX12_margin_24 : decode cX12_margin 24 = .ok (.if_icmp .gt 50, 3) := by decide +kernel
theorem dX12_margin_27 : decode cX12_margin 27 = .ok (.aload_n 0, 1) := by decide +kernel
theorem dX12_margin_28 : decode cX12_margin 28 = .ok (.iload_n 1, 1) := by decide +kernel
theorem dX12_margin_29 : decode cX12_margin 29 = .ok (.iload_n 2, 1) := by decide +kernel
theorem dX12_margin_30 : decode cX12_margin 30 = .ok (.iload_n 3, 1) := by decide +kernel
theorem dX12_margin_31 : decode cX12_margin 31 = .ok (.iload 4, 2) := by decide +kernel
theorem dX12_margin_33 : decode cX12_margin 33 = .ok (.invokevirtual 374, 3) := by decide +kernel
theorem dX12_margin_36 : decode cX12_margin 36 = .ok (.aload_n 0, 1) := by decide +kernel
theorem dX12_margin_37 : decode cX12_margin 37 = .ok (.getfield 20, 3) := by decide +kernel
theorem dX12_margin_40 : decode cX12_margin 40 = .ok (.sipush 187, 3) := by decide +kernel
theorem dX12_margin_43 : decode cX12_margin 43 = .ok (.iaload, 1) := by decide +kernel
theorem dX12_margin_44 : decode cX12_margin 44 = .ok (.if_icmp .ne 30, 3) := by decide +kernel
theorem dX12_margin_47 : decode cX12_margin 47 = .ok (.aload_n 0, 1) := by decide +kernel
theorem dX12_margin_48 : decode cX12_margin 48 = .ok (.iload_n 1, 1) := by decide +kernel
theorem dX12_margin_49 : decode cX12_margin 49 = .ok (.iload_n 2, 1) := by decide +kernel
theorem dX12_margin_50 : decode cX12_margin 50 = .ok (.iload_n 3, 1) := by decide +kernel
theorem dX12_margin_51 : decode cX12_margin 51 = .ok (.iload 4, 2) := by decide +kernel
theorem dX12_margin_53 : decode cX12_margin 53 = .ok (.ineg, 1) := by decide +kernel
theorem dX12_margin_54 : decode cX12_margin 54 = .ok (.invokevirtual 374, 3) := by decide +kernel
theorem dX12_margin_57 : decode cX12_margin 57 = .ok (.aload_n 0, 1) := by decide +kernel
theorem dX12_margin_58 : decode cX12_margin 58 = .ok (.getfield 20, 3) := by decide +kernel
theorem dX12_margin_61 : decode cX12_margin 61 = .ok (.sipush 187, 3) := by decide +kernel
theorem dX12_margin_64 : decode cX12_margin 64 = .ok (.iaload, 1) := by decide +kernel
theorem dX12_margin_65 : decode cX12_margin 65 = .ok (.if_icmp .ne 9, 3) := by decide +kernel
theorem dX12_margin_68 : decode cX12_margin 68 = .ok (.iinc 4 1, 3) := by decide +kernel
theorem dX12_margin_71 : decode cX12_margin 71 = .ok (.goto (-51), 3) := by decide +kernel
theorem dX12_margin_74 : decode cX12_margin 74 = .ok (.iload 4, 2) := by decide +kernel
theorem dX12_margin_76 : decode cX12_margin 76 = .ok (.iconst 1, 1) := by decide +kernel
theorem dX12_margin_77 : decode cX12_margin 77 = .ok (.isub, 1) := by decide +kernel
theorem dX12_margin_78 : decode cX12_margin 78 = .ok (.ireturn, 1) := by decide +kernel
theorem dX12_ship_0 : decode cX12_ship 0 = .ok (.iload_n 1, 1) := by decide +kernel
theorem dX12_ship_1 : decode cX12_ship 1 = .ok (.invokestatic 280, 3) := by decide +kernel
theorem dX12_ship_4 : decode cX12_ship 4 = .ok (.ifCond .eq 24, 3) := by decide +kernel
theorem dX12_ship_7 : decode cX12_ship 7 = .ok (.iload_n 2, 1) := by decide +kernel
theorem dX12_ship_8 : decode cX12_ship 8 = .ok (.iconst 1, 1) := by decide +kernel
theorem dX12_ship_9 : decode cX12_ship 9 = .ok (.bipush 120, 2) := by decide +kernel
theorem dX12_ship_11 : decode cX12_ship 11 = .ok (.invokestatic 113, 3) := by decide +kernel
theorem dX12_ship_14 : decode cX12_ship 14 = .ok (.ifCond .eq 14, 3) := by decide +kernel
theorem dX12_ship_17 : decode cX12_ship 17 = .ok (.iload_n 3, 1) := by decide +kernel
theorem dX12_ship_18 : decode cX12_ship 18 = .ok (.iconst 0, 1) := by decide +kernel
theorem dX12_ship_19 : decode cX12_ship 19 = .ok (.sipush 2000, 3) := by decide +kernel
theorem dX12_ship_22 : decode cX12_ship 22 = .ok (.invokestatic 113, 3) := by decide +kernel
theorem dX12_ship_25 : decode cX12_ship 25 = .ok (.ifCond .ne 9, 3) := by decide +kernel
theorem dX12_ship_28 : decode cX12_ship 28 = .ok (.aload_n 0, 1) := by decide +kernel
theorem dX12_ship_29 : decode cX12_ship 29 = .ok (.iconst (-1), 1) := by decide +kernel
theorem dX12_ship_30 : decode cX12_ship 30 = .ok (.invokevirtual 117, 3) := by decide +kernel
theorem dX12_ship_33 : decode cX12_ship 33 = .ok (.ireturn, 1) := by decide +kernel
theorem dX12_ship_34 : decode cX12_ship 34 = .ok (.aload_n 0, 1) := by decide +kernel
theorem dX12_ship_35 : decode cX12_ship 35 = .ok (.getfield 20, 3) := by decide +kernel
theorem dX12_ship_38 : decode cX12_ship 38 = .ok (.sipush 186, 3) := by decide +kernel
theorem dX12_ship_41 : decode cX12_ship 41 = .ok (.iaload, 1) := by decide +kernel
theorem dX12_ship_42 : decode cX12_ship 42 = .ok (.istore 4, 2) := by decide +kernel
theorem dX12_ship_44 : decode cX12_ship 44 = .ok (.iload 4, 2) := by decide +kernel
theorem dX12_ship_46 : decode cX12_ship 46 = .ok (.bipush 6, 2) := by decide +kernel
theorem dX12_ship_48 : decode cX12_ship 48 = .ok (.if_icmp .ne 10, 3) := by decide +kernel
theorem dX12_ship_51 : decode cX12_ship 51 = .ok (.aload_n 0, 1) := by decide +kernel
theorem dX12_ship_52 : decode cX12_ship 52 = .ok (.bipush (-5), 2) := by decide +kernel
theorem dX12_ship_54 : decode cX12_ship 54 = .ok (.invokevirtual 117, 3) := by decide +kernel
theorem dX12_ship_57 : decode cX12_ship 57 = .ok (.ireturn, 1) := by decide +kernel
theorem dX12_ship_58 : decode cX12_ship 58 = .ok (.aload_n 0, 1) := by decide +kernel
theorem dX12_ship_59 : decode cX12_ship 59 = .ok (.getfield 20, 3) := by decide +kernel
theorem dX12_ship_62 : decode cX12_ship 62 = .ok (.bipush 103, 2) := by decide +kernel
theorem dX12_ship_64 : decode cX12_ship 64 = .ok (.iconst 3, 1) := by decide +kernel
theorem dX12_ship_65 : decode cX12_ship 65 = .ok (.iload 4, 2) := by decide +kernel
theorem dX12_ship_67 : decode cX12_ship 67 = .ok (.imul, 1) := by decide +kernel
theorem dX12_ship_68 : decode cX12_ship 68 = .ok (.iadd, 1) := by decide +kernel
theorem dX12_ship_69 : decode cX12_ship 69 = .ok (.iload_n 1, 1) := by decide +kernel
theorem dX12_ship_70 : decode cX12_ship 70 = .ok (.iastore, 1) := by decide +kernel
theorem dX12_ship_71 : decode cX12_ship 71 = .ok (.aload_n 0, 1) := by decide +kernel
theorem dX12_ship_72 : decode cX12_ship 72 = .ok (.getfield 20, 3) := by decide +kernel
theorem dX12_ship_75 : decode cX12_ship 75 = .ok (.bipush 103, 2) := by decide +kernel
theorem dX12_ship_77 : decode cX12_ship 77 = .ok (.iconst 3, 1) := by decide +kernel
theorem dX12_ship_78 : decode cX12_ship 78 = .ok (.iload 4, 2) := by decide +kernel
theorem dX12_ship_80 : decode cX12_ship 80 = .ok (.imul, 1) := by decide +kernel
theorem dX12_ship_81 : decode cX12_ship 81 = .ok (.iadd, 1) := by decide +kernel
theorem dX12_ship_82 : decode cX12_ship 82 = .ok (.iconst 1, 1) := by decide +kernel
theorem dX12_ship_83 : decode cX12_ship 83 = .ok (.iadd, 1) := by decide +kernel
theorem dX12_ship_84 : decode cX12_ship 84 = .ok (.iload_n 2, 1) := by decide +kernel
theorem dX12_ship_85 : decode cX12_ship 85 = .ok (.iastore, 1) := by decide +kernel
theorem dX12_ship_86 : decode cX12_ship 86 = .ok (.aload_n 0, 1) := by decide +kernel
theorem dX12_ship_87 : decode cX12_ship 87 = .ok (.getfield 20, 3) := by decide +kernel
theorem dX12_ship_90 : decode cX12_ship 90 = .ok (.bipush 103, 2) := by decide +kernel
theorem dX12_ship_92 : decode cX12_ship 92 = .ok (.iconst 3, 1) := by decide +kernel
theorem dX12_ship_93 : decode cX12_ship 93 = .ok (.iload 4, 2) := by decide +kernel
theorem dX12_ship_95 : decode cX12_ship 95 = .ok (.imul, 1) := by decide +kernel
theorem dX12_ship_96 : decode cX12_ship 96 = .ok (.iadd, 1) := by decide +kernel
theorem dX12_ship_97 : decode cX12_ship 97 = .ok (.iconst 2, 1) := by decide +kernel
theorem dX12_ship_98 : decode cX12_ship 98 = .ok (.iadd, 1) := by decide +kernel
theorem dX12_ship_99 : decode cX12_ship 99 = .ok (.iload_n 3, 1) := by decide +kernel
theorem dX12_ship_100 : decode cX12_ship 100 = .ok (.iastore, 1) := by decide +kernel
theorem dX12_ship_101 : decode cX12_ship 101 = .ok (.aload_n 0, 1) := by decide +kernel
theorem dX12_ship_102 : decode cX12_ship 102 = .ok (.getfield 20, 3) := by decide +kernel
theorem dX12_ship_105 : decode cX12_ship 105 = .ok (.sipush 186, 3) := by decide +kernel
theorem dX12_ship_108 : decode cX12_ship 108 = .ok (.dup2, 1) := by decide +kernel
theorem dX12_ship_109 : decode cX12_ship 109 = .ok (.iaload, 1) := by decide +kernel
theorem dX12_ship_110 : decode cX12_ship 110 = .ok (.iconst 1, 1) := by decide +kernel
theorem dX12_ship_111 : decode cX12_ship 111 = .ok (.iadd, 1) := by decide +kernel
theorem dX12_ship_112 : decode cX12_ship 112 = .ok (.iastore, 1) := by decide +kernel
theorem dX12_ship_113 : decode cX12_ship 113 = .ok (.aload_n 0, 1) := by decide +kernel
theorem dX12_ship_114 : decode cX12_ship 114 = .ok (.iload 4, 2) := by decide +kernel
theorem dX12_ship_116 : decode cX12_ship 116 = .ok (.invokevirtual 121, 3) := by decide +kernel
theorem dX12_ship_119 : decode cX12_ship 119 = .ok (.ireturn, 1) := by decide +kernel
theorem dX12_beginsAt_0 : decode cX12_beginsAt 0 = .ok (.iconst 0, 1) := by decide +kernel
theorem dX12_beginsAt_1 : decode cX12_beginsAt 1 = .ok (.istore_n 3, 1) := by decide +kernel
theorem dX12_beginsAt_2 : decode cX12_beginsAt 2 = .ok (.iload_n 2, 1) := by decide +kernel
theorem dX12_beginsAt_3 : decode cX12_beginsAt 3 = .ok (.istore 4, 2) := by decide +kernel
theorem dX12_beginsAt_5 : decode cX12_beginsAt 5 = .ok (.iload 4, 2) := by decide +kernel
theorem dX12_beginsAt_7 : decode cX12_beginsAt 7 = .ok (.sipush 1440, 3) := by decide +kernel
theorem dX12_beginsAt_10 : decode cX12_beginsAt 10 = .ok (.if_icmp .ge 67, 3) := by decide +kernel
theorem dX12_beginsAt_13 : decode cX12_beginsAt 13 = .ok (.aload_n 0, 1) := by decide +kernel
theorem dX12_beginsAt_14 : decode cX12_beginsAt 14 = .ok (.getfield 58, 3) := by decide +kernel
theorem dX12_beginsAt_17 : decode cX12_beginsAt 17 = .ok (.iload 4, 2) := by decide +kernel
theorem dX12_beginsAt_19 : decode cX12_beginsAt 19 = .ok (.iaload, 1) := by decide +kernel
theorem dX12_beginsAt_20 : decode cX12_beginsAt 20 = .ok (.invokestatic 304, 3) := by decide +kernel
theorem dX12_beginsAt_23 : decode cX12_beginsAt 23 = .ok (.aload_n 0, 1) := by decide +kernel
theorem dX12_beginsAt_24 : decode cX12_beginsAt 24 = .ok (.getfield 20, 3) := by decide +kernel
theorem dX12_beginsAt_27 : decode cX12_beginsAt 27 = .ok (.bipush 103, 2) := by decide +kernel
theorem dX12_beginsAt_29 : decode cX12_beginsAt 29 = .ok (.iconst 3, 1) := by decide +kernel
theorem dX12_beginsAt_30 : decode cX12_beginsAt 30 = .ok (.iload_n 1, 1) := by decide +kernel
theorem dX12_beginsAt_31 : decode cX12_beginsAt 31 = .ok (.imul, 1) := by decide +kernel
theorem dX12_beginsAt_32 : decode cX12_beginsAt 32 = .ok (.iadd, 1) := by decide +kernel
theorem dX12_beginsAt_33 : decode cX12_beginsAt 33 = .ok (.iconst 2, 1) := by decide +kernel
theorem dX12_beginsAt_34 : decode cX12_beginsAt 34 = .ok (.iadd, 1) := by decide +kernel
theorem dX12_beginsAt_35 : decode cX12_beginsAt 35 = .ok (.iaload, 1) := by decide +kernel
theorem dX12_beginsAt_36 : decode cX12_beginsAt 36 = .ok (.if_icmp .gt 9, 3) := by decide +kernel
theorem dX12_beginsAt_39 : decode cX12_beginsAt 39 = .ok (.iload_n 3, 1) := by decide +kernel
theorem dX12_beginsAt_40 : decode cX12_beginsAt 40 = .ok (.iconst 1, 1) := by decide +kernel
theorem dX12_beginsAt_41 : decode cX12_beginsAt 41 = .ok (.iadd, 1) := by decide +kernel
theorem dX12_beginsAt_42 : decode cX12_beginsAt 42 = .ok (.goto 4, 3) := by decide +kernel
theorem dX12_beginsAt_45 : decode cX12_beginsAt 45 = .ok (.iconst 0, 1) := by decide +kernel
theorem dX12_beginsAt_46 : decode cX12_beginsAt 46 = .ok (.istore_n 3, 1) := by decide +kernel
theorem dX12_beginsAt_47 : decode cX12_beginsAt 47 = .ok (.iload_n 3, 1) := by decide +kernel
theorem dX12_beginsAt_48 : decode cX12_beginsAt 48 = .ok (.aload_n 0, 1) := by decide +kernel
theorem dX12_beginsAt_49 : decode cX12_beginsAt 49 = .ok (.getfield 20, 3) := by decide +kernel
theorem dX12_beginsAt_52 : decode cX12_beginsAt 52 = .ok (.bipush 103, 2) := by decide +kernel
theorem dX12_beginsAt_54 : decode cX12_beginsAt 54 = .ok (.iconst 3, 1) := by decide +kernel
theorem dX12_beginsAt_55 : decode cX12_beginsAt 55 = .ok (.iload_n 1, 1) := by decide +kernel
theorem dX12_beginsAt_56 : decode cX12_beginsAt 56 = .ok (.imul, 1) := by decide +kernel
theorem dX12_beginsAt_57 : decode cX12_beginsAt 57 = .ok (.iadd, 1) := by decide +kernel
theorem dX12_beginsAt_58 : decode cX12_beginsAt 58 = .ok (.iconst 1, 1) := by decide +kernel
theorem dX12_beginsAt_59 : decode cX12_beginsAt 59 = .ok (.iadd, 1) := by decide +kernel
theorem dX12_beginsAt_60 : decode cX12_beginsAt 60 = .ok (.iaload, 1) := by decide +kernel
theorem dX12_beginsAt_61 : decode cX12_beginsAt 61 = .ok (.if_icmp .ne 10, 3) := by decide +kernel
theorem dX12_beginsAt_64 : decode cX12_beginsAt 64 = .ok (.iload 4, 2) := by decide +kernel
theorem dX12_beginsAt_66 : decode cX12_beginsAt 66 = .ok (.iconst 1, 1) := by decide +kernel
theorem dX12_beginsAt_67 : decode cX12_beginsAt 67 = .ok (.iadd, 1) := by decide +kernel
theorem dX12_beginsAt_68 : decode cX12_beginsAt 68 = .ok (.iload_n 3, 1) := by decide +kernel
theorem dX12_beginsAt_69 : decode cX12_beginsAt 69 = .ok (.isub, 1) := by decide +kernel
theorem dX12_beginsAt_70 : decode cX12_beginsAt 70 = .ok (.ireturn, 1) := by decide +kernel
theorem dX12_beginsAt_71 : decode cX12_beginsAt 71 = .ok (.iinc 4 1, 3) := by decide +kernel
theorem dX12_beginsAt_74 : decode cX12_beginsAt 74 = .ok (.goto (-69), 3) := by decide +kernel
theorem dX12_beginsAt_77 : decode cX12_beginsAt 77 = .ok (.iconst (-1), 1) := by decide +kernel
theorem dX12_beginsAt_78 : decode cX12_beginsAt 78 = .ok (.ireturn, 1) := by decide +kernel
theorem dX12_orders_0 : decode cX12_orders 0 = .ok (.aload_n 0, 1) := by decide +kernel
theorem dX12_orders_1 : decode cX12_orders 1 = .ok (.getfield 20, 3) := by decide +kernel
theorem dX12_orders_4 : decode cX12_orders 4 = .ok (.sipush 186, 3) := by decide +kernel
theorem dX12_orders_7 : decode cX12_orders 7 = .ok (.iaload, 1) := by decide +kernel
theorem dX12_orders_8 : decode cX12_orders 8 = .ok (.istore 5, 2) := by decide +kernel
theorem dX12_orders_10 : decode cX12_orders 10 = .ok (.iload_n 1, 1) := by decide +kernel
theorem dX12_orders_11 : decode cX12_orders 11 = .ok (.iload 5, 2) := by decide +kernel
theorem dX12_orders_13 : decode cX12_orders 13 = .ok (.if_icmp .ne 82, 3) := by decide +kernel
theorem dX12_orders_16 : decode cX12_orders 16 = .ok (.aload_n 0, 1) := by decide +kernel
theorem dX12_orders_17 : decode cX12_orders 17 = .ok (.getfield 377, 3) := by decide +kernel
theorem dX12_orders_20 : decode cX12_orders 20 = .ok (.iconst (-1), 1) := by decide +kernel
theorem dX12_orders_21 : decode cX12_orders 21 = .ok (.if_icmp .eq 13, 3) := by decide +kernel
theorem dX12_orders_24 : decode cX12_orders 24 = .ok (.iload 4, 2) := by decide +kernel
theorem dX12_orders_26 : decode cX12_orders 26 = .ok (.aload_n 0, 1) := by decide +kernel
theorem dX12_orders_27 : decode cX12_orders 27 = .ok (.getfield 377, 3) := by decide +kernel
theorem dX12_orders_30 : decode cX12_orders 30 = .ok (.if_icmp .lt 4, 3) := by decide +kernel
theorem dX12_orders_33 : decode cX12_orders 33 = .ok (.return_, 1) := by decide +kernel
theorem dX12_orders_34 : decode cX12_orders 34 = .ok (.aload_n 0, 1) := by decide +kernel
theorem dX12_orders_35 : decode cX12_orders 35 = .ok (.iload 4, 2) := by decide +kernel
theorem dX12_orders_37 : decode cX12_orders 37 = .ok (.putfield 377, 3) := by decide +kernel
theorem dX12_orders_40 : decode cX12_orders 40 = .ok (.iconst 0, 1) := by decide +kernel
theorem dX12_orders_41 : decode cX12_orders 41 = .ok (.istore 6, 2) := by decide +kernel
theorem dX12_orders_43 : decode cX12_orders 43 = .ok (.iload 6, 2) := by decide +kernel
theorem dX12_orders_45 : decode cX12_orders 45 = .ok (.iload 5, 2) := by decide +kernel
theorem dX12_orders_47 : decode cX12_orders 47 = .ok (.if_icmp .ge 47, 3) := by decide +kernel
theorem dX12_orders_50 : decode cX12_orders 50 = .ok (.aload_n 0, 1) := by decide +kernel
theorem dX12_orders_51 : decode cX12_orders 51 = .ok (.getfield 85, 3) := by decide +kernel
theorem dX12_orders_54 : decode cX12_orders 54 = .ok (.iload 6, 2) := by decide +kernel
theorem dX12_orders_56 : decode cX12_orders 56 = .ok (.aload_n 0, 1) := by decide +kernel
theorem dX12_orders_57 : decode cX12_orders 57 = .ok (.getfield 82, 3) := by decide +kernel
theorem dX12_orders_60 : decode cX12_orders 60 = .ok (.iload 6, 2) := by decide +kernel
theorem dX12_orders_62 : decode cX12_orders 62 = .ok (.iaload, 1) := by decide +kernel
theorem dX12_orders_63 : decode cX12_orders 63 = .ok (.iastore, 1) := by decide +kernel
theorem dX12_orders_64 : decode cX12_orders 64 = .ok (.aload_n 0, 1) := by decide +kernel
theorem dX12_orders_65 : decode cX12_orders 65 = .ok (.getfield 91, 3) := by decide +kernel
theorem dX12_orders_68 : decode cX12_orders 68 = .ok (.aload_n 0, 1) := by decide +kernel
theorem dX12_orders_69 : decode cX12_orders 69 = .ok (.getfield 82, 3) := by decide +kernel
theorem dX12_orders_72 : decode cX12_orders 72 = .ok (.iload 6, 2) := by decide +kernel
theorem dX12_orders_74 : decode cX12_orders 74 = .ok (.iaload, 1) := by decide +kernel
theorem dX12_orders_75 : decode cX12_orders 75 = .ok (.aload_n 0, 1) := by decide +kernel
theorem dX12_orders_76 : decode cX12_orders 76 = .ok (.getfield 88, 3) := by decide +kernel
theorem dX12_orders_79 : decode cX12_orders 79 = .ok (.aload_n 0, 1) := by decide +kernel
theorem dX12_orders_80 : decode cX12_orders 80 = .ok (.getfield 82, 3) := by decide +kernel
theorem dX12_orders_83 : decode cX12_orders 83 = .ok (.iload 6, 2) := by decide +kernel
theorem dX12_orders_85 : decode cX12_orders 85 = .ok (.iaload, 1) := by decide +kernel
theorem dX12_orders_86 : decode cX12_orders 86 = .ok (.iaload, 1) := by decide +kernel
theorem dX12_orders_87 : decode cX12_orders 87 = .ok (.iastore, 1) := by decide +kernel
theorem dX12_orders_88 : decode cX12_orders 88 = .ok (.iinc 6 1, 3) := by decide +kernel
theorem dX12_orders_91 : decode cX12_orders 91 = .ok (.goto (-48), 3) := by decide +kernel
theorem dX12_orders_94 : decode cX12_orders 94 = .ok (.return_, 1) := by decide +kernel
theorem dX12_orders_95 : decode cX12_orders 95 = .ok (.iconst 0, 1) := by decide +kernel
theorem dX12_orders_96 : decode cX12_orders 96 = .ok (.istore 6, 2) := by decide +kernel
theorem dX12_orders_98 : decode cX12_orders 98 = .ok (.iload 6, 2) := by decide +kernel
theorem dX12_orders_100 : decode cX12_orders 100 = .ok (.iload 5, 2) := by decide +kernel
theorem dX12_orders_102 : decode cX12_orders 102 = .ok (.if_icmp .ge 120, 3) := by decide +kernel
theorem dX12_orders_105 : decode cX12_orders 105 = .ok (.iload_n 2, 1) := by decide +kernel
theorem dX12_orders_106 : decode cX12_orders 106 = .ok (.iload 6, 2) := by decide +kernel
theorem dX12_orders_108 : decode cX12_orders 108 = .ok (.ishr, 1) := by decide +kernel
theorem dX12_orders_109 : decode cX12_orders 109 = .ok (.iconst 1, 1) := by decide +kernel
theorem dX12_orders_110 : decode cX12_orders 110 = .ok (.iand, 1) := by decide +kernel
theorem dX12_orders_111 : decode cX12_orders 111 = .ok (.iconst 1, 1) := by decide +kernel
theorem dX12_orders_112 : decode cX12_orders 112 = .ok (.if_icmp .ne 6, 3) := by decide +kernel
theorem dX12_orders_115 : decode cX12_orders 115 = .ok (.goto 101, 3) := by decide +kernel
theorem dX12_orders_118 : decode cX12_orders 118 = .ok (.aload_n 0, 1) := by decide +kernel
theorem dX12_orders_119 : decode cX12_orders 119 = .ok (.getfield 20, 3) := by decide +kernel
theorem dX12_orders_122 : decode cX12_orders 122 = .ok (.bipush 103, 2) := by decide +kernel
theorem dX12_orders_124 : decode cX12_orders 124 = .ok (.iconst 3, 1) := by decide +kernel
theorem dX12_orders_125 : decode cX12_orders 125 = .ok (.iload 6, 2) := by decide +kernel
theorem dX12_orders_127 : decode cX12_orders 127 = .ok (.imul, 1) := by decide +kernel
theorem dX12_orders_128 : decode cX12_orders 128 = .ok (.iadd, 1) := by decide +kernel
theorem dX12_orders_129 : decode cX12_orders 129 = .ok (.iaload, 1) := by decide +kernel
theorem dX12_orders_130 : decode cX12_orders 130 = .ok (.istore 7, 2) := by decide +kernel
theorem dX12_orders_132 : decode cX12_orders 132 = .ok (.aload_n 0, 1) := by decide +kernel
theorem dX12_orders_133 : decode cX12_orders 133 = .ok (.iload 6, 2) := by decide +kernel
theorem dX12_orders_135 : decode cX12_orders 135 = .ok (.iload 7, 2) := by decide +kernel
theorem dX12_orders_137 : decode cX12_orders 137 = .ok (.iload_n 3, 1) := by decide +kernel
theorem dX12_orders_138 : decode cX12_orders 138 = .ok (.if_icmp .le 8, 3) := by decide +kernel
theorem dX12_orders_141 : decode cX12_orders 141 = .ok (.iload 7, 2) := by decide +kernel
theorem dX12_orders_143 : decode cX12_orders 143 = .ok (.goto 4, 3) := by decide +kernel
theorem dX12_orders_146 : decode cX12_orders 146 = .ok (.iload_n 3, 1) := by decide +kernel
theorem dX12_orders_147 : decode cX12_orders 147 = .ok (.invokevirtual 380, 3) := by decide +kernel
theorem dX12_orders_150 : decode cX12_orders 150 = .ok (.istore 8, 2) := by decide +kernel
theorem dX12_orders_152 : decode cX12_orders 152 = .ok (.iload 8, 2) := by decide +kernel
theorem dX12_orders_154 : decode cX12_orders 154 = .ok (.iconst (-1), 1) := by decide +kernel
theorem dX12_orders_155 : decode cX12_orders 155 = .ok (.if_icmp .ne 6, 3) := by decide +kernel
theorem dX12_orders_158 : decode cX12_orders 158 = .ok (.goto 58, 3) := by decide +kernel
theorem dX12_orders_161 : decode cX12_orders 161 = .ok (.aload_n 0, 1) := by decide +kernel
theorem dX12_orders_162 : decode cX12_orders 162 = .ok (.getfield 82, 3) := by decide +kernel
theorem dX12_orders_165 : decode cX12_orders 165 = .ok (.iload_n 1, 1) := by decide +kernel
theorem dX12_orders_166 : decode cX12_orders 166 = .ok (.iload 6, 2) := by decide +kernel
theorem dX12_orders_168 : decode cX12_orders 168 = .ok (.iastore, 1) := by decide +kernel
theorem dX12_orders_169 : decode cX12_orders 169 = .ok (.aload_n 0, 1) := by decide +kernel
theorem dX12_orders_170 : decode cX12_orders 170 = .ok (.getfield 88, 3) := by decide +kernel
theorem dX12_orders_173 : decode cX12_orders 173 = .ok (.iload 6, 2) := by decide +kernel
theorem dX12_orders_175 : decode cX12_orders 175 = .ok (.iload 8, 2) := by decide +kernel
theorem dX12_orders_177 : decode cX12_orders 177 = .ok (.iastore, 1) := by decide +kernel
theorem dX12_orders_178 : decode cX12_orders 178 = .ok (.aload_n 0, 1) := by decide +kernel
theorem dX12_orders_179 : decode cX12_orders 179 = .ok (.iload_n 1, 1) := by decide +kernel
theorem dX12_orders_180 : decode cX12_orders 180 = .ok (.iconst 1, 1) := by decide +kernel
theorem dX12_orders_181 : decode cX12_orders 181 = .ok (.iadd, 1) := by decide +kernel
theorem dX12_orders_182 : decode cX12_orders 182 = .ok (.iload_n 2, 1) := by decide +kernel
theorem dX12_orders_183 : decode cX12_orders 183 = .ok (.iconst 1, 1) := by decide +kernel
theorem dX12_orders_184 : decode cX12_orders 184 = .ok (.iload 6, 2) := by decide +kernel
theorem dX12_orders_186 : decode cX12_orders 186 = .ok (.ishl, 1) := by decide +kernel
theorem dX12_orders_187 : decode cX12_orders 187 = .ok (.ior, 1) := by decide +kernel
theorem dX12_orders_188 : decode cX12_orders 188 = .ok (.iload 8, 2) := by decide +kernel
theorem dX12_orders_190 : decode cX12_orders 190 = .ok (.aload_n 0, 1) := by decide +kernel
theorem dX12_orders_191 : decode cX12_orders 191 = .ok (.getfield 20, 3) := by decide +kernel
theorem dX12_orders_194 : decode cX12_orders 194 = .ok (.bipush 103, 2) := by decide +kernel
theorem dX12_orders_196 : decode cX12_orders 196 = .ok (.iconst 3, 1) := by decide +kernel
theorem dX12_orders_197 : decode cX12_orders 197 = .ok (.iload 6, 2) := by decide +kernel
theorem dX12_orders_199 : decode cX12_orders 199 = .ok (.imul, 1) := by decide +kernel
theorem dX12_orders_200 : decode cX12_orders 200 = .ok (.iadd, 1) := by decide +kernel
theorem dX12_orders_201 : decode cX12_orders 201 = .ok (.iconst 1, 1) := by decide +kernel
theorem dX12_orders_202 : decode cX12_orders 202 = .ok (.iadd, 1) := by decide +kernel
theorem dX12_orders_203 : decode cX12_orders 203 = .ok (.iaload, 1) := by decide +kernel
theorem dX12_orders_204 : decode cX12_orders 204 = .ok (.iadd, 1) := by decide +kernel
theorem dX12_orders_205 : decode cX12_orders 205 = .ok (.iload 4, 2) := by decide +kernel
theorem dX12_orders_207 : decode cX12_orders 207 = .ok (.iload 8, 2) := by decide +kernel
theorem dX12_orders_209 : decode cX12_orders 209 = .ok (.iadd, 1) := by decide +kernel
theorem dX12_orders_210 : decode cX12_orders 210 = .ok (.iload 7, 2) := by decide +kernel
theorem dX12_orders_212 : decode cX12_orders 212 = .ok (.isub, 1) := by decide +kernel
theorem dX12_orders_213 : decode cX12_orders 213 = .ok (.invokevirtual 383, 3) := by decide +kernel
theorem dX12_orders_216 : decode cX12_orders 216 = .ok (.iinc 6 1, 3) := by decide +kernel
theorem dX12_orders_219 : decode cX12_orders 219 = .ok (.goto (-121), 3) := by decide +kernel
theorem dX12_orders_222 : decode cX12_orders 222 = .ok (.return_, 1) := by decide +kernel
theorem dX12_laysOrders_0 : decode cX12_laysOrders 0 = .ok (.aload_n 0, 1) := by decide +kernel
theorem dX12_laysOrders_1 : decode cX12_laysOrders 1 = .ok (.invokevirtual 321, 3) := by decide +kernel
theorem dX12_laysOrders_4 : decode cX12_laysOrders 4 = .ok (.aload_n 0, 1) := by decide +kernel
theorem dX12_laysOrders_5 : decode cX12_laysOrders 5 = .ok (.iconst (-1), 1) := by decide +kernel
theorem dX12_laysOrders_6 : decode cX12_laysOrders 6 = .ok (.putfield 377, 3) := by decide +kernel
theorem dX12_laysOrders_9 : decode cX12_laysOrders 9 = .ok (.aload_n 0, 1) := by decide +kernel
theorem dX12_laysOrders_10 : decode cX12_laysOrders 10 = .ok (.iconst 0, 1) := by decide +kernel
theorem dX12_laysOrders_11 : decode cX12_laysOrders 11 = .ok (.iconst 0, 1) := by decide +kernel
theorem dX12_laysOrders_12 : decode cX12_laysOrders 12 = .ok (.iconst 0, 1) := by decide +kernel
theorem dX12_laysOrders_13 : decode cX12_laysOrders 13 = .ok (.iconst 0, 1) := by decide +kernel
theorem dX12_laysOrders_14 : decode cX12_laysOrders 14 = .ok (.invokevirtual 383, 3) := by decide +kernel
theorem dX12_laysOrders_17 : decode cX12_laysOrders 17 = .ok (.return_, 1) := by decide +kernel
theorem dX12_order_0 : decode cX12_order 0 = .ok (.iload_n 1, 1) := by decide +kernel
theorem dX12_order_1 : decode cX12_order 1 = .ok (.iconst (-1), 1) := by decide +kernel
theorem dX12_order_2 : decode cX12_order 2 = .ok (.aload_n 0, 1) := by decide +kernel
theorem dX12_order_3 : decode cX12_order 3 = .ok (.getfield 20, 3) := by decide +kernel
theorem dX12_order_6 : decode cX12_order 6 = .ok (.sipush 186, 3) := by decide +kernel
theorem dX12_order_9 : decode cX12_order 9 = .ok (.iaload, 1) := by decide +kernel
theorem dX12_order_10 : decode cX12_order 10 = .ok (.iconst 1, 1) := by decide +kernel
theorem dX12_order_11 : decode cX12_order 11 = .ok (.isub, 1) := by decide +kernel
theorem dX12_order_12 : decode cX12_order 12 = .ok (.invokestatic 113, 3) := by decide +kernel
theorem dX12_order_15 : decode cX12_order 15 = .ok (.ifCond .ne 5, 3) := by decide +kernel
theorem dX12_order_18 : decode cX12_order 18 = .ok (.iconst (-1), 1) := by decide +kernel
theorem dX12_order_19 : decode cX12_order 19 = .ok (.ireturn, 1) := by decide +kernel
theorem dX12_order_20 : decode cX12_order 20 = .ok (.aload_n 0, 1) := by decide +kernel
theorem dX12_order_21 : decode cX12_order 21 = .ok (.invokevirtual 387, 3) := by decide +kernel
theorem dX12_order_24 : decode cX12_order 24 = .ok (.iload_n 1, 1) := by decide +kernel
theorem dX12_order_25 : decode cX12_order 25 = .ok (.iconst (-1), 1) := by decide +kernel
theorem dX12_order_26 : decode cX12_order 26 = .ok (.if_icmp .eq 11, 3) := by decide +kernel
theorem dX12_order_29 : decode cX12_order 29 = .ok (.aload_n 0, 1) := by decide +kernel
theorem dX12_order_30 : decode cX12_order 30 = .ok (.getfield 377, 3) := by decide +kernel
theorem dX12_order_33 : decode cX12_order 33 = .ok (.iconst (-1), 1) := by decide +kernel
theorem dX12_order_34 : decode cX12_order 34 = .ok (.if_icmp .ne 10, 3) := by decide +kernel
