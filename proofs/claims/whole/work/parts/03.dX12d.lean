theorem dX12_order_37 : decode cX12_order 37 = .ok (.aload_n 0, 1) := by decide +kernel
theorem dX12_order_38 : decode cX12_order 38 = .ok (.getfield 377, 3) := by decide +kernel
theorem dX12_order_41 : decode cX12_order 41 = .ok (.goto 9, 3) := by decide +kernel
theorem dX12_order_44 : decode cX12_order 44 = .ok (.aload_n 0, 1) := by decide +kernel
theorem dX12_order_45 : decode cX12_order 45 = .ok (.getfield 85, 3) := by decide +kernel
theorem dX12_order_48 : decode cX12_order 48 = .ok (.iload_n 1, 1) := by decide +kernel
theorem dX12_order_49 : decode cX12_order 49 = .ok (.iaload, 1) := by decide +kernel
theorem dX12_order_50 : decode cX12_order 50 = .ok (.ireturn, 1) := by decide +kernel
theorem dX12_begins_0 : decode cX12_begins 0 = .ok (.iload_n 1, 1) := by decide +kernel
theorem dX12_begins_1 : decode cX12_begins 1 = .ok (.iconst 0, 1) := by decide +kernel
theorem dX12_begins_2 : decode cX12_begins 2 = .ok (.aload_n 0, 1) := by decide +kernel
theorem dX12_begins_3 : decode cX12_begins 3 = .ok (.getfield 20, 3) := by decide +kernel
theorem dX12_begins_6 : decode cX12_begins 6 = .ok (.sipush 186, 3) := by decide +kernel
theorem dX12_begins_9 : decode cX12_begins 9 = .ok (.iaload, 1) := by decide +kernel
theorem dX12_begins_10 : decode cX12_begins 10 = .ok (.iconst 1, 1) := by decide +kernel
theorem dX12_begins_11 : decode cX12_begins 11 = .ok (.isub, 1) := by decide +kernel
theorem dX12_begins_12 : decode cX12_begins 12 = .ok (.invokestatic 113, 3) := by decide +kernel
theorem dX12_begins_15 : decode cX12_begins 15 = .ok (.ifCond .ne 5, 3) := by decide +kernel
theorem dX12_begins_18 : decode cX12_begins 18 = .ok (.iconst (-1), 1) := by decide +kernel
theorem dX12_begins_19 : decode cX12_begins 19 = .ok (.ireturn, 1) := by decide +kernel
theorem dX12_begins_20 : decode cX12_begins 20 = .ok (.aload_n 0, 1) := by decide +kernel
theorem dX12_begins_21 : decode cX12_begins 21 = .ok (.invokevirtual 387, 3) := by decide +kernel
theorem dX12_begins_24 : decode cX12_begins 24 = .ok (.aload_n 0, 1) := by decide +kernel
theorem dX12_begins_25 : decode cX12_begins 25 = .ok (.getfield 377, 3) := by decide +kernel
theorem dX12_begins_28 : decode cX12_begins 28 = .ok (.iconst (-1), 1) := by decide +kernel
theorem dX12_begins_29 : decode cX12_begins 29 = .ok (.if_icmp .ne 7, 3) := by decide +kernel
theorem dX12_begins_32 : decode cX12_begins 32 = .ok (.iconst (-1), 1) := by decide +kernel
theorem dX12_begins_33 : decode cX12_begins 33 = .ok (.goto 9, 3) := by decide +kernel
theorem dX12_begins_36 : decode cX12_begins 36 = .ok (.aload_n 0, 1) := by decide +kernel
theorem dX12_begins_37 : decode cX12_begins 37 = .ok (.getfield 91, 3) := by decide +kernel
theorem dX12_begins_40 : decode cX12_begins 40 = .ok (.iload_n 1, 1) := by decide +kernel
theorem dX12_begins_41 : decode cX12_begins 41 = .ok (.iaload, 1) := by decide +kernel
theorem dX12_begins_42 : decode cX12_begins 42 = .ok (.ireturn, 1) := by decide +kernel
theorem dX12_takenBy_0 : decode cX12_takenBy 0 = .ok (.aload_n 0, 1) := by decide +kernel
theorem dX12_takenBy_1 : decode cX12_takenBy 1 = .ok (.aload_n 0, 1) := by decide +kernel
theorem dX12_takenBy_2 : decode cX12_takenBy 2 = .ok (.bipush 9, 2) := by decide +kernel
theorem dX12_takenBy_4 : decode cX12_takenBy 4 = .ok (.invokevirtual 283, 3) := by decide +kernel
theorem dX12_takenBy_7 : decode cX12_takenBy 7 = .ok (.invokevirtual 312, 3) := by decide +kernel
theorem dX12_takenBy_10 : decode cX12_takenBy 10 = .ok (.aload_n 0, 1) := by decide +kernel
theorem dX12_takenBy_11 : decode cX12_takenBy 11 = .ok (.aload_n 0, 1) := by decide +kernel
theorem dX12_takenBy_12 : decode cX12_takenBy 12 = .ok (.getfield 61, 3) := by decide +kernel
theorem dX12_takenBy_15 : decode cX12_takenBy 15 = .ok (.aload_n 0, 1) := by decide +kernel
theorem dX12_takenBy_16 : decode cX12_takenBy 16 = .ok (.bipush 10, 2) := by decide +kernel
theorem dX12_takenBy_18 : decode cX12_takenBy 18 = .ok (.invokevirtual 283, 3) := by decide +kernel
theorem dX12_takenBy_21 : decode cX12_takenBy 21 = .ok (.iload_n 1, 1) := by decide +kernel
theorem dX12_takenBy_22 : decode cX12_takenBy 22 = .ok (.invokevirtual 314, 3) := by decide +kernel
theorem dX12_takenBy_25 : decode cX12_takenBy 25 = .ok (.lconst 0, 1) := by decide +kernel
theorem dX12_takenBy_26 : decode cX12_takenBy 26 = .ok (.lstore_n 2, 1) := by decide +kernel
theorem dX12_takenBy_27 : decode cX12_takenBy 27 = .ok (.iconst 0, 1) := by decide +kernel
theorem dX12_takenBy_28 : decode cX12_takenBy 28 = .ok (.istore 4, 2) := by decide +kernel
theorem dX12_takenBy_30 : decode cX12_takenBy 30 = .ok (.iload 4, 2) := by decide +kernel
theorem dX12_takenBy_32 : decode cX12_takenBy 32 = .ok (.sipush 1440, 3) := by decide +kernel
theorem dX12_takenBy_35 : decode cX12_takenBy 35 = .ok (.if_icmp .ge 40, 3) := by decide +kernel
theorem dX12_takenBy_38 : decode cX12_takenBy 38 = .ok (.aload_n 0, 1) := by decide +kernel
theorem dX12_takenBy_39 : decode cX12_takenBy 39 = .ok (.getfield 61, 3) := by decide +kernel
theorem dX12_takenBy_42 : decode cX12_takenBy 42 = .ok (.iload 4, 2) := by decide +kernel
theorem dX12_takenBy_44 : decode cX12_takenBy 44 = .ok (.iaload, 1) := by decide +kernel
theorem dX12_takenBy_45 : decode cX12_takenBy 45 = .ok (.invokestatic 304, 3) := by decide +kernel
theorem dX12_takenBy_48 : decode cX12_takenBy 48 = .ok (.i2l, 1) := by decide +kernel
theorem dX12_takenBy_49 : decode cX12_takenBy 49 = .ok (.lstore 5, 2) := by decide +kernel
theorem dX12_takenBy_51 : decode cX12_takenBy 51 = .ok (.lload_n 2, 1) := by decide +kernel
theorem dX12_takenBy_52 : decode cX12_takenBy 52 = .ok (.iload_n 1, 1) := by decide +kernel
theorem dX12_takenBy_53 : decode cX12_takenBy 53 = .ok (.i2l, 1) := by decide +kernel
theorem dX12_takenBy_54 : decode cX12_takenBy 54 = .ok (.lload 5, 2) := by decide +kernel
theorem dX12_takenBy_56 : decode cX12_takenBy 56 = .ok (.lmul, 1) := by decide +kernel
theorem dX12_takenBy_57 : decode cX12_takenBy 57 = .ok (.lload 5, 2) := by decide +kernel
theorem dX12_takenBy_59 : decode cX12_takenBy 59 = .ok (.lmul, 1) := by decide +kernel
theorem dX12_takenBy_60 : decode cX12_takenBy 60 = .ok (.lload 5, 2) := by decide +kernel
theorem dX12_takenBy_62 : decode cX12_takenBy 62 = .ok (.lmul, 1) := by decide +kernel
theorem dX12_takenBy_63 : decode cX12_takenBy 63 = .ok (.ldc2_w 390, 3) := by decide +kernel
theorem dX12_takenBy_66 : decode cX12_takenBy 66 = .ok (.ldiv, 1) := by decide +kernel
theorem dX12_takenBy_67 : decode cX12_takenBy 67 = .ok (.ladd, 1) := by decide +kernel
theorem dX12_takenBy_68 : decode cX12_takenBy 68 = .ok (.lstore_n 2, 1) := by decide +kernel
theorem dX12_takenBy_69 : decode cX12_takenBy 69 = .ok (.iinc 4 1, 3) := by decide +kernel
theorem dX12_takenBy_72 : decode cX12_takenBy 72 = .ok (.goto (-42), 3) := by decide +kernel
theorem dX12_takenBy_75 : decode cX12_takenBy 75 = .ok (.lload_n 2, 1) := by decide +kernel
theorem dX12_takenBy_76 : decode cX12_takenBy 76 = .ok (.lreturn, 1) := by decide +kernel
theorem dX12_taken_0 : decode cX12_taken 0 = .ok (.iload_n 1, 1) := by decide +kernel
theorem dX12_taken_1 : decode cX12_taken 1 = .ok (.iconst 0, 1) := by decide +kernel
theorem dX12_taken_2 : decode cX12_taken 2 = .ok (.bipush 20, 2) := by decide +kernel
theorem dX12_taken_4 : decode cX12_taken 4 = .ok (.invokestatic 113, 3) := by decide +kernel
theorem dX12_taken_7 : decode cX12_taken 7 = .ok (.ifCond .eq 11, 3) := by decide +kernel
theorem dX12_taken_10 : decode cX12_taken 10 = .ok (.aload_n 0, 1) := by decide +kernel
theorem dX12_taken_11 : decode cX12_taken 11 = .ok (.iload_n 1, 1) := by decide +kernel
theorem dX12_taken_12 : decode cX12_taken 12 = .ok (.invokevirtual 392, 3) := by decide +kernel
theorem dX12_taken_15 : decode cX12_taken 15 = .ok (.goto 6, 3) := by decide +kernel
theorem dX12_taken_18 : decode cX12_taken 18 = .ok (.ldc2_w 396, 3) := by decide +kernel
theorem dX12_taken_21 : decode cX12_taken 21 = .ok (.lreturn, 1) := by decide +kernel
theorem dX12_most_0 : decode cX12_most 0 = .ok (.iload_n 1, 1) := by decide +kernel
theorem dX12_most_1 : decode cX12_most 1 = .ok (.iconst 0, 1) := by decide +kernel
theorem dX12_most_2 : decode cX12_most 2 = .ok (.iconst 1, 1) := by decide +kernel
theorem dX12_most_3 : decode cX12_most 3 = .ok (.invokestatic 113, 3) := by decide +kernel
theorem dX12_most_6 : decode cX12_most 6 = .ok (.ifCond .eq 15, 3) := by decide +kernel
theorem dX12_most_9 : decode cX12_most 9 = .ok (.iload_n 1, 1) := by decide +kernel
theorem dX12_most_10 : decode cX12_most 10 = .ok (.iconst 1, 1) := by decide +kernel
theorem dX12_most_11 : decode cX12_most 11 = .ok (.if_icmp .ne 14, 3) := by decide +kernel
theorem dX12_most_14 : decode cX12_most 14 = .ok (.iload_n 2, 1) := by decide +kernel
theorem dX12_most_15 : decode cX12_most 15 = .ok (.invokestatic 280, 3) := by decide +kernel
theorem dX12_most_18 : decode cX12_most 18 = .ok (.ifCond .ne 7, 3) := by decide +kernel
theorem dX12_most_21 : decode cX12_most 21 = .ok (.ldc_w 289, 3) := by decide +kernel
theorem dX12_most_24 : decode cX12_most 24 = .ok (.ireturn, 1) := by decide +kernel
theorem dX12_most_25 : decode cX12_most 25 = .ok (.iconst 0, 1) := by decide +kernel
theorem dX12_most_26 : decode cX12_most 26 = .ok (.istore_n 3, 1) := by decide +kernel
theorem dX12_most_27 : decode cX12_most 27 = .ok (.lconst 0, 1) := by decide +kernel
theorem dX12_most_28 : decode cX12_most 28 = .ok (.lstore 4, 2) := by decide +kernel
theorem dX12_most_30 : decode cX12_most 30 = .ok (.iconst 1, 1) := by decide +kernel
theorem dX12_most_31 : decode cX12_most 31 = .ok (.istore 6, 2) := by decide +kernel
theorem dX12_most_33 : decode cX12_most 33 = .ok (.iload 6, 2) := by decide +kernel
theorem dX12_most_35 : decode cX12_most 35 = .ok (.bipush 20, 2) := by decide +kernel
theorem dX12_most_37 : decode cX12_most 37 = .ok (.if_icmp .gt 35, 3) := by decide +kernel
theorem dX12_most_40 : decode cX12_most 40 = .ok (.aload_n 0, 1) := by decide +kernel
theorem dX12_most_41 : decode cX12_most 41 = .ok (.iload 6, 2) := by decide +kernel
theorem dX12_most_43 : decode cX12_most 43 = .ok (.invokevirtual 392, 3) := by decide +kernel
theorem dX12_most_46 : decode cX12_most 46 = .ok (.lstore 7, 2) := by decide +kernel
theorem dX12_most_48 : decode cX12_most 48 = .ok (.lload 7, 2) := by decide +kernel
theorem dX12_most_50 : decode cX12_most 50 = .ok (.lload 4, 2) := by decide +kernel
theorem dX12_most_52 : decode cX12_most 52 = .ok (.lcmp, 1) := by decide +kernel
theorem dX12_most_53 : decode cX12_most 53 = .ok (.ifCond .gt 6, 3) := by decide +kernel
theorem dX12_most_56 : decode cX12_most 56 = .ok (.goto 10, 3) := by decide +kernel
theorem dX12_most_59 : decode cX12_most 59 = .ok (.iload 6, 2) := by decide +kernel
theorem dX12_most_61 : decode cX12_most 61 = .ok (.istore_n 3, 1) := by decide +kernel
theorem dX12_most_62 : decode cX12_most 62 = .ok (.lload 7, 2) := by decide +kernel
theorem dX12_most_64 : decode cX12_most 64 = .ok (.lstore 4, 2) := by decide +kernel
theorem dX12_most_66 : decode cX12_most 66 = .ok (.iinc 6 1, 3) := by decide +kernel
theorem dX12_most_69 : decode cX12_most 69 = .ok (.goto (-36), 3) := by decide +kernel
theorem dX12_most_72 : decode cX12_most 72 = .ok (.iload_n 1, 1) := by decide +kernel
theorem dX12_most_73 : decode cX12_most 73 = .ok (.ifCond .ne 5, 3) := by decide +kernel
theorem dX12_most_76 : decode cX12_most 76 = .ok (.iload_n 3, 1) := by decide +kernel
theorem dX12_most_77 : decode cX12_most 77 = .ok (.ireturn, 1) := by decide +kernel
theorem dX12_most_78 : decode cX12_most 78 = .ok (.aload_n 0, 1) := by decide +kernel
theorem dX12_most_79 : decode cX12_most 79 = .ok (.iload_n 3, 1) := by decide +kernel
theorem dX12_most_80 : decode cX12_most 80 = .ok (.invokevirtual 392, 3) := by decide +kernel
theorem dX12_most_83 : decode cX12_most 83 = .ok (.pop2, 1) := by decide +kernel
theorem dX12_most_84 : decode cX12_most 84 = .ok (.aload_n 0, 1) := by decide +kernel
theorem dX12_most_85 : decode cX12_most 85 = .ok (.getfield 61, 3) := by decide +kernel
theorem dX12_most_88 : decode cX12_most 88 = .ok (.iload_n 2, 1) := by decide +kernel
theorem dX12_most_89 : decode cX12_most 89 = .ok (.iaload, 1) := by decide +kernel
theorem dX12_most_90 : decode cX12_most 90 = .ok (.ireturn, 1) := by decide +kernel
theorem dX12_cast_0 : decode cX12_cast 0 = .ok (.iload_n 1, 1) := by decide +kernel
theorem dX12_cast_1 : decode cX12_cast 1 = .ok (.invokestatic 280, 3) := by decide +kernel
theorem dX12_cast_4 : decode cX12_cast 4 = .ok (.ifCond .eq 16, 3) := by decide +kernel
theorem dX12_cast_7 : decode cX12_cast 7 = .ok (.iload_n 2, 1) := by decide +kernel
theorem dX12_cast_8 : decode cX12_cast 8 = .ok (.sipush (-9999), 3) := by decide +kernel
theorem dX12_cast_11 : decode cX12_cast 11 = .ok (.sipush 9999, 3) := by decide +kernel
theorem dX12_cast_14 : decode cX12_cast 14 = .ok (.invokestatic 113, 3) := by decide +kernel
theorem dX12_cast_17 : decode cX12_cast 17 = .ok (.ifCond .ne 9, 3) := by decide +kernel
theorem dX12_cast_20 : decode cX12_cast 20 = .ok (.aload_n 0, 1) := by decide +kernel
theorem dX12_cast_21 : decode cX12_cast 21 = .ok (.iconst (-1), 1) := by decide +kernel
theorem dX12_cast_22 : decode cX12_cast 22 = .ok (.invokevirtual 117, 3) := by decide +kernel
theorem dX12_cast_25 : decode cX12_cast 25 = .ok (.ireturn, 1) := by decide +kernel
theorem dX12_cast_26 : decode cX12_cast 26 = .ok (.aload_n 0, 1) := by decide +kernel
theorem dX12_cast_27 : decode cX12_cast 27 = .ok (.getfield 20, 3) := by decide +kernel
theorem dX12_cast_30 : decode cX12_cast 30 = .ok (.sipush 188, 3) := by decide +kernel
theorem dX12_cast_33 : decode cX12_cast 33 = .ok (.iaload, 1) := by decide +kernel
theorem dX12_cast_34 : decode cX12_cast 34 = .ok (.istore_n 3, 1) := by decide +kernel
theorem dX12_cast_35 : decode cX12_cast 35 = .ok (.iload_n 3, 1) := by decide +kernel
theorem dX12_cast_36 : decode cX12_cast 36 = .ok (.bipush 12, 2) := by decide +kernel
theorem dX12_cast_38 : decode cX12_cast 38 = .ok (.if_icmp .ne 10, 3) := by decide +kernel
theorem dX12_cast_41 : decode cX12_cast 41 = .ok (.aload_n 0, 1) := by decide +kernel
theorem dX12_cast_42 : decode cX12_cast 42 = .ok (.bipush (-5), 2) := by decide +kernel
theorem dX12_cast_44 : decode cX12_cast 44 = .ok (.invokevirtual 117, 3) := by decide +kernel
theorem dX12_cast_47 : decode cX12_cast 47 = .ok (.ireturn, 1) := by decide +kernel
theorem dX12_cast_48 : decode cX12_cast 48 = .ok (.aload_n 0, 1) := by decide +kernel
theorem dX12_cast_49 : decode cX12_cast 49 = .ok (.getfield 20, 3) := by decide +kernel
theorem dX12_cast_52 : decode cX12_cast 52 = .ok (.sipush 161, 3) := by decide +kernel
theorem dX12_cast_55 : decode cX12_cast 55 = .ok (.iconst 2, 1) := by decide +kernel
theorem dX12_cast_56 : decode cX12_cast 56 = .ok (.iload_n 3, 1) := by decide +kernel
theorem dX12_cast_57 : decode cX12_cast 57 = .ok (.imul, 1) := by decide +kernel
theorem dX12_cast_58 : decode cX12_cast 58 = .ok (.iadd, 1) := by decide +kernel
theorem dX12_cast_59 : decode cX12_cast 59 = .ok (.iload_n 1, 1) := by decide +kernel
theorem dX12_cast_60 : decode cX12_cast 60 = .ok (.iastore, 1) := by decide +kernel
theorem dX12_cast_61 : decode cX12_cast 61 = .ok (.aload_n 0, 1) := by decide +kernel
theorem dX12_cast_62 : decode cX12_cast 62 = .ok (.getfield 20, 3) := by decide +kernel
theorem dX12_cast_65 : decode cX12_cast 65 = .ok (.sipush 161, 3) := by decide +kernel
theorem dX12_cast_68 : decode cX12_cast 68 = .ok (.iconst 2, 1) := by decide +kernel
theorem dX12_cast_69 : decode cX12_cast 69 = .ok (.iload_n 3, 1) := by decide +kernel
theorem dX12_cast_70 : decode cX12_cast 70 = .ok (.imul, 1) := by decide +kernel
theorem dX12_cast_71 : decode cX12_cast 71 = .ok (.iadd, 1) := by decide +kernel
theorem dX12_cast_72 : decode cX12_cast 72 = .ok (.iconst 1, 1) := by decide +kernel
theorem dX12_cast_73 : decode cX12_cast 73 = .ok (.iadd, 1) := by decide +kernel
theorem dX12_cast_74 : decode cX12_cast 74 = .ok (.iload_n 2, 1) := by decide +kernel
theorem dX12_cast_75 : decode cX12_cast 75 = .ok (.iastore, 1) := by decide +kernel
theorem dX12_cast_76 : decode cX12_cast 76 = .ok (.aload_n 0, 1) := by decide +kernel
theorem dX12_cast_77 : decode cX12_cast 77 = .ok (.getfield 20, 3) := by decide +kernel
theorem dX12_cast_80 : decode cX12_cast 80 = .ok (.sipush 188, 3) := by decide +kernel
theorem dX12_cast_83 : decode cX12_cast 83 = .ok (.dup2, 1) := by decide +kernel
theorem dX12_cast_84 : decode cX12_cast 84 = .ok (.iaload, 1) := by decide +kernel
theorem dX12_cast_85 : decode cX12_cast 85 = .ok (.iconst 1, 1) := by decide +kernel
theorem dX12_cast_86 : decode cX12_cast 86 = .ok (.iadd, 1) := by decide +kernel
theorem dX12_cast_87 : decode cX12_cast 87 = .ok (.iastore, 1) := by decide +kernel
theorem dX12_cast_88 : decode cX12_cast 88 = .ok (.aload_n 0, 1) := by decide +kernel
theorem dX12_cast_89 : decode cX12_cast 89 = .ok (.iload_n 3, 1) := by decide +kernel
theorem dX12_cast_90 : decode cX12_cast 90 = .ok (.invokevirtual 121, 3) := by decide +kernel
theorem dX12_cast_93 : decode cX12_cast 93 = .ok (.ireturn, 1) := by decide +kernel
theorem dX12_agrees_0 : decode cX12_agrees 0 = .ok (.aload_n 0, 1) := by decide +kernel
theorem dX12_agrees_1 : decode cX12_agrees 1 = .ok (.iconst 0, 1) := by decide +kernel
theorem dX12_agrees_2 : decode cX12_agrees 2 = .ok (.iload_n 1, 1) := by decide +kernel
theorem dX12_agrees_3 : decode cX12_agrees 3 = .ok (.iconst 1, 1) := by decide +kernel
theorem dX12_agrees_4 : decode cX12_agrees 4 = .ok (.invokevirtual 272, 3) := by decide +kernel
theorem dX12_agrees_7 : decode cX12_agrees 7 = .ok (.istore_n 3, 1) := by decide +kernel
theorem dX12_agrees_8 : decode cX12_agrees 8 = .ok (.iconst 0, 1) := by decide +kernel
theorem dX12_agrees_9 : decode cX12_agrees 9 = .ok (.istore 4, 2) := by decide +kernel
theorem dX12_agrees_11 : decode cX12_agrees 11 = .ok (.iload 4, 2) := by decide +kernel
theorem dX12_agrees_13 : decode cX12_agrees 13 = .ok (.aload_n 0, 1) := by decide +kernel
theorem dX12_agrees_14 : decode cX12_agrees 14 = .ok (.getfield 20, 3) := by decide +kernel
theorem dX12_agrees_17 : decode cX12_agrees 17 = .ok (.sipush 188, 3) := by decide +kernel
theorem dX12_agrees_20 : decode cX12_agrees 20 = .ok (.iaload, 1) := by decide +kernel
theorem dX12_agrees_21 : decode cX12_agrees 21 = .ok (.if_icmp .ge 75, 3) := by decide +kernel
theorem dX12_agrees_24 : decode cX12_agrees 24 = .ok (.aload_n 0, 1) := by decide +kernel
theorem dX12_agrees_25 : decode cX12_agrees 25 = .ok (.getfield 20, 3) := by decide +kernel
theorem dX12_agrees_28 : decode cX12_agrees 28 = .ok (.sipush 161, 3) := by decide +kernel
theorem dX12_agrees_31 : decode cX12_agrees 31 = .ok (.iconst 2, 1) := by decide +kernel
theorem dX12_agrees_32 : decode cX12_agrees 32 = .ok (.iload 4, 2) := by decide +kernel
theorem dX12_agrees_34 : decode cX12_agrees 34 = .ok (.imul, 1) := by decide +kernel
theorem dX12_agrees_35 : decode cX12_agrees 35 = .ok (.iadd, 1) := by decide +kernel
theorem dX12_agrees_36 : decode cX12_agrees 36 = .ok (.iaload, 1) := by decide +kernel
theorem dX12_agrees_37 : decode cX12_agrees 37 = .ok (.istore 5, 2) := by decide +kernel
theorem dX12_agrees_39 : decode cX12_agrees 39 = .ok (.aload_n 0, 1) := by decide +kernel
theorem dX12_agrees_40 : decode cX12_agrees 40 = .ok (.getfield 94, 3) := by decide +kernel
theorem dX12_agrees_43 : decode cX12_agrees 43 = .ok (.iload 4, 2) := by decide +kernel
theorem dX12_agrees_45 : decode cX12_agrees 45 = .ok (.aload_n 0, 1) := by decide +kernel
theorem dX12_agrees_46 : decode cX12_agrees 46 = .ok (.getfield 20, 3) := by decide +kernel
theorem dX12_agrees_49 : decode cX12_agrees 49 = .ok (.sipush 161, 3) := by decide +kernel
theorem dX12_agrees_52 : decode cX12_agrees 52 = .ok (.iconst 2, 1) := by decide +kernel
theorem dX12_agrees_53 : decode cX12_agrees 53 = .ok (.iload 4, 2) := by decide +kernel
theorem dX12_agrees_55 : decode cX12_agrees 55 = .ok (.imul, 1) := by decide +kernel
theorem dX12_agrees_56 : decode cX12_agrees 56 = .ok (.iadd, 1) := by decide +kernel
theorem dX12_agrees_57 : decode cX12_agrees 57 = .ok (.iconst 1, 1) := by decide +kernel
theorem dX12_agrees_58 : decode cX12_agrees 58 = .ok (.iadd, 1) := by decide +kernel
theorem dX12_agrees_59 : decode cX12_agrees 59 = .ok (.iaload, 1) := by decide +kernel
theorem dX12_agrees_60 : decode cX12_agrees 60 = .ok (.aload_n 0, 1) := by decide +kernel
theorem dX12_agrees_61 : decode cX12_agrees 61 = .ok (.iconst 0, 1) := by decide +kernel
theorem dX12_agrees_62 : decode cX12_agrees 62 = .ok (.iload 5, 2) := by decide +kernel
theorem dX12_agrees_64 : decode cX12_agrees 64 = .ok (.invokevirtual 331, 3) := by decide +kernel
theorem dX12_agrees_67 : decode cX12_agrees 67 = .ok (.isub, 1) := by decide +kernel
theorem dX12_agrees_68 : decode cX12_agrees 68 = .ok (.aload_n 0, 1) := by decide +kernel
theorem dX12_agrees_69 : decode cX12_agrees 69 = .ok (.iconst 0, 1) := by decide +kernel
theorem dX12_agrees_70 : decode cX12_agrees 70 = .ok (.iload_n 1, 1) := by decide +kernel
theorem dX12_agrees_71 : decode cX12_agrees 71 = .ok (.iconst 0, 1) := by decide +kernel
theorem dX12_agrees_72 : decode cX12_agrees 72 = .ok (.invokevirtual 272, 3) := by decide +kernel
theorem dX12_agrees_75 : decode cX12_agrees 75 = .ok (.iload_n 3, 1) := by decide +kernel
theorem dX12_agrees_76 : decode cX12_agrees 76 = .ok (.aload_n 0, 1) := by decide +kernel
theorem dX12_agrees_77 : decode cX12_agrees 77 = .ok (.iconst 0, 1) := by decide +kernel
theorem dX12_agrees_78 : decode cX12_agrees 78 = .ok (.iload_n 1, 1) := by decide +kernel
theorem dX12_agrees_79 : decode cX12_agrees 79 = .ok (.iconst 2, 1) := by decide +kernel
theorem dX12_agrees_80 : decode cX12_agrees 80 = .ok (.invokevirtual 272, 3) := by decide +kernel
theorem dX12_agrees_83 : decode cX12_agrees 83 = .ok (.iload 5, 2) := by decide +kernel
theorem dX12_agrees_85 : decode cX12_agrees 85 = .ok (.invokestatic 276, 3) := by decide +kernel
theorem dX12_agrees_88 : decode cX12_agrees 88 = .ok (.iadd, 1) := by decide +kernel
theorem dX12_agrees_89 : decode cX12_agrees 89 = .ok (.iastore, 1) := by decide +kernel
theorem dX12_agrees_90 : decode cX12_agrees 90 = .ok (.iinc 4 1, 3) := by decide +kernel
theorem dX12_agrees_93 : decode cX12_agrees 93 = .ok (.goto (-82), 3) := by decide +kernel
theorem dX12_agrees_96 : decode cX12_agrees 96 = .ok (.aload_n 0, 1) := by decide +kernel
theorem dX12_agrees_97 : decode cX12_agrees 97 = .ok (.iconst 0, 1) := by decide +kernel
theorem dX12_agrees_98 : decode cX12_agrees 98 = .ok (.putfield 398, 3) := by decide +kernel
theorem dX12_agrees_101 : decode cX12_agrees 101 = .ok (.iconst 0, 1) := by decide +kernel
theorem dX12_agrees_102 : decode cX12_agrees 102 = .ok (.istore 4, 2) := by decide +kernel
theorem dX12_agrees_104 : decode cX12_agrees 104 = .ok (.iload 4, 2) := by decide +kernel
theorem dX12_agrees_106 : decode cX12_agrees 106 = .ok (.sipush 500, 3) := by decide +kernel
theorem dX12_agrees_109 : decode cX12_agrees 109 = .ok (.if_icmp .gt 207, 3) := by decide +kernel
theorem dX12_agrees_112 : decode cX12_agrees 112 = .ok (.iconst 0, 1) := by decide +kernel
theorem dX12_agrees_113 : decode cX12_agrees 113 = .ok (.istore 5, 2) := by decide +kernel
theorem dX12_agrees_115 : decode cX12_agrees 115 = .ok (.iload 5, 2) := by decide +kernel
theorem dX12_agrees_117 : decode cX12_agrees 117 = .ok (.iload_n 3, 1) := by decide +kernel
theorem dX12_agrees_118 : decode cX12_agrees 118 = .ok (.if_icmp .ge 192, 3) := by decide +kernel
theorem dX12_agrees_121 : decode cX12_agrees 121 = .ok (.iconst 1, 1) := by decide +kernel
theorem dX12_agrees_122 : decode cX12_agrees 122 = .ok (.istore 6, 2) := by decide +kernel
theorem dX12_agrees_124 : decode cX12_agrees 124 = .ok (.iconst 0, 1) := by decide +kernel
theorem dX12_agrees_125 : decode cX12_agrees 125 = .ok (.istore 7, 2) := by decide +kernel
theorem dX12_agrees_127 : decode cX12_agrees 127 = .ok (.iload 7, 2) := by decide +kernel
theorem dX12_agrees_129 : decode cX12_agrees 129 = .ok (.aload_n 0, 1) := by decide +kernel
theorem dX12_agrees_130 : decode cX12_agrees 130 = .ok (.getfield 20, 3) := by decide +kernel
theorem dX12_agrees_133 : decode cX12_agrees 133 = .ok (.sipush 188, 3) := by decide +kernel
theorem dX12_agrees_136 : decode cX12_agrees 136 = .ok (.iaload, 1) := by decide +kernel
theorem dX12_agrees_137 : decode cX12_agrees 137 = .ok (.if_icmp .ge 68, 3) := by decide +kernel
theorem dX12_agrees_140 : decode cX12_agrees 140 = .ok (.iload 6, 2) := by decide +kernel
theorem dX12_agrees_142 : decode cX12_agrees 142 = .ok (.ifCond .eq 63, 3) := by decide +kernel
theorem dX12_agrees_145 : decode cX12_agrees 145 = .ok (.iload 7, 2) := by decide +kernel
theorem dX12_agrees_147 : decode cX12_agrees 147 = .ok (.iload_n 2, 1) := by decide +kernel
theorem dX12_agrees_148 : decode cX12_agrees 148 = .ok (.if_icmp .eq 44, 3) := by decide +kernel
theorem dX12_agrees_151 : decode cX12_agrees 151 = .ok (.aload_n 0, 1) := by decide +kernel
theorem dX12_agrees_152 : decode cX12_agrees 152 = .ok (.getfield 94, 3) := by decide +kernel
theorem dX12_agrees_155 : decode cX12_agrees 155 = .ok (.iload 7, 2) := by decide +kernel
theorem dX12_agrees_157 : decode cX12_agrees 157 = .ok (.iaload, 1) := by decide +kernel
theorem dX12_agrees_158 : decode cX12_agrees 158 = .ok (.iload 4, 2) := by decide +kernel
theorem dX12_agrees_160 : decode cX12_agrees 160 = .ok (.iload_n 3, 1) := by decide +kernel
theorem dX12_agrees_161 : decode cX12_agrees 161 = .ok (.iload 5, 2) := by decide +kernel
theorem dX12_agrees_163 : decode cX12_agrees 163 = .ok (.aload_n 0, 1) := by decide +kernel
theorem dX12_agrees_164 : decode cX12_agrees 164 = .ok (.getfield 20, 3) := by decide +kernel
theorem dX12_agrees_167 : decode cX12_agrees 167 = .ok (.sipush 161, 3) := by decide +kernel
theorem dX12_agrees_170 : decode cX12_agrees 170 = .ok (.iconst 2, 1) := by decide +kernel
theorem dX12_agrees_171 : decode cX12_agrees 171 = .ok (.iload 7, 2) := by decide +kernel
theorem dX12_agrees_173 : decode cX12_agrees 173 = .ok (.imul, 1) := by decide +kernel
theorem dX12_agrees_174 : decode cX12_agrees 174 = .ok (.iadd, 1) := by decide +kernel
theorem dX12_agrees_175 : decode cX12_agrees 175 = .ok (.iaload, 1) := by decide +kernel
theorem dX12_agrees_176 : decode cX12_agrees 176 = .ok (.invokestatic 276, 3) := by decide +kernel
theorem dX12_agrees_179 : decode cX12_agrees 179 = .ok (.isub, 1) := by decide +kernel
theorem dX12_agrees_180 : decode cX12_agrees 180 = .ok (.invokestatic 304, 3) := by decide +kernel
theorem dX12_agrees_183 : decode cX12_agrees 183 = .ok (.aload_n 0, 1) := by decide +kernel
theorem dX12_agrees_184 : decode cX12_agrees 184 = .ok (.bipush 8, 2) := by decide +kernel
theorem dX12_agrees_186 : decode cX12_agrees 186 = .ok (.invokevirtual 283, 3) := by decide +kernel
theorem dX12_agrees_189 : decode cX12_agrees 189 = .ok (.if_icmp .gt 7, 3) := by decide +kernel
theorem dX12_agrees_192 : decode cX12_agrees 192 = .ok (.iconst 1, 1) := by decide +kernel
theorem dX12_agrees_193 : decode cX12_agrees 193 = .ok (.goto 4, 3) := by decide +kernel
theorem dX12_agrees_196 : decode cX12_agrees 196 = .ok (.iconst 0, 1) := by decide +kernel
theorem dX12_agrees_197 : decode cX12_agrees 197 = .ok (.istore 6, 2) := by decide +kernel
theorem dX12_agrees_199 : decode cX12_agrees 199 = .ok (.iinc 7 1, 3) := by decide +kernel
theorem dX12_agrees_202 : decode cX12_agrees 202 = .ok (.goto (-75), 3) := by decide +kernel
theorem dX12_agrees_205 : decode cX12_agrees 205 = .ok (.iload 6, 2) := by decide +kernel
theorem dX12_agrees_207 : decode cX12_agrees 207 = .ok (.ifCond .ne 6, 3) := by decide +kernel
theorem dX12_agrees_210 : decode cX12_agrees 210 = .ok (.goto 94, 3) := by decide +kernel
theorem dX12_agrees_213 : decode cX12_agrees 213 = .ok (.aload_n 0, 1) := by decide +kernel
theorem dX12_agrees_214 : decode cX12_agrees 214 = .ok (.getfield 398, 3) := by decide +kernel
theorem dX12_agrees_217 : decode cX12_agrees 217 = .ok (.ifCond .ne 27, 3) := by decide +kernel
theorem dX12_agrees_220 : decode cX12_agrees 220 = .ok (.aload_n 0, 1) := by decide +kernel
theorem dX12_agrees_221 : decode cX12_agrees 221 = .ok (.iload 4, 2) := by decide +kernel
theorem dX12_agrees_223 : decode cX12_agrees 223 = .ok (.putfield 401, 3) := by decide +kernel
theorem dX12_agrees_226 : decode cX12_agrees 226 = .ok (.aload_n 0, 1) := by decide +kernel
theorem dX12_agrees_227 : decode cX12_agrees 227 = .ok (.iload 5, 2) := by decide +kernel
theorem dX12_agrees_229 : decode cX12_agrees 229 = .ok (.putfield 404, 3) := by decide +kernel
theorem dX12_agrees_232 : decode cX12_agrees 232 = .ok (.aload_n 0, 1) := by decide +kernel
theorem dX12_agrees_233 : decode cX12_agrees 233 = .ok (.iload 5, 2) := by decide +kernel
theorem dX12_agrees_235 : decode cX12_agrees 235 = .ok (.putfield 407, 3) := by decide +kernel
theorem dX12_agrees_238 : decode cX12_agrees 238 = .ok (.aload_n 0, 1) := by decide +kernel
theorem dX12_agrees_239 : decode cX12_agrees 239 = .ok (.iload 5, 2) := by decide +kernel
theorem dX12_agrees_241 : decode cX12_agrees 241 = .ok (.putfield 410, 3) := by decide +kernel
theorem dX12_agrees_244 : decode cX12_agrees 244 = .ok (.aload_n 0, 1) := by decide +kernel
theorem dX12_agrees_245 : decode cX12_agrees 245 = .ok (.dup, 1) := by decide +kernel
theorem dX12_agrees_246 : decode cX12_agrees 246 = .ok (.getfield 398, 3) := by decide +kernel
theorem dX12_agrees_249 : decode cX12_agrees 249 = .ok (.iconst 1, 1) := by decide +kernel
theorem dX12_agrees_250 : decode cX12_agrees 250 = .ok (.iadd, 1) := by decide +kernel
theorem dX12_agrees_251 : decode cX12_agrees 251 = .ok (.putfield 398, 3) := by decide +kernel
theorem dX12_agrees_254 : decode cX12_agrees 254 = .ok (.aload_n 0, 1) := by decide +kernel
theorem dX12_agrees_255 : decode cX12_agrees 255 = .ok (.iload 4, 2) := by decide +kernel
theorem dX12_agrees_257 : decode cX12_agrees 257 = .ok (.putfield 413, 3) := by decide +kernel
theorem dX12_agrees_260 : decode cX12_agrees 260 = .ok (.aload_n 0, 1) := by decide +kernel
theorem dX12_agrees_261 : decode cX12_agrees 261 = .ok (.iload 5, 2) := by decide +kernel
theorem dX12_agrees_263 : decode cX12_agrees 263 = .ok (.aload_n 0, 1) := by decide +kernel
theorem dX12_agrees_264 : decode cX12_agrees 264 = .ok (.getfield 404, 3) := by decide +kernel
theorem dX12_agrees_267 : decode cX12_agrees 267 = .ok (.if_icmp .ge 8, 3) := by decide +kernel
theorem dX12_agrees_270 : decode cX12_agrees 270 = .ok (.iload 5, 2) := by decide +kernel
theorem dX12_agrees_272 : decode cX12_agrees 272 = .ok (.goto 7, 3) := by decide +kernel
theorem dX12_agrees_275 : decode cX12_agrees 275 = .ok (.aload_n 0, 1) := by decide +kernel
theorem dX12_agrees_276 : decode cX12_agrees 276 = .ok (.getfield 404, 3) := by decide +kernel
theorem dX12_agrees_279 : decode cX12_agrees 279 = .ok (.putfield 404, 3) := by decide +kernel
theorem dX12_agrees_282 : decode cX12_agrees 282 = .ok (.aload_n 0, 1) := by decide +kernel
theorem dX12_agrees_283 : decode cX12_agrees 283 = .ok (.iload 5, 2) := by decide +kernel
theorem dX12_agrees_285 : decode cX12_agrees 285 = .ok (.aload_n 0, 1) := by decide +kernel
theorem dX12_agrees_286 : decode cX12_agrees 286 = .ok (.getfield 407, 3) := by decide +kernel
theorem dX12_agrees_289 : decode cX12_agrees 289 = .ok (.if_icmp .le 8, 3) := by decide +kernel
theorem dX12_agrees_292 : decode cX12_agrees 292 = .ok (.iload 5, 2) := by decide +kernel
theorem dX12_agrees_294 : decode cX12_agrees 294 = .ok (.goto 7, 3) := by decide +kernel
theorem dX12_agrees_297 : decode cX12_agrees 297 = .ok (.aload_n 0, 1) := by decide +kernel
theorem dX12_agrees_298 : decode cX12_agrees 298 = .ok (.getfield 407, 3) := by decide +kernel
theorem dX12_agrees_301 : decode cX12_agrees 301 = .ok (.putfield 407, 3) := by decide +kernel
theorem dX12_agrees_304 : decode cX12_agrees 304 = .ok (.iinc 5 10, 3) := by decide +kernel
theorem dX12_agrees_307 : decode cX12_agrees 307 = .ok (.goto (-192), 3) := by decide +kernel
theorem dX12_agrees_310 : decode cX12_agrees 310 = .ok (.iinc 4 10, 3) := by decide +kernel
theorem dX12_agrees_313 : decode cX12_agrees 313 = .ok (.goto (-209), 3) := by decide +kernel
theorem dX12_agrees_316 : decode cX12_agrees 316 = .ok (.return_, 1) := by decide +kernel
theorem dX12_agree_0 : decode cX12_agree 0 = .ok (.iload_n 1, 1) := by decide +kernel
theorem dX12_agree_1 : decode cX12_agree 1 = .ok (.invokestatic 132, 3) := by decide +kernel
theorem dX12_agree_4 : decode cX12_agree 4 = .ok (.ifCond .eq 12, 3) := by decide +kernel
theorem dX12_agree_7 : decode cX12_agree 7 = .ok (.iload_n 2, 1) := by decide +kernel
theorem dX12_agree_8 : decode cX12_agree 8 = .ok (.iconst 0, 1) := by decide +kernel
theorem dX12_agree_9 : decode cX12_agree 9 = .ok (.iconst 5, 1) := by decide +kernel
theorem dX12_agree_10 : decode cX12_agree 10 = .ok (.invokestatic 113, 3) := by decide +kernel
theorem dX12_agree_13 : decode cX12_agree 13 = .ok (.ifCond .ne 5, 3) := by decide +kernel
theorem dX12_agree_16 : decode cX12_agree 16 = .ok (.iconst (-1), 1) := by decide +kernel
theorem dX12_agree_17 : decode cX12_agree 17 = .ok (.ireturn, 1) := by decide +kernel
theorem dX12_agree_18 : decode cX12_agree 18 = .ok (.aload_n 0, 1) := by decide +kernel
theorem dX12_agree_19 : decode cX12_agree 19 = .ok (.iload_n 1, 1) := by decide +kernel
theorem dX12_agree_20 : decode cX12_agree 20 = .ok (.iconst (-1), 1) := by decide +kernel
theorem dX12_agree_21 : decode cX12_agree 21 = .ok (.invokevirtual 416, 3) := by decide +kernel
theorem dX12_agree_24 : decode cX12_agree 24 = .ok (.iload_n 2, 1) := by decide +kernel
theorem dX12_agree_25 : decode cX12_agree 25 = .ok (.ifCond .ne 8, 3) := by decide +kernel
theorem dX12_agree_28 : decode cX12_agree 28 = .ok (.aload_n 0, 1) := by decide +kernel
theorem dX12_agree_29 : decode cX12_agree 29 = .ok (.getfield 398, 3) := by decide +kernel
theorem dX12_agree_32 : decode cX12_agree 32 = .ok (.ireturn, 1) := by decide +kernel
theorem dX12_agree_33 : decode cX12_agree 33 = .ok (.aload_n 0, 1) := by decide +kernel
theorem dX12_agree_34 : decode cX12_agree 34 = .ok (.getfield 398, 3) := by decide +kernel
theorem dX12_agree_37 : decode cX12_agree 37 = .ok (.ifCond .ne 5, 3) := by decide +kernel
theorem dX12_agree_40 : decode cX12_agree 40 = .ok (.iconst (-1), 1) := by decide +kernel
theorem dX12_agree_41 : decode cX12_agree 41 = .ok (.ireturn, 1) := by decide +kernel
theorem dX12_agree_42 : decode cX12_agree 42 = .ok (.iload_n 2, 1) := by decide +kernel
theorem dX12_agree_43 : decode cX12_agree 43 = .ok (.iconst 1, 1) := by decide +kernel
theorem dX12_agree_44 : decode cX12_agree 44 = .ok (.if_icmp .ne 10, 3) := by decide +kernel
theorem dX12_agree_47 : decode cX12_agree 47 = .ok (.aload_n 0, 1) := by decide +kernel
theorem dX12_agree_48 : decode cX12_agree 48 = .ok (.getfield 401, 3) := by decide +kernel
theorem dX12_agree_51 : decode cX12_agree 51 = .ok (.goto 43, 3) := by decide +kernel
theorem dX12_agree_54 : decode cX12_agree 54 = .ok (.iload_n 2, 1) := by decide +kernel
theorem dX12_agree_55 : decode cX12_agree 55 = .ok (.iconst 2, 1) := by decide +kernel
theorem dX12_agree_56 : decode cX12_agree 56 = .ok (.if_icmp .ne 10, 3) := by decide +kernel
theorem dX12_agree_59 : decode cX12_agree 59 = .ok (.aload_n 0, 1) := by decide +kernel
theorem dX12_agree_60 : decode cX12_agree 60 = .ok (.getfield 413, 3) := by decide +kernel
theorem dX12_agree_63 : decode cX12_agree 63 = .ok (.goto 31, 3) := by decide +kernel
theorem dX12_agree_66 : decode cX12_agree 66 = .ok (.iload_n 2, 1) := by decide +kernel
theorem dX12_agree_67 : decode cX12_agree 67 = .ok (.iconst 3, 1) := by decide +kernel
theorem dX12_agree_68 : decode cX12_agree 68 = .ok (.if_icmp .ne 10, 3) := by decide +kernel
theorem dX12_agree_71 : decode cX12_agree 71 = .ok (.aload_n 0, 1) := by decide +kernel
theorem dX12_agree_72 : decode cX12_agree 72 = .ok (.getfield 404, 3) := by decide +kernel
theorem dX12_agree_75 : decode cX12_agree 75 = .ok (.goto 19, 3) := by decide +kernel
theorem dX12_agree_78 : decode cX12_agree 78 = .ok (.iload_n 2, 1) := by decide +kernel
theorem dX12_agree_79 : decode cX12_agree 79 = .ok (.iconst 4, 1) := by decide +kernel
theorem dX12_agree_80 : decode cX12_agree 80 = .ok (.if_icmp .ne 10, 3) := by decide +kernel
theorem dX12_agree_83 : decode cX12_agree 83 = .ok (.aload_n 0, 1) := by decide +kernel
theorem dX12_agree_84 : decode cX12_agree 84 = .ok (.getfield 407, 3) := by decide +kernel
theorem dX12_agree_87 : decode cX12_agree 87 = .ok (.goto 7, 3) := by decide +kernel
theorem dX12_agree_90 : decode cX12_agree 90 = .ok (.aload_n 0, 1) := by decide +kernel
theorem dX12_agree_91 : decode cX12_agree 91 = .ok (.getfield 410, 3) := by decide +kernel
theorem dX12_agree_94 : decode cX12_agree 94 = .ok (.ireturn, 1) := by decide +kernel
theorem dX12_tells_0 : decode cX12_tells 0 = .ok (.iload_n 1, 1) := by decide +kernel
theorem dX12_tells_1 : decode cX12_tells 1 = .ok (.invokestatic 132, 3) := by decide +kernel
theorem dX12_tells_4 : decode cX12_tells 4 = .ok (.ifCond .ne 5, 3) := by decide +kernel
theorem dX12_tells_7 : decode cX12_tells 7 = .ok (.iconst (-1), 1) := by decide +kernel
theorem dX12_tells_8 : decode cX12_tells 8 = .ok (.ireturn, 1) := by decide +kernel
theorem dX12_tells_9 : decode cX12_tells 9 = .ok (.iconst (-1), 1) := by decide +kernel
theorem dX12_tells_10 : decode cX12_tells 10 = .ok (.istore_n 2, 1) := by decide +kernel
theorem dX12_tells_11 : decode cX12_tells 11 = .ok (.iconst (-1), 1) := by decide +kernel
theorem dX12_tells_12 : decode cX12_tells 12 = .ok (.istore_n 3, 1) := by decide +kernel
theorem dX12_tells_13 : decode cX12_tells 13 = .ok (.iconst 0, 1) := by decide +kernel
theorem dX12_tells_14 : decode cX12_tells 14 = .ok (.istore 4, 2) := by decide +kernel
theorem dX12_tells_16 : decode cX12_tells 16 = .ok (.iload 4, 2) := by decide +kernel
theorem dX12_tells_18 : decode cX12_tells 18 = .ok (.aload_n 0, 1) := by decide +kernel
theorem dX12_tells_19 : decode cX12_tells 19 = .ok (.getfield 20, 3) := by decide +kernel
theorem dX12_tells_22 : decode cX12_tells 22 = .ok (.sipush 188, 3) := by decide +kernel
theorem dX12_tells_25 : decode cX12_tells 25 = .ok (.iaload, 1) := by decide +kernel
theorem dX12_tells_26 : decode cX12_tells 26 = .ok (.if_icmp .ge 35, 3) := by decide +kernel
theorem dX12_tells_29 : decode cX12_tells 29 = .ok (.aload_n 0, 1) := by decide +kernel
theorem dX12_tells_30 : decode cX12_tells 30 = .ok (.iload_n 1, 1) := by decide +kernel
theorem dX12_tells_31 : decode cX12_tells 31 = .ok (.iload 4, 2) := by decide +kernel
theorem dX12_tells_33 : decode cX12_tells 33 = .ok (.invokevirtual 416, 3) := by decide +kernel
theorem dX12_tells_36 : decode cX12_tells 36 = .ok (.aload_n 0, 1) := by decide +kernel
theorem dX12_tells_37 : decode cX12_tells 37 = .ok (.getfield 398, 3) := by decide +kernel
theorem dX12_tells_40 : decode cX12_tells 40 = .ok (.iload_n 3, 1) := by decide +kernel
theorem dX12_tells_41 : decode cX12_tells 41 = .ok (.if_icmp .gt 6, 3) := by decide +kernel
theorem dX12_tells_44 : decode cX12_tells 44 = .ok (.goto 11, 3) := by decide +kernel
theorem dX12_tells_47 : decode cX12_tells 47 = .ok (.iload 4, 2) := by decide +kernel
theorem dX12_tells_49 : decode cX12_tells 49 = .ok (.istore_n 2, 1) := by decide +kernel
theorem dX12_tells_50 : decode cX12_tells 50 = .ok (.aload_n 0, 1) := by decide +kernel
theorem dX12_tells_51 : decode cX12_tells 51 = .ok (.getfield 398, 3) := by decide +kernel
theorem dX12_tells_54 : decode cX12_tells 54 = .ok (.istore_n 3, 1) := by decide +kernel
theorem dX12_tells_55 : decode cX12_tells 55 = .ok (.iinc 4 1, 3) := by decide +kernel
theorem dX12_tells_58 : decode cX12_tells 58 = .ok (.goto (-42), 3) := by decide +kernel
theorem dX12_tells_61 : decode cX12_tells 61 = .ok (.iload_n 2, 1) := by decide +kernel
theorem dX12_tells_62 : decode cX12_tells 62 = .ok (.ireturn, 1) := by decide +kernel
theorem dX12_isHigh_0 : decode cX12_isHigh 0 = .ok (.iload_n 1, 1) := by decide +kernel
theorem dX12_isHigh_1 : decode cX12_isHigh 1 = .ok (.bipush 60, 2) := by decide +kernel
theorem dX12_isHigh_3 : decode cX12_isHigh 3 = .ok (.sipush 1379, 3) := by decide +kernel
theorem dX12_isHigh_6 : decode cX12_isHigh 6 = .ok (.invokestatic 113, 3) := by decide +kernel
theorem dX12_isHigh_9 : decode cX12_isHigh 9 = .ok (.ifCond .ne 5, 3) := by decide +kernel
theorem dX12_isHigh_12 : decode cX12_isHigh 12 = .ok (.iconst 0, 1) := by decide +kernel
theorem dX12_isHigh_13 : decode cX12_isHigh 13 = .ok (.ireturn, 1) := by decide +kernel
theorem dX12_isHigh_14 : decode cX12_isHigh 14 = .ok (.iconst 1, 1) := by decide +kernel
theorem dX12_isHigh_15 : decode cX12_isHigh 15 = .ok (.istore_n 2, 1) := by decide +kernel
theorem dX12_isHigh_16 : decode cX12_isHigh 16 = .ok (.iconst 1, 1) := by decide +kernel
theorem dX12_isHigh_17 : decode cX12_isHigh 17 = .ok (.istore_n 3, 1) := by decide +kernel
theorem dX12_isHigh_18 : decode cX12_isHigh 18 = .ok (.iload_n 3, 1) := by decide +kernel
theorem dX12_isHigh_19 : decode cX12_isHigh 19 = .ok (.bipush 60, 2) := by decide +kernel
theorem dX12_isHigh_21 : decode cX12_isHigh 21 = .ok (.if_icmp .gt 53, 3) := by decide +kernel
theorem dX12_isHigh_24 : decode cX12_isHigh 24 = .ok (.iload_n 2, 1) := by decide +kernel
theorem dX12_isHigh_25 : decode cX12_isHigh 25 = .ok (.ifCond .eq 41, 3) := by decide +kernel
theorem dX12_isHigh_28 : decode cX12_isHigh 28 = .ok (.aload_n 0, 1) := by decide +kernel
theorem dX12_isHigh_29 : decode cX12_isHigh 29 = .ok (.getfield 100, 3) := by decide +kernel
theorem dX12_isHigh_32 : decode cX12_isHigh 32 = .ok (.iload_n 1, 1) := by decide +kernel
theorem dX12_isHigh_33 : decode cX12_isHigh 33 = .ok (.iaload, 1) := by decide +kernel
theorem dX12_isHigh_34 : decode cX12_isHigh 34 = .ok (.aload_n 0, 1) := by decide +kernel
theorem dX12_isHigh_35 : decode cX12_isHigh 35 = .ok (.getfield 100, 3) := by decide +kernel
theorem dX12_isHigh_38 : decode cX12_isHigh 38 = .ok (.iload_n 1, 1) := by decide +kernel
theorem dX12_isHigh_39 : decode cX12_isHigh 39 = .ok (.iload_n 3, 1) := by decide +kernel
theorem dX12_isHigh_40 : decode cX12_isHigh 40 = .ok (.isub, 1) := by decide +kernel
theorem dX12_isHigh_41 : decode cX12_isHigh 41 = .ok (.iaload, 1) := by decide +kernel
theorem dX12_isHigh_42 : decode cX12_isHigh 42 = .ok (.if_icmp .le 24, 3) := by decide +kernel
theorem dX12_isHigh_45 : decode cX12_isHigh 45 = .ok (.aload_n 0, 1) := by decide +kernel
theorem dX12_isHigh_46 : decode cX12_isHigh 46 = .ok (.getfield 100, 3) := by decide +kernel
theorem dX12_isHigh_49 : decode cX12_isHigh 49 = .ok (.iload_n 1, 1) := by decide +kernel
theorem dX12_isHigh_50 : decode cX12_isHigh 50 = .ok (.iaload, 1) := by decide +kernel
theorem dX12_isHigh_51 : decode cX12_isHigh 51 = .ok (.aload_n 0, 1) := by decide +kernel
theorem dX12_isHigh_52 : decode cX12_isHigh 52 = .ok (.getfield 100, 3) := by decide +kernel
theorem dX12_isHigh_55 : decode cX12_isHigh 55 = .ok (.iload_n 1, 1) := by decide +kernel
theorem dX12_isHigh_56 : decode cX12_isHigh 56 = .ok (.iload_n 3, 1) := by decide +kernel
theorem dX12_isHigh_57 : decode cX12_isHigh 57 = .ok (.iadd, 1) := by decide +kernel
theorem dX12_isHigh_58 : decode cX12_isHigh 58 = .ok (.iaload, 1) := by decide +kernel
theorem dX12_isHigh_59 : decode cX12_isHigh 59 = .ok (.if_icmp .lt 7, 3) := by decide +kernel
theorem dX12_isHigh_62 : decode cX12_isHigh 62 = .ok (.iconst 1, 1) := by decide +kernel
theorem dX12_isHigh_63 : decode cX12_isHigh 63 = .ok (.goto 4, 3) := by decide +kernel
theorem dX12_isHigh_66 : decode cX12_isHigh 66 = .ok (.iconst 0, 1) := by decide +kernel
theorem dX12_isHigh_67 : decode cX12_isHigh 67 = .ok (.istore_n 2, 1) := by decide +kernel
theorem dX12_isHigh_68 : decode cX12_isHigh 68 = .ok (.iinc 3 1, 3) := by decide +kernel
theorem dX12_isHigh_71 : decode cX12_isHigh 71 = .ok (.goto (-53), 3) := by decide +kernel
theorem dX12_isHigh_74 : decode cX12_isHigh 74 = .ok (.iload_n 2, 1) := by decide +kernel
theorem dX12_isHigh_75 : decode cX12_isHigh 75 = .ok (.ireturn, 1) := by decide +kernel
theorem dX12_highs_0 : decode cX12_highs 0 = .ok (.aload_n 0, 1) := by decide +kernel
theorem dX12_highs_1 : decode cX12_highs 1 = .ok (.invokevirtual 321, 3) := by decide +kernel
theorem dX12_highs_4 : decode cX12_highs 4 = .ok (.iconst 0, 1) := by decide +kernel
theorem dX12_highs_5 : decode cX12_highs 5 = .ok (.istore_n 1, 1) := by decide +kernel
theorem dX12_highs_6 : decode cX12_highs 6 = .ok (.iload_n 1, 1) := by decide +kernel
theorem dX12_highs_7 : decode cX12_highs 7 = .ok (.sipush 1440, 3) := by decide +kernel
theorem dX12_highs_10 : decode cX12_highs 10 = .ok (.if_icmp .ge 21, 3) := by decide +kernel
theorem dX12_highs_13 : decode cX12_highs 13 = .ok (.aload_n 0, 1) := by decide +kernel
theorem dX12_highs_14 : decode cX12_highs 14 = .ok (.getfield 100, 3) := by decide +kernel
theorem dX12_highs_17 : decode cX12_highs 17 = .ok (.iload_n 1, 1) := by decide +kernel
theorem dX12_highs_18 : decode cX12_highs 18 = .ok (.aload_n 0, 1) := by decide +kernel
theorem dX12_highs_19 : decode cX12_highs 19 = .ok (.iconst 0, 1) := by decide +kernel
theorem dX12_highs_20 : decode cX12_highs 20 = .ok (.iload_n 1, 1) := by decide +kernel
theorem dX12_highs_21 : decode cX12_highs 21 = .ok (.invokevirtual 331, 3) := by decide +kernel
theorem dX12_highs_24 : decode cX12_highs 24 = .ok (.iastore, 1) := by decide +kernel
theorem dX12_highs_25 : decode cX12_highs 25 = .ok (.iinc 1 1, 3) := by decide +kernel
theorem dX12_highs_28 : decode cX12_highs 28 = .ok (.goto (-22), 3) := by decide +kernel
theorem dX12_highs_31 : decode cX12_highs 31 = .ok (.iconst (-1), 1) := by decide +kernel
theorem dX12_highs_32 : decode cX12_highs 32 = .ok (.istore_n 1, 1) := by decide +kernel
theorem dX12_highs_33 : decode cX12_highs 33 = .ok (.iconst 0, 1) := by decide +kernel
theorem dX12_highs_34 : decode cX12_highs 34 = .ok (.istore_n 2, 1) := by decide +kernel
theorem dX12_highs_35 : decode cX12_highs 35 = .ok (.iload_n 2, 1) := by decide +kernel
theorem dX12_highs_36 : decode cX12_highs 36 = .ok (.sipush 1440, 3) := by decide +kernel
theorem dX12_highs_39 : decode cX12_highs 39 = .ok (.if_icmp .ge 37, 3) := by decide +kernel
theorem dX12_highs_42 : decode cX12_highs 42 = .ok (.aload_n 0, 1) := by decide +kernel
theorem dX12_highs_43 : decode cX12_highs 43 = .ok (.iload_n 2, 1) := by decide +kernel
theorem dX12_highs_44 : decode cX12_highs 44 = .ok (.invokevirtual 420, 3) := by decide +kernel
theorem dX12_highs_47 : decode cX12_highs 47 = .ok (.ifCond .eq 5, 3) := by decide +kernel
theorem dX12_highs_50 : decode cX12_highs 50 = .ok (.iload_n 2, 1) := by decide +kernel
theorem dX12_highs_51 : decode cX12_highs 51 = .ok (.istore_n 1, 1) := by decide +kernel
theorem dX12_highs_52 : decode cX12_highs 52 = .ok (.aload_n 0, 1) := by decide +kernel
theorem dX12_highs_53 : decode cX12_highs 53 = .ok (.getfield 97, 3) := by decide +kernel
theorem dX12_highs_56 : decode cX12_highs 56 = .ok (.iload_n 2, 1) := by decide +kernel
theorem dX12_highs_57 : decode cX12_highs 57 = .ok (.iload_n 1, 1) := by decide +kernel
theorem dX12_highs_58 : decode cX12_highs 58 = .ok (.iconst (-1), 1) := by decide +kernel
theorem dX12_highs_59 : decode cX12_highs 59 = .ok (.if_icmp .ne 7, 3) := by decide +kernel
theorem dX12_highs_62 : decode cX12_highs 62 = .ok (.iconst (-1), 1) := by decide +kernel
theorem dX12_highs_63 : decode cX12_highs 63 = .ok (.goto 6, 3) := by decide +kernel
theorem dX12_highs_66 : decode cX12_highs 66 = .ok (.iload_n 2, 1) := by decide +kernel
theorem dX12_highs_67 : decode cX12_highs 67 = .ok (.iload_n 1, 1) := by decide +kernel
theorem dX12_highs_68 : decode cX12_highs 68 = .ok (.isub, 1) := by decide +kernel
theorem dX12_highs_69 : decode cX12_highs 69 = .ok (.iastore, 1) := by decide +kernel
theorem dX12_highs_70 : decode cX12_highs 70 = .ok (.iinc 2 1, 3) := by decide +kernel
theorem dX12_highs_73 : decode cX12_highs 73 = .ok (.goto (-38), 3) := by decide +kernel
theorem dX12_highs_76 : decode cX12_highs 76 = .ok (.iload_n 1, 1) := by decide +kernel
theorem dX12_highs_77 : decode cX12_highs 77 = .ok (.iconst (-1), 1) := by decide +kernel
theorem dX12_highs_78 : decode cX12_highs 78 = .ok (.if_icmp .eq 7, 3) := by decide +kernel
theorem dX12_highs_81 : decode cX12_highs 81 = .ok (.iconst 1, 1) := by decide +kernel
theorem dX12_highs_82 : decode cX12_highs 82 = .ok (.goto 4, 3) := by decide +kernel
theorem dX12_highs_85 : decode cX12_highs 85 = .ok (.iconst 0, 1) := by decide +kernel
theorem dX12_highs_86 : decode cX12_highs 86 = .ok (.ireturn, 1) := by decide +kernel
theorem dX12_rightBy_0 : decode cX12_rightBy 0 = .ok (.iconst 0, 1) := by decide +kernel
theorem dX12_rightBy_1 : decode cX12_rightBy 1 = .ok (.istore 4, 2) := by decide +kernel
theorem dX12_rightBy_3 : decode cX12_rightBy 3 = .ok (.iconst 0, 1) := by decide +kernel
theorem dX12_rightBy_4 : decode cX12_rightBy 4 = .ok (.istore 5, 2) := by decide +kernel
theorem dX12_rightBy_6 : decode cX12_rightBy 6 = .ok (.iload 5, 2) := by decide +kernel
theorem dX12_rightBy_8 : decode cX12_rightBy 8 = .ok (.sipush 1440, 3) := by decide +kernel
theorem dX12_rightBy_11 : decode cX12_rightBy 11 = .ok (.if_icmp .ge 85, 3) := by decide +kernel
theorem dX12_rightBy_14 : decode cX12_rightBy 14 = .ok (.aload_n 0, 1) := by decide +kernel
theorem dX12_rightBy_15 : decode cX12_rightBy 15 = .ok (.getfield 97, 3) := by decide +kernel
theorem dX12_rightBy_18 : decode cX12_rightBy 18 = .ok (.iload 5, 2) := by decide +kernel
theorem dX12_rightBy_20 : decode cX12_rightBy 20 = .ok (.iaload, 1) := by decide +kernel
theorem dX12_rightBy_21 : decode cX12_rightBy 21 = .ok (.iconst (-1), 1) := by decide +kernel
theorem dX12_rightBy_22 : decode cX12_rightBy 22 = .ok (.if_icmp .eq 68, 3) := by decide +kernel
theorem dX12_rightBy_25 : decode cX12_rightBy 25 = .ok (.iload 4, 2) := by decide +kernel
theorem dX12_rightBy_27 : decode cX12_rightBy 27 = .ok (.aload_n 0, 1) := by decide +kernel
theorem dX12_rightBy_28 : decode cX12_rightBy 28 = .ok (.getfield 97, 3) := by decide +kernel
theorem dX12_rightBy_31 : decode cX12_rightBy 31 = .ok (.iload 5, 2) := by decide +kernel
theorem dX12_rightBy_33 : decode cX12_rightBy 33 = .ok (.iaload, 1) := by decide +kernel
theorem dX12_rightBy_34 : decode cX12_rightBy 34 = .ok (.iload_n 1, 1) := by decide +kernel
theorem dX12_rightBy_35 : decode cX12_rightBy 35 = .ok (.if_icmp .lt 20, 3) := by decide +kernel
theorem dX12_rightBy_38 : decode cX12_rightBy 38 = .ok (.aload_n 0, 1) := by decide +kernel
theorem dX12_rightBy_39 : decode cX12_rightBy 39 = .ok (.getfield 97, 3) := by decide +kernel
theorem dX12_rightBy_42 : decode cX12_rightBy 42 = .ok (.iload 5, 2) := by decide +kernel
theorem dX12_rightBy_44 : decode cX12_rightBy 44 = .ok (.iaload, 1) := by decide +kernel
theorem dX12_rightBy_45 : decode cX12_rightBy 45 = .ok (.i2l, 1) := by decide +kernel
theorem dX12_rightBy_46 : decode cX12_rightBy 46 = .ok (.lload_n 2, 1) := by decide +kernel
theorem dX12_rightBy_47 : decode cX12_rightBy 47 = .ok (.lcmp, 1) := by decide +kernel
theorem dX12_rightBy_48 : decode cX12_rightBy 48 = .ok (.ifCond .gt 7, 3) := by decide +kernel
theorem dX12_rightBy_51 : decode cX12_rightBy 51 = .ok (.iconst 1, 1) := by decide +kernel
theorem dX12_rightBy_52 : decode cX12_rightBy 52 = .ok (.goto 4, 3) := by decide +kernel
theorem dX12_rightBy_55 : decode cX12_rightBy 55 = .ok (.iconst 0, 1) := by decide +kernel
theorem dX12_rightBy_56 : decode cX12_rightBy 56 = .ok (.aload_n 0, 1) := by decide +kernel
theorem dX12_rightBy_57 : decode cX12_rightBy 57 = .ok (.getfield 58, 3) := by decide +kernel
theorem dX12_rightBy_60 : decode cX12_rightBy 60 = .ok (.iload 5, 2) := by decide +kernel
theorem dX12_rightBy_62 : decode cX12_rightBy 62 = .ok (.iaload, 1) := by decide +kernel
theorem dX12_rightBy_63 : decode cX12_rightBy 63 = .ok (.invokestatic 304, 3) := by decide +kernel
theorem dX12_rightBy_66 : decode cX12_rightBy 66 = .ok (.aload_n 0, 1) := by decide +kernel
theorem dX12_rightBy_67 : decode cX12_rightBy 67 = .ok (.iconst 3, 1) := by decide +kernel
theorem dX12_rightBy_68 : decode cX12_rightBy 68 = .ok (.invokevirtual 283, 3) := by decide +kernel
theorem dX12_rightBy_71 : decode cX12_rightBy 71 = .ok (.if_icmp .gt 7, 3) := by decide +kernel
theorem dX12_rightBy_74 : decode cX12_rightBy 74 = .ok (.iconst 1, 1) := by decide +kernel
theorem dX12_rightBy_75 : decode cX12_rightBy 75 = .ok (.goto 4, 3) := by decide +kernel
theorem dX12_rightBy_78 : decode cX12_rightBy 78 = .ok (.iconst 0, 1) := by decide +kernel
theorem dX12_rightBy_79 : decode cX12_rightBy 79 = .ok (.if_icmp .ne 7, 3) := by decide +kernel
theorem dX12_rightBy_82 : decode cX12_rightBy 82 = .ok (.iconst 1, 1) := by decide +kernel
theorem dX12_rightBy_83 : decode cX12_rightBy 83 = .ok (.goto 4, 3) := by decide +kernel
theorem dX12_rightBy_86 : decode cX12_rightBy 86 = .ok (.iconst 0, 1) := by decide +kernel
theorem dX12_rightBy_87 : decode cX12_rightBy 87 = .ok (.iadd, 1) := by decide +kernel
theorem dX12_rightBy_88 : decode cX12_rightBy 88 = .ok (.istore 4, 2) := by decide +kernel
theorem dX12_rightBy_90 : decode cX12_rightBy 90 = .ok (.iinc 5 1, 3) := by decide +kernel
theorem dX12_rightBy_93 : decode cX12_rightBy 93 = .ok (.goto (-87), 3) := by decide +kernel
theorem dX12_rightBy_96 : decode cX12_rightBy 96 = .ok (.iload 4, 2) := by decide +kernel
theorem dX12_rightBy_98 : decode cX12_rightBy 98 = .ok (.ireturn, 1) := by decide +kernel
theorem dX12_right_0 : decode cX12_right 0 = .ok (.iload_n 1, 1) := by decide +kernel
theorem dX12_right_1 : decode cX12_right 1 = .ok (.invokestatic 280, 3) := by decide +kernel
theorem dX12_right_4 : decode cX12_right 4 = .ok (.ifCond .eq 10, 3) := by decide +kernel
theorem dX12_right_7 : decode cX12_right 7 = .ok (.iload_n 2, 1) := by decide +kernel
theorem dX12_right_8 : decode cX12_right 8 = .ok (.invokestatic 280, 3) := by decide +kernel
theorem dX12_right_11 : decode cX12_right 11 = .ok (.ifCond .ne 5, 3) := by decide +kernel
theorem dX12_right_14 : decode cX12_right 14 = .ok (.iconst (-1), 1) := by decide +kernel
theorem dX12_right_15 : decode cX12_right 15 = .ok (.ireturn, 1) := by decide +kernel
theorem dX12_right_16 : decode cX12_right 16 = .ok (.aload_n 0, 1) := by decide +kernel
theorem dX12_right_17 : decode cX12_right 17 = .ok (.invokevirtual 423, 3) := by decide +kernel
theorem dX12_right_20 : decode cX12_right 20 = .ok (.pop, 1) := by decide +kernel
theorem dX12_right_21 : decode cX12_right 21 = .ok (.aload_n 0, 1) := by decide +kernel
theorem dX12_right_22 : decode cX12_right 22 = .ok (.iload_n 1, 1) := by decide +kernel
theorem dX12_right_23 : decode cX12_right 23 = .ok (.iload_n 2, 1) := by decide +kernel
theorem dX12_right_24 : decode cX12_right 24 = .ok (.i2l, 1) := by decide +kernel
theorem dX12_right_25 : decode cX12_right 25 = .ok (.invokevirtual 426, 3) := by decide +kernel
theorem dX12_right_28 : decode cX12_right 28 = .ok (.ireturn, 1) := by decide +kernel
theorem dX12_mark_0 : decode cX12_mark 0 = .ok (.iload_n 1, 1) := by decide +kernel
theorem dX12_mark_1 : decode cX12_mark 1 = .ok (.iconst 0, 1) := by decide +kernel
theorem dX12_mark_2 : decode cX12_mark 2 = .ok (.sipush 720, 3) := by decide +kernel
theorem dX12_mark_5 : decode cX12_mark 5 = .ok (.invokestatic 113, 3) := by decide +kernel
theorem dX12_mark_8 : decode cX12_mark 8 = .ok (.ifCond .eq 10, 3) := by decide +kernel
theorem dX12_mark_11 : decode cX12_mark 11 = .ok (.aload_n 0, 1) := by decide +kernel
theorem dX12_mark_12 : decode cX12_mark 12 = .ok (.invokevirtual 423, 3) := by decide +kernel
theorem dX12_mark_15 : decode cX12_mark 15 = .ok (.ifCond .ne 5, 3) := by decide +kernel
theorem dX12_mark_18 : decode cX12_mark 18 = .ok (.iconst (-1), 1) := by decide +kernel
theorem dX12_mark_19 : decode cX12_mark 19 = .ok (.ireturn, 1) := by decide +kernel
theorem dX12_mark_20 : decode cX12_mark 20 = .ok (.iconst 0, 1) := by decide +kernel
theorem dX12_mark_21 : decode cX12_mark 21 = .ok (.istore_n 2, 1) := by decide +kernel
theorem dX12_mark_22 : decode cX12_mark 22 = .ok (.iconst (-1), 1) := by decide +kernel
theorem dX12_mark_23 : decode cX12_mark 23 = .ok (.istore_n 3, 1) := by decide +kernel
theorem dX12_mark_24 : decode cX12_mark 24 = .ok (.iconst 0, 1) := by decide +kernel
theorem dX12_mark_25 : decode cX12_mark 25 = .ok (.istore 4, 2) := by decide +kernel
theorem dX12_mark_27 : decode cX12_mark 27 = .ok (.iload 4, 2) := by decide +kernel
theorem dX12_mark_29 : decode cX12_mark 29 = .ok (.sipush 720, 3) := by decide +kernel
theorem dX12_mark_32 : decode cX12_mark 32 = .ok (.if_icmp .ge 37, 3) := by decide +kernel
theorem dX12_mark_35 : decode cX12_mark 35 = .ok (.aload_n 0, 1) := by decide +kernel
theorem dX12_mark_36 : decode cX12_mark 36 = .ok (.iload 4, 2) := by decide +kernel
theorem dX12_mark_38 : decode cX12_mark 38 = .ok (.iload 4, 2) := by decide +kernel
theorem dX12_mark_40 : decode cX12_mark 40 = .ok (.iload_n 1, 1) := by decide +kernel
theorem dX12_mark_41 : decode cX12_mark 41 = .ok (.iadd, 1) := by decide +kernel
theorem dX12_mark_42 : decode cX12_mark 42 = .ok (.i2l, 1) := by decide +kernel
theorem dX12_mark_43 : decode cX12_mark 43 = .ok (.invokevirtual 426, 3) := by decide +kernel
theorem dX12_mark_46 : decode cX12_mark 46 = .ok (.istore 5, 2) := by decide +kernel
theorem dX12_mark_48 : decode cX12_mark 48 = .ok (.iload 5, 2) := by decide +kernel
theorem dX12_mark_50 : decode cX12_mark 50 = .ok (.iload_n 3, 1) := by decide +kernel
theorem dX12_mark_51 : decode cX12_mark 51 = .ok (.if_icmp .gt 6, 3) := by decide +kernel
theorem dX12_mark_54 : decode cX12_mark 54 = .ok (.goto 9, 3) := by decide +kernel
theorem dX12_mark_57 : decode cX12_mark 57 = .ok (.iload 4, 2) := by decide +kernel
theorem dX12_mark_59 : decode cX12_mark 59 = .ok (.istore_n 2, 1) := by decide +kernel
theorem dX12_mark_60 : decode cX12_mark 60 = .ok (.iload 5, 2) := by decide +kernel
theorem dX12_mark_62 : decode cX12_mark 62 = .ok (.istore_n 3, 1) := by decide +kernel
theorem dX12_mark_63 : decode cX12_mark 63 = .ok (.iinc 4 1, 3) := by decide +kernel
theorem dX12_mark_66 : decode cX12_mark 66 = .ok (.goto (-39), 3) := by decide +kernel
theorem dX12_mark_69 : decode cX12_mark 69 = .ok (.iload_n 2, 1) := by decide +kernel
theorem dX12_mark_70 : decode cX12_mark 70 = .ok (.ireturn, 1) := by decide +kernel
theorem dX12_goes_0 : decode cX12_goes 0 = .ok (.aload_n 0, 1) := by decide +kernel
theorem dX12_goes_1 : decode cX12_goes 1 = .ok (.getfield 107, 3) := by decide +kernel
theorem dX12_goes_4 : decode cX12_goes 4 = .ok (.iload_n 1, 1) := by decide +kernel
theorem dX12_goes_5 : decode cX12_goes 5 = .ok (.ifCond .lt 22, 3) := by decide +kernel
theorem dX12_goes_8 : decode cX12_goes 8 = .ok (.iload_n 1, 1) := by decide +kernel
theorem dX12_goes_9 : decode cX12_goes 9 = .ok (.bipush 50, 2) := by decide +kernel
theorem dX12_goes_11 : decode cX12_goes 11 = .ok (.if_icmp .ge 16, 3) := by decide +kernel
theorem dX12_goes_14 : decode cX12_goes 14 = .ok (.aload_n 0, 1) := by decide +kernel
theorem dX12_goes_15 : decode cX12_goes 15 = .ok (.iload_n 1, 1) := by decide +kernel
theorem dX12_goes_16 : decode cX12_goes 16 = .ok (.invokevirtual 343, 3) := by decide +kernel
theorem dX12_goes_19 : decode cX12_goes 19 = .ok (.ifCond .ne 8, 3) := by decide +kernel
theorem dX12_goes_22 : decode cX12_goes 22 = .ok (.bipush 51, 2) := by decide +kernel
theorem dX12_goes_24 : decode cX12_goes 24 = .ok (.goto 4, 3) := by decide +kernel
theorem dX12_goes_27 : decode cX12_goes 27 = .ok (.iload_n 1, 1) := by decide +kernel
theorem dX12_goes_28 : decode cX12_goes 28 = .ok (.dup2, 1) := by decide +kernel
theorem dX12_goes_29 : decode cX12_goes 29 = .ok (.laload, 1) := by decide +kernel
theorem dX12_goes_30 : decode cX12_goes 30 = .ok (.lload_n 2, 1) := by decide +kernel
theorem dX12_goes_31 : decode cX12_goes 31 = .ok (.ladd, 1) := by decide +kernel
theorem dX12_goes_32 : decode cX12_goes 32 = .ok (.lastore, 1) := by decide +kernel
theorem dX12_goes_33 : decode cX12_goes 33 = .ok (.return_, 1) := by decide +kernel
theorem dX12_lost_0 : decode cX12_lost 0 = .ok (.iload_n 1, 1) := by decide +kernel
theorem dX12_lost_1 : decode cX12_lost 1 = .ok (.invokestatic 334, 3) := by decide +kernel
theorem dX12_lost_4 : decode cX12_lost 4 = .ok (.ifCond .eq 48, 3) := by decide +kernel
theorem dX12_lost_7 : decode cX12_lost 7 = .ok (.iload_n 2, 1) := by decide +kernel
theorem dX12_lost_8 : decode cX12_lost 8 = .ok (.invokestatic 364, 3) := by decide +kernel
theorem dX12_lost_11 : decode cX12_lost 11 = .ok (.ifCond .eq 41, 3) := by decide +kernel
theorem dX12_lost_14 : decode cX12_lost 14 = .ok (.iload_n 3, 1) := by decide +kernel
theorem dX12_lost_15 : decode cX12_lost 15 = .ok (.iconst 0, 1) := by decide +kernel
theorem dX12_lost_16 : decode cX12_lost 16 = .ok (.bipush 6, 2) := by decide +kernel
theorem dX12_lost_18 : decode cX12_lost 18 = .ok (.invokestatic 113, 3) := by decide +kernel
theorem dX12_lost_21 : decode cX12_lost 21 = .ok (.ifCond .eq 31, 3) := by decide +kernel
theorem dX12_lost_24 : decode cX12_lost 24 = .ok (.iload 4, 2) := by decide +kernel
theorem dX12_lost_26 : decode cX12_lost 26 = .ok (.iconst 0, 1) := by decide +kernel
theorem dX12_lost_27 : decode cX12_lost 27 = .ok (.bipush 51, 2) := by decide +kernel
theorem dX12_lost_29 : decode cX12_lost 29 = .ok (.invokestatic 113, 3) := by decide +kernel
theorem dX12_lost_32 : decode cX12_lost 32 = .ok (.ifCond .eq 20, 3) := by decide +kernel
theorem dX12_lost_35 : decode cX12_lost 35 = .ok (.iload_n 2, 1) := by decide +kernel
theorem dX12_lost_36 : decode cX12_lost 36 = .ok (.iload_n 3, 1) := by decide +kernel
theorem dX12_lost_37 : decode cX12_lost 37 = .ok (.iadd, 1) := by decide +kernel
theorem dX12_lost_38 : decode cX12_lost 38 = .ok (.sipush 144, 3) := by decide +kernel
theorem dX12_lost_41 : decode cX12_lost 41 = .ok (.if_icmp .ge 11, 3) := by decide +kernel
theorem dX12_lost_44 : decode cX12_lost 44 = .ok (.aload_n 0, 1) := by decide +kernel
theorem dX12_lost_45 : decode cX12_lost 45 = .ok (.iload_n 1, 1) := by decide +kernel
theorem dX12_lost_46 : decode cX12_lost 46 = .ok (.invokevirtual 343, 3) := by decide +kernel
theorem dX12_lost_49 : decode cX12_lost 49 = .ok (.ifCond .ne 5, 3) := by decide +kernel
theorem dX12_lost_52 : decode cX12_lost 52 = .ok (.iconst (-1), 1) := by decide +kernel
theorem dX12_lost_53 : decode cX12_lost 53 = .ok (.ireturn, 1) := by decide +kernel
theorem dX12_lost_54 : decode cX12_lost 54 = .ok (.aload_n 0, 1) := by decide +kernel
theorem dX12_lost_55 : decode cX12_lost 55 = .ok (.invokevirtual 321, 3) := by decide +kernel
theorem dX12_lost_58 : decode cX12_lost 58 = .ok (.iconst 0, 1) := by decide +kernel
theorem dX12_lost_59 : decode cX12_lost 59 = .ok (.istore 5, 2) := by decide +kernel
theorem dX12_lost_61 : decode cX12_lost 61 = .ok (.iload 5, 2) := by decide +kernel
theorem dX12_lost_63 : decode cX12_lost 63 = .ok (.bipush 52, 2) := by decide +kernel
theorem dX12_lost_65 : decode cX12_lost 65 = .ok (.if_icmp .ge 27, 3) := by decide +kernel
theorem dX12_lost_68 : decode cX12_lost 68 = .ok (.aload_n 0, 1) := by decide +kernel
theorem dX12_lost_69 : decode cX12_lost 69 = .ok (.getfield 103, 3) := by decide +kernel
theorem dX12_lost_72 : decode cX12_lost 72 = .ok (.iload 5, 2) := by decide +kernel
theorem dX12_lost_74 : decode cX12_lost 74 = .ok (.iload 5, 2) := by decide +kernel
theorem dX12_lost_76 : decode cX12_lost 76 = .ok (.iload_n 1, 1) := by decide +kernel
theorem dX12_lost_77 : decode cX12_lost 77 = .ok (.if_icmp .ne 7, 3) := by decide +kernel
theorem dX12_lost_80 : decode cX12_lost 80 = .ok (.lconst 1, 1) := by decide +kernel
theorem dX12_lost_81 : decode cX12_lost 81 = .ok (.goto 4, 3) := by decide +kernel
theorem dX12_lost_84 : decode cX12_lost 84 = .ok (.lconst 0, 1) := by decide +kernel
theorem dX12_lost_85 : decode cX12_lost 85 = .ok (.lastore, 1) := by decide +kernel
theorem dX12_lost_86 : decode cX12_lost 86 = .ok (.iinc 5 1, 3) := by decide +kernel
theorem dX12_lost_89 : decode cX12_lost 89 = .ok (.goto (-28), 3) := by decide +kernel
theorem dX12_lost_92 : decode cX12_lost 92 = .ok (.lconst 1, 1) := by decide +kernel
theorem dX12_lost_93 : decode cX12_lost 93 = .ok (.lstore 5, 2) := by decide +kernel
theorem dX12_lost_95 : decode cX12_lost 95 = .ok (.iconst 0, 1) := by decide +kernel
theorem dX12_lost_96 : decode cX12_lost 96 = .ok (.istore 7, 2) := by decide +kernel
theorem dX12_lost_98 : decode cX12_lost 98 = .ok (.iload 7, 2) := by decide +kernel
theorem dX12_lost_100 : decode cX12_lost 100 = .ok (.iload_n 3, 1) := by decide +kernel
theorem dX12_lost_101 : decode cX12_lost 101 = .ok (.if_icmp .ge 295, 3) := by decide +kernel
theorem dX12_lost_104 : decode cX12_lost 104 = .ok (.iconst 0, 1) := by decide +kernel
theorem dX12_lost_105 : decode cX12_lost 105 = .ok (.istore 8, 2) := by decide +kernel
theorem dX12_lost_107 : decode cX12_lost 107 = .ok (.iload 8, 2) := by decide +kernel
theorem dX12_lost_109 : decode cX12_lost 109 = .ok (.bipush 52, 2) := by decide +kernel
theorem dX12_lost_111 : decode cX12_lost 111 = .ok (.if_icmp .ge 38, 3) := by decide +kernel
theorem dX12_lost_114 : decode cX12_lost 114 = .ok (.aload_n 0, 1) := by decide +kernel
theorem dX12_lost_115 : decode cX12_lost 115 = .ok (.getfield 107, 3) := by decide +kernel
theorem dX12_lost_118 : decode cX12_lost 118 = .ok (.iload 8, 2) := by decide +kernel
theorem dX12_lost_120 : decode cX12_lost 120 = .ok (.iload 8, 2) := by decide +kernel
theorem dX12_lost_122 : decode cX12_lost 122 = .ok (.bipush 50, 2) := by decide +kernel
theorem dX12_lost_124 : decode cX12_lost 124 = .ok (.if_icmp .ge 7, 3) := by decide +kernel
theorem dX12_lost_127 : decode cX12_lost 127 = .ok (.lconst 0, 1) := by decide +kernel
theorem dX12_lost_128 : decode cX12_lost 128 = .ok (.goto 14, 3) := by decide +kernel
theorem dX12_lost_131 : decode cX12_lost 131 = .ok (.aload_n 0, 1) := by decide +kernel
theorem dX12_lost_132 : decode cX12_lost 132 = .ok (.getfield 103, 3) := by decide +kernel
theorem dX12_lost_135 : decode cX12_lost 135 = .ok (.iload 8, 2) := by decide +kernel
theorem dX12_lost_137 : decode cX12_lost 137 = .ok (.laload, 1) := by decide +kernel
theorem dX12_lost_138 : decode cX12_lost 138 = .ok (.ldc2_w 430, 3) := by decide +kernel
theorem dX12_lost_141 : decode cX12_lost 141 = .ok (.lmul, 1) := by decide +kernel
theorem dX12_lost_142 : decode cX12_lost 142 = .ok (.lastore, 1) := by decide +kernel
theorem dX12_lost_143 : decode cX12_lost 143 = .ok (.iinc 8 1, 3) := by decide +kernel
theorem dX12_lost_146 : decode cX12_lost 146 = .ok (.goto (-39), 3) := by decide +kernel
theorem dX12_lost_149 : decode cX12_lost 149 = .ok (.iconst 0, 1) := by decide +kernel
theorem dX12_lost_150 : decode cX12_lost 150 = .ok (.istore 8, 2) := by decide +kernel
theorem dX12_lost_152 : decode cX12_lost 152 = .ok (.iload 8, 2) := by decide +kernel
theorem dX12_lost_154 : decode cX12_lost 154 = .ok (.bipush 50, 2) := by decide +kernel
theorem dX12_lost_156 : decode cX12_lost 156 = .ok (.if_icmp .ge 196, 3) := by decide +kernel
theorem dX12_lost_159 : decode cX12_lost 159 = .ok (.aload_n 0, 1) := by decide +kernel
theorem dX12_lost_160 : decode cX12_lost 160 = .ok (.getfield 103, 3) := by decide +kernel
theorem dX12_lost_163 : decode cX12_lost 163 = .ok (.iload 8, 2) := by decide +kernel
theorem dX12_lost_165 : decode cX12_lost 165 = .ok (.laload, 1) := by decide +kernel
theorem dX12_lost_166 : decode cX12_lost 166 = .ok (.lconst 0, 1) := by decide +kernel
theorem dX12_lost_167 : decode cX12_lost 167 = .ok (.lcmp, 1) := by decide +kernel
theorem dX12_lost_168 : decode cX12_lost 168 = .ok (.ifCond .ne 6, 3) := by decide +kernel
theorem dX12_lost_171 : decode cX12_lost 171 = .ok (.goto 175, 3) := by decide +kernel
theorem dX12_lost_174 : decode cX12_lost 174 = .ok (.aload_n 0, 1) := by decide +kernel
theorem dX12_lost_175 : decode cX12_lost 175 = .ok (.aload_n 0, 1) := by decide +kernel
theorem dX12_lost_176 : decode cX12_lost 176 = .ok (.iload 8, 2) := by decide +kernel
theorem dX12_lost_178 : decode cX12_lost 178 = .ok (.invokevirtual 343, 3) := by decide +kernel
theorem dX12_lost_181 : decode cX12_lost 181 = .ok (.iload_n 2, 1) := by decide +kernel
theorem dX12_lost_182 : decode cX12_lost 182 = .ok (.iload 7, 2) := by decide +kernel
theorem dX12_lost_184 : decode cX12_lost 184 = .ok (.iadd, 1) := by decide +kernel
theorem dX12_lost_185 : decode cX12_lost 185 = .ok (.iconst 0, 1) := by decide +kernel
theorem dX12_lost_186 : decode cX12_lost 186 = .ok (.invokestatic 351, 3) := by decide +kernel
theorem dX12_lost_189 : decode cX12_lost 189 = .ok (.invokevirtual 340, 3) := by decide +kernel
theorem dX12_lost_192 : decode cX12_lost 192 = .ok (.istore 9, 2) := by decide +kernel
theorem dX12_lost_194 : decode cX12_lost 194 = .ok (.iload 9, 2) := by decide +kernel
theorem dX12_lost_196 : decode cX12_lost 196 = .ok (.invokestatic 304, 3) := by decide +kernel
theorem dX12_lost_199 : decode cX12_lost 199 = .ok (.bipush 10, 2) := by decide +kernel
theorem dX12_lost_201 : decode cX12_lost 201 = .ok (.idiv, 1) := by decide +kernel
theorem dX12_lost_202 : decode cX12_lost 202 = .ok (.bipush 100, 2) := by decide +kernel
theorem dX12_lost_204 : decode cX12_lost 204 = .ok (.if_icmp .le 8, 3) := by decide +kernel
theorem dX12_lost_207 : decode cX12_lost 207 = .ok (.bipush 100, 2) := by decide +kernel
theorem dX12_lost_209 : decode cX12_lost 209 = .ok (.goto 11, 3) := by decide +kernel
theorem dX12_lost_212 : decode cX12_lost 212 = .ok (.iload 9, 2) := by decide +kernel
theorem dX12_lost_214 : decode cX12_lost 214 = .ok (.invokestatic 304, 3) := by decide +kernel
theorem dX12_lost_217 : decode cX12_lost 217 = .ok (.bipush 10, 2) := by decide +kernel
theorem dX12_lost_219 : decode cX12_lost 219 = .ok (.idiv, 1) := by decide +kernel
theorem dX12_lost_220 : decode cX12_lost 220 = .ok (.istore 10, 2) := by decide +kernel
theorem dX12_lost_222 : decode cX12_lost 222 = .ok (.iload 8, 2) := by decide +kernel
theorem dX12_lost_224 : decode cX12_lost 224 = .ok (.iload 9, 2) := by decide +kernel
theorem dX12_lost_226 : decode cX12_lost 226 = .ok (.ifCond .le 7, 3) := by decide +kernel
theorem dX12_lost_229 : decode cX12_lost 229 = .ok (.iconst 1, 1) := by decide +kernel
theorem dX12_lost_230 : decode cX12_lost 230 = .ok (.goto 4, 3) := by decide +kernel
theorem dX12_lost_233 : decode cX12_lost 233 = .ok (.iconst 2, 1) := by decide +kernel
theorem dX12_lost_234 : decode cX12_lost 234 = .ok (.invokestatic 348, 3) := by decide +kernel
theorem dX12_lost_237 : decode cX12_lost 237 = .ok (.istore 11, 2) := by decide +kernel
theorem dX12_lost_239 : decode cX12_lost 239 = .ok (.aload_n 0, 1) := by decide +kernel
theorem dX12_lost_240 : decode cX12_lost 240 = .ok (.iload 11, 2) := by decide +kernel
theorem dX12_lost_242 : decode cX12_lost 242 = .ok (.iconst (-1), 1) := by decide +kernel
theorem dX12_lost_243 : decode cX12_lost 243 = .ok (.if_icmp .ne 8, 3) := by decide +kernel
theorem dX12_lost_246 : decode cX12_lost 246 = .ok (.bipush 50, 2) := by decide +kernel
theorem dX12_lost_248 : decode cX12_lost 248 = .ok (.goto 5, 3) := by decide +kernel
theorem dX12_lost_251 : decode cX12_lost 251 = .ok (.iload 11, 2) := by decide +kernel
theorem dX12_lost_253 : decode cX12_lost 253 = .ok (.aload_n 0, 1) := by decide +kernel
theorem dX12_lost_254 : decode cX12_lost 254 = .ok (.getfield 103, 3) := by decide +kernel
theorem dX12_lost_257 : decode cX12_lost 257 = .ok (.iload 8, 2) := by decide +kernel
theorem dX12_lost_259 : decode cX12_lost 259 = .ok (.laload, 1) := by decide +kernel
theorem dX12_lost_260 : decode cX12_lost 260 = .ok (.ldc2_w 432, 3) := by decide +kernel
theorem dX12_lost_263 : decode cX12_lost 263 = .ok (.lmul, 1) := by decide +kernel
theorem dX12_lost_264 : decode cX12_lost 264 = .ok (.iload 10, 2) := by decide +kernel
theorem dX12_lost_266 : decode cX12_lost 266 = .ok (.i2l, 1) := by decide +kernel
theorem dX12_lost_267 : decode cX12_lost 267 = .ok (.lmul, 1) := by decide +kernel
theorem dX12_lost_268 : decode cX12_lost 268 = .ok (.invokevirtual 434, 3) := by decide +kernel
theorem dX12_lost_271 : decode cX12_lost 271 = .ok (.aload_n 0, 1) := by decide +kernel
theorem dX12_lost_272 : decode cX12_lost 272 = .ok (.iload 8, 2) := by decide +kernel
theorem dX12_lost_274 : decode cX12_lost 274 = .ok (.bipush 10, 2) := by decide +kernel
theorem dX12_lost_276 : decode cX12_lost 276 = .ok (.iadd, 1) := by decide +kernel
theorem dX12_lost_277 : decode cX12_lost 277 = .ok (.bipush 50, 2) := by decide +kernel
theorem dX12_lost_279 : decode cX12_lost 279 = .ok (.if_icmp .ge 11, 3) := by decide +kernel
theorem dX12_lost_282 : decode cX12_lost 282 = .ok (.iload 8, 2) := by decide +kernel
theorem dX12_lost_284 : decode cX12_lost 284 = .ok (.bipush 10, 2) := by decide +kernel
theorem dX12_lost_286 : decode cX12_lost 286 = .ok (.iadd, 1) := by decide +kernel
theorem dX12_lost_287 : decode cX12_lost 287 = .ok (.goto 5, 3) := by decide +kernel
theorem dX12_lost_290 : decode cX12_lost 290 = .ok (.bipush 51, 2) := by decide +kernel
theorem dX12_lost_292 : decode cX12_lost 292 = .ok (.aload_n 0, 1) := by decide +kernel
theorem dX12_lost_293 : decode cX12_lost 293 = .ok (.getfield 103, 3) := by decide +kernel
theorem dX12_lost_296 : decode cX12_lost 296 = .ok (.iload 8, 2) := by decide +kernel
theorem dX12_lost_298 : decode cX12_lost 298 = .ok (.laload, 1) := by decide +kernel
theorem dX12_lost_299 : decode cX12_lost 299 = .ok (.ldc2_w 438, 3) := by decide +kernel
theorem dX12_lost_302 : decode cX12_lost 302 = .ok (.iload 10, 2) := by decide +kernel
theorem dX12_lost_304 : decode cX12_lost 304 = .ok (.i2l, 1) := by decide +kernel
theorem dX12_lost_305 : decode cX12_lost 305 = .ok (.lsub, 1) := by decide +kernel
theorem dX12_lost_306 : decode cX12_lost 306 = .ok (.lmul, 1) := by decide +kernel
theorem dX12_lost_307 : decode cX12_lost 307 = .ok (.invokevirtual 434, 3) := by decide +kernel
theorem dX12_lost_310 : decode cX12_lost 310 = .ok (.aload_n 0, 1) := by decide +kernel
theorem dX12_lost_311 : decode cX12_lost 311 = .ok (.iload 8, 2) := by decide +kernel
theorem dX12_lost_313 : decode cX12_lost 313 = .ok (.bipush 10, 2) := by decide +kernel
theorem dX12_lost_315 : decode cX12_lost 315 = .ok (.if_icmp .lt 11, 3) := by decide +kernel
theorem dX12_lost_318 : decode cX12_lost 318 = .ok (.iload 8, 2) := by decide +kernel
theorem dX12_lost_320 : decode cX12_lost 320 = .ok (.bipush 10, 2) := by decide +kernel
theorem dX12_lost_322 : decode cX12_lost 322 = .ok (.isub, 1) := by decide +kernel
theorem dX12_lost_323 : decode cX12_lost 323 = .ok (.goto 5, 3) := by decide +kernel
theorem dX12_lost_326 : decode cX12_lost 326 = .ok (.bipush 51, 2) := by decide +kernel
theorem dX12_lost_328 : decode cX12_lost 328 = .ok (.aload_n 0, 1) := by decide +kernel
theorem dX12_lost_329 : decode cX12_lost 329 = .ok (.getfield 103, 3) := by decide +kernel
theorem dX12_lost_332 : decode cX12_lost 332 = .ok (.iload 8, 2) := by decide +kernel
theorem dX12_lost_334 : decode cX12_lost 334 = .ok (.laload, 1) := by decide +kernel
theorem dX12_lost_335 : decode cX12_lost 335 = .ok (.ldc2_w 438, 3) := by decide +kernel
theorem dX12_lost_338 : decode cX12_lost 338 = .ok (.iload 10, 2) := by decide +kernel
theorem dX12_lost_340 : decode cX12_lost 340 = .ok (.i2l, 1) := by decide +kernel
theorem dX12_lost_341 : decode cX12_lost 341 = .ok (.lsub, 1) := by decide +kernel
theorem dX12_lost_342 : decode cX12_lost 342 = .ok (.lmul, 1) := by decide +kernel
theorem dX12_lost_343 : decode cX12_lost 343 = .ok (.invokevirtual 434, 3) := by decide +kernel
theorem dX12_lost_346 : decode cX12_lost 346 = .ok (.iinc 8 1, 3) := by decide +kernel
theorem dX12_lost_349 : decode cX12_lost 349 = .ok (.goto (-197), 3) := by decide +kernel
theorem dX12_lost_352 : decode cX12_lost 352 = .ok (.iconst 0, 1) := by decide +kernel
theorem dX12_lost_353 : decode cX12_lost 353 = .ok (.istore 8, 2) := by decide +kernel
theorem dX12_lost_355 : decode cX12_lost 355 = .ok (.iload 8, 2) := by decide +kernel
theorem dX12_lost_357 : decode cX12_lost 357 = .ok (.bipush 52, 2) := by decide +kernel
theorem dX12_lost_359 : decode cX12_lost 359 = .ok (.if_icmp .ge 23, 3) := by decide +kernel
theorem dX12_lost_362 : decode cX12_lost 362 = .ok (.aload_n 0, 1) := by decide +kernel
theorem dX12_lost_363 : decode cX12_lost 363 = .ok (.getfield 103, 3) := by decide +kernel
theorem dX12_lost_366 : decode cX12_lost 366 = .ok (.iload 8, 2) := by decide +kernel
theorem dX12_lost_368 : decode cX12_lost 368 = .ok (.aload_n 0, 1) := by decide +kernel
theorem dX12_lost_369 : decode cX12_lost 369 = .ok (.getfield 107, 3) := by decide +kernel
theorem dX12_lost_372 : decode cX12_lost 372 = .ok (.iload 8, 2) := by decide +kernel
theorem dX12_lost_374 : decode cX12_lost 374 = .ok (.laload, 1) := by decide +kernel
theorem dX12_lost_375 : decode cX12_lost 375 = .ok (.lastore, 1) := by decide +kernel
theorem dX12_lost_376 : decode cX12_lost 376 = .ok (.iinc 8 1, 3) := by decide +kernel
theorem dX12_lost_379 : decode cX12_lost 379 = .ok (.goto (-24), 3) := by decide +kernel
theorem dX12_lost_382 : decode cX12_lost 382 = .ok (.lload 5, 2) := by decide +kernel
theorem dX12_lost_384 : decode cX12_lost 384 = .ok (.ldc2_w 430, 3) := by decide +kernel
theorem dX12_lost_387 : decode cX12_lost 387 = .ok (.lmul, 1) := by decide +kernel
theorem dX12_lost_388 : decode cX12_lost 388 = .ok (.lstore 5, 2) := by decide +kernel
theorem dX12_lost_390 : decode cX12_lost 390 = .ok (.iinc 7 1, 3) := by decide +kernel
theorem dX12_lost_393 : decode cX12_lost 393 = .ok (.goto (-295), 3) := by decide +kernel
theorem dX12_lost_396 : decode cX12_lost 396 = .ok (.aload_n 0, 1) := by decide +kernel
theorem dX12_lost_397 : decode cX12_lost 397 = .ok (.getfield 103, 3) := by decide +kernel
theorem dX12_lost_400 : decode cX12_lost 400 = .ok (.iload 4, 2) := by decide +kernel
theorem dX12_lost_402 : decode cX12_lost 402 = .ok (.laload, 1) := by decide +kernel
theorem dX12_lost_403 : decode cX12_lost 403 = .ok (.lload 5, 2) := by decide +kernel
theorem dX12_lost_405 : decode cX12_lost 405 = .ok (.ldiv, 1) := by decide +kernel
theorem dX12_lost_406 : decode cX12_lost 406 = .ok (.lstore 7, 2) := by decide +kernel
theorem dX12_lost_408 : decode cX12_lost 408 = .ok (.aload_n 0, 1) := by decide +kernel
theorem dX12_lost_409 : decode cX12_lost 409 = .ok (.getfield 103, 3) := by decide +kernel
theorem dX12_lost_412 : decode cX12_lost 412 = .ok (.iload 4, 2) := by decide +kernel
theorem dX12_lost_414 : decode cX12_lost 414 = .ok (.laload, 1) := by decide +kernel
theorem dX12_lost_415 : decode cX12_lost 415 = .ok (.lload 5, 2) := by decide +kernel
theorem dX12_lost_417 : decode cX12_lost 417 = .ok (.lrem, 1) := by decide +kernel
theorem dX12_lost_418 : decode cX12_lost 418 = .ok (.lstore 9, 2) := by decide +kernel
theorem dX12_lost_420 : decode cX12_lost 420 = .ok (.iconst 0, 1) := by decide +kernel
theorem dX12_lost_421 : decode cX12_lost 421 = .ok (.istore 11, 2) := by decide +kernel
theorem dX12_lost_423 : decode cX12_lost 423 = .ok (.iload 11, 2) := by decide +kernel
theorem dX12_lost_425 : decode cX12_lost 425 = .ok (.bipush 6, 2) := by decide +kernel
theorem dX12_lost_427 : decode cX12_lost 427 = .ok (.if_icmp .ge 38, 3) := by decide +kernel
theorem dX12_lost_430 : decode cX12_lost 430 = .ok (.lload 9, 2) := by decide +kernel
theorem dX12_lost_432 : decode cX12_lost 432 = .ok (.ldc2_w 346, 3) := by decide +kernel
theorem dX12_lost_435 : decode cX12_lost 435 = .ok (.lmul, 1) := by decide +kernel
theorem dX12_lost_436 : decode cX12_lost 436 = .ok (.lstore 9, 2) := by decide +kernel
theorem dX12_lost_438 : decode cX12_lost 438 = .ok (.lload 7, 2) := by decide +kernel
theorem dX12_lost_440 : decode cX12_lost 440 = .ok (.ldc2_w 346, 3) := by decide +kernel
theorem dX12_lost_443 : decode cX12_lost 443 = .ok (.lmul, 1) := by decide +kernel
theorem dX12_lost_444 : decode cX12_lost 444 = .ok (.lload 9, 2) := by decide +kernel
theorem dX12_lost_446 : decode cX12_lost 446 = .ok (.lload 5, 2) := by decide +kernel
theorem dX12_lost_448 : decode cX12_lost 448 = .ok (.ldiv, 1) := by decide +kernel
theorem dX12_lost_449 : decode cX12_lost 449 = .ok (.ladd, 1) := by decide +kernel
theorem dX12_lost_450 : decode cX12_lost 450 = .ok (.lstore 7, 2) := by decide +kernel
theorem dX12_lost_452 : decode cX12_lost 452 = .ok (.lload 9, 2) := by decide +kernel
theorem dX12_lost_454 : decode cX12_lost 454 = .ok (.lload 5, 2) := by decide +kernel
theorem dX12_lost_456 : decode cX12_lost 456 = .ok (.lrem, 1) := by decide +kernel
theorem dX12_lost_457 : decode cX12_lost 457 = .ok (.lstore 9, 2) := by decide +kernel
theorem dX12_lost_459 : decode cX12_lost 459 = .ok (.iinc 11 1, 3) := by decide +kernel
theorem dX12_lost_462 : decode cX12_lost 462 = .ok (.goto (-39), 3) := by decide +kernel
theorem dX12_lost_465 : decode cX12_lost 465 = .ok (.lload 7, 2) := by decide +kernel
theorem dX12_lost_467 : decode cX12_lost 467 = .ok (.l2i, 1) := by decide +kernel
theorem dX12_lost_468 : decode cX12_lost 468 = .ok (.ireturn, 1) := by decide +kernel
theorem dX12_day_0 : decode cX12_day 0 = .ok (.iload_n 1, 1) := by decide +kernel
theorem dX12_day_1 : decode cX12_day 1 = .ok (.iconst 0, 1) := by decide +kernel
theorem dX12_day_2 : decode cX12_day 2 = .ok (.ldc 157, 2) := by decide +kernel
theorem dX12_day_4 : decode cX12_day 4 = .ok (.invokestatic 113, 3) := by decide +kernel
theorem dX12_day_7 : decode cX12_day 7 = .ok (.ifCond .ne 9, 3) := by decide +kernel
theorem dX12_day_10 : decode cX12_day 10 = .ok (.aload_n 0, 1) := by decide +kernel
theorem dX12_day_11 : decode cX12_day 11 = .ok (.iconst (-1), 1) := by decide +kernel
theorem dX12_day_12 : decode cX12_day 12 = .ok (.invokevirtual 117, 3) := by decide +kernel
theorem dX12_day_15 : decode cX12_day 15 = .ok (.ireturn, 1) := by decide +kernel
theorem dX12_day_16 : decode cX12_day 16 = .ok (.iload_n 1, 1) := by decide +kernel
theorem dX12_day_17 : decode cX12_day 17 = .ok (.istore_n 2, 1) := by decide +kernel
theorem dX12_day_18 : decode cX12_day 18 = .ok (.iconst 0, 1) := by decide +kernel
theorem dX12_day_19 : decode cX12_day 19 = .ok (.istore_n 3, 1) := by decide +kernel
theorem dX12_day_20 : decode cX12_day 20 = .ok (.iload_n 3, 1) := by decide +kernel
theorem dX12_day_21 : decode cX12_day 21 = .ok (.bipush 24, 2) := by decide +kernel
theorem dX12_day_23 : decode cX12_day 23 = .ok (.if_icmp .ge 38, 3) := by decide +kernel
theorem dX12_day_26 : decode cX12_day 26 = .ok (.ldc2_w 440, 3) := by decide +kernel
theorem dX12_day_29 : decode cX12_day 29 = .ok (.iload_n 2, 1) := by decide +kernel
theorem dX12_day_30 : decode cX12_day 30 = .ok (.i2l, 1) := by decide +kernel
theorem dX12_day_31 : decode cX12_day 31 = .ok (.lmul, 1) := by decide +kernel
theorem dX12_day_32 : decode cX12_day 32 = .ok (.ldc2_w 442, 3) := by decide +kernel
theorem dX12_day_35 : decode cX12_day 35 = .ok (.ladd, 1) := by decide +kernel
theorem dX12_day_36 : decode cX12_day 36 = .ok (.ldc2_w 444, 3) := by decide +kernel
theorem dX12_day_39 : decode cX12_day 39 = .ok (.lrem, 1) := by decide +kernel
theorem dX12_day_40 : decode cX12_day 40 = .ok (.l2i, 1) := by decide +kernel
theorem dX12_day_41 : decode cX12_day 41 = .ok (.istore_n 2, 1) := by decide +kernel
theorem dX12_day_42 : decode cX12_day 42 = .ok (.aload_n 0, 1) := by decide +kernel
theorem dX12_day_43 : decode cX12_day 43 = .ok (.getfield 55, 3) := by decide +kernel
theorem dX12_day_46 : decode cX12_day 46 = .ok (.iload_n 3, 1) := by decide +kernel
theorem dX12_day_47 : decode cX12_day 47 = .ok (.iload_n 2, 1) := by decide +kernel
theorem dX12_day_48 : decode cX12_day 48 = .ok (.bipush 41, 2) := by decide +kernel
theorem dX12_day_50 : decode cX12_day 50 = .ok (.irem, 1) := by decide +kernel
theorem dX12_day_51 : decode cX12_day 51 = .ok (.bipush 20, 2) := by decide +kernel
theorem dX12_day_53 : decode cX12_day 53 = .ok (.isub, 1) := by decide +kernel
theorem dX12_day_54 : decode cX12_day 54 = .ok (.iastore, 1) := by decide +kernel
theorem dX12_day_55 : decode cX12_day 55 = .ok (.iinc 3 1, 3) := by decide +kernel
theorem dX12_day_58 : decode cX12_day 58 = .ok (.goto (-38), 3) := by decide +kernel
theorem dX12_day_61 : decode cX12_day 61 = .ok (.aload_n 0, 1) := by decide +kernel
theorem dX12_day_62 : decode cX12_day 62 = .ok (.aload_n 0, 1) := by decide +kernel
theorem dX12_day_63 : decode cX12_day 63 = .ok (.getfield 110, 3) := by decide +kernel
theorem dX12_day_66 : decode cX12_day 66 = .ok (.aload_n 0, 1) := by decide +kernel
theorem dX12_day_67 : decode cX12_day 67 = .ok (.bipush 10, 2) := by decide +kernel
theorem dX12_day_69 : decode cX12_day 69 = .ok (.invokevirtual 283, 3) := by decide +kernel
theorem dX12_day_72 : decode cX12_day 72 = .ok (.iconst 0, 1) := by decide +kernel
theorem dX12_day_73 : decode cX12_day 73 = .ok (.invokevirtual 314, 3) := by decide +kernel
theorem dX12_day_76 : decode cX12_day 76 = .ok (.aload_n 0, 1) := by decide +kernel
theorem dX12_day_77 : decode cX12_day 77 = .ok (.iconst 1, 1) := by decide +kernel
theorem dX12_day_78 : decode cX12_day 78 = .ok (.putfield 446, 3) := by decide +kernel
theorem dX12_day_81 : decode cX12_day 81 = .ok (.aload_n 0, 1) := by decide +kernel
theorem dX12_day_82 : decode cX12_day 82 = .ok (.iconst (-1), 1) := by decide +kernel
theorem dX12_day_83 : decode cX12_day 83 = .ok (.aload_n 0, 1) := by decide +kernel
theorem dX12_day_84 : decode cX12_day 84 = .ok (.aload_n 0, 1) := by decide +kernel
theorem dX12_day_85 : decode cX12_day 85 = .ok (.getfield 110, 3) := by decide +kernel
theorem dX12_day_88 : decode cX12_day 88 = .ok (.iconst (-1), 1) := by decide +kernel
theorem dX12_day_89 : decode cX12_day 89 = .ok (.invokevirtual 324, 3) := by decide +kernel
theorem dX12_day_92 : decode cX12_day 92 = .ok (.isub, 1) := by decide +kernel
theorem dX12_day_93 : decode cX12_day 93 = .ok (.invokevirtual 121, 3) := by decide +kernel
theorem dX12_day_96 : decode cX12_day 96 = .ok (.ireturn, 1) := by decide +kernel
theorem dX12_drawn_0 : decode cX12_drawn 0 = .ok (.aload_n 0, 1) := by decide +kernel
theorem dX12_drawn_1 : decode cX12_drawn 1 = .ok (.getfield 446, 3) := by decide +kernel
theorem dX12_drawn_4 : decode cX12_drawn 4 = .ok (.ifCond .eq 19, 3) := by decide +kernel
theorem dX12_drawn_7 : decode cX12_drawn 7 = .ok (.iload_n 1, 1) := by decide +kernel
theorem dX12_drawn_8 : decode cX12_drawn 8 = .ok (.invokestatic 280, 3) := by decide +kernel
theorem dX12_drawn_11 : decode cX12_drawn 11 = .ok (.ifCond .eq 12, 3) := by decide +kernel
theorem dX12_drawn_14 : decode cX12_drawn 14 = .ok (.aload_n 0, 1) := by decide +kernel
theorem dX12_drawn_15 : decode cX12_drawn 15 = .ok (.getfield 110, 3) := by decide +kernel
theorem dX12_drawn_18 : decode cX12_drawn 18 = .ok (.iload_n 1, 1) := by decide +kernel
theorem dX12_drawn_19 : decode cX12_drawn 19 = .ok (.iaload, 1) := by decide +kernel
theorem dX12_drawn_20 : decode cX12_drawn 20 = .ok (.goto 6, 3) := by decide +kernel
theorem dX12_drawn_23 : decode cX12_drawn 23 = .ok (.ldc_w 289, 3) := by decide +kernel
theorem dX12_drawn_26 : decode cX12_drawn 26 = .ok (.ireturn, 1) := by decide +kernel
theorem dX12_count_0 : decode cX12_count 0 = .ok (.iload_n 1, 1) := by decide +kernel
theorem dX12_count_1 : decode cX12_count 1 = .ok (.tableswitch 142 0 10 #[59, 68, 77, 86, 95, 104, 109, 109, 118, 125, 133], 59) := by decide +kernel
theorem dX12_count_60 : decode cX12_count 60 = .ok (.aload_n 0, 1) := by decide +kernel
theorem dX12_count_61 : decode cX12_count 61 = .ok (.getfield 20, 3) := by decide +kernel
theorem dX12_count_64 : decode cX12_count 64 = .ok (.sipush 185, 3) := by decide +kernel
theorem dX12_count_67 : decode cX12_count 67 = .ok (.iaload, 1) := by decide +kernel
theorem dX12_count_68 : decode cX12_count 68 = .ok (.ireturn, 1) := by decide +kernel
theorem dX12_count_69 : decode cX12_count 69 = .ok (.aload_n 0, 1) := by decide +kernel
theorem dX12_count_70 : decode cX12_count 70 = .ok (.getfield 20, 3) := by decide +kernel
theorem dX12_count_73 : decode cX12_count 73 = .ok (.sipush 186, 3) := by decide +kernel
theorem dX12_count_76 : decode cX12_count 76 = .ok (.iaload, 1) := by decide +kernel
theorem dX12_count_77 : decode cX12_count 77 = .ok (.ireturn, 1) := by decide +kernel
theorem dX12_count_78 : decode cX12_count 78 = .ok (.aload_n 0, 1) := by decide +kernel
theorem dX12_count_79 : decode cX12_count 79 = .ok (.getfield 20, 3) := by decide +kernel
theorem dX12_count_82 : decode cX12_count 82 = .ok (.sipush 189, 3) := by decide +kernel
theorem dX12_count_85 : decode cX12_count 85 = .ok (.iaload, 1) := by decide +kernel
theorem dX12_count_86 : decode cX12_count 86 = .ok (.ireturn, 1) := by decide +kernel
theorem dX12_count_87 : decode cX12_count 87 = .ok (.aload_n 0, 1) := by decide +kernel
theorem dX12_count_88 : decode cX12_count 88 = .ok (.getfield 20, 3) := by decide +kernel
theorem dX12_count_91 : decode cX12_count 91 = .ok (.sipush 187, 3) := by decide +kernel
theorem dX12_count_94 : decode cX12_count 94 = .ok (.iaload, 1) := by decide +kernel
theorem dX12_count_95 : decode cX12_count 95 = .ok (.ireturn, 1) := by decide +kernel
theorem dX12_count_96 : decode cX12_count 96 = .ok (.aload_n 0, 1) := by decide +kernel
theorem dX12_count_97 : decode cX12_count 97 = .ok (.getfield 20, 3) := by decide +kernel
theorem dX12_count_100 : decode cX12_count 100 = .ok (.sipush 188, 3) := by decide +kernel
theorem dX12_count_103 : decode cX12_count 103 = .ok (.iaload, 1) := by decide +kernel
theorem dX12_count_104 : decode cX12_count 104 = .ok (.ireturn, 1) := by decide +kernel
theorem dX12_count_105 : decode cX12_count 105 = .ok (.aload_n 0, 1) := by decide +kernel
theorem dX12_count_106 : decode cX12_count 106 = .ok (.getfield 139, 3) := by decide +kernel
theorem dX12_count_109 : decode cX12_count 109 = .ok (.ireturn, 1) := by decide +kernel
theorem dX12_count_110 : decode cX12_count 110 = .ok (.aload_n 0, 1) := by decide +kernel
theorem dX12_count_111 : decode cX12_count 111 = .ok (.getfield 7, 3) := by decide +kernel
theorem dX12_count_114 : decode cX12_count 114 = .ok (.iload_n 1, 1) := by decide +kernel
theorem dX12_count_115 : decode cX12_count 115 = .ok (.iconst 5, 1) := by decide +kernel
theorem dX12_count_116 : decode cX12_count 116 = .ok (.isub, 1) := by decide +kernel
theorem dX12_count_117 : decode cX12_count 117 = .ok (.iaload, 1) := by decide +kernel
theorem dX12_count_118 : decode cX12_count 118 = .ok (.ireturn, 1) := by decide +kernel
theorem dX12_count_119 : decode cX12_count 119 = .ok (.aload_n 0, 1) := by decide +kernel
theorem dX12_count_120 : decode cX12_count 120 = .ok (.getfield 7, 3) := by decide +kernel
theorem dX12_count_123 : decode cX12_count 123 = .ok (.iconst 5, 1) := by decide +kernel
theorem dX12_count_124 : decode cX12_count 124 = .ok (.iaload, 1) := by decide +kernel
theorem dX12_count_125 : decode cX12_count 125 = .ok (.ireturn, 1) := by decide +kernel
theorem dX12_count_126 : decode cX12_count 126 = .ok (.aload_n 0, 1) := by decide +kernel
theorem dX12_count_127 : decode cX12_count 127 = .ok (.getfield 7, 3) := by decide +kernel
theorem dX12_count_130 : decode cX12_count 130 = .ok (.bipush 6, 2) := by decide +kernel
theorem dX12_count_132 : decode cX12_count 132 = .ok (.iaload, 1) := by decide +kernel
theorem dX12_count_133 : decode cX12_count 133 = .ok (.ireturn, 1) := by decide +kernel
theorem dX12_count_134 : decode cX12_count 134 = .ok (.aload_n 0, 1) := by decide +kernel
theorem dX12_count_135 : decode cX12_count 135 = .ok (.getfield 20, 3) := by decide +kernel
theorem dX12_count_138 : decode cX12_count 138 = .ok (.sipush 190, 3) := by decide +kernel
theorem dX12_count_141 : decode cX12_count 141 = .ok (.iaload, 1) := by decide +kernel
theorem dX12_count_142 : decode cX12_count 142 = .ok (.ireturn, 1) := by decide +kernel
theorem dX12_count_143 : decode cX12_count 143 = .ok (.iconst (-1), 1) := by decide +kernel
theorem dX12_count_144 : decode cX12_count 144 = .ok (.ireturn, 1) := by decide +kernel
theorem dX12_status_0 : decode cX12_status 0 = .ok (.aload_n 0, 1) := by decide +kernel
theorem dX12_status_1 : decode cX12_status 1 = .ok (.getfield 3, 3) := by decide +kernel
theorem dX12_status_4 : decode cX12_status 4 = .ok (.ireturn, 1) := by decide +kernel
