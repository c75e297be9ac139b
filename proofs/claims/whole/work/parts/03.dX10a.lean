theorem dX10_init_0 : decode cX10_init 0 = .ok (.aload_n 0, 1) := by decide +kernel
theorem dX10_init_1 : decode cX10_init 1 = .ok (.invokespecial 5, 3) := by decide +kernel
theorem dX10_init_4 : decode cX10_init 4 = .ok (.aload_n 0, 1) := by decide +kernel
theorem dX10_init_5 : decode cX10_init 5 = .ok (.sipush 864, 3) := by decide +kernel
theorem dX10_init_8 : decode cX10_init 8 = .ok (.newarray .int, 2) := by decide +kernel
theorem dX10_init_10 : decode cX10_init 10 = .ok (.putfield 11, 3) := by decide +kernel
theorem dX10_init_13 : decode cX10_init 13 = .ok (.aload_n 0, 1) := by decide +kernel
theorem dX10_init_14 : decode cX10_init 14 = .ok (.sipush 864, 3) := by decide +kernel
theorem dX10_init_17 : decode cX10_init 17 = .ok (.newarray .int, 2) := by decide +kernel
theorem dX10_init_19 : decode cX10_init 19 = .ok (.putfield 15, 3) := by decide +kernel
theorem dX10_init_22 : decode cX10_init 22 = .ok (.aload_n 0, 1) := by decide +kernel
theorem dX10_init_23 : decode cX10_init 23 = .ok (.bipush 6, 2) := by decide +kernel
theorem dX10_init_25 : decode cX10_init 25 = .ok (.newarray .long, 2) := by decide +kernel
theorem dX10_init_27 : decode cX10_init 27 = .ok (.putfield 18, 3) := by decide +kernel
theorem dX10_init_30 : decode cX10_init 30 = .ok (.aload_n 0, 1) := by decide +kernel
theorem dX10_init_31 : decode cX10_init 31 = .ok (.sipush 144, 3) := by decide +kernel
theorem dX10_init_34 : decode cX10_init 34 = .ok (.newarray .long, 2) := by decide +kernel
theorem dX10_init_36 : decode cX10_init 36 = .ok (.putfield 22, 3) := by decide +kernel
theorem dX10_init_39 : decode cX10_init 39 = .ok (.aload_n 0, 1) := by decide +kernel
theorem dX10_init_40 : decode cX10_init 40 = .ok (.sipush 144, 3) := by decide +kernel
theorem dX10_init_43 : decode cX10_init 43 = .ok (.newarray .long, 2) := by decide +kernel
theorem dX10_init_45 : decode cX10_init 45 = .ok (.putfield 25, 3) := by decide +kernel
theorem dX10_init_48 : decode cX10_init 48 = .ok (.aload_n 0, 1) := by decide +kernel
theorem dX10_init_49 : decode cX10_init 49 = .ok (.sipush 144, 3) := by decide +kernel
theorem dX10_init_52 : decode cX10_init 52 = .ok (.newarray .long, 2) := by decide +kernel
theorem dX10_init_54 : decode cX10_init 54 = .ok (.putfield 28, 3) := by decide +kernel
theorem dX10_init_57 : decode cX10_init 57 = .ok (.aload_n 0, 1) := by decide +kernel
theorem dX10_init_58 : decode cX10_init 58 = .ok (.sipush 144, 3) := by decide +kernel
theorem dX10_init_61 : decode cX10_init 61 = .ok (.newarray .long, 2) := by decide +kernel
theorem dX10_init_63 : decode cX10_init 63 = .ok (.putfield 31, 3) := by decide +kernel
theorem dX10_init_66 : decode cX10_init 66 = .ok (.aload_n 0, 1) := by decide +kernel
theorem dX10_init_67 : decode cX10_init 67 = .ok (.sipush 144, 3) := by decide +kernel
theorem dX10_init_70 : decode cX10_init 70 = .ok (.newarray .long, 2) := by decide +kernel
theorem dX10_init_72 : decode cX10_init 72 = .ok (.putfield 34, 3) := by decide +kernel
theorem dX10_init_75 : decode cX10_init 75 = .ok (.aload_n 0, 1) := by decide +kernel
theorem dX10_init_76 : decode cX10_init 76 = .ok (.bipush 50, 2) := by decide +kernel
theorem dX10_init_78 : decode cX10_init 78 = .ok (.newarray .int, 2) := by decide +kernel
theorem dX10_init_80 : decode cX10_init 80 = .ok (.putfield 37, 3) := by decide +kernel
theorem dX10_init_83 : decode cX10_init 83 = .ok (.aload_n 0, 1) := by decide +kernel
theorem dX10_init_84 : decode cX10_init 84 = .ok (.bipush 50, 2) := by decide +kernel
theorem dX10_init_86 : decode cX10_init 86 = .ok (.newarray .int, 2) := by decide +kernel
theorem dX10_init_88 : decode cX10_init 88 = .ok (.putfield 40, 3) := by decide +kernel
theorem dX10_init_91 : decode cX10_init 91 = .ok (.aload_n 0, 1) := by decide +kernel
theorem dX10_init_92 : decode cX10_init 92 = .ok (.iconst 0, 1) := by decide +kernel
theorem dX10_init_93 : decode cX10_init 93 = .ok (.putfield 43, 3) := by decide +kernel
theorem dX10_init_96 : decode cX10_init 96 = .ok (.aload_n 0, 1) := by decide +kernel
theorem dX10_init_97 : decode cX10_init 97 = .ok (.aload_n 1, 1) := by decide +kernel
theorem dX10_init_98 : decode cX10_init 98 = .ok (.putfield 47, 3) := by decide +kernel
theorem dX10_init_101 : decode cX10_init 101 = .ok (.aload_n 0, 1) := by decide +kernel
theorem dX10_init_102 : decode cX10_init 102 = .ok (.aload_n 2, 1) := by decide +kernel
theorem dX10_init_103 : decode cX10_init 103 = .ok (.putfield 51, 3) := by decide +kernel
theorem dX10_init_106 : decode cX10_init 106 = .ok (.return_, 1) := by decide +kernel
theorem dX10_survey_0 : decode cX10_survey 0 = .ok (.aload_n 0, 1) := by decide +kernel
theorem dX10_survey_1 : decode cX10_survey 1 = .ok (.invokevirtual 55, 3) := by decide +kernel
theorem dX10_survey_4 : decode cX10_survey 4 = .ok (.aload_n 0, 1) := by decide +kernel
theorem dX10_survey_5 : decode cX10_survey 5 = .ok (.getfield 18, 3) := by decide +kernel
theorem dX10_survey_8 : decode cX10_survey 8 = .ok (.lconst 0, 1) := by decide +kernel
theorem dX10_survey_9 : decode cX10_survey 9 = .ok (.invokestatic 58, 3) := by decide +kernel
theorem dX10_survey_12 : decode cX10_survey 12 = .ok (.iconst 0, 1) := by decide +kernel
theorem dX10_survey_13 : decode cX10_survey 13 = .ok (.istore_n 2, 1) := by decide +kernel
theorem dX10_survey_14 : decode cX10_survey 14 = .ok (.iload_n 2, 1) := by decide +kernel
theorem dX10_survey_15 : decode cX10_survey 15 = .ok (.bipush 50, 2) := by decide +kernel
theorem dX10_survey_17 : decode cX10_survey 17 = .ok (.if_icmp .ge 29, 3) := by decide +kernel
theorem dX10_survey_20 : decode cX10_survey 20 = .ok (.aload_n 0, 1) := by decide +kernel
theorem dX10_survey_21 : decode cX10_survey 21 = .ok (.getfield 18, 3) := by decide +kernel
theorem dX10_survey_24 : decode cX10_survey 24 = .ok (.aload_n 0, 1) := by decide +kernel
theorem dX10_survey_25 : decode cX10_survey 25 = .ok (.getfield 47, 3) := by decide +kernel
theorem dX10_survey_28 : decode cX10_survey 28 = .ok (.getfield 64, 3) := by decide +kernel
theorem dX10_survey_31 : decode cX10_survey 31 = .ok (.iload_n 2, 1) := by decide +kernel
theorem dX10_survey_32 : decode cX10_survey 32 = .ok (.iaload, 1) := by decide +kernel
theorem dX10_survey_33 : decode cX10_survey 33 = .ok (.dup2, 1) := by decide +kernel
theorem dX10_survey_34 : decode cX10_survey 34 = .ok (.laload, 1) := by decide +kernel
theorem dX10_survey_35 : decode cX10_survey 35 = .ok (.lconst 1, 1) := by decide +kernel
theorem dX10_survey_36 : decode cX10_survey 36 = .ok (.iload_n 2, 1) := by decide +kernel
theorem dX10_survey_37 : decode cX10_survey 37 = .ok (.lshl, 1) := by decide +kernel
theorem dX10_survey_38 : decode cX10_survey 38 = .ok (.lor, 1) := by decide +kernel
theorem dX10_survey_39 : decode cX10_survey 39 = .ok (.lastore, 1) := by decide +kernel
theorem dX10_survey_40 : decode cX10_survey 40 = .ok (.iinc 2 1, 3) := by decide +kernel
theorem dX10_survey_43 : decode cX10_survey 43 = .ok (.goto (-29), 3) := by decide +kernel
theorem dX10_survey_46 : decode cX10_survey 46 = .ok (.iconst 0, 1) := by decide +kernel
theorem dX10_survey_47 : decode cX10_survey 47 = .ok (.istore_n 2, 1) := by decide +kernel
theorem dX10_survey_48 : decode cX10_survey 48 = .ok (.iload_n 2, 1) := by decide +kernel
theorem dX10_survey_49 : decode cX10_survey 49 = .ok (.sipush 144, 3) := by decide +kernel
theorem dX10_survey_52 : decode cX10_survey 52 = .ok (.if_icmp .ge 32, 3) := by decide +kernel
theorem dX10_survey_55 : decode cX10_survey 55 = .ok (.aload_n 0, 1) := by decide +kernel
theorem dX10_survey_56 : decode cX10_survey 56 = .ok (.iload_n 2, 1) := by decide +kernel
theorem dX10_survey_57 : decode cX10_survey 57 = .ok (.aload_n 0, 1) := by decide +kernel
theorem dX10_survey_58 : decode cX10_survey 58 = .ok (.getfield 47, 3) := by decide +kernel
theorem dX10_survey_61 : decode cX10_survey 61 = .ok (.getfield 69, 3) := by decide +kernel
theorem dX10_survey_64 : decode cX10_survey 64 = .ok (.iload_n 1, 1) := by decide +kernel
theorem dX10_survey_65 : decode cX10_survey 65 = .ok (.iaload, 1) := by decide +kernel
theorem dX10_survey_66 : decode cX10_survey 66 = .ok (.aload_n 0, 1) := by decide +kernel
theorem dX10_survey_67 : decode cX10_survey 67 = .ok (.getfield 47, 3) := by decide +kernel
theorem dX10_survey_70 : decode cX10_survey 70 = .ok (.getfield 72, 3) := by decide +kernel
theorem dX10_survey_73 : decode cX10_survey 73 = .ok (.iload_n 1, 1) := by decide +kernel
theorem dX10_survey_74 : decode cX10_survey 74 = .ok (.iaload, 1) := by decide +kernel
theorem dX10_survey_75 : decode cX10_survey 75 = .ok (.invokevirtual 75, 3) := by decide +kernel
theorem dX10_survey_78 : decode cX10_survey 78 = .ok (.iinc 2 1, 3) := by decide +kernel
theorem dX10_survey_81 : decode cX10_survey 81 = .ok (.goto (-33), 3) := by decide +kernel
theorem dX10_survey_84 : decode cX10_survey 84 = .ok (.return_, 1) := by decide +kernel
theorem dX10_freshenSteps_0 : decode cX10_freshenSteps 0 = .ok (.aload_n 0, 1) := by decide +kernel
theorem dX10_freshenSteps_1 : decode cX10_freshenSteps 1 = .ok (.getfield 43, 3) := by decide +kernel
theorem dX10_freshenSteps_4 : decode cX10_freshenSteps 4 = .ok (.ifCond .eq 4, 3) := by decide +kernel
theorem dX10_freshenSteps_7 : decode cX10_freshenSteps 7 = .ok (.return_, 1) := by decide +kernel
theorem dX10_freshenSteps_8 : decode cX10_freshenSteps 8 = .ok (.iconst 0, 1) := by decide +kernel
theorem dX10_freshenSteps_9 : decode cX10_freshenSteps 9 = .ok (.istore_n 1, 1) := by decide +kernel
theorem dX10_freshenSteps_10 : decode cX10_freshenSteps 10 = .ok (.iload_n 1, 1) := by decide +kernel
theorem dX10_freshenSteps_11 : decode cX10_freshenSteps 11 = .ok (.sipush 144, 3) := by decide +kernel
theorem dX10_freshenSteps_14 : decode cX10_freshenSteps 14 = .ok (.if_icmp .ge 66, 3) := by decide +kernel
theorem dX10_freshenSteps_17 : decode cX10_freshenSteps 17 = .ok (.iconst 0, 1) := by decide +kernel
theorem dX10_freshenSteps_18 : decode cX10_freshenSteps 18 = .ok (.istore_n 2, 1) := by decide +kernel
theorem dX10_freshenSteps_19 : decode cX10_freshenSteps 19 = .ok (.iload_n 2, 1) := by decide +kernel
theorem dX10_freshenSteps_20 : decode cX10_freshenSteps 20 = .ok (.bipush 6, 2) := by decide +kernel
theorem dX10_freshenSteps_22 : decode cX10_freshenSteps 22 = .ok (.if_icmp .ge 52, 3) := by decide +kernel
theorem dX10_freshenSteps_25 : decode cX10_freshenSteps 25 = .ok (.iload_n 1, 1) := by decide +kernel
theorem dX10_freshenSteps_26 : decode cX10_freshenSteps 26 = .ok (.bipush 6, 2) := by decide +kernel
theorem dX10_freshenSteps_28 : decode cX10_freshenSteps 28 = .ok (.imul, 1) := by decide +kernel
theorem dX10_freshenSteps_29 : decode cX10_freshenSteps 29 = .ok (.iload_n 2, 1) := by decide +kernel
theorem dX10_freshenSteps_30 : decode cX10_freshenSteps 30 = .ok (.iadd, 1) := by decide +kernel
theorem dX10_freshenSteps_31 : decode cX10_freshenSteps 31 = .ok (.istore_n 3, 1) := by decide +kernel
theorem dX10_freshenSteps_32 : decode cX10_freshenSteps 32 = .ok (.aload_n 0, 1) := by decide +kernel
theorem dX10_freshenSteps_33 : decode cX10_freshenSteps 33 = .ok (.getfield 11, 3) := by decide +kernel
theorem dX10_freshenSteps_36 : decode cX10_freshenSteps 36 = .ok (.iload_n 3, 1) := by decide +kernel
theorem dX10_freshenSteps_37 : decode cX10_freshenSteps 37 = .ok (.aload_n 0, 1) := by decide +kernel
theorem dX10_freshenSteps_38 : decode cX10_freshenSteps 38 = .ok (.getfield 51, 3) := by decide +kernel
theorem dX10_freshenSteps_41 : decode cX10_freshenSteps 41 = .ok (.iload_n 2, 1) := by decide +kernel
theorem dX10_freshenSteps_42 : decode cX10_freshenSteps 42 = .ok (.iload_n 1, 1) := by decide +kernel
theorem dX10_freshenSteps_43 : decode cX10_freshenSteps 43 = .ok (.bipush 10, 2) := by decide +kernel
theorem dX10_freshenSteps_45 : decode cX10_freshenSteps 45 = .ok (.imul, 1) := by decide +kernel
theorem dX10_freshenSteps_46 : decode cX10_freshenSteps 46 = .ok (.invokevirtual 79, 3) := by decide +kernel
theorem dX10_freshenSteps_49 : decode cX10_freshenSteps 49 = .ok (.iastore, 1) := by decide +kernel
theorem dX10_freshenSteps_50 : decode cX10_freshenSteps 50 = .ok (.aload_n 0, 1) := by decide +kernel
theorem dX10_freshenSteps_51 : decode cX10_freshenSteps 51 = .ok (.getfield 15, 3) := by decide +kernel
theorem dX10_freshenSteps_54 : decode cX10_freshenSteps 54 = .ok (.iload_n 3, 1) := by decide +kernel
theorem dX10_freshenSteps_55 : decode cX10_freshenSteps 55 = .ok (.aload_n 0, 1) := by decide +kernel
theorem dX10_freshenSteps_56 : decode cX10_freshenSteps 56 = .ok (.getfield 51, 3) := by decide +kernel
theorem dX10_freshenSteps_59 : decode cX10_freshenSteps 59 = .ok (.iload_n 2, 1) := by decide +kernel
theorem dX10_freshenSteps_60 : decode cX10_freshenSteps 60 = .ok (.iload_n 1, 1) := by decide +kernel
theorem dX10_freshenSteps_61 : decode cX10_freshenSteps 61 = .ok (.bipush 10, 2) := by decide +kernel
theorem dX10_freshenSteps_63 : decode cX10_freshenSteps 63 = .ok (.imul, 1) := by decide +kernel
theorem dX10_freshenSteps_64 : decode cX10_freshenSteps 64 = .ok (.invokevirtual 85, 3) := by decide +kernel
theorem dX10_freshenSteps_67 : decode cX10_freshenSteps 67 = .ok (.iastore, 1) := by decide +kernel
theorem dX10_freshenSteps_68 : decode cX10_freshenSteps 68 = .ok (.iinc 2 1, 3) := by decide +kernel
theorem dX10_freshenSteps_71 : decode cX10_freshenSteps 71 = .ok (.goto (-52), 3) := by decide +kernel
theorem dX10_freshenSteps_74 : decode cX10_freshenSteps 74 = .ok (.iinc 1 1, 3) := by decide +kernel
theorem dX10_freshenSteps_77 : decode cX10_freshenSteps 77 = .ok (.goto (-67), 3) := by decide +kernel
theorem dX10_freshenSteps_80 : decode cX10_freshenSteps 80 = .ok (.aload_n 0, 1) := by decide +kernel
theorem dX10_freshenSteps_81 : decode cX10_freshenSteps 81 = .ok (.iconst 1, 1) := by decide +kernel
theorem dX10_freshenSteps_82 : decode cX10_freshenSteps 82 = .ok (.putfield 43, 3) := by decide +kernel
theorem dX10_freshenSteps_85 : decode cX10_freshenSteps 85 = .ok (.return_, 1) := by decide +kernel
theorem dX10_surveyStep_0 : decode cX10_surveyStep 0 = .ok (.lconst 0, 1) := by decide +kernel
theorem dX10_surveyStep_1 : decode cX10_surveyStep 1 = .ok (.lstore 4, 2) := by decide +kernel
theorem dX10_surveyStep_3 : decode cX10_surveyStep 3 = .ok (.lconst 0, 1) := by decide +kernel
theorem dX10_surveyStep_4 : decode cX10_surveyStep 4 = .ok (.lstore 6, 2) := by decide +kernel
theorem dX10_surveyStep_6 : decode cX10_surveyStep 6 = .ok (.lconst 0, 1) := by decide +kernel
theorem dX10_surveyStep_7 : decode cX10_surveyStep 7 = .ok (.lstore 8, 2) := by decide +kernel
theorem dX10_surveyStep_9 : decode cX10_surveyStep 9 = .ok (.lconst 0, 1) := by decide +kernel
theorem dX10_surveyStep_10 : decode cX10_surveyStep 10 = .ok (.lstore 10, 2) := by decide +kernel
theorem dX10_surveyStep_12 : decode cX10_surveyStep 12 = .ok (.iconst 1, 1) := by decide +kernel
theorem dX10_surveyStep_13 : decode cX10_surveyStep 13 = .ok (.istore 12, 2) := by decide +kernel
theorem dX10_surveyStep_15 : decode cX10_surveyStep 15 = .ok (.iload 12, 2) := by decide +kernel
theorem dX10_surveyStep_17 : decode cX10_surveyStep 17 = .ok (.bipush 6, 2) := by decide +kernel
theorem dX10_surveyStep_19 : decode cX10_surveyStep 19 = .ok (.if_icmp .ge 135, 3) := by decide +kernel
theorem dX10_surveyStep_22 : decode cX10_surveyStep 22 = .ok (.aload_n 0, 1) := by decide +kernel
theorem dX10_surveyStep_23 : decode cX10_surveyStep 23 = .ok (.getfield 11, 3) := by decide +kernel
theorem dX10_surveyStep_26 : decode cX10_surveyStep 26 = .ok (.iload_n 1, 1) := by decide +kernel
theorem dX10_surveyStep_27 : decode cX10_surveyStep 27 = .ok (.bipush 6, 2) := by decide +kernel
theorem dX10_surveyStep_29 : decode cX10_surveyStep 29 = .ok (.imul, 1) := by decide +kernel
theorem dX10_surveyStep_30 : decode cX10_surveyStep 30 = .ok (.iload 12, 2) := by decide +kernel
theorem dX10_surveyStep_32 : decode cX10_surveyStep 32 = .ok (.iadd, 1) := by decide +kernel
theorem dX10_surveyStep_33 : decode cX10_surveyStep 33 = .ok (.iaload, 1) := by decide +kernel
theorem dX10_surveyStep_34 : decode cX10_surveyStep 34 = .ok (.istore 13, 2) := by decide +kernel
theorem dX10_surveyStep_36 : decode cX10_surveyStep 36 = .ok (.aload_n 0, 1) := by decide +kernel
theorem dX10_surveyStep_37 : decode cX10_surveyStep 37 = .ok (.getfield 18, 3) := by decide +kernel
theorem dX10_surveyStep_40 : decode cX10_surveyStep 40 = .ok (.iload 12, 2) := by decide +kernel
theorem dX10_surveyStep_42 : decode cX10_surveyStep 42 = .ok (.laload, 1) := by decide +kernel
theorem dX10_surveyStep_43 : decode cX10_surveyStep 43 = .ok (.lstore 14, 2) := by decide +kernel
theorem dX10_surveyStep_45 : decode cX10_surveyStep 45 = .ok (.lload 4, 2) := by decide +kernel
theorem dX10_surveyStep_47 : decode cX10_surveyStep 47 = .ok (.aload_n 0, 1) := by decide +kernel
theorem dX10_surveyStep_48 : decode cX10_surveyStep 48 = .ok (.getfield 15, 3) := by decide +kernel
theorem dX10_surveyStep_51 : decode cX10_surveyStep 51 = .ok (.iload_n 1, 1) := by decide +kernel
theorem dX10_surveyStep_52 : decode cX10_surveyStep 52 = .ok (.bipush 6, 2) := by decide +kernel
theorem dX10_surveyStep_54 : decode cX10_surveyStep 54 = .ok (.imul, 1) := by decide +kernel
theorem dX10_surveyStep_55 : decode cX10_surveyStep 55 = .ok (.iload 12, 2) := by decide +kernel
theorem dX10_surveyStep_57 : decode cX10_surveyStep 57 = .ok (.iadd, 1) := by decide +kernel
theorem dX10_surveyStep_58 : decode cX10_surveyStep 58 = .ok (.iaload, 1) := by decide +kernel
theorem dX10_surveyStep_59 : decode cX10_surveyStep 59 = .ok (.iload_n 3, 1) := by decide +kernel
theorem dX10_surveyStep_60 : decode cX10_surveyStep 60 = .ok (.if_icmp .gt 8, 3) := by decide +kernel
theorem dX10_surveyStep_63 : decode cX10_surveyStep 63 = .ok (.lload 14, 2) := by decide +kernel
theorem dX10_surveyStep_65 : decode cX10_surveyStep 65 = .ok (.goto 4, 3) := by decide +kernel
theorem dX10_surveyStep_68 : decode cX10_surveyStep 68 = .ok (.lconst 0, 1) := by decide +kernel
theorem dX10_surveyStep_69 : decode cX10_surveyStep 69 = .ok (.lor, 1) := by decide +kernel
theorem dX10_surveyStep_70 : decode cX10_surveyStep 70 = .ok (.lstore 4, 2) := by decide +kernel
theorem dX10_surveyStep_72 : decode cX10_surveyStep 72 = .ok (.lload 6, 2) := by decide +kernel
theorem dX10_surveyStep_74 : decode cX10_surveyStep 74 = .ok (.iload 13, 2) := by decide +kernel
theorem dX10_surveyStep_76 : decode cX10_surveyStep 76 = .ok (.invokestatic 88, 3) := by decide +kernel
theorem dX10_surveyStep_79 : decode cX10_surveyStep 79 = .ok (.iload_n 2, 1) := by decide +kernel
theorem dX10_surveyStep_80 : decode cX10_surveyStep 80 = .ok (.if_icmp .gt 8, 3) := by decide +kernel
theorem dX10_surveyStep_83 : decode cX10_surveyStep 83 = .ok (.lload 14, 2) := by decide +kernel
theorem dX10_surveyStep_85 : decode cX10_surveyStep 85 = .ok (.goto 4, 3) := by decide +kernel
theorem dX10_surveyStep_88 : decode cX10_surveyStep 88 = .ok (.lconst 0, 1) := by decide +kernel
theorem dX10_surveyStep_89 : decode cX10_surveyStep 89 = .ok (.lor, 1) := by decide +kernel
theorem dX10_surveyStep_90 : decode cX10_surveyStep 90 = .ok (.lstore 6, 2) := by decide +kernel
theorem dX10_surveyStep_92 : decode cX10_surveyStep 92 = .ok (.lload 8, 2) := by decide +kernel
theorem dX10_surveyStep_94 : decode cX10_surveyStep 94 = .ok (.iload_n 2, 1) := by decide +kernel
theorem dX10_surveyStep_95 : decode cX10_surveyStep 95 = .ok (.iload 13, 2) := by decide +kernel
theorem dX10_surveyStep_97 : decode cX10_surveyStep 97 = .ok (.iadd, 1) := by decide +kernel
theorem dX10_surveyStep_98 : decode cX10_surveyStep 98 = .ok (.aload_n 0, 1) := by decide +kernel
theorem dX10_surveyStep_99 : decode cX10_surveyStep 99 = .ok (.getfield 47, 3) := by decide +kernel
theorem dX10_surveyStep_102 : decode cX10_surveyStep 102 = .ok (.getfield 94, 3) := by decide +kernel
theorem dX10_surveyStep_105 : decode cX10_surveyStep 105 = .ok (.bipush 6, 2) := by decide +kernel
theorem dX10_surveyStep_107 : decode cX10_surveyStep 107 = .ok (.iaload, 1) := by decide +kernel
theorem dX10_surveyStep_108 : decode cX10_surveyStep 108 = .ok (.if_icmp .lt 8, 3) := by decide +kernel
theorem dX10_surveyStep_111 : decode cX10_surveyStep 111 = .ok (.lload 14, 2) := by decide +kernel
theorem dX10_surveyStep_113 : decode cX10_surveyStep 113 = .ok (.goto 4, 3) := by decide +kernel
theorem dX10_surveyStep_116 : decode cX10_surveyStep 116 = .ok (.lconst 0, 1) := by decide +kernel
theorem dX10_surveyStep_117 : decode cX10_surveyStep 117 = .ok (.lor, 1) := by decide +kernel
theorem dX10_surveyStep_118 : decode cX10_surveyStep 118 = .ok (.lstore 8, 2) := by decide +kernel
theorem dX10_surveyStep_120 : decode cX10_surveyStep 120 = .ok (.lload 10, 2) := by decide +kernel
theorem dX10_surveyStep_122 : decode cX10_surveyStep 122 = .ok (.iload_n 2, 1) := by decide +kernel
theorem dX10_surveyStep_123 : decode cX10_surveyStep 123 = .ok (.iload 13, 2) := by decide +kernel
theorem dX10_surveyStep_125 : decode cX10_surveyStep 125 = .ok (.isub, 1) := by decide +kernel
theorem dX10_surveyStep_126 : decode cX10_surveyStep 126 = .ok (.aload_n 0, 1) := by decide +kernel
theorem dX10_surveyStep_127 : decode cX10_surveyStep 127 = .ok (.getfield 47, 3) := by decide +kernel
theorem dX10_surveyStep_130 : decode cX10_surveyStep 130 = .ok (.getfield 94, 3) := by decide +kernel
theorem dX10_surveyStep_133 : decode cX10_surveyStep 133 = .ok (.bipush 6, 2) := by decide +kernel
theorem dX10_surveyStep_135 : decode cX10_surveyStep 135 = .ok (.iaload, 1) := by decide +kernel
theorem dX10_surveyStep_136 : decode cX10_surveyStep 136 = .ok (.if_icmp .lt 8, 3) := by decide +kernel
theorem dX10_surveyStep_139 : decode cX10_surveyStep 139 = .ok (.lload 14, 2) := by decide +kernel
theorem dX10_surveyStep_141 : decode cX10_surveyStep 141 = .ok (.goto 4, 3) := by decide +kernel
theorem dX10_surveyStep_144 : decode cX10_surveyStep 144 = .ok (.lconst 0, 1) := by decide +kernel
theorem dX10_surveyStep_145 : decode cX10_surveyStep 145 = .ok (.lor, 1) := by decide +kernel
theorem dX10_surveyStep_146 : decode cX10_surveyStep 146 = .ok (.lstore 10, 2) := by decide +kernel
theorem dX10_surveyStep_148 : decode cX10_surveyStep 148 = .ok (.iinc 12 1, 3) := by decide +kernel
theorem dX10_surveyStep_151 : decode cX10_surveyStep 151 = .ok (.goto (-136), 3) := by decide +kernel
theorem dX10_surveyStep_154 : decode cX10_surveyStep 154 = .ok (.aload_n 0, 1) := by decide +kernel
theorem dX10_surveyStep_155 : decode cX10_surveyStep 155 = .ok (.getfield 22, 3) := by decide +kernel
theorem dX10_surveyStep_158 : decode cX10_surveyStep 158 = .ok (.iload_n 1, 1) := by decide +kernel
theorem dX10_surveyStep_159 : decode cX10_surveyStep 159 = .ok (.lload 4, 2) := by decide +kernel
theorem dX10_surveyStep_161 : decode cX10_surveyStep 161 = .ok (.lastore, 1) := by decide +kernel
theorem dX10_surveyStep_162 : decode cX10_surveyStep 162 = .ok (.aload_n 0, 1) := by decide +kernel
theorem dX10_surveyStep_163 : decode cX10_surveyStep 163 = .ok (.getfield 25, 3) := by decide +kernel
theorem dX10_surveyStep_166 : decode cX10_surveyStep 166 = .ok (.iload_n 1, 1) := by decide +kernel
theorem dX10_surveyStep_167 : decode cX10_surveyStep 167 = .ok (.lload 6, 2) := by decide +kernel
theorem dX10_surveyStep_169 : decode cX10_surveyStep 169 = .ok (.lastore, 1) := by decide +kernel
theorem dX10_surveyStep_170 : decode cX10_surveyStep 170 = .ok (.aload_n 0, 1) := by decide +kernel
theorem dX10_surveyStep_171 : decode cX10_surveyStep 171 = .ok (.getfield 28, 3) := by decide +kernel
theorem dX10_surveyStep_174 : decode cX10_surveyStep 174 = .ok (.iload_n 1, 1) := by decide +kernel
theorem dX10_surveyStep_175 : decode cX10_surveyStep 175 = .ok (.lload 8, 2) := by decide +kernel
theorem dX10_surveyStep_177 : decode cX10_surveyStep 177 = .ok (.ldc2_w 97, 3) := by decide +kernel
theorem dX10_surveyStep_180 : decode cX10_surveyStep 180 = .ok (.land, 1) := by decide +kernel
theorem dX10_surveyStep_181 : decode cX10_surveyStep 181 = .ok (.lastore, 1) := by decide +kernel
theorem dX10_surveyStep_182 : decode cX10_surveyStep 182 = .ok (.aload_n 0, 1) := by decide +kernel
theorem dX10_surveyStep_183 : decode cX10_surveyStep 183 = .ok (.getfield 31, 3) := by decide +kernel
theorem dX10_surveyStep_186 : decode cX10_surveyStep 186 = .ok (.iload_n 1, 1) := by decide +kernel
theorem dX10_surveyStep_187 : decode cX10_surveyStep 187 = .ok (.lload 10, 2) := by decide +kernel
theorem dX10_surveyStep_189 : decode cX10_surveyStep 189 = .ok (.ldc2_w 99, 3) := by decide +kernel
theorem dX10_surveyStep_192 : decode cX10_surveyStep 192 = .ok (.land, 1) := by decide +kernel
theorem dX10_surveyStep_193 : decode cX10_surveyStep 193 = .ok (.lastore, 1) := by decide +kernel
theorem dX10_surveyStep_194 : decode cX10_surveyStep 194 = .ok (.return_, 1) := by decide +kernel
theorem dX10_reached_0 : decode cX10_reached 0 = .ok (.lload_n 1, 1) := by decide +kernel
theorem dX10_reached_1 : decode cX10_reached 1 = .ok (.aload_n 0, 1) := by decide +kernel
theorem dX10_reached_2 : decode cX10_reached 2 = .ok (.getfield 25, 3) := by decide +kernel
theorem dX10_reached_5 : decode cX10_reached 5 = .ok (.iload_n 3, 1) := by decide +kernel
theorem dX10_reached_6 : decode cX10_reached 6 = .ok (.laload, 1) := by decide +kernel
theorem dX10_reached_7 : decode cX10_reached 7 = .ok (.land, 1) := by decide +kernel
theorem dX10_reached_8 : decode cX10_reached 8 = .ok (.lstore 4, 2) := by decide +kernel
theorem dX10_reached_10 : decode cX10_reached 10 = .ok (.lload 4, 2) := by decide +kernel
theorem dX10_reached_12 : decode cX10_reached 12 = .ok (.lload 4, 2) := by decide +kernel
theorem dX10_reached_14 : decode cX10_reached 14 = .ok (.bipush 10, 2) := by decide +kernel
theorem dX10_reached_16 : decode cX10_reached 16 = .ok (.lshl, 1) := by decide +kernel
theorem dX10_reached_17 : decode cX10_reached 17 = .ok (.lor, 1) := by decide +kernel
theorem dX10_reached_18 : decode cX10_reached 18 = .ok (.lload 4, 2) := by decide +kernel
theorem dX10_reached_20 : decode cX10_reached 20 = .ok (.bipush 10, 2) := by decide +kernel
theorem dX10_reached_22 : decode cX10_reached 22 = .ok (.lushr, 1) := by decide +kernel
theorem dX10_reached_23 : decode cX10_reached 23 = .ok (.lor, 1) := by decide +kernel
theorem dX10_reached_24 : decode cX10_reached 24 = .ok (.lload_n 1, 1) := by decide +kernel
theorem dX10_reached_25 : decode cX10_reached 25 = .ok (.aload_n 0, 1) := by decide +kernel
theorem dX10_reached_26 : decode cX10_reached 26 = .ok (.getfield 28, 3) := by decide +kernel
theorem dX10_reached_29 : decode cX10_reached 29 = .ok (.iload_n 3, 1) := by decide +kernel
theorem dX10_reached_30 : decode cX10_reached 30 = .ok (.laload, 1) := by decide +kernel
theorem dX10_reached_31 : decode cX10_reached 31 = .ok (.land, 1) := by decide +kernel
theorem dX10_reached_32 : decode cX10_reached 32 = .ok (.iconst 1, 1) := by decide +kernel
theorem dX10_reached_33 : decode cX10_reached 33 = .ok (.lshl, 1) := by decide +kernel
theorem dX10_reached_34 : decode cX10_reached 34 = .ok (.lor, 1) := by decide +kernel
theorem dX10_reached_35 : decode cX10_reached 35 = .ok (.lload_n 1, 1) := by decide +kernel
theorem dX10_reached_36 : decode cX10_reached 36 = .ok (.aload_n 0, 1) := by decide +kernel
theorem dX10_reached_37 : decode cX10_reached 37 = .ok (.getfield 31, 3) := by decide +kernel
theorem dX10_reached_40 : decode cX10_reached 40 = .ok (.iload_n 3, 1) := by decide +kernel
theorem dX10_reached_41 : decode cX10_reached 41 = .ok (.laload, 1) := by decide +kernel
theorem dX10_reached_42 : decode cX10_reached 42 = .ok (.land, 1) := by decide +kernel
theorem dX10_reached_43 : decode cX10_reached 43 = .ok (.iconst 1, 1) := by decide +kernel
theorem dX10_reached_44 : decode cX10_reached 44 = .ok (.lushr, 1) := by decide +kernel
theorem dX10_reached_45 : decode cX10_reached 45 = .ok (.lor, 1) := by decide +kernel
theorem dX10_reached_46 : decode cX10_reached 46 = .ok (.lstore 6, 2) := by decide +kernel
theorem dX10_reached_48 : decode cX10_reached 48 = .ok (.lload 6, 2) := by decide +kernel
theorem dX10_reached_50 : decode cX10_reached 50 = .ok (.ldc2_w 101, 3) := by decide +kernel
theorem dX10_reached_53 : decode cX10_reached 53 = .ok (.land, 1) := by decide +kernel
theorem dX10_reached_54 : decode cX10_reached 54 = .ok (.aload_n 0, 1) := by decide +kernel
theorem dX10_reached_55 : decode cX10_reached 55 = .ok (.getfield 22, 3) := by decide +kernel
theorem dX10_reached_58 : decode cX10_reached 58 = .ok (.iload_n 3, 1) := by decide +kernel
theorem dX10_reached_59 : decode cX10_reached 59 = .ok (.iconst 1, 1) := by decide +kernel
theorem dX10_reached_60 : decode cX10_reached 60 = .ok (.iadd, 1) := by decide +kernel
theorem dX10_reached_61 : decode cX10_reached 61 = .ok (.laload, 1) := by decide +kernel
theorem dX10_reached_62 : decode cX10_reached 62 = .ok (.land, 1) := by decide +kernel
theorem dX10_reached_63 : decode cX10_reached 63 = .ok (.lreturn, 1) := by decide +kernel
theorem dX10_reaching_0 : decode cX10_reaching 0 = .ok (.aload_n 0, 1) := by decide +kernel
theorem dX10_reaching_1 : decode cX10_reaching 1 = .ok (.getfield 25, 3) := by decide +kernel
theorem dX10_reaching_4 : decode cX10_reaching 4 = .ok (.iload_n 3, 1) := by decide +kernel
theorem dX10_reaching_5 : decode cX10_reaching 5 = .ok (.laload, 1) := by decide +kernel
theorem dX10_reaching_6 : decode cX10_reaching 6 = .ok (.lload_n 1, 1) := by decide +kernel
theorem dX10_reaching_7 : decode cX10_reaching 7 = .ok (.lload_n 1, 1) := by decide +kernel
theorem dX10_reaching_8 : decode cX10_reaching 8 = .ok (.bipush 10, 2) := by decide +kernel
theorem dX10_reaching_10 : decode cX10_reaching 10 = .ok (.lshl, 1) := by decide +kernel
theorem dX10_reaching_11 : decode cX10_reaching 11 = .ok (.lor, 1) := by decide +kernel
theorem dX10_reaching_12 : decode cX10_reaching 12 = .ok (.lload_n 1, 1) := by decide +kernel
theorem dX10_reaching_13 : decode cX10_reaching 13 = .ok (.bipush 10, 2) := by decide +kernel
theorem dX10_reaching_15 : decode cX10_reaching 15 = .ok (.lushr, 1) := by decide +kernel
theorem dX10_reaching_16 : decode cX10_reaching 16 = .ok (.lor, 1) := by decide +kernel
theorem dX10_reaching_17 : decode cX10_reaching 17 = .ok (.land, 1) := by decide +kernel
theorem dX10_reaching_18 : decode cX10_reaching 18 = .ok (.aload_n 0, 1) := by decide +kernel
theorem dX10_reaching_19 : decode cX10_reaching 19 = .ok (.getfield 28, 3) := by decide +kernel
theorem dX10_reaching_22 : decode cX10_reaching 22 = .ok (.iload_n 3, 1) := by decide +kernel
theorem dX10_reaching_23 : decode cX10_reaching 23 = .ok (.laload, 1) := by decide +kernel
theorem dX10_reaching_24 : decode cX10_reaching 24 = .ok (.lload_n 1, 1) := by decide +kernel
theorem dX10_reaching_25 : decode cX10_reaching 25 = .ok (.iconst 1, 1) := by decide +kernel
theorem dX10_reaching_26 : decode cX10_reaching 26 = .ok (.lushr, 1) := by decide +kernel
theorem dX10_reaching_27 : decode cX10_reaching 27 = .ok (.land, 1) := by decide +kernel
theorem dX10_reaching_28 : decode cX10_reaching 28 = .ok (.lor, 1) := by decide +kernel
theorem dX10_reaching_29 : decode cX10_reaching 29 = .ok (.aload_n 0, 1) := by decide +kernel
theorem dX10_reaching_30 : decode cX10_reaching 30 = .ok (.getfield 31, 3) := by decide +kernel
theorem dX10_reaching_33 : decode cX10_reaching 33 = .ok (.iload_n 3, 1) := by decide +kernel
theorem dX10_reaching_34 : decode cX10_reaching 34 = .ok (.laload, 1) := by decide +kernel
theorem dX10_reaching_35 : decode cX10_reaching 35 = .ok (.lload_n 1, 1) := by decide +kernel
theorem dX10_reaching_36 : decode cX10_reaching 36 = .ok (.iconst 1, 1) := by decide +kernel
theorem dX10_reaching_37 : decode cX10_reaching 37 = .ok (.lshl, 1) := by decide +kernel
theorem dX10_reaching_38 : decode cX10_reaching 38 = .ok (.land, 1) := by decide +kernel
theorem dX10_reaching_39 : decode cX10_reaching 39 = .ok (.lor, 1) := by decide +kernel
theorem dX10_reaching_40 : decode cX10_reaching 40 = .ok (.lstore 4, 2) := by decide +kernel
theorem dX10_reaching_42 : decode cX10_reaching 42 = .ok (.lload 4, 2) := by decide +kernel
theorem dX10_reaching_44 : decode cX10_reaching 44 = .ok (.ldc2_w 101, 3) := by decide +kernel
theorem dX10_reaching_47 : decode cX10_reaching 47 = .ok (.land, 1) := by decide +kernel
theorem dX10_reaching_48 : decode cX10_reaching 48 = .ok (.aload_n 0, 1) := by decide +kernel
theorem dX10_reaching_49 : decode cX10_reaching 49 = .ok (.getfield 22, 3) := by decide +kernel
theorem dX10_reaching_52 : decode cX10_reaching 52 = .ok (.iload_n 3, 1) := by decide +kernel
theorem dX10_reaching_53 : decode cX10_reaching 53 = .ok (.laload, 1) := by decide +kernel
theorem dX10_reaching_54 : decode cX10_reaching 54 = .ok (.land, 1) := by decide +kernel
theorem dX10_reaching_55 : decode cX10_reaching 55 = .ok (.lreturn, 1) := by decide +kernel
theorem dX10_has_0 : decode cX10_has 0 = .ok (.lload_n 0, 1) := by decide +kernel
theorem dX10_has_1 : decode cX10_has 1 = .ok (.iload_n 2, 1) := by decide +kernel
theorem dX10_has_2 : decode cX10_has 2 = .ok (.lushr, 1) := by decide +kernel
theorem dX10_has_3 : decode cX10_has 3 = .ok (.lconst 1, 1) := by decide +kernel
theorem dX10_has_4 : decode cX10_has 4 = .ok (.land, 1) := by decide +kernel
theorem dX10_has_5 : decode cX10_has 5 = .ok (.lconst 0, 1) := by decide +kernel
theorem dX10_has_6 : decode cX10_has 6 = .ok (.lcmp, 1) := by decide +kernel
theorem dX10_has_7 : decode cX10_has 7 = .ok (.ifCond .eq 7, 3) := by decide +kernel
theorem dX10_has_10 : decode cX10_has 10 = .ok (.iconst 1, 1) := by decide +kernel
theorem dX10_has_11 : decode cX10_has 11 = .ok (.goto 4, 3) := by decide +kernel
theorem dX10_has_14 : decode cX10_has 14 = .ok (.iconst 0, 1) := by decide +kernel
theorem dX10_has_15 : decode cX10_has 15 = .ok (.ireturn, 1) := by decide +kernel
theorem dX10_firstStepAt_0 : decode cX10_firstStepAt 0 = .ok (.aload_n 0, 1) := by decide +kernel
theorem dX10_firstStepAt_1 : decode cX10_firstStepAt 1 = .ok (.getfield 22, 3) := by decide +kernel
theorem dX10_firstStepAt_4 : decode cX10_firstStepAt 4 = .ok (.iload_n 1, 1) := by decide +kernel
theorem dX10_firstStepAt_5 : decode cX10_firstStepAt 5 = .ok (.laload, 1) := by decide +kernel
theorem dX10_firstStepAt_6 : decode cX10_firstStepAt 6 = .ok (.lconst 1, 1) := by decide +kernel
theorem dX10_firstStepAt_7 : decode cX10_firstStepAt 7 = .ok (.iload_n 2, 1) := by decide +kernel
theorem dX10_firstStepAt_8 : decode cX10_firstStepAt 8 = .ok (.lshl, 1) := by decide +kernel
theorem dX10_firstStepAt_9 : decode cX10_firstStepAt 9 = .ok (.land, 1) := by decide +kernel
theorem dX10_firstStepAt_10 : decode cX10_firstStepAt 10 = .ok (.lstore 4, 2) := by decide +kernel
theorem dX10_firstStepAt_12 : decode cX10_firstStepAt 12 = .ok (.iload_n 1, 1) := by decide +kernel
theorem dX10_firstStepAt_13 : decode cX10_firstStepAt 13 = .ok (.istore 6, 2) := by decide +kernel
theorem dX10_firstStepAt_15 : decode cX10_firstStepAt 15 = .ok (.iload 6, 2) := by decide +kernel
theorem dX10_firstStepAt_17 : decode cX10_firstStepAt 17 = .ok (.sipush 144, 3) := by decide +kernel
theorem dX10_firstStepAt_20 : decode cX10_firstStepAt 20 = .ok (.if_icmp .ge 50, 3) := by decide +kernel
theorem dX10_firstStepAt_23 : decode cX10_firstStepAt 23 = .ok (.lload 4, 2) := by decide +kernel
theorem dX10_firstStepAt_25 : decode cX10_firstStepAt 25 = .ok (.lconst 0, 1) := by decide +kernel
theorem dX10_firstStepAt_26 : decode cX10_firstStepAt 26 = .ok (.lcmp, 1) := by decide +kernel
theorem dX10_firstStepAt_27 : decode cX10_firstStepAt 27 = .ok (.ifCond .eq 43, 3) := by decide +kernel
theorem dX10_firstStepAt_30 : decode cX10_firstStepAt 30 = .ok (.lload 4, 2) := by decide +kernel
theorem dX10_firstStepAt_32 : decode cX10_firstStepAt 32 = .ok (.iload_n 3, 1) := by decide +kernel
theorem dX10_firstStepAt_33 : decode cX10_firstStepAt 33 = .ok (.invokestatic 103, 3) := by decide +kernel
theorem dX10_firstStepAt_36 : decode cX10_firstStepAt 36 = .ok (.ifCond .eq 6, 3) := by decide +kernel
theorem dX10_firstStepAt_39 : decode cX10_firstStepAt 39 = .ok (.iload 6, 2) := by decide +kernel
theorem dX10_firstStepAt_41 : decode cX10_firstStepAt 41 = .ok (.ireturn, 1) := by decide +kernel
theorem dX10_firstStepAt_42 : decode cX10_firstStepAt 42 = .ok (.iload 6, 2) := by decide +kernel
theorem dX10_firstStepAt_44 : decode cX10_firstStepAt 44 = .ok (.sipush 143, 3) := by decide +kernel
theorem dX10_firstStepAt_47 : decode cX10_firstStepAt 47 = .ok (.if_icmp .ge 14, 3) := by decide +kernel
theorem dX10_firstStepAt_50 : decode cX10_firstStepAt 50 = .ok (.aload_n 0, 1) := by decide +kernel
theorem dX10_firstStepAt_51 : decode cX10_firstStepAt 51 = .ok (.lload 4, 2) := by decide +kernel
theorem dX10_firstStepAt_53 : decode cX10_firstStepAt 53 = .ok (.iload 6, 2) := by decide +kernel
theorem dX10_firstStepAt_55 : decode cX10_firstStepAt 55 = .ok (.invokevirtual 107, 3) := by decide +kernel
theorem dX10_firstStepAt_58 : decode cX10_firstStepAt 58 = .ok (.goto 4, 3) := by decide +kernel
theorem dX10_firstStepAt_61 : decode cX10_firstStepAt 61 = .ok (.lconst 0, 1) := by decide +kernel
theorem dX10_firstStepAt_62 : decode cX10_firstStepAt 62 = .ok (.lstore 4, 2) := by decide +kernel
theorem dX10_firstStepAt_64 : decode cX10_firstStepAt 64 = .ok (.iinc 6 1, 3) := by decide +kernel
theorem dX10_firstStepAt_67 : decode cX10_firstStepAt 67 = .ok (.goto (-52), 3) := by decide +kernel
theorem dX10_firstStepAt_70 : decode cX10_firstStepAt 70 = .ok (.iconst (-1), 1) := by decide +kernel
theorem dX10_firstStepAt_71 : decode cX10_firstStepAt 71 = .ok (.ireturn, 1) := by decide +kernel
theorem dX10_cellOnWay_0 : decode cX10_cellOnWay 0 = .ok (.aload_n 0, 1) := by decide +kernel
theorem dX10_cellOnWay_1 : decode cX10_cellOnWay 1 = .ok (.iload_n 1, 1) := by decide +kernel
theorem dX10_cellOnWay_2 : decode cX10_cellOnWay 2 = .ok (.iload_n 2, 1) := by decide +kernel
theorem dX10_cellOnWay_3 : decode cX10_cellOnWay 3 = .ok (.iload_n 3, 1) := by decide +kernel
theorem dX10_cellOnWay_4 : decode cX10_cellOnWay 4 = .ok (.invokevirtual 111, 3) := by decide +kernel
theorem dX10_cellOnWay_7 : decode cX10_cellOnWay 7 = .ok (.istore 5, 2) := by decide +kernel
theorem dX10_cellOnWay_9 : decode cX10_cellOnWay 9 = .ok (.iload 5, 2) := by decide +kernel
theorem dX10_cellOnWay_11 : decode cX10_cellOnWay 11 = .ok (.iconst (-1), 1) := by decide +kernel
theorem dX10_cellOnWay_12 : decode cX10_cellOnWay 12 = .ok (.if_icmp .eq 16, 3) := by decide +kernel
theorem dX10_cellOnWay_15 : decode cX10_cellOnWay 15 = .ok (.iload 4, 2) := by decide +kernel
theorem dX10_cellOnWay_17 : decode cX10_cellOnWay 17 = .ok (.iload_n 1, 1) := by decide +kernel
theorem dX10_cellOnWay_18 : decode cX10_cellOnWay 18 = .ok (.if_icmp .lt 10, 3) := by decide +kernel
theorem dX10_cellOnWay_21 : decode cX10_cellOnWay 21 = .ok (.iload 4, 2) := by decide +kernel
theorem dX10_cellOnWay_23 : decode cX10_cellOnWay 23 = .ok (.iload 5, 2) := by decide +kernel
theorem dX10_cellOnWay_25 : decode cX10_cellOnWay 25 = .ok (.if_icmp .le 5, 3) := by decide +kernel
theorem dX10_cellOnWay_28 : decode cX10_cellOnWay 28 = .ok (.iconst (-1), 1) := by decide +kernel
theorem dX10_cellOnWay_29 : decode cX10_cellOnWay 29 = .ok (.ireturn, 1) := by decide +kernel
theorem dX10_cellOnWay_30 : decode cX10_cellOnWay 30 = .ok (.aload_n 0, 1) := by decide +kernel
theorem dX10_cellOnWay_31 : decode cX10_cellOnWay 31 = .ok (.getfield 34, 3) := by decide +kernel
theorem dX10_cellOnWay_34 : decode cX10_cellOnWay 34 = .ok (.iload 5, 2) := by decide +kernel
theorem dX10_cellOnWay_36 : decode cX10_cellOnWay 36 = .ok (.lconst 1, 1) := by decide +kernel
theorem dX10_cellOnWay_37 : decode cX10_cellOnWay 37 = .ok (.iload_n 3, 1) := by decide +kernel
theorem dX10_cellOnWay_38 : decode cX10_cellOnWay 38 = .ok (.lshl, 1) := by decide +kernel
theorem dX10_cellOnWay_39 : decode cX10_cellOnWay 39 = .ok (.lastore, 1) := by decide +kernel
theorem dX10_cellOnWay_40 : decode cX10_cellOnWay 40 = .ok (.iload 5, 2) := by decide +kernel
theorem dX10_cellOnWay_42 : decode cX10_cellOnWay 42 = .ok (.iconst 1, 1) := by decide +kernel
theorem dX10_cellOnWay_43 : decode cX10_cellOnWay 43 = .ok (.isub, 1) := by decide +kernel
theorem dX10_cellOnWay_44 : decode cX10_cellOnWay 44 = .ok (.istore 6, 2) := by decide +kernel
theorem dX10_cellOnWay_46 : decode cX10_cellOnWay 46 = .ok (.iload 6, 2) := by decide +kernel
theorem dX10_cellOnWay_48 : decode cX10_cellOnWay 48 = .ok (.iload_n 1, 1) := by decide +kernel
theorem dX10_cellOnWay_49 : decode cX10_cellOnWay 49 = .ok (.if_icmp .lt 31, 3) := by decide +kernel
theorem dX10_cellOnWay_52 : decode cX10_cellOnWay 52 = .ok (.aload_n 0, 1) := by decide +kernel
theorem dX10_cellOnWay_53 : decode cX10_cellOnWay 53 = .ok (.getfield 34, 3) := by decide +kernel
theorem dX10_cellOnWay_56 : decode cX10_cellOnWay 56 = .ok (.iload 6, 2) := by decide +kernel
theorem dX10_cellOnWay_58 : decode cX10_cellOnWay 58 = .ok (.aload_n 0, 1) := by decide +kernel
theorem dX10_cellOnWay_59 : decode cX10_cellOnWay 59 = .ok (.aload_n 0, 1) := by decide +kernel
theorem dX10_cellOnWay_60 : decode cX10_cellOnWay 60 = .ok (.getfield 34, 3) := by decide +kernel
theorem dX10_cellOnWay_63 : decode cX10_cellOnWay 63 = .ok (.iload 6, 2) := by decide +kernel
theorem dX10_cellOnWay_65 : decode cX10_cellOnWay 65 = .ok (.iconst 1, 1) := by decide +kernel
theorem dX10_cellOnWay_66 : decode cX10_cellOnWay 66 = .ok (.iadd, 1) := by decide +kernel
theorem dX10_cellOnWay_67 : decode cX10_cellOnWay 67 = .ok (.laload, 1) := by decide +kernel
theorem dX10_cellOnWay_68 : decode cX10_cellOnWay 68 = .ok (.iload 6, 2) := by decide +kernel
theorem dX10_cellOnWay_70 : decode cX10_cellOnWay 70 = .ok (.invokevirtual 115, 3) := by decide +kernel
theorem dX10_cellOnWay_73 : decode cX10_cellOnWay 73 = .ok (.lastore, 1) := by decide +kernel
theorem dX10_cellOnWay_74 : decode cX10_cellOnWay 74 = .ok (.iinc 6 (-1), 3) := by decide +kernel
theorem dX10_cellOnWay_77 : decode cX10_cellOnWay 77 = .ok (.goto (-31), 3) := by decide +kernel
theorem dX10_cellOnWay_80 : decode cX10_cellOnWay 80 = .ok (.iload_n 2, 1) := by decide +kernel
theorem dX10_cellOnWay_81 : decode cX10_cellOnWay 81 = .ok (.istore 6, 2) := by decide +kernel
theorem dX10_cellOnWay_83 : decode cX10_cellOnWay 83 = .ok (.iload_n 1, 1) := by decide +kernel
theorem dX10_cellOnWay_84 : decode cX10_cellOnWay 84 = .ok (.istore 7, 2) := by decide +kernel
theorem dX10_cellOnWay_86 : decode cX10_cellOnWay 86 = .ok (.iload 7, 2) := by decide +kernel
theorem dX10_cellOnWay_88 : decode cX10_cellOnWay 88 = .ok (.iload 4, 2) := by decide +kernel
theorem dX10_cellOnWay_90 : decode cX10_cellOnWay 90 = .ok (.if_icmp .ge 36, 3) := by decide +kernel
theorem dX10_cellOnWay_93 : decode cX10_cellOnWay 93 = .ok (.aload_n 0, 1) := by decide +kernel
theorem dX10_cellOnWay_94 : decode cX10_cellOnWay 94 = .ok (.lconst 1, 1) := by decide +kernel
theorem dX10_cellOnWay_95 : decode cX10_cellOnWay 95 = .ok (.iload 6, 2) := by decide +kernel
theorem dX10_cellOnWay_97 : decode cX10_cellOnWay 97 = .ok (.lshl, 1) := by decide +kernel
theorem dX10_cellOnWay_98 : decode cX10_cellOnWay 98 = .ok (.iload 7, 2) := by decide +kernel
theorem dX10_cellOnWay_100 : decode cX10_cellOnWay 100 = .ok (.invokevirtual 107, 3) := by decide +kernel
theorem dX10_cellOnWay_103 : decode cX10_cellOnWay 103 = .ok (.aload_n 0, 1) := by decide +kernel
theorem dX10_cellOnWay_104 : decode cX10_cellOnWay 104 = .ok (.getfield 34, 3) := by decide +kernel
theorem dX10_cellOnWay_107 : decode cX10_cellOnWay 107 = .ok (.iload 7, 2) := by decide +kernel
theorem dX10_cellOnWay_109 : decode cX10_cellOnWay 109 = .ok (.iconst 1, 1) := by decide +kernel
theorem dX10_cellOnWay_110 : decode cX10_cellOnWay 110 = .ok (.iadd, 1) := by decide +kernel
theorem dX10_cellOnWay_111 : decode cX10_cellOnWay 111 = .ok (.laload, 1) := by decide +kernel
theorem dX10_cellOnWay_112 : decode cX10_cellOnWay 112 = .ok (.land, 1) := by decide +kernel
theorem dX10_cellOnWay_113 : decode cX10_cellOnWay 113 = .ok (.iload 6, 2) := by decide +kernel
theorem dX10_cellOnWay_115 : decode cX10_cellOnWay 115 = .ok (.invokestatic 118, 3) := by decide +kernel
theorem dX10_cellOnWay_118 : decode cX10_cellOnWay 118 = .ok (.istore 6, 2) := by decide +kernel
theorem dX10_cellOnWay_120 : decode cX10_cellOnWay 120 = .ok (.iinc 7 1, 3) := by decide +kernel
theorem dX10_cellOnWay_123 : decode cX10_cellOnWay 123 = .ok (.goto (-37), 3) := by decide +kernel
theorem dX10_cellOnWay_126 : decode cX10_cellOnWay 126 = .ok (.iload 6, 2) := by decide +kernel
theorem dX10_cellOnWay_128 : decode cX10_cellOnWay 128 = .ok (.ireturn, 1) := by decide +kernel
theorem dX10_lowest_0 : decode cX10_lowest 0 = .ok (.iconst 0, 1) := by decide +kernel
theorem dX10_lowest_1 : decode cX10_lowest 1 = .ok (.iload_n 2, 1) := by decide +kernel
theorem dX10_lowest_2 : decode cX10_lowest 2 = .ok (.bipush 10, 2) := by decide +kernel
theorem dX10_lowest_4 : decode cX10_lowest 4 = .ok (.isub, 1) := by decide +kernel
theorem dX10_lowest_5 : decode cX10_lowest 5 = .ok (.invokestatic 122, 3) := by decide +kernel
theorem dX10_lowest_8 : decode cX10_lowest 8 = .ok (.istore_n 3, 1) := by decide +kernel
theorem dX10_lowest_9 : decode cX10_lowest 9 = .ok (.iload_n 3, 1) := by decide +kernel
theorem dX10_lowest_10 : decode cX10_lowest 10 = .ok (.bipush 50, 2) := by decide +kernel
theorem dX10_lowest_12 : decode cX10_lowest 12 = .ok (.if_icmp .ge 19, 3) := by decide +kernel
theorem dX10_lowest_15 : decode cX10_lowest 15 = .ok (.lload_n 0, 1) := by decide +kernel
theorem dX10_lowest_16 : decode cX10_lowest 16 = .ok (.iload_n 3, 1) := by decide +kernel
theorem dX10_lowest_17 : decode cX10_lowest 17 = .ok (.invokestatic 103, 3) := by decide +kernel
theorem dX10_lowest_20 : decode cX10_lowest 20 = .ok (.ifCond .eq 5, 3) := by decide +kernel
theorem dX10_lowest_23 : decode cX10_lowest 23 = .ok (.iload_n 3, 1) := by decide +kernel
theorem dX10_lowest_24 : decode cX10_lowest 24 = .ok (.ireturn, 1) := by decide +kernel
theorem dX10_lowest_25 : decode cX10_lowest 25 = .ok (.iinc 3 1, 3) := by decide +kernel
theorem dX10_lowest_28 : decode cX10_lowest 28 = .ok (.goto (-19), 3) := by decide +kernel
theorem dX10_lowest_31 : decode cX10_lowest 31 = .ok (.iload_n 2, 1) := by decide +kernel
theorem dX10_lowest_32 : decode cX10_lowest 32 = .ok (.ireturn, 1) := by decide +kernel
theorem dX10_leastWhite_0 : decode cX10_leastWhite 0 = .ok (.aload_n 0, 1) := by decide +kernel
theorem dX10_leastWhite_1 : decode cX10_leastWhite 1 = .ok (.getfield 22, 3) := by decide +kernel
theorem dX10_leastWhite_4 : decode cX10_leastWhite 4 = .ok (.iload_n 1, 1) := by decide +kernel
theorem dX10_leastWhite_5 : decode cX10_leastWhite 5 = .ok (.laload, 1) := by decide +kernel
theorem dX10_leastWhite_6 : decode cX10_leastWhite 6 = .ok (.iload_n 2, 1) := by decide +kernel
theorem dX10_leastWhite_7 : decode cX10_leastWhite 7 = .ok (.invokestatic 103, 3) := by decide +kernel
theorem dX10_leastWhite_10 : decode cX10_leastWhite 10 = .ok (.ifCond .ne 5, 3) := by decide +kernel
theorem dX10_leastWhite_13 : decode cX10_leastWhite 13 = .ok (.iconst (-1), 1) := by decide +kernel
theorem dX10_leastWhite_14 : decode cX10_leastWhite 14 = .ok (.ireturn, 1) := by decide +kernel
theorem dX10_leastWhite_15 : decode cX10_leastWhite 15 = .ok (.aload_n 0, 1) := by decide +kernel
theorem dX10_leastWhite_16 : decode cX10_leastWhite 16 = .ok (.getfield 37, 3) := by decide +kernel
theorem dX10_leastWhite_19 : decode cX10_leastWhite 19 = .ok (.astore 4, 2) := by decide +kernel
theorem dX10_leastWhite_21 : decode cX10_leastWhite 21 = .ok (.aload_n 0, 1) := by decide +kernel
theorem dX10_leastWhite_22 : decode cX10_leastWhite 22 = .ok (.getfield 40, 3) := by decide +kernel
theorem dX10_leastWhite_25 : decode cX10_leastWhite 25 = .ok (.astore 5, 2) := by decide +kernel
theorem dX10_leastWhite_27 : decode cX10_leastWhite 27 = .ok (.aload 4, 2) := by decide +kernel
theorem dX10_leastWhite_29 : decode cX10_leastWhite 29 = .ok (.ldc 125, 2) := by decide +kernel
theorem dX10_leastWhite_31 : decode cX10_leastWhite 31 = .ok (.invokestatic 126, 3) := by decide +kernel
theorem dX10_leastWhite_34 : decode cX10_leastWhite 34 = .ok (.aload 4, 2) := by decide +kernel
theorem dX10_leastWhite_36 : decode cX10_leastWhite 36 = .ok (.iload_n 2, 1) := by decide +kernel
theorem dX10_leastWhite_37 : decode cX10_leastWhite 37 = .ok (.aload_n 0, 1) := by decide +kernel
theorem dX10_leastWhite_38 : decode cX10_leastWhite 38 = .ok (.iload_n 2, 1) := by decide +kernel
theorem dX10_leastWhite_39 : decode cX10_leastWhite 39 = .ok (.iload_n 1, 1) := by decide +kernel
theorem dX10_leastWhite_40 : decode cX10_leastWhite 40 = .ok (.invokevirtual 129, 3) := by decide +kernel
theorem dX10_leastWhite_43 : decode cX10_leastWhite 43 = .ok (.iastore, 1) := by decide +kernel
theorem dX10_leastWhite_44 : decode cX10_leastWhite 44 = .ok (.aload 4, 2) := by decide +kernel
theorem dX10_leastWhite_46 : decode cX10_leastWhite 46 = .ok (.iload_n 3, 1) := by decide +kernel
theorem dX10_leastWhite_47 : decode cX10_leastWhite 47 = .ok (.iaload, 1) := by decide +kernel
theorem dX10_leastWhite_48 : decode cX10_leastWhite 48 = .ok (.istore 6, 2) := by decide +kernel
theorem dX10_leastWhite_50 : decode cX10_leastWhite 50 = .ok (.iload_n 1, 1) := by decide +kernel
theorem dX10_leastWhite_51 : decode cX10_leastWhite 51 = .ok (.istore 7, 2) := by decide +kernel
theorem dX10_leastWhite_53 : decode cX10_leastWhite 53 = .ok (.iload 7, 2) := by decide +kernel
theorem dX10_leastWhite_55 : decode cX10_leastWhite 55 = .ok (.sipush 143, 3) := by decide +kernel
theorem dX10_leastWhite_58 : decode cX10_leastWhite 58 = .ok (.if_icmp .ge 80, 3) := by decide +kernel
theorem dX10_leastWhite_61 : decode cX10_leastWhite 61 = .ok (.aload 5, 2) := by decide +kernel
theorem dX10_leastWhite_63 : decode cX10_leastWhite 63 = .ok (.ldc 125, 2) := by decide +kernel
theorem dX10_leastWhite_65 : decode cX10_leastWhite 65 = .ok (.invokestatic 126, 3) := by decide +kernel
theorem dX10_leastWhite_68 : decode cX10_leastWhite 68 = .ok (.iconst 0, 1) := by decide +kernel
theorem dX10_leastWhite_69 : decode cX10_leastWhite 69 = .ok (.istore 8, 2) := by decide +kernel
theorem dX10_leastWhite_71 : decode cX10_leastWhite 71 = .ok (.iload 8, 2) := by decide +kernel
theorem dX10_leastWhite_73 : decode cX10_leastWhite 73 = .ok (.bipush 50, 2) := by decide +kernel
theorem dX10_leastWhite_75 : decode cX10_leastWhite 75 = .ok (.if_icmp .ge 34, 3) := by decide +kernel
theorem dX10_leastWhite_78 : decode cX10_leastWhite 78 = .ok (.aload 4, 2) := by decide +kernel
theorem dX10_leastWhite_80 : decode cX10_leastWhite 80 = .ok (.iload 8, 2) := by decide +kernel
theorem dX10_leastWhite_82 : decode cX10_leastWhite 82 = .ok (.iaload, 1) := by decide +kernel
theorem dX10_leastWhite_83 : decode cX10_leastWhite 83 = .ok (.ldc 125, 2) := by decide +kernel
theorem dX10_leastWhite_85 : decode cX10_leastWhite 85 = .ok (.if_icmp .ge 18, 3) := by decide +kernel
theorem dX10_leastWhite_88 : decode cX10_leastWhite 88 = .ok (.aload_n 0, 1) := by decide +kernel
theorem dX10_leastWhite_89 : decode cX10_leastWhite 89 = .ok (.aload 4, 2) := by decide +kernel
theorem dX10_leastWhite_91 : decode cX10_leastWhite 91 = .ok (.iload 8, 2) := by decide +kernel
theorem dX10_leastWhite_93 : decode cX10_leastWhite 93 = .ok (.iaload, 1) := by decide +kernel
theorem dX10_leastWhite_94 : decode cX10_leastWhite 94 = .ok (.iload 8, 2) := by decide +kernel
theorem dX10_leastWhite_96 : decode cX10_leastWhite 96 = .ok (.iload 7, 2) := by decide +kernel
theorem dX10_leastWhite_98 : decode cX10_leastWhite 98 = .ok (.aload 5, 2) := by decide +kernel
theorem dX10_leastWhite_100 : decode cX10_leastWhite 100 = .ok (.invokevirtual 132, 3) := by decide +kernel
theorem dX10_leastWhite_103 : decode cX10_leastWhite 103 = .ok (.iinc 8 1, 3) := by decide +kernel
theorem dX10_leastWhite_106 : decode cX10_leastWhite 106 = .ok (.goto (-35), 3) := by decide +kernel
theorem dX10_leastWhite_109 : decode cX10_leastWhite 109 = .ok (.iload 6, 2) := by decide +kernel
theorem dX10_leastWhite_111 : decode cX10_leastWhite 111 = .ok (.aload 5, 2) := by decide +kernel
theorem dX10_leastWhite_113 : decode cX10_leastWhite 113 = .ok (.iload_n 3, 1) := by decide +kernel
theorem dX10_leastWhite_114 : decode cX10_leastWhite 114 = .ok (.iaload, 1) := by decide +kernel
theorem dX10_leastWhite_115 : decode cX10_leastWhite 115 = .ok (.invokestatic 136, 3) := by decide +kernel
theorem dX10_leastWhite_118 : decode cX10_leastWhite 118 = .ok (.istore 6, 2) := by decide +kernel
theorem dX10_leastWhite_120 : decode cX10_leastWhite 120 = .ok (.aload 4, 2) := by decide +kernel
theorem dX10_leastWhite_122 : decode cX10_leastWhite 122 = .ok (.astore 8, 2) := by decide +kernel
theorem dX10_leastWhite_124 : decode cX10_leastWhite 124 = .ok (.aload 5, 2) := by decide +kernel
theorem dX10_leastWhite_126 : decode cX10_leastWhite 126 = .ok (.astore 4, 2) := by decide +kernel
theorem dX10_leastWhite_128 : decode cX10_leastWhite 128 = .ok (.aload 8, 2) := by decide +kernel
theorem dX10_leastWhite_130 : decode cX10_leastWhite 130 = .ok (.astore 5, 2) := by decide +kernel
theorem dX10_leastWhite_132 : decode cX10_leastWhite 132 = .ok (.iinc 7 1, 3) := by decide +kernel
theorem dX10_leastWhite_135 : decode cX10_leastWhite 135 = .ok (.goto (-82), 3) := by decide +kernel
theorem dX10_leastWhite_138 : decode cX10_leastWhite 138 = .ok (.iload 6, 2) := by decide +kernel
theorem dX10_leastWhite_140 : decode cX10_leastWhite 140 = .ok (.ldc 125, 2) := by decide +kernel
theorem dX10_leastWhite_142 : decode cX10_leastWhite 142 = .ok (.if_icmp .ge 8, 3) := by decide +kernel
theorem dX10_leastWhite_145 : decode cX10_leastWhite 145 = .ok (.iload 6, 2) := by decide +kernel
theorem dX10_leastWhite_147 : decode cX10_leastWhite 147 = .ok (.goto 4, 3) := by decide +kernel
theorem dX10_leastWhite_150 : decode cX10_leastWhite 150 = .ok (.iconst (-1), 1) := by decide +kernel
theorem dX10_leastWhite_151 : decode cX10_leastWhite 151 = .ok (.ireturn, 1) := by decide +kernel
theorem dX10_offer_0 : decode cX10_offer 0 = .ok (.aload_n 0, 1) := by decide +kernel
theorem dX10_offer_1 : decode cX10_offer 1 = .ok (.lconst 1, 1) := by decide +kernel
theorem dX10_offer_2 : decode cX10_offer 2 = .ok (.iload_n 2, 1) := by decide +kernel
theorem dX10_offer_3 : decode cX10_offer 3 = .ok (.lshl, 1) := by decide +kernel
theorem dX10_offer_4 : decode cX10_offer 4 = .ok (.iload_n 3, 1) := by decide +kernel
theorem dX10_offer_5 : decode cX10_offer 5 = .ok (.invokevirtual 107, 3) := by decide +kernel
theorem dX10_offer_8 : decode cX10_offer 8 = .ok (.lstore 5, 2) := by decide +kernel
theorem dX10_offer_10 : decode cX10_offer 10 = .ok (.iconst 0, 1) := by decide +kernel
theorem dX10_offer_11 : decode cX10_offer 11 = .ok (.istore 7, 2) := by decide +kernel
theorem dX10_offer_13 : decode cX10_offer 13 = .ok (.iload 7, 2) := by decide +kernel
theorem dX10_offer_15 : decode cX10_offer 15 = .ok (.iconst 4, 1) := by decide +kernel
theorem dX10_offer_16 : decode cX10_offer 16 = .ok (.if_icmp .gt 57, 3) := by decide +kernel
theorem dX10_offer_19 : decode cX10_offer 19 = .ok (.iload 7, 2) := by decide +kernel
theorem dX10_offer_21 : decode cX10_offer 21 = .ok (.iload_n 2, 1) := by decide +kernel
theorem dX10_offer_22 : decode cX10_offer 22 = .ok (.invokestatic 139, 3) := by decide +kernel
theorem dX10_offer_25 : decode cX10_offer 25 = .ok (.istore 8, 2) := by decide +kernel
theorem dX10_offer_27 : decode cX10_offer 27 = .ok (.iload 8, 2) := by decide +kernel
theorem dX10_offer_29 : decode cX10_offer 29 = .ok (.iconst (-1), 1) := by decide +kernel
theorem dX10_offer_30 : decode cX10_offer 30 = .ok (.if_icmp .eq 37, 3) := by decide +kernel
theorem dX10_offer_33 : decode cX10_offer 33 = .ok (.lload 5, 2) := by decide +kernel
theorem dX10_offer_35 : decode cX10_offer 35 = .ok (.iload 8, 2) := by decide +kernel
theorem dX10_offer_37 : decode cX10_offer 37 = .ok (.invokestatic 103, 3) := by decide +kernel
theorem dX10_offer_40 : decode cX10_offer 40 = .ok (.ifCond .eq 27, 3) := by decide +kernel
theorem dX10_offer_43 : decode cX10_offer 43 = .ok (.aload 4, 2) := by decide +kernel
theorem dX10_offer_45 : decode cX10_offer 45 = .ok (.iload 8, 2) := by decide +kernel
theorem dX10_offer_47 : decode cX10_offer 47 = .ok (.aload 4, 2) := by decide +kernel
theorem dX10_offer_49 : decode cX10_offer 49 = .ok (.iload 8, 2) := by decide +kernel
theorem dX10_offer_51 : decode cX10_offer 51 = .ok (.iaload, 1) := by decide +kernel
theorem dX10_offer_52 : decode cX10_offer 52 = .ok (.iload_n 1, 1) := by decide +kernel
theorem dX10_offer_53 : decode cX10_offer 53 = .ok (.aload_n 0, 1) := by decide +kernel
theorem dX10_offer_54 : decode cX10_offer 54 = .ok (.iload 8, 2) := by decide +kernel
theorem dX10_offer_56 : decode cX10_offer 56 = .ok (.iload_n 3, 1) := by decide +kernel
theorem dX10_offer_57 : decode cX10_offer 57 = .ok (.iconst 1, 1) := by decide +kernel
theorem dX10_offer_58 : decode cX10_offer 58 = .ok (.iadd, 1) := by decide +kernel
theorem dX10_offer_59 : decode cX10_offer 59 = .ok (.invokevirtual 129, 3) := by decide +kernel
theorem dX10_offer_62 : decode cX10_offer 62 = .ok (.iadd, 1) := by decide +kernel
theorem dX10_offer_63 : decode cX10_offer 63 = .ok (.invokestatic 136, 3) := by decide +kernel
theorem dX10_offer_66 : decode cX10_offer 66 = .ok (.iastore, 1) := by decide +kernel
theorem dX10_offer_67 : decode cX10_offer 67 = .ok (.iinc 7 1, 3) := by decide +kernel
theorem dX10_offer_70 : decode cX10_offer 70 = .ok (.goto (-57), 3) := by decide +kernel
theorem dX10_offer_73 : decode cX10_offer 73 = .ok (.return_, 1) := by decide +kernel
theorem dX10_whiteAt_0 : decode cX10_whiteAt 0 = .ok (.aload_n 0, 1) := by decide +kernel
theorem dX10_whiteAt_1 : decode cX10_whiteAt 1 = .ok (.getfield 15, 3) := by decide +kernel
theorem dX10_whiteAt_4 : decode cX10_whiteAt 4 = .ok (.iload_n 2, 1) := by decide +kernel
theorem dX10_whiteAt_5 : decode cX10_whiteAt 5 = .ok (.bipush 6, 2) := by decide +kernel
theorem dX10_whiteAt_7 : decode cX10_whiteAt 7 = .ok (.imul, 1) := by decide +kernel
theorem dX10_whiteAt_8 : decode cX10_whiteAt 8 = .ok (.aload_n 0, 1) := by decide +kernel
theorem dX10_whiteAt_9 : decode cX10_whiteAt 9 = .ok (.getfield 47, 3) := by decide +kernel
theorem dX10_whiteAt_12 : decode cX10_whiteAt 12 = .ok (.getfield 64, 3) := by decide +kernel
theorem dX10_whiteAt_15 : decode cX10_whiteAt 15 = .ok (.iload_n 1, 1) := by decide +kernel
theorem dX10_whiteAt_16 : decode cX10_whiteAt 16 = .ok (.iaload, 1) := by decide +kernel
theorem dX10_whiteAt_17 : decode cX10_whiteAt 17 = .ok (.iadd, 1) := by decide +kernel
theorem dX10_whiteAt_18 : decode cX10_whiteAt 18 = .ok (.iaload, 1) := by decide +kernel
theorem dX10_whiteAt_19 : decode cX10_whiteAt 19 = .ok (.ireturn, 1) := by decide +kernel
theorem dX10_lastStart_0 : decode cX10_lastStart 0 = .ok (.lconst 1, 1) := by decide +kernel
theorem dX10_lastStart_1 : decode cX10_lastStart 1 = .ok (.iload_n 2, 1) := by decide +kernel
theorem dX10_lastStart_2 : decode cX10_lastStart 2 = .ok (.lshl, 1) := by decide +kernel
theorem dX10_lastStart_3 : decode cX10_lastStart 3 = .ok (.lstore 4, 2) := by decide +kernel
theorem dX10_lastStart_5 : decode cX10_lastStart 5 = .ok (.aload_n 0, 1) := by decide +kernel
theorem dX10_lastStart_6 : decode cX10_lastStart 6 = .ok (.getfield 22, 3) := by decide +kernel
theorem dX10_lastStart_9 : decode cX10_lastStart 9 = .ok (.iload_n 3, 1) := by decide +kernel
theorem dX10_lastStart_10 : decode cX10_lastStart 10 = .ok (.laload, 1) := by decide +kernel
theorem dX10_lastStart_11 : decode cX10_lastStart 11 = .ok (.lload 4, 2) := by decide +kernel
theorem dX10_lastStart_13 : decode cX10_lastStart 13 = .ok (.land, 1) := by decide +kernel
theorem dX10_lastStart_14 : decode cX10_lastStart 14 = .ok (.lstore 6, 2) := by decide +kernel
theorem dX10_lastStart_16 : decode cX10_lastStart 16 = .ok (.iload_n 3, 1) := by decide +kernel
theorem dX10_lastStart_17 : decode cX10_lastStart 17 = .ok (.istore 8, 2) := by decide +kernel
theorem dX10_lastStart_19 : decode cX10_lastStart 19 = .ok (.iload 8, 2) := by decide +kernel
theorem dX10_lastStart_21 : decode cX10_lastStart 21 = .ok (.ifCond .lt 55, 3) := by decide +kernel
theorem dX10_lastStart_24 : decode cX10_lastStart 24 = .ok (.lload 6, 2) := by decide +kernel
theorem dX10_lastStart_26 : decode cX10_lastStart 26 = .ok (.iload_n 1, 1) := by decide +kernel
theorem dX10_lastStart_27 : decode cX10_lastStart 27 = .ok (.invokestatic 103, 3) := by decide +kernel
theorem dX10_lastStart_30 : decode cX10_lastStart 30 = .ok (.ifCond .eq 6, 3) := by decide +kernel
theorem dX10_lastStart_33 : decode cX10_lastStart 33 = .ok (.iload 8, 2) := by decide +kernel
theorem dX10_lastStart_35 : decode cX10_lastStart 35 = .ok (.ireturn, 1) := by decide +kernel
theorem dX10_lastStart_36 : decode cX10_lastStart 36 = .ok (.iload 8, 2) := by decide +kernel
theorem dX10_lastStart_38 : decode cX10_lastStart 38 = .ok (.ifCond .le 29, 3) := by decide +kernel
theorem dX10_lastStart_41 : decode cX10_lastStart 41 = .ok (.aload_n 0, 1) := by decide +kernel
theorem dX10_lastStart_42 : decode cX10_lastStart 42 = .ok (.lload 6, 2) := by decide +kernel
theorem dX10_lastStart_44 : decode cX10_lastStart 44 = .ok (.iload 8, 2) := by decide +kernel
theorem dX10_lastStart_46 : decode cX10_lastStart 46 = .ok (.iconst 1, 1) := by decide +kernel
theorem dX10_lastStart_47 : decode cX10_lastStart 47 = .ok (.isub, 1) := by decide +kernel
theorem dX10_lastStart_48 : decode cX10_lastStart 48 = .ok (.invokevirtual 115, 3) := by decide +kernel
theorem dX10_lastStart_51 : decode cX10_lastStart 51 = .ok (.aload_n 0, 1) := by decide +kernel
theorem dX10_lastStart_52 : decode cX10_lastStart 52 = .ok (.getfield 22, 3) := by decide +kernel
theorem dX10_lastStart_55 : decode cX10_lastStart 55 = .ok (.iload 8, 2) := by decide +kernel
theorem dX10_lastStart_57 : decode cX10_lastStart 57 = .ok (.iconst 1, 1) := by decide +kernel
theorem dX10_lastStart_58 : decode cX10_lastStart 58 = .ok (.isub, 1) := by decide +kernel
theorem dX10_lastStart_59 : decode cX10_lastStart 59 = .ok (.laload, 1) := by decide +kernel
theorem dX10_lastStart_60 : decode cX10_lastStart 60 = .ok (.lload 4, 2) := by decide +kernel
theorem dX10_lastStart_62 : decode cX10_lastStart 62 = .ok (.land, 1) := by decide +kernel
theorem dX10_lastStart_63 : decode cX10_lastStart 63 = .ok (.lor, 1) := by decide +kernel
theorem dX10_lastStart_64 : decode cX10_lastStart 64 = .ok (.goto 4, 3) := by decide +kernel
theorem dX10_lastStart_67 : decode cX10_lastStart 67 = .ok (.lconst 0, 1) := by decide +kernel
theorem dX10_lastStart_68 : decode cX10_lastStart 68 = .ok (.lstore 6, 2) := by decide +kernel
theorem dX10_lastStart_70 : decode cX10_lastStart 70 = .ok (.iinc 8 (-1), 3) := by decide +kernel
theorem dX10_lastStart_73 : decode cX10_lastStart 73 = .ok (.goto (-54), 3) := by decide +kernel
theorem dX10_lastStart_76 : decode cX10_lastStart 76 = .ok (.iconst (-1), 1) := by decide +kernel
theorem dX10_lastStart_77 : decode cX10_lastStart 77 = .ok (.ireturn, 1) := by decide +kernel
theorem dX10_movesDone_0 : decode cX10_movesDone 0 = .ok (.aload_n 0, 1) := by decide +kernel
theorem dX10_movesDone_1 : decode cX10_movesDone 1 = .ok (.getfield 47, 3) := by decide +kernel
theorem dX10_movesDone_4 : decode cX10_movesDone 4 = .ok (.getfield 69, 3) := by decide +kernel
theorem dX10_movesDone_7 : decode cX10_movesDone 7 = .ok (.iload_n 1, 1) := by decide +kernel
theorem dX10_movesDone_8 : decode cX10_movesDone 8 = .ok (.iaload, 1) := by decide +kernel
theorem dX10_movesDone_9 : decode cX10_movesDone 9 = .ok (.istore 5, 2) := by decide +kernel
theorem dX10_movesDone_11 : decode cX10_movesDone 11 = .ok (.aload_n 0, 1) := by decide +kernel
theorem dX10_movesDone_12 : decode cX10_movesDone 12 = .ok (.getfield 47, 3) := by decide +kernel
theorem dX10_movesDone_15 : decode cX10_movesDone 15 = .ok (.getfield 72, 3) := by decide +kernel
theorem dX10_movesDone_18 : decode cX10_movesDone 18 = .ok (.iload_n 1, 1) := by decide +kernel
theorem dX10_movesDone_19 : decode cX10_movesDone 19 = .ok (.iaload, 1) := by decide +kernel
theorem dX10_movesDone_20 : decode cX10_movesDone 20 = .ok (.istore 6, 2) := by decide +kernel
theorem dX10_movesDone_22 : decode cX10_movesDone 22 = .ok (.iload_n 2, 1) := by decide +kernel
theorem dX10_movesDone_23 : decode cX10_movesDone 23 = .ok (.iload 4, 2) := by decide +kernel
theorem dX10_movesDone_25 : decode cX10_movesDone 25 = .ok (.invokestatic 142, 3) := by decide +kernel
theorem dX10_movesDone_28 : decode cX10_movesDone 28 = .ok (.istore 7, 2) := by decide +kernel
theorem dX10_movesDone_30 : decode cX10_movesDone 30 = .ok (.aload_n 0, 1) := by decide +kernel
theorem dX10_movesDone_31 : decode cX10_movesDone 31 = .ok (.iload_n 3, 1) := by decide +kernel
theorem dX10_movesDone_32 : decode cX10_movesDone 32 = .ok (.iload 7, 2) := by decide +kernel
theorem dX10_movesDone_34 : decode cX10_movesDone 34 = .ok (.iload 6, 2) := by decide +kernel
theorem dX10_movesDone_36 : decode cX10_movesDone 36 = .ok (.invokevirtual 145, 3) := by decide +kernel
theorem dX10_movesDone_39 : decode cX10_movesDone 39 = .ok (.ifCond .ne 5, 3) := by decide +kernel
theorem dX10_movesDone_42 : decode cX10_movesDone 42 = .ok (.iconst (-1), 1) := by decide +kernel
theorem dX10_movesDone_43 : decode cX10_movesDone 43 = .ok (.ireturn, 1) := by decide +kernel
theorem dX10_movesDone_44 : decode cX10_movesDone 44 = .ok (.iload_n 3, 1) := by decide +kernel
theorem dX10_movesDone_45 : decode cX10_movesDone 45 = .ok (.istore 8, 2) := by decide +kernel
theorem dX10_movesDone_47 : decode cX10_movesDone 47 = .ok (.iconst 0, 1) := by decide +kernel
theorem dX10_movesDone_48 : decode cX10_movesDone 48 = .ok (.istore 9, 2) := by decide +kernel
theorem dX10_movesDone_50 : decode cX10_movesDone 50 = .ok (.iload 9, 2) := by decide +kernel
theorem dX10_movesDone_52 : decode cX10_movesDone 52 = .ok (.aload_n 0, 1) := by decide +kernel
theorem dX10_movesDone_53 : decode cX10_movesDone 53 = .ok (.getfield 47, 3) := by decide +kernel
theorem dX10_movesDone_56 : decode cX10_movesDone 56 = .ok (.getfield 149, 3) := by decide +kernel
theorem dX10_movesDone_59 : decode cX10_movesDone 59 = .ok (.if_icmp .ge 116, 3) := by decide +kernel
theorem dX10_movesDone_62 : decode cX10_movesDone 62 = .ok (.aload_n 0, 1) := by decide +kernel
theorem dX10_movesDone_63 : decode cX10_movesDone 63 = .ok (.getfield 47, 3) := by decide +kernel
theorem dX10_movesDone_66 : decode cX10_movesDone 66 = .ok (.getfield 153, 3) := by decide +kernel
theorem dX10_movesDone_69 : decode cX10_movesDone 69 = .ok (.iload 9, 2) := by decide +kernel
theorem dX10_movesDone_71 : decode cX10_movesDone 71 = .ok (.iaload, 1) := by decide +kernel
theorem dX10_movesDone_72 : decode cX10_movesDone 72 = .ok (.istore 10, 2) := by decide +kernel
theorem dX10_movesDone_74 : decode cX10_movesDone 74 = .ok (.iload 10, 2) := by decide +kernel
theorem dX10_movesDone_76 : decode cX10_movesDone 76 = .ok (.iload 8, 2) := by decide +kernel
theorem dX10_movesDone_78 : decode cX10_movesDone 78 = .ok (.invokestatic 139, 3) := by decide +kernel
theorem dX10_movesDone_81 : decode cX10_movesDone 81 = .ok (.istore 11, 2) := by decide +kernel
theorem dX10_movesDone_83 : decode cX10_movesDone 83 = .ok (.iload_n 2, 1) := by decide +kernel
theorem dX10_movesDone_84 : decode cX10_movesDone 84 = .ok (.iload 9, 2) := by decide +kernel
theorem dX10_movesDone_86 : decode cX10_movesDone 86 = .ok (.iadd, 1) := by decide +kernel
theorem dX10_movesDone_87 : decode cX10_movesDone 87 = .ok (.sipush 143, 3) := by decide +kernel
theorem dX10_movesDone_90 : decode cX10_movesDone 90 = .ok (.if_icmp .ge 9, 3) := by decide +kernel
theorem dX10_movesDone_93 : decode cX10_movesDone 93 = .ok (.iload 11, 2) := by decide +kernel
theorem dX10_movesDone_95 : decode cX10_movesDone 95 = .ok (.iconst (-1), 1) := by decide +kernel
theorem dX10_movesDone_96 : decode cX10_movesDone 96 = .ok (.if_icmp .ne 6, 3) := by decide +kernel
theorem dX10_movesDone_99 : decode cX10_movesDone 99 = .ok (.iload 9, 2) := by decide +kernel
theorem dX10_movesDone_101 : decode cX10_movesDone 101 = .ok (.ireturn, 1) := by decide +kernel
theorem dX10_movesDone_102 : decode cX10_movesDone 102 = .ok (.aload_n 0, 1) := by decide +kernel
theorem dX10_movesDone_103 : decode cX10_movesDone 103 = .ok (.getfield 51, 3) := by decide +kernel
theorem dX10_movesDone_106 : decode cX10_movesDone 106 = .ok (.aload_n 0, 1) := by decide +kernel
theorem dX10_movesDone_107 : decode cX10_movesDone 107 = .ok (.getfield 47, 3) := by decide +kernel
theorem dX10_movesDone_110 : decode cX10_movesDone 110 = .ok (.getfield 64, 3) := by decide +kernel
theorem dX10_movesDone_113 : decode cX10_movesDone 113 = .ok (.iload 8, 2) := by decide +kernel
theorem dX10_movesDone_115 : decode cX10_movesDone 115 = .ok (.iaload, 1) := by decide +kernel
theorem dX10_movesDone_116 : decode cX10_movesDone 116 = .ok (.iload 7, 2) := by decide +kernel
theorem dX10_movesDone_118 : decode cX10_movesDone 118 = .ok (.invokevirtual 79, 3) := by decide +kernel
theorem dX10_movesDone_121 : decode cX10_movesDone 121 = .ok (.istore 12, 2) := by decide +kernel
theorem dX10_movesDone_123 : decode cX10_movesDone 123 = .ok (.iload_n 2, 1) := by decide +kernel
theorem dX10_movesDone_124 : decode cX10_movesDone 124 = .ok (.iload 9, 2) := by decide +kernel
theorem dX10_movesDone_126 : decode cX10_movesDone 126 = .ok (.iadd, 1) := by decide +kernel
theorem dX10_movesDone_127 : decode cX10_movesDone 127 = .ok (.iconst 1, 1) := by decide +kernel
theorem dX10_movesDone_128 : decode cX10_movesDone 128 = .ok (.iadd, 1) := by decide +kernel
theorem dX10_movesDone_129 : decode cX10_movesDone 129 = .ok (.iload 4, 2) := by decide +kernel
theorem dX10_movesDone_131 : decode cX10_movesDone 131 = .ok (.invokestatic 142, 3) := by decide +kernel
theorem dX10_movesDone_134 : decode cX10_movesDone 134 = .ok (.istore 7, 2) := by decide +kernel
theorem dX10_movesDone_136 : decode cX10_movesDone 136 = .ok (.aload_n 0, 1) := by decide +kernel
theorem dX10_movesDone_137 : decode cX10_movesDone 137 = .ok (.iload 10, 2) := by decide +kernel
theorem dX10_movesDone_139 : decode cX10_movesDone 139 = .ok (.iload 12, 2) := by decide +kernel
theorem dX10_movesDone_141 : decode cX10_movesDone 141 = .ok (.iload 5, 2) := by decide +kernel
theorem dX10_movesDone_143 : decode cX10_movesDone 143 = .ok (.invokevirtual 156, 3) := by decide +kernel
theorem dX10_movesDone_146 : decode cX10_movesDone 146 = .ok (.ifCond .eq 16, 3) := by decide +kernel
theorem dX10_movesDone_149 : decode cX10_movesDone 149 = .ok (.aload_n 0, 1) := by decide +kernel
theorem dX10_movesDone_150 : decode cX10_movesDone 150 = .ok (.iload 11, 2) := by decide +kernel
theorem dX10_movesDone_152 : decode cX10_movesDone 152 = .ok (.iload 7, 2) := by decide +kernel
theorem dX10_movesDone_154 : decode cX10_movesDone 154 = .ok (.iload 6, 2) := by decide +kernel
theorem dX10_movesDone_156 : decode cX10_movesDone 156 = .ok (.invokevirtual 145, 3) := by decide +kernel
theorem dX10_movesDone_159 : decode cX10_movesDone 159 = .ok (.ifCond .ne 6, 3) := by decide +kernel
theorem dX10_movesDone_162 : decode cX10_movesDone 162 = .ok (.iload 9, 2) := by decide +kernel
theorem dX10_movesDone_164 : decode cX10_movesDone 164 = .ok (.ireturn, 1) := by decide +kernel
theorem dX10_movesDone_165 : decode cX10_movesDone 165 = .ok (.iload 11, 2) := by decide +kernel
theorem dX10_movesDone_167 : decode cX10_movesDone 167 = .ok (.istore 8, 2) := by decide +kernel
theorem dX10_movesDone_169 : decode cX10_movesDone 169 = .ok (.iinc 9 1, 3) := by decide +kernel
theorem dX10_movesDone_172 : decode cX10_movesDone 172 = .ok (.goto (-122), 3) := by decide +kernel
theorem dX10_movesDone_175 : decode cX10_movesDone 175 = .ok (.aload_n 0, 1) := by decide +kernel
theorem dX10_movesDone_176 : decode cX10_movesDone 176 = .ok (.getfield 47, 3) := by decide +kernel
theorem dX10_movesDone_179 : decode cX10_movesDone 179 = .ok (.getfield 149, 3) := by decide +kernel
theorem dX10_movesDone_182 : decode cX10_movesDone 182 = .ok (.ireturn, 1) := by decide +kernel
theorem dX10_widestSlip_0 : decode cX10_widestSlip 0 = .ok (.iconst 0, 1) := by decide +kernel
theorem dX10_widestSlip_1 : decode cX10_widestSlip 1 = .ok (.istore 4, 2) := by decide +kernel
theorem dX10_widestSlip_3 : decode cX10_widestSlip 3 = .ok (.iload 4, 2) := by decide +kernel
theorem dX10_widestSlip_5 : decode cX10_widestSlip 5 = .ok (.bipush 60, 2) := by decide +kernel
theorem dX10_widestSlip_7 : decode cX10_widestSlip 7 = .ok (.if_icmp .gt 53, 3) := by decide +kernel
theorem dX10_widestSlip_10 : decode cX10_widestSlip 10 = .ok (.aload_n 0, 1) := by decide +kernel
theorem dX10_widestSlip_11 : decode cX10_widestSlip 11 = .ok (.iload_n 1, 1) := by decide +kernel
theorem dX10_widestSlip_12 : decode cX10_widestSlip 12 = .ok (.iload_n 2, 1) := by decide +kernel
theorem dX10_widestSlip_13 : decode cX10_widestSlip 13 = .ok (.iload_n 3, 1) := by decide +kernel
theorem dX10_widestSlip_14 : decode cX10_widestSlip 14 = .ok (.iload 4, 2) := by decide +kernel
theorem dX10_widestSlip_16 : decode cX10_widestSlip 16 = .ok (.invokevirtual 159, 3) := by decide +kernel
theorem dX10_widestSlip_19 : decode cX10_widestSlip 19 = .ok (.aload_n 0, 1) := by decide +kernel
theorem dX10_widestSlip_20 : decode cX10_widestSlip 20 = .ok (.getfield 47, 3) := by decide +kernel
theorem dX10_widestSlip_23 : decode cX10_widestSlip 23 = .ok (.getfield 149, 3) := by decide +kernel
theorem dX10_widestSlip_26 : decode cX10_widestSlip 26 = .ok (.if_icmp .lt 23, 3) := by decide +kernel
theorem dX10_widestSlip_29 : decode cX10_widestSlip 29 = .ok (.aload_n 0, 1) := by decide +kernel
theorem dX10_widestSlip_30 : decode cX10_widestSlip 30 = .ok (.iload_n 1, 1) := by decide +kernel
theorem dX10_widestSlip_31 : decode cX10_widestSlip 31 = .ok (.iload_n 2, 1) := by decide +kernel
theorem dX10_widestSlip_32 : decode cX10_widestSlip 32 = .ok (.iload_n 3, 1) := by decide +kernel
theorem dX10_widestSlip_33 : decode cX10_widestSlip 33 = .ok (.iload 4, 2) := by decide +kernel
theorem dX10_widestSlip_35 : decode cX10_widestSlip 35 = .ok (.ineg, 1) := by decide +kernel
theorem dX10_widestSlip_36 : decode cX10_widestSlip 36 = .ok (.invokevirtual 159, 3) := by decide +kernel
theorem dX10_widestSlip_39 : decode cX10_widestSlip 39 = .ok (.aload_n 0, 1) := by decide +kernel
theorem dX10_widestSlip_40 : decode cX10_widestSlip 40 = .ok (.getfield 47, 3) := by decide +kernel
theorem dX10_widestSlip_43 : decode cX10_widestSlip 43 = .ok (.getfield 149, 3) := by decide +kernel
theorem dX10_widestSlip_46 : decode cX10_widestSlip 46 = .ok (.if_icmp .ge 8, 3) := by decide +kernel
theorem dX10_widestSlip_49 : decode cX10_widestSlip 49 = .ok (.iload 4, 2) := by decide +kernel
theorem dX10_widestSlip_51 : decode cX10_widestSlip 51 = .ok (.iconst 1, 1) := by decide +kernel
theorem dX10_widestSlip_52 : decode cX10_widestSlip 52 = .ok (.isub, 1) := by decide +kernel
theorem dX10_widestSlip_53 : decode cX10_widestSlip 53 = .ok (.ireturn, 1) := by decide +kernel
theorem dX10_widestSlip_54 : decode cX10_widestSlip 54 = .ok (.iinc 4 1, 3) := by decide +kernel
theorem dX10_widestSlip_57 : decode cX10_widestSlip 57 = .ok (.goto (-54), 3) := by decide +kernel
theorem dX10_widestSlip_60 : decode cX10_widestSlip 60 = .ok (.bipush 60, 2) := by decide +kernel
theorem dX10_widestSlip_62 : decode cX10_widestSlip 62 = .ok (.ireturn, 1) := by decide +kernel
theorem dX10_slipped_0 : decode cX10_slipped 0 = .ok (.iload_n 0, 1) := by decide +kernel
theorem dX10_slipped_1 : decode cX10_slipped 1 = .ok (.bipush 10, 2) := by decide +kernel
theorem dX10_slipped_3 : decode cX10_slipped 3 = .ok (.imul, 1) := by decide +kernel
theorem dX10_slipped_4 : decode cX10_slipped 4 = .ok (.iload_n 1, 1) := by decide +kernel
theorem dX10_slipped_5 : decode cX10_slipped 5 = .ok (.iadd, 1) := by decide +kernel
theorem dX10_slipped_6 : decode cX10_slipped 6 = .ok (.iconst 0, 1) := by decide +kernel
theorem dX10_slipped_7 : decode cX10_slipped 7 = .ok (.sipush 1439, 3) := by decide +kernel
theorem dX10_slipped_10 : decode cX10_slipped 10 = .ok (.invokestatic 163, 3) := by decide +kernel
theorem dX10_slipped_13 : decode cX10_slipped 13 = .ok (.ireturn, 1) := by decide +kernel
theorem dX10_isOpen_0 : decode cX10_isOpen 0 = .ok (.aload_n 0, 1) := by decide +kernel
theorem dX10_isOpen_1 : decode cX10_isOpen 1 = .ok (.getfield 47, 3) := by decide +kernel
theorem dX10_isOpen_4 : decode cX10_isOpen 4 = .ok (.getfield 64, 3) := by decide +kernel
theorem dX10_isOpen_7 : decode cX10_isOpen 7 = .ok (.iload_n 1, 1) := by decide +kernel
theorem dX10_isOpen_8 : decode cX10_isOpen 8 = .ok (.iaload, 1) := by decide +kernel
theorem dX10_isOpen_9 : decode cX10_isOpen 9 = .ok (.istore 4, 2) := by decide +kernel
theorem dX10_isOpen_11 : decode cX10_isOpen 11 = .ok (.iload 4, 2) := by decide +kernel
theorem dX10_isOpen_13 : decode cX10_isOpen 13 = .ok (.ifCond .eq 21, 3) := by decide +kernel
theorem dX10_isOpen_16 : decode cX10_isOpen 16 = .ok (.aload_n 0, 1) := by decide +kernel
theorem dX10_isOpen_17 : decode cX10_isOpen 17 = .ok (.getfield 51, 3) := by decide +kernel
theorem dX10_isOpen_20 : decode cX10_isOpen 20 = .ok (.iload 4, 2) := by decide +kernel
theorem dX10_isOpen_22 : decode cX10_isOpen 22 = .ok (.iload_n 2, 1) := by decide +kernel
theorem dX10_isOpen_23 : decode cX10_isOpen 23 = .ok (.invokevirtual 85, 3) := by decide +kernel
theorem dX10_isOpen_26 : decode cX10_isOpen 26 = .ok (.iload_n 3, 1) := by decide +kernel
theorem dX10_isOpen_27 : decode cX10_isOpen 27 = .ok (.if_icmp .gt 7, 3) := by decide +kernel
theorem dX10_isOpen_30 : decode cX10_isOpen 30 = .ok (.iconst 1, 1) := by decide +kernel
theorem dX10_isOpen_31 : decode cX10_isOpen 31 = .ok (.goto 4, 3) := by decide +kernel
theorem dX10_isOpen_34 : decode cX10_isOpen 34 = .ok (.iconst 0, 1) := by decide +kernel
theorem dX10_isOpen_35 : decode cX10_isOpen 35 = .ok (.ireturn, 1) := by decide +kernel
theorem dX10_canMove_0 : decode cX10_canMove 0 = .ok (.iload_n 1, 1) := by decide +kernel
theorem dX10_canMove_1 : decode cX10_canMove 1 = .ok (.lookupswitch 71 #[(1, 27), (2, 49)], 27) := by decide +kernel
theorem dX10_canMove_28 : decode cX10_canMove 28 = .ok (.iload_n 3, 1) := by decide +kernel
theorem dX10_canMove_29 : decode cX10_canMove 29 = .ok (.iload_n 2, 1) := by decide +kernel
theorem dX10_canMove_30 : decode cX10_canMove 30 = .ok (.iadd, 1) := by decide +kernel
theorem dX10_canMove_31 : decode cX10_canMove 31 = .ok (.aload_n 0, 1) := by decide +kernel
theorem dX10_canMove_32 : decode cX10_canMove 32 = .ok (.getfield 47, 3) := by decide +kernel
theorem dX10_canMove_35 : decode cX10_canMove 35 = .ok (.getfield 94, 3) := by decide +kernel
theorem dX10_canMove_38 : decode cX10_canMove 38 = .ok (.bipush 6, 2) := by decide +kernel
theorem dX10_canMove_40 : decode cX10_canMove 40 = .ok (.iaload, 1) := by decide +kernel
theorem dX10_canMove_41 : decode cX10_canMove 41 = .ok (.if_icmp .lt 7, 3) := by decide +kernel
theorem dX10_canMove_44 : decode cX10_canMove 44 = .ok (.iconst 1, 1) := by decide +kernel
theorem dX10_canMove_45 : decode cX10_canMove 45 = .ok (.goto 4, 3) := by decide +kernel
theorem dX10_canMove_48 : decode cX10_canMove 48 = .ok (.iconst 0, 1) := by decide +kernel
theorem dX10_canMove_49 : decode cX10_canMove 49 = .ok (.ireturn, 1) := by decide +kernel
theorem dX10_canMove_50 : decode cX10_canMove 50 = .ok (.iload_n 3, 1) := by decide +kernel
theorem dX10_canMove_51 : decode cX10_canMove 51 = .ok (.iload_n 2, 1) := by decide +kernel
theorem dX10_canMove_52 : decode cX10_canMove 52 = .ok (.isub, 1) := by decide +kernel
theorem dX10_canMove_53 : decode cX10_canMove 53 = .ok (.aload_n 0, 1) := by decide +kernel
theorem dX10_canMove_54 : decode cX10_canMove 54 = .ok (.getfield 47, 3) := by decide +kernel
theorem dX10_canMove_57 : decode cX10_canMove 57 = .ok (.getfield 94, 3) := by decide +kernel
theorem dX10_canMove_60 : decode cX10_canMove 60 = .ok (.bipush 6, 2) := by decide +kernel
theorem dX10_canMove_62 : decode cX10_canMove 62 = .ok (.iaload, 1) := by decide +kernel
theorem dX10_canMove_63 : decode cX10_canMove 63 = .ok (.if_icmp .lt 7, 3) := by decide +kernel
theorem dX10_canMove_66 : decode cX10_canMove 66 = .ok (.iconst 1, 1) := by decide +kernel
theorem dX10_canMove_67 : decode cX10_canMove 67 = .ok (.goto 4, 3) := by decide +kernel
theorem dX10_canMove_70 : decode cX10_canMove 70 = .ok (.iconst 0, 1) := by decide +kernel
theorem dX10_canMove_71 : decode cX10_canMove 71 = .ok (.ireturn, 1) := by decide +kernel
theorem dX10_canMove_72 : decode cX10_canMove 72 = .ok (.iload_n 2, 1) := by decide +kernel
theorem dX10_canMove_73 : decode cX10_canMove 73 = .ok (.invokestatic 88, 3) := by decide +kernel
theorem dX10_canMove_76 : decode cX10_canMove 76 = .ok (.iload_n 3, 1) := by decide +kernel
theorem dX10_canMove_77 : decode cX10_canMove 77 = .ok (.if_icmp .gt 7, 3) := by decide +kernel
theorem dX10_canMove_80 : decode cX10_canMove 80 = .ok (.iconst 1, 1) := by decide +kernel
theorem dX10_canMove_81 : decode cX10_canMove 81 = .ok (.goto 4, 3) := by decide +kernel
theorem dX10_canMove_84 : decode cX10_canMove 84 = .ok (.iconst 0, 1) := by decide +kernel
theorem dX10_canMove_85 : decode cX10_canMove 85 = .ok (.ireturn, 1) := by decide +kernel
theorem dX10_cellBy_0 : decode cX10_cellBy 0 = .ok (.iload_n 0, 1) := by decide +kernel
theorem dX10_cellBy_1 : decode cX10_cellBy 1 = .ok (.tableswitch 96 1 4 #[31, 48, 63, 81], 31) := by decide +kernel
theorem dX10_cellBy_32 : decode cX10_cellBy 32 = .ok (.iload_n 1, 1) := by decide +kernel
theorem dX10_cellBy_33 : decode cX10_cellBy 33 = .ok (.bipush 10, 2) := by decide +kernel
theorem dX10_cellBy_35 : decode cX10_cellBy 35 = .ok (.irem, 1) := by decide +kernel
theorem dX10_cellBy_36 : decode cX10_cellBy 36 = .ok (.bipush 9, 2) := by decide +kernel
theorem dX10_cellBy_38 : decode cX10_cellBy 38 = .ok (.if_icmp .ge 9, 3) := by decide +kernel
theorem dX10_cellBy_41 : decode cX10_cellBy 41 = .ok (.iload_n 1, 1) := by decide +kernel
theorem dX10_cellBy_42 : decode cX10_cellBy 42 = .ok (.iconst 1, 1) := by decide +kernel
theorem dX10_cellBy_43 : decode cX10_cellBy 43 = .ok (.iadd, 1) := by decide +kernel
theorem dX10_cellBy_44 : decode cX10_cellBy 44 = .ok (.goto 4, 3) := by decide +kernel
theorem dX10_cellBy_47 : decode cX10_cellBy 47 = .ok (.iconst (-1), 1) := by decide +kernel
theorem dX10_cellBy_48 : decode cX10_cellBy 48 = .ok (.ireturn, 1) := by decide +kernel
theorem dX10_cellBy_49 : decode cX10_cellBy 49 = .ok (.iload_n 1, 1) := by decide +kernel
theorem dX10_cellBy_50 : decode cX10_cellBy 50 = .ok (.bipush 10, 2) := by decide +kernel
theorem dX10_cellBy_52 : decode cX10_cellBy 52 = .ok (.irem, 1) := by decide +kernel
theorem dX10_cellBy_53 : decode cX10_cellBy 53 = .ok (.ifCond .le 9, 3) := by decide +kernel
theorem dX10_cellBy_56 : decode cX10_cellBy 56 = .ok (.iload_n 1, 1) := by decide +kernel
theorem dX10_cellBy_57 : decode cX10_cellBy 57 = .ok (.iconst 1, 1) := by decide +kernel
theorem dX10_cellBy_58 : decode cX10_cellBy 58 = .ok (.isub, 1) := by decide +kernel
theorem dX10_cellBy_59 : decode cX10_cellBy 59 = .ok (.goto 4, 3) := by decide +kernel
theorem dX10_cellBy_62 : decode cX10_cellBy 62 = .ok (.iconst (-1), 1) := by decide +kernel
theorem dX10_cellBy_63 : decode cX10_cellBy 63 = .ok (.ireturn, 1) := by decide +kernel
theorem dX10_cellBy_64 : decode cX10_cellBy 64 = .ok (.iload_n 1, 1) := by decide +kernel
theorem dX10_cellBy_65 : decode cX10_cellBy 65 = .ok (.bipush 10, 2) := by decide +kernel
theorem dX10_cellBy_67 : decode cX10_cellBy 67 = .ok (.iadd, 1) := by decide +kernel
theorem dX10_cellBy_68 : decode cX10_cellBy 68 = .ok (.bipush 50, 2) := by decide +kernel
theorem dX10_cellBy_70 : decode cX10_cellBy 70 = .ok (.if_icmp .ge 10, 3) := by decide +kernel
theorem dX10_cellBy_73 : decode cX10_cellBy 73 = .ok (.iload_n 1, 1) := by decide +kernel
theorem dX10_cellBy_74 : decode cX10_cellBy 74 = .ok (.bipush 10, 2) := by decide +kernel
theorem dX10_cellBy_76 : decode cX10_cellBy 76 = .ok (.iadd, 1) := by decide +kernel
theorem dX10_cellBy_77 : decode cX10_cellBy 77 = .ok (.goto 4, 3) := by decide +kernel
theorem dX10_cellBy_80 : decode cX10_cellBy 80 = .ok (.iconst (-1), 1) := by decide +kernel
theorem dX10_cellBy_81 : decode cX10_cellBy 81 = .ok (.ireturn, 1) := by decide +kernel
theorem dX10_cellBy_82 : decode cX10_cellBy 82 = .ok (.iload_n 1, 1) := by decide +kernel
theorem dX10_cellBy_83 : decode cX10_cellBy 83 = .ok (.bipush 10, 2) := by decide +kernel
theorem dX10_cellBy_85 : decode cX10_cellBy 85 = .ok (.if_icmp .lt 10, 3) := by decide +kernel
theorem dX10_cellBy_88 : decode cX10_cellBy 88 = .ok (.iload_n 1, 1) := by decide +kernel
theorem dX10_cellBy_89 : decode cX10_cellBy 89 = .ok (.bipush 10, 2) := by decide +kernel
theorem dX10_cellBy_91 : decode cX10_cellBy 91 = .ok (.isub, 1) := by decide +kernel
theorem dX10_cellBy_92 : decode cX10_cellBy 92 = .ok (.goto 4, 3) := by decide +kernel
theorem dX10_cellBy_95 : decode cX10_cellBy 95 = .ok (.iconst (-1), 1) := by decide +kernel
theorem dX10_cellBy_96 : decode cX10_cellBy 96 = .ok (.ireturn, 1) := by decide +kernel
theorem dX10_cellBy_97 : decode cX10_cellBy 97 = .ok (.iload_n 1, 1) := by decide +kernel
theorem dX10_cellBy_98 : decode cX10_cellBy 98 = .ok (.ireturn, 1) := by decide +kernel
