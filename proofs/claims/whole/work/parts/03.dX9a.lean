theorem dX9_init_0 : decode cX9_init 0 = .ok (.aload_n 0, 1) := by decide +kernel
theorem dX9_init_1 : decode cX9_init 1 = .ok (.invokespecial 3, 3) := by decide +kernel
theorem dX9_init_4 : decode cX9_init 4 = .ok (.aload_n 0, 1) := by decide +kernel
theorem dX9_init_5 : decode cX9_init 5 = .ok (.new 9, 3) := by decide +kernel
theorem dX9_init_8 : decode cX9_init 8 = .ok (.dup, 1) := by decide +kernel
theorem dX9_init_9 : decode cX9_init 9 = .ok (.invokespecial 11, 3) := by decide +kernel
theorem dX9_init_12 : decode cX9_init 12 = .ok (.putfield 12, 3) := by decide +kernel
theorem dX9_init_15 : decode cX9_init 15 = .ok (.aload_n 0, 1) := by decide +kernel
theorem dX9_init_16 : decode cX9_init 16 = .ok (.sipush 2880, 3) := by decide +kernel
theorem dX9_init_19 : decode cX9_init 19 = .ok (.newarray .int, 2) := by decide +kernel
theorem dX9_init_21 : decode cX9_init 21 = .ok (.putfield 18, 3) := by decide +kernel
theorem dX9_init_24 : decode cX9_init 24 = .ok (.aload_n 0, 1) := by decide +kernel
theorem dX9_init_25 : decode cX9_init 25 = .ok (.bipush 24, 2) := by decide +kernel
theorem dX9_init_27 : decode cX9_init 27 = .ok (.newarray .int, 2) := by decide +kernel
theorem dX9_init_29 : decode cX9_init 29 = .ok (.putfield 22, 3) := by decide +kernel
theorem dX9_init_32 : decode cX9_init 32 = .ok (.aload_n 0, 1) := by decide +kernel
theorem dX9_init_33 : decode cX9_init 33 = .ok (.bipush 21, 2) := by decide +kernel
theorem dX9_init_35 : decode cX9_init 35 = .ok (.newarray .long, 2) := by decide +kernel
theorem dX9_init_37 : decode cX9_init 37 = .ok (.putfield 25, 3) := by decide +kernel
theorem dX9_init_40 : decode cX9_init 40 = .ok (.aload_n 0, 1) := by decide +kernel
theorem dX9_init_41 : decode cX9_init 41 = .ok (.sipush 1440, 3) := by decide +kernel
theorem dX9_init_44 : decode cX9_init 44 = .ok (.newarray .int, 2) := by decide +kernel
theorem dX9_init_46 : decode cX9_init 46 = .ok (.putfield 29, 3) := by decide +kernel
theorem dX9_init_49 : decode cX9_init 49 = .ok (.aload_n 0, 1) := by decide +kernel
theorem dX9_init_50 : decode cX9_init 50 = .ok (.aconst_null, 1) := by decide +kernel
theorem dX9_init_51 : decode cX9_init 51 = .ok (.putfield 32, 3) := by decide +kernel
theorem dX9_init_54 : decode cX9_init 54 = .ok (.aload_n 0, 1) := by decide +kernel
theorem dX9_init_55 : decode cX9_init 55 = .ok (.aconst_null, 1) := by decide +kernel
theorem dX9_init_56 : decode cX9_init 56 = .ok (.putfield 35, 3) := by decide +kernel
theorem dX9_init_59 : decode cX9_init 59 = .ok (.aload_n 0, 1) := by decide +kernel
theorem dX9_init_60 : decode cX9_init 60 = .ok (.aconst_null, 1) := by decide +kernel
theorem dX9_init_61 : decode cX9_init 61 = .ok (.putfield 38, 3) := by decide +kernel
theorem dX9_init_64 : decode cX9_init 64 = .ok (.aload_n 0, 1) := by decide +kernel
theorem dX9_init_65 : decode cX9_init 65 = .ok (.iconst 0, 1) := by decide +kernel
theorem dX9_init_66 : decode cX9_init 66 = .ok (.putfield 41, 3) := by decide +kernel
theorem dX9_init_69 : decode cX9_init 69 = .ok (.aload_n 0, 1) := by decide +kernel
theorem dX9_init_70 : decode cX9_init 70 = .ok (.iconst 0, 1) := by decide +kernel
theorem dX9_init_71 : decode cX9_init 71 = .ok (.putfield 45, 3) := by decide +kernel
theorem dX9_init_74 : decode cX9_init 74 = .ok (.aload_n 0, 1) := by decide +kernel
theorem dX9_init_75 : decode cX9_init 75 = .ok (.iconst 0, 1) := by decide +kernel
theorem dX9_init_76 : decode cX9_init 76 = .ok (.putfield 48, 3) := by decide +kernel
theorem dX9_init_79 : decode cX9_init 79 = .ok (.aload_n 0, 1) := by decide +kernel
theorem dX9_init_80 : decode cX9_init 80 = .ok (.iconst (-1), 1) := by decide +kernel
theorem dX9_init_81 : decode cX9_init 81 = .ok (.putfield 51, 3) := by decide +kernel
theorem dX9_init_84 : decode cX9_init 84 = .ok (.aload_n 0, 1) := by decide +kernel
theorem dX9_init_85 : decode cX9_init 85 = .ok (.iconst (-1), 1) := by decide +kernel
theorem dX9_init_86 : decode cX9_init 86 = .ok (.putfield 55, 3) := by decide +kernel
theorem dX9_init_89 : decode cX9_init 89 = .ok (.aload_n 0, 1) := by decide +kernel
theorem dX9_init_90 : decode cX9_init 90 = .ok (.aload_n 1, 1) := by decide +kernel
theorem dX9_init_91 : decode cX9_init 91 = .ok (.putfield 58, 3) := by decide +kernel
theorem dX9_init_94 : decode cX9_init 94 = .ok (.aload_n 0, 1) := by decide +kernel
theorem dX9_init_95 : decode cX9_init 95 = .ok (.getfield 25, 3) := by decide +kernel
theorem dX9_init_98 : decode cX9_init 98 = .ok (.ldc2_w 62, 3) := by decide +kernel
theorem dX9_init_101 : decode cX9_init 101 = .ok (.invokestatic 64, 3) := by decide +kernel
theorem dX9_init_104 : decode cX9_init 104 = .ok (.return_, 1) := by decide +kernel
theorem dX9_forgetFlows_0 : decode cX9_forgetFlows 0 = .ok (.aload_n 0, 1) := by decide +kernel
theorem dX9_forgetFlows_1 : decode cX9_forgetFlows 1 = .ok (.iconst 0, 1) := by decide +kernel
theorem dX9_forgetFlows_2 : decode cX9_forgetFlows 2 = .ok (.putfield 45, 3) := by decide +kernel
theorem dX9_forgetFlows_5 : decode cX9_forgetFlows 5 = .ok (.aload_n 0, 1) := by decide +kernel
theorem dX9_forgetFlows_6 : decode cX9_forgetFlows 6 = .ok (.iconst 0, 1) := by decide +kernel
theorem dX9_forgetFlows_7 : decode cX9_forgetFlows 7 = .ok (.putfield 48, 3) := by decide +kernel
theorem dX9_forgetFlows_10 : decode cX9_forgetFlows 10 = .ok (.aload_n 0, 1) := by decide +kernel
theorem dX9_forgetFlows_11 : decode cX9_forgetFlows 11 = .ok (.iconst (-1), 1) := by decide +kernel
theorem dX9_forgetFlows_12 : decode cX9_forgetFlows 12 = .ok (.putfield 51, 3) := by decide +kernel
theorem dX9_forgetFlows_15 : decode cX9_forgetFlows 15 = .ok (.aload_n 0, 1) := by decide +kernel
theorem dX9_forgetFlows_16 : decode cX9_forgetFlows 16 = .ok (.iconst (-1), 1) := by decide +kernel
theorem dX9_forgetFlows_17 : decode cX9_forgetFlows 17 = .ok (.putfield 55, 3) := by decide +kernel
theorem dX9_forgetFlows_20 : decode cX9_forgetFlows 20 = .ok (.aload_n 0, 1) := by decide +kernel
theorem dX9_forgetFlows_21 : decode cX9_forgetFlows 21 = .ok (.getfield 25, 3) := by decide +kernel
theorem dX9_forgetFlows_24 : decode cX9_forgetFlows 24 = .ok (.ldc2_w 62, 3) := by decide +kernel
theorem dX9_forgetFlows_27 : decode cX9_forgetFlows 27 = .ok (.invokestatic 64, 3) := by decide +kernel
theorem dX9_forgetFlows_30 : decode cX9_forgetFlows 30 = .ok (.return_, 1) := by decide +kernel
theorem dX9_freshenTides_0 : decode cX9_freshenTides 0 = .ok (.aload_n 0, 1) := by decide +kernel
theorem dX9_freshenTides_1 : decode cX9_freshenTides 1 = .ok (.getfield 41, 3) := by decide +kernel
theorem dX9_freshenTides_4 : decode cX9_freshenTides 4 = .ok (.ifCond .eq 4, 3) := by decide +kernel
theorem dX9_freshenTides_7 : decode cX9_freshenTides 7 = .ok (.return_, 1) := by decide +kernel
theorem dX9_freshenTides_8 : decode cX9_freshenTides 8 = .ok (.iconst 0, 1) := by decide +kernel
theorem dX9_freshenTides_9 : decode cX9_freshenTides 9 = .ok (.istore_n 1, 1) := by decide +kernel
theorem dX9_freshenTides_10 : decode cX9_freshenTides 10 = .ok (.iload_n 1, 1) := by decide +kernel
theorem dX9_freshenTides_11 : decode cX9_freshenTides 11 = .ok (.iconst 2, 1) := by decide +kernel
theorem dX9_freshenTides_12 : decode cX9_freshenTides 12 = .ok (.if_icmp .ge 74, 3) := by decide +kernel
theorem dX9_freshenTides_15 : decode cX9_freshenTides 15 = .ok (.iload_n 1, 1) := by decide +kernel
theorem dX9_freshenTides_16 : decode cX9_freshenTides 16 = .ok (.sipush 1440, 3) := by decide +kernel
theorem dX9_freshenTides_19 : decode cX9_freshenTides 19 = .ok (.imul, 1) := by decide +kernel
theorem dX9_freshenTides_20 : decode cX9_freshenTides 20 = .ok (.istore_n 2, 1) := by decide +kernel
theorem dX9_freshenTides_21 : decode cX9_freshenTides 21 = .ok (.iconst 0, 1) := by decide +kernel
theorem dX9_freshenTides_22 : decode cX9_freshenTides 22 = .ok (.istore_n 3, 1) := by decide +kernel
theorem dX9_freshenTides_23 : decode cX9_freshenTides 23 = .ok (.iload_n 3, 1) := by decide +kernel
theorem dX9_freshenTides_24 : decode cX9_freshenTides 24 = .ok (.sipush 1440, 3) := by decide +kernel
theorem dX9_freshenTides_27 : decode cX9_freshenTides 27 = .ok (.if_icmp .ge 30, 3) := by decide +kernel
theorem dX9_freshenTides_30 : decode cX9_freshenTides 30 = .ok (.aload_n 0, 1) := by decide +kernel
theorem dX9_freshenTides_31 : decode cX9_freshenTides 31 = .ok (.getfield 18, 3) := by decide +kernel
theorem dX9_freshenTides_34 : decode cX9_freshenTides 34 = .ok (.iload_n 2, 1) := by decide +kernel
theorem dX9_freshenTides_35 : decode cX9_freshenTides 35 = .ok (.iload_n 3, 1) := by decide +kernel
theorem dX9_freshenTides_36 : decode cX9_freshenTides 36 = .ok (.iadd, 1) := by decide +kernel
theorem dX9_freshenTides_37 : decode cX9_freshenTides 37 = .ok (.aload_n 0, 1) := by decide +kernel
theorem dX9_freshenTides_38 : decode cX9_freshenTides 38 = .ok (.getfield 58, 3) := by decide +kernel
theorem dX9_freshenTides_41 : decode cX9_freshenTides 41 = .ok (.getfield 70, 3) := by decide +kernel
theorem dX9_freshenTides_44 : decode cX9_freshenTides 44 = .ok (.iload_n 1, 1) := by decide +kernel
theorem dX9_freshenTides_45 : decode cX9_freshenTides 45 = .ok (.iconst 3, 1) := by decide +kernel
theorem dX9_freshenTides_46 : decode cX9_freshenTides 46 = .ok (.imul, 1) := by decide +kernel
theorem dX9_freshenTides_47 : decode cX9_freshenTides 47 = .ok (.iconst 0, 1) := by decide +kernel
theorem dX9_freshenTides_48 : decode cX9_freshenTides 48 = .ok (.iadd, 1) := by decide +kernel
theorem dX9_freshenTides_49 : decode cX9_freshenTides 49 = .ok (.iaload, 1) := by decide +kernel
theorem dX9_freshenTides_50 : decode cX9_freshenTides 50 = .ok (.iastore, 1) := by decide +kernel
theorem dX9_freshenTides_51 : decode cX9_freshenTides 51 = .ok (.iinc 3 1, 3) := by decide +kernel
theorem dX9_freshenTides_54 : decode cX9_freshenTides 54 = .ok (.goto (-31), 3) := by decide +kernel
theorem dX9_freshenTides_57 : decode cX9_freshenTides 57 = .ok (.iconst 0, 1) := by decide +kernel
theorem dX9_freshenTides_58 : decode cX9_freshenTides 58 = .ok (.istore_n 3, 1) := by decide +kernel
theorem dX9_freshenTides_59 : decode cX9_freshenTides 59 = .ok (.iload_n 3, 1) := by decide +kernel
theorem dX9_freshenTides_60 : decode cX9_freshenTides 60 = .ok (.iconst 4, 1) := by decide +kernel
theorem dX9_freshenTides_61 : decode cX9_freshenTides 61 = .ok (.if_icmp .ge 19, 3) := by decide +kernel
theorem dX9_freshenTides_64 : decode cX9_freshenTides 64 = .ok (.aload_n 0, 1) := by decide +kernel
theorem dX9_freshenTides_65 : decode cX9_freshenTides 65 = .ok (.iload_n 2, 1) := by decide +kernel
theorem dX9_freshenTides_66 : decode cX9_freshenTides 66 = .ok (.iload_n 1, 1) := by decide +kernel
theorem dX9_freshenTides_67 : decode cX9_freshenTides 67 = .ok (.iload_n 3, 1) := by decide +kernel
theorem dX9_freshenTides_68 : decode cX9_freshenTides 68 = .ok (.invokestatic 75, 3) := by decide +kernel
theorem dX9_freshenTides_71 : decode cX9_freshenTides 71 = .ok (.invokevirtual 79, 3) := by decide +kernel
theorem dX9_freshenTides_74 : decode cX9_freshenTides 74 = .ok (.iinc 3 1, 3) := by decide +kernel
theorem dX9_freshenTides_77 : decode cX9_freshenTides 77 = .ok (.goto (-18), 3) := by decide +kernel
theorem dX9_freshenTides_80 : decode cX9_freshenTides 80 = .ok (.iinc 1 1, 3) := by decide +kernel
theorem dX9_freshenTides_83 : decode cX9_freshenTides 83 = .ok (.goto (-73), 3) := by decide +kernel
theorem dX9_freshenTides_86 : decode cX9_freshenTides 86 = .ok (.aload_n 0, 1) := by decide +kernel
theorem dX9_freshenTides_87 : decode cX9_freshenTides 87 = .ok (.iconst 1, 1) := by decide +kernel
theorem dX9_freshenTides_88 : decode cX9_freshenTides 88 = .ok (.putfield 41, 3) := by decide +kernel
theorem dX9_freshenTides_91 : decode cX9_freshenTides 91 = .ok (.return_, 1) := by decide +kernel
theorem dX9_addMoon_0 : decode cX9_addMoon 0 = .ok (.aload_n 0, 1) := by decide +kernel
theorem dX9_addMoon_1 : decode cX9_addMoon 1 = .ok (.getfield 58, 3) := by decide +kernel
theorem dX9_addMoon_4 : decode cX9_addMoon 4 = .ok (.getfield 83, 3) := by decide +kernel
theorem dX9_addMoon_7 : decode cX9_addMoon 7 = .ok (.iload_n 2, 1) := by decide +kernel
theorem dX9_addMoon_8 : decode cX9_addMoon 8 = .ok (.iconst 0, 1) := by decide +kernel
theorem dX9_addMoon_9 : decode cX9_addMoon 9 = .ok (.iadd, 1) := by decide +kernel
theorem dX9_addMoon_10 : decode cX9_addMoon 10 = .ok (.iaload, 1) := by decide +kernel
theorem dX9_addMoon_11 : decode cX9_addMoon 11 = .ok (.istore_n 3, 1) := by decide +kernel
theorem dX9_addMoon_12 : decode cX9_addMoon 12 = .ok (.aload_n 0, 1) := by decide +kernel
theorem dX9_addMoon_13 : decode cX9_addMoon 13 = .ok (.getfield 58, 3) := by decide +kernel
theorem dX9_addMoon_16 : decode cX9_addMoon 16 = .ok (.getfield 83, 3) := by decide +kernel
theorem dX9_addMoon_19 : decode cX9_addMoon 19 = .ok (.iload_n 2, 1) := by decide +kernel
theorem dX9_addMoon_20 : decode cX9_addMoon 20 = .ok (.iconst 1, 1) := by decide +kernel
theorem dX9_addMoon_21 : decode cX9_addMoon 21 = .ok (.iadd, 1) := by decide +kernel
theorem dX9_addMoon_22 : decode cX9_addMoon 22 = .ok (.iaload, 1) := by decide +kernel
theorem dX9_addMoon_23 : decode cX9_addMoon 23 = .ok (.istore 4, 2) := by decide +kernel
theorem dX9_addMoon_25 : decode cX9_addMoon 25 = .ok (.aload_n 0, 1) := by decide +kernel
theorem dX9_addMoon_26 : decode cX9_addMoon 26 = .ok (.getfield 58, 3) := by decide +kernel
theorem dX9_addMoon_29 : decode cX9_addMoon 29 = .ok (.getfield 83, 3) := by decide +kernel
theorem dX9_addMoon_32 : decode cX9_addMoon 32 = .ok (.iload_n 2, 1) := by decide +kernel
theorem dX9_addMoon_33 : decode cX9_addMoon 33 = .ok (.iconst 2, 1) := by decide +kernel
theorem dX9_addMoon_34 : decode cX9_addMoon 34 = .ok (.iadd, 1) := by decide +kernel
theorem dX9_addMoon_35 : decode cX9_addMoon 35 = .ok (.iaload, 1) := by decide +kernel
theorem dX9_addMoon_36 : decode cX9_addMoon 36 = .ok (.istore 5, 2) := by decide +kernel
theorem dX9_addMoon_38 : decode cX9_addMoon 38 = .ok (.iload_n 3, 1) := by decide +kernel
theorem dX9_addMoon_39 : decode cX9_addMoon 39 = .ok (.ifCond .eq 8, 3) := by decide +kernel
theorem dX9_addMoon_42 : decode cX9_addMoon 42 = .ok (.iload 4, 2) := by decide +kernel
theorem dX9_addMoon_44 : decode cX9_addMoon 44 = .ok (.ifCond .gt 4, 3) := by decide +kernel
theorem dX9_addMoon_47 : decode cX9_addMoon 47 = .ok (.return_, 1) := by decide +kernel
theorem dX9_addMoon_48 : decode cX9_addMoon 48 = .ok (.iconst 0, 1) := by decide +kernel
theorem dX9_addMoon_49 : decode cX9_addMoon 49 = .ok (.istore 6, 2) := by decide +kernel
theorem dX9_addMoon_51 : decode cX9_addMoon 51 = .ok (.iload 6, 2) := by decide +kernel
theorem dX9_addMoon_53 : decode cX9_addMoon 53 = .ok (.sipush 1440, 3) := by decide +kernel
theorem dX9_addMoon_56 : decode cX9_addMoon 56 = .ok (.if_icmp .ge 36, 3) := by decide +kernel
theorem dX9_addMoon_59 : decode cX9_addMoon 59 = .ok (.aload_n 0, 1) := by decide +kernel
theorem dX9_addMoon_60 : decode cX9_addMoon 60 = .ok (.getfield 18, 3) := by decide +kernel
theorem dX9_addMoon_63 : decode cX9_addMoon 63 = .ok (.iload_n 1, 1) := by decide +kernel
theorem dX9_addMoon_64 : decode cX9_addMoon 64 = .ok (.iload 6, 2) := by decide +kernel
theorem dX9_addMoon_66 : decode cX9_addMoon 66 = .ok (.iadd, 1) := by decide +kernel
theorem dX9_addMoon_67 : decode cX9_addMoon 67 = .ok (.dup2, 1) := by decide +kernel
theorem dX9_addMoon_68 : decode cX9_addMoon 68 = .ok (.iaload, 1) := by decide +kernel
theorem dX9_addMoon_69 : decode cX9_addMoon 69 = .ok (.iload_n 3, 1) := by decide +kernel
theorem dX9_addMoon_70 : decode cX9_addMoon 70 = .ok (.iload 6, 2) := by decide +kernel
theorem dX9_addMoon_72 : decode cX9_addMoon 72 = .ok (.iload 5, 2) := by decide +kernel
theorem dX9_addMoon_74 : decode cX9_addMoon 74 = .ok (.iload 4, 2) := by decide +kernel
theorem dX9_addMoon_76 : decode cX9_addMoon 76 = .ok (.invokestatic 86, 3) := by decide +kernel
theorem dX9_addMoon_79 : decode cX9_addMoon 79 = .ok (.imul, 1) := by decide +kernel
theorem dX9_addMoon_80 : decode cX9_addMoon 80 = .ok (.sipush 1000, 3) := by decide +kernel
theorem dX9_addMoon_83 : decode cX9_addMoon 83 = .ok (.idiv, 1) := by decide +kernel
theorem dX9_addMoon_84 : decode cX9_addMoon 84 = .ok (.iadd, 1) := by decide +kernel
theorem dX9_addMoon_85 : decode cX9_addMoon 85 = .ok (.iastore, 1) := by decide +kernel
theorem dX9_addMoon_86 : decode cX9_addMoon 86 = .ok (.iinc 6 1, 3) := by decide +kernel
theorem dX9_addMoon_89 : decode cX9_addMoon 89 = .ok (.goto (-38), 3) := by decide +kernel
theorem dX9_addMoon_92 : decode cX9_addMoon 92 = .ok (.return_, 1) := by decide +kernel
theorem dX9_levelToday_0 : decode cX9_levelToday 0 = .ok (.aload_n 0, 1) := by decide +kernel
theorem dX9_levelToday_1 : decode cX9_levelToday 1 = .ok (.iload_n 1, 1) := by decide +kernel
theorem dX9_levelToday_2 : decode cX9_levelToday 2 = .ok (.iload_n 2, 1) := by decide +kernel
theorem dX9_levelToday_3 : decode cX9_levelToday 3 = .ok (.aload_n 0, 1) := by decide +kernel
theorem dX9_levelToday_4 : decode cX9_levelToday 4 = .ok (.getfield 58, 3) := by decide +kernel
theorem dX9_levelToday_7 : decode cX9_levelToday 7 = .ok (.getfield 90, 3) := by decide +kernel
theorem dX9_levelToday_10 : decode cX9_levelToday 10 = .ok (.bipush 9, 2) := by decide +kernel
theorem dX9_levelToday_12 : decode cX9_levelToday 12 = .ok (.iaload, 1) := by decide +kernel
theorem dX9_levelToday_13 : decode cX9_levelToday 13 = .ok (.aload_n 0, 1) := by decide +kernel
theorem dX9_levelToday_14 : decode cX9_levelToday 14 = .ok (.getfield 58, 3) := by decide +kernel
theorem dX9_levelToday_17 : decode cX9_levelToday 17 = .ok (.getfield 90, 3) := by decide +kernel
theorem dX9_levelToday_20 : decode cX9_levelToday 20 = .ok (.bipush 10, 2) := by decide +kernel
theorem dX9_levelToday_22 : decode cX9_levelToday 22 = .ok (.iaload, 1) := by decide +kernel
theorem dX9_levelToday_23 : decode cX9_levelToday 23 = .ok (.invokevirtual 93, 3) := by decide +kernel
theorem dX9_levelToday_26 : decode cX9_levelToday 26 = .ok (.ireturn, 1) := by decide +kernel
theorem dX9_levelIn_0 : decode cX9_levelIn 0 = .ok (.aload_n 0, 1) := by decide +kernel
theorem dX9_levelIn_1 : decode cX9_levelIn 1 = .ok (.getfield 18, 3) := by decide +kernel
theorem dX9_levelIn_4 : decode cX9_levelIn 4 = .ok (.iload_n 1, 1) := by decide +kernel
theorem dX9_levelIn_5 : decode cX9_levelIn 5 = .ok (.sipush 1440, 3) := by decide +kernel
theorem dX9_levelIn_8 : decode cX9_levelIn 8 = .ok (.imul, 1) := by decide +kernel
theorem dX9_levelIn_9 : decode cX9_levelIn 9 = .ok (.iload_n 2, 1) := by decide +kernel
theorem dX9_levelIn_10 : decode cX9_levelIn 10 = .ok (.iadd, 1) := by decide +kernel
theorem dX9_levelIn_11 : decode cX9_levelIn 11 = .ok (.iaload, 1) := by decide +kernel
theorem dX9_levelIn_12 : decode cX9_levelIn 12 = .ok (.aload_n 0, 1) := by decide +kernel
theorem dX9_levelIn_13 : decode cX9_levelIn 13 = .ok (.getfield 58, 3) := by decide +kernel
theorem dX9_levelIn_16 : decode cX9_levelIn 16 = .ok (.getfield 70, 3) := by decide +kernel
theorem dX9_levelIn_19 : decode cX9_levelIn 19 = .ok (.iload_n 1, 1) := by decide +kernel
theorem dX9_levelIn_20 : decode cX9_levelIn 20 = .ok (.iconst 3, 1) := by decide +kernel
theorem dX9_levelIn_21 : decode cX9_levelIn 21 = .ok (.imul, 1) := by decide +kernel
theorem dX9_levelIn_22 : decode cX9_levelIn 22 = .ok (.iconst 1, 1) := by decide +kernel
theorem dX9_levelIn_23 : decode cX9_levelIn 23 = .ok (.iadd, 1) := by decide +kernel
theorem dX9_levelIn_24 : decode cX9_levelIn 24 = .ok (.iaload, 1) := by decide +kernel
theorem dX9_levelIn_25 : decode cX9_levelIn 25 = .ok (.sipush 1013, 3) := by decide +kernel
theorem dX9_levelIn_28 : decode cX9_levelIn 28 = .ok (.iload 4, 2) := by decide +kernel
theorem dX9_levelIn_30 : decode cX9_levelIn 30 = .ok (.isub, 1) := by decide +kernel
theorem dX9_levelIn_31 : decode cX9_levelIn 31 = .ok (.imul, 1) := by decide +kernel
theorem dX9_levelIn_32 : decode cX9_levelIn 32 = .ok (.iadd, 1) := by decide +kernel
theorem dX9_levelIn_33 : decode cX9_levelIn 33 = .ok (.aload_n 0, 1) := by decide +kernel
theorem dX9_levelIn_34 : decode cX9_levelIn 34 = .ok (.getfield 58, 3) := by decide +kernel
theorem dX9_levelIn_37 : decode cX9_levelIn 37 = .ok (.getfield 70, 3) := by decide +kernel
theorem dX9_levelIn_40 : decode cX9_levelIn 40 = .ok (.iload_n 1, 1) := by decide +kernel
theorem dX9_levelIn_41 : decode cX9_levelIn 41 = .ok (.iconst 3, 1) := by decide +kernel
theorem dX9_levelIn_42 : decode cX9_levelIn 42 = .ok (.imul, 1) := by decide +kernel
theorem dX9_levelIn_43 : decode cX9_levelIn 43 = .ok (.iconst 2, 1) := by decide +kernel
theorem dX9_levelIn_44 : decode cX9_levelIn 44 = .ok (.iadd, 1) := by decide +kernel
theorem dX9_levelIn_45 : decode cX9_levelIn 45 = .ok (.iaload, 1) := by decide +kernel
theorem dX9_levelIn_46 : decode cX9_levelIn 46 = .ok (.iload_n 3, 1) := by decide +kernel
theorem dX9_levelIn_47 : decode cX9_levelIn 47 = .ok (.imul, 1) := by decide +kernel
theorem dX9_levelIn_48 : decode cX9_levelIn 48 = .ok (.iadd, 1) := by decide +kernel
theorem dX9_levelIn_49 : decode cX9_levelIn 49 = .ok (.ireturn, 1) := by decide +kernel
theorem dX9_freshenToday_0 : decode cX9_freshenToday 0 = .ok (.aload_n 0, 1) := by decide +kernel
theorem dX9_freshenToday_1 : decode cX9_freshenToday 1 = .ok (.getfield 45, 3) := by decide +kernel
theorem dX9_freshenToday_4 : decode cX9_freshenToday 4 = .ok (.ifCond .ne 44, 3) := by decide +kernel
theorem dX9_freshenToday_7 : decode cX9_freshenToday 7 = .ok (.aload_n 0, 1) := by decide +kernel
theorem dX9_freshenToday_8 : decode cX9_freshenToday 8 = .ok (.getfield 22, 3) := by decide +kernel
theorem dX9_freshenToday_11 : decode cX9_freshenToday 11 = .ok (.aload_n 0, 1) := by decide +kernel
theorem dX9_freshenToday_12 : decode cX9_freshenToday 12 = .ok (.getfield 58, 3) := by decide +kernel
theorem dX9_freshenToday_15 : decode cX9_freshenToday 15 = .ok (.getfield 90, 3) := by decide +kernel
theorem dX9_freshenToday_18 : decode cX9_freshenToday 18 = .ok (.bipush 9, 2) := by decide +kernel
theorem dX9_freshenToday_20 : decode cX9_freshenToday 20 = .ok (.iaload, 1) := by decide +kernel
theorem dX9_freshenToday_21 : decode cX9_freshenToday 21 = .ok (.invokestatic 97, 3) := by decide +kernel
theorem dX9_freshenToday_24 : decode cX9_freshenToday 24 = .ok (.aload_n 0, 1) := by decide +kernel
theorem dX9_freshenToday_25 : decode cX9_freshenToday 25 = .ok (.aload_n 0, 1) := by decide +kernel
theorem dX9_freshenToday_26 : decode cX9_freshenToday 26 = .ok (.getfield 29, 3) := by decide +kernel
theorem dX9_freshenToday_29 : decode cX9_freshenToday 29 = .ok (.aload_n 0, 1) := by decide +kernel
theorem dX9_freshenToday_30 : decode cX9_freshenToday 30 = .ok (.getfield 58, 3) := by decide +kernel
theorem dX9_freshenToday_33 : decode cX9_freshenToday 33 = .ok (.getfield 90, 3) := by decide +kernel
theorem dX9_freshenToday_36 : decode cX9_freshenToday 36 = .ok (.bipush 10, 2) := by decide +kernel
theorem dX9_freshenToday_38 : decode cX9_freshenToday 38 = .ok (.iaload, 1) := by decide +kernel
theorem dX9_freshenToday_39 : decode cX9_freshenToday 39 = .ok (.iconst 0, 1) := by decide +kernel
theorem dX9_freshenToday_40 : decode cX9_freshenToday 40 = .ok (.invokevirtual 100, 3) := by decide +kernel
theorem dX9_freshenToday_43 : decode cX9_freshenToday 43 = .ok (.aload_n 0, 1) := by decide +kernel
theorem dX9_freshenToday_44 : decode cX9_freshenToday 44 = .ok (.iconst 1, 1) := by decide +kernel
theorem dX9_freshenToday_45 : decode cX9_freshenToday 45 = .ok (.putfield 45, 3) := by decide +kernel
theorem dX9_freshenToday_48 : decode cX9_freshenToday 48 = .ok (.return_, 1) := by decide +kernel
theorem dX9_freshenCalm_0 : decode cX9_freshenCalm 0 = .ok (.aload_n 0, 1) := by decide +kernel
theorem dX9_freshenCalm_1 : decode cX9_freshenCalm 1 = .ok (.getfield 48, 3) := by decide +kernel
theorem dX9_freshenCalm_4 : decode cX9_freshenCalm 4 = .ok (.ifCond .ne 39, 3) := by decide +kernel
theorem dX9_freshenCalm_7 : decode cX9_freshenCalm 7 = .ok (.aload_n 0, 1) := by decide +kernel
theorem dX9_freshenCalm_8 : decode cX9_freshenCalm 8 = .ok (.getfield 22, 3) := by decide +kernel
theorem dX9_freshenCalm_11 : decode cX9_freshenCalm 11 = .ok (.iconst 0, 1) := by decide +kernel
theorem dX9_freshenCalm_12 : decode cX9_freshenCalm 12 = .ok (.invokestatic 97, 3) := by decide +kernel
theorem dX9_freshenCalm_15 : decode cX9_freshenCalm 15 = .ok (.aload_n 0, 1) := by decide +kernel
theorem dX9_freshenCalm_16 : decode cX9_freshenCalm 16 = .ok (.aload_n 0, 1) := by decide +kernel
theorem dX9_freshenCalm_17 : decode cX9_freshenCalm 17 = .ok (.getfield 32, 3) := by decide +kernel
theorem dX9_freshenCalm_20 : decode cX9_freshenCalm 20 = .ok (.invokestatic 104, 3) := by decide +kernel
theorem dX9_freshenCalm_23 : decode cX9_freshenCalm 23 = .ok (.putfield 32, 3) := by decide +kernel
theorem dX9_freshenCalm_26 : decode cX9_freshenCalm 26 = .ok (.aload_n 0, 1) := by decide +kernel
theorem dX9_freshenCalm_27 : decode cX9_freshenCalm 27 = .ok (.aload_n 0, 1) := by decide +kernel
theorem dX9_freshenCalm_28 : decode cX9_freshenCalm 28 = .ok (.getfield 32, 3) := by decide +kernel
theorem dX9_freshenCalm_31 : decode cX9_freshenCalm 31 = .ok (.sipush 1013, 3) := by decide +kernel
theorem dX9_freshenCalm_34 : decode cX9_freshenCalm 34 = .ok (.iconst 0, 1) := by decide +kernel
theorem dX9_freshenCalm_35 : decode cX9_freshenCalm 35 = .ok (.invokevirtual 100, 3) := by decide +kernel
theorem dX9_freshenCalm_38 : decode cX9_freshenCalm 38 = .ok (.aload_n 0, 1) := by decide +kernel
theorem dX9_freshenCalm_39 : decode cX9_freshenCalm 39 = .ok (.iconst 1, 1) := by decide +kernel
theorem dX9_freshenCalm_40 : decode cX9_freshenCalm 40 = .ok (.putfield 48, 3) := by decide +kernel
theorem dX9_freshenCalm_43 : decode cX9_freshenCalm 43 = .ok (.return_, 1) := by decide +kernel
theorem dX9_drive_0 : decode cX9_drive 0 = .ok (.aload_n 0, 1) := by decide +kernel
theorem dX9_drive_1 : decode cX9_drive 1 = .ok (.getfield 51, 3) := by decide +kernel
theorem dX9_drive_4 : decode cX9_drive 4 = .ok (.iload_n 1, 1) := by decide +kernel
theorem dX9_drive_5 : decode cX9_drive 5 = .ok (.if_icmp .eq 66, 3) := by decide +kernel
theorem dX9_drive_8 : decode cX9_drive 8 = .ok (.aload_n 0, 1) := by decide +kernel
theorem dX9_drive_9 : decode cX9_drive 9 = .ok (.getfield 22, 3) := by decide +kernel
theorem dX9_drive_12 : decode cX9_drive 12 = .ok (.aload_n 0, 1) := by decide +kernel
theorem dX9_drive_13 : decode cX9_drive 13 = .ok (.getfield 58, 3) := by decide +kernel
theorem dX9_drive_16 : decode cX9_drive 16 = .ok (.getfield 90, 3) := by decide +kernel
theorem dX9_drive_19 : decode cX9_drive 19 = .ok (.bipush 9, 2) := by decide +kernel
theorem dX9_drive_21 : decode cX9_drive 21 = .ok (.iaload, 1) := by decide +kernel
theorem dX9_drive_22 : decode cX9_drive 22 = .ok (.invokestatic 97, 3) := by decide +kernel
theorem dX9_drive_25 : decode cX9_drive 25 = .ok (.aload_n 0, 1) := by decide +kernel
theorem dX9_drive_26 : decode cX9_drive 26 = .ok (.aload_n 0, 1) := by decide +kernel
theorem dX9_drive_27 : decode cX9_drive 27 = .ok (.getfield 35, 3) := by decide +kernel
theorem dX9_drive_30 : decode cX9_drive 30 = .ok (.invokestatic 104, 3) := by decide +kernel
theorem dX9_drive_33 : decode cX9_drive 33 = .ok (.putfield 35, 3) := by decide +kernel
theorem dX9_drive_36 : decode cX9_drive 36 = .ok (.aload_n 0, 1) := by decide +kernel
theorem dX9_drive_37 : decode cX9_drive 37 = .ok (.aload_n 0, 1) := by decide +kernel
theorem dX9_drive_38 : decode cX9_drive 38 = .ok (.getfield 35, 3) := by decide +kernel
theorem dX9_drive_41 : decode cX9_drive 41 = .ok (.aload_n 0, 1) := by decide +kernel
theorem dX9_drive_42 : decode cX9_drive 42 = .ok (.getfield 58, 3) := by decide +kernel
theorem dX9_drive_45 : decode cX9_drive 45 = .ok (.getfield 90, 3) := by decide +kernel
theorem dX9_drive_48 : decode cX9_drive 48 = .ok (.bipush 10, 2) := by decide +kernel
theorem dX9_drive_50 : decode cX9_drive 50 = .ok (.iaload, 1) := by decide +kernel
theorem dX9_drive_51 : decode cX9_drive 51 = .ok (.iload_n 1, 1) := by decide +kernel
theorem dX9_drive_52 : decode cX9_drive 52 = .ok (.invokevirtual 100, 3) := by decide +kernel
theorem dX9_drive_55 : decode cX9_drive 55 = .ok (.aload_n 0, 1) := by decide +kernel
theorem dX9_drive_56 : decode cX9_drive 56 = .ok (.iload_n 1, 1) := by decide +kernel
theorem dX9_drive_57 : decode cX9_drive 57 = .ok (.putfield 51, 3) := by decide +kernel
theorem dX9_drive_60 : decode cX9_drive 60 = .ok (.aload_n 0, 1) := by decide +kernel
theorem dX9_drive_61 : decode cX9_drive 61 = .ok (.getfield 25, 3) := by decide +kernel
theorem dX9_drive_64 : decode cX9_drive 64 = .ok (.iload_n 1, 1) := by decide +kernel
theorem dX9_drive_65 : decode cX9_drive 65 = .ok (.aload_n 0, 1) := by decide +kernel
theorem dX9_drive_66 : decode cX9_drive 66 = .ok (.iload_n 1, 1) := by decide +kernel
theorem dX9_drive_67 : decode cX9_drive 67 = .ok (.invokevirtual 108, 3) := by decide +kernel
theorem dX9_drive_70 : decode cX9_drive 70 = .ok (.lastore, 1) := by decide +kernel
theorem dX9_drive_71 : decode cX9_drive 71 = .ok (.return_, 1) := by decide +kernel
theorem dX9_takenFromDriven_0 : decode cX9_takenFromDriven 0 = .ok (.lconst 0, 1) := by decide +kernel
theorem dX9_takenFromDriven_1 : decode cX9_takenFromDriven 1 = .ok (.lstore_n 2, 1) := by decide +kernel
theorem dX9_takenFromDriven_2 : decode cX9_takenFromDriven 2 = .ok (.iconst 0, 1) := by decide +kernel
theorem dX9_takenFromDriven_3 : decode cX9_takenFromDriven 3 = .ok (.istore 4, 2) := by decide +kernel
theorem dX9_takenFromDriven_5 : decode cX9_takenFromDriven 5 = .ok (.iload 4, 2) := by decide +kernel
theorem dX9_takenFromDriven_7 : decode cX9_takenFromDriven 7 = .ok (.sipush 1440, 3) := by decide +kernel
theorem dX9_takenFromDriven_10 : decode cX9_takenFromDriven 10 = .ok (.if_icmp .ge 40, 3) := by decide +kernel
theorem dX9_takenFromDriven_13 : decode cX9_takenFromDriven 13 = .ok (.aload_n 0, 1) := by decide +kernel
theorem dX9_takenFromDriven_14 : decode cX9_takenFromDriven 14 = .ok (.getfield 35, 3) := by decide +kernel
theorem dX9_takenFromDriven_17 : decode cX9_takenFromDriven 17 = .ok (.iload 4, 2) := by decide +kernel
theorem dX9_takenFromDriven_19 : decode cX9_takenFromDriven 19 = .ok (.iaload, 1) := by decide +kernel
theorem dX9_takenFromDriven_20 : decode cX9_takenFromDriven 20 = .ok (.invokestatic 112, 3) := by decide +kernel
theorem dX9_takenFromDriven_23 : decode cX9_takenFromDriven 23 = .ok (.i2l, 1) := by decide +kernel
theorem dX9_takenFromDriven_24 : decode cX9_takenFromDriven 24 = .ok (.lstore 5, 2) := by decide +kernel
theorem dX9_takenFromDriven_26 : decode cX9_takenFromDriven 26 = .ok (.lload_n 2, 1) := by decide +kernel
theorem dX9_takenFromDriven_27 : decode cX9_takenFromDriven 27 = .ok (.iload_n 1, 1) := by decide +kernel
theorem dX9_takenFromDriven_28 : decode cX9_takenFromDriven 28 = .ok (.i2l, 1) := by decide +kernel
theorem dX9_takenFromDriven_29 : decode cX9_takenFromDriven 29 = .ok (.lload 5, 2) := by decide +kernel
theorem dX9_takenFromDriven_31 : decode cX9_takenFromDriven 31 = .ok (.lmul, 1) := by decide +kernel
theorem dX9_takenFromDriven_32 : decode cX9_takenFromDriven 32 = .ok (.lload 5, 2) := by decide +kernel
theorem dX9_takenFromDriven_34 : decode cX9_takenFromDriven 34 = .ok (.lmul, 1) := by decide +kernel
theorem dX9_takenFromDriven_35 : decode cX9_takenFromDriven 35 = .ok (.lload 5, 2) := by decide +kernel
theorem dX9_takenFromDriven_37 : decode cX9_takenFromDriven 37 = .ok (.lmul, 1) := by decide +kernel
theorem dX9_takenFromDriven_38 : decode cX9_takenFromDriven 38 = .ok (.ldc2_w 118, 3) := by decide +kernel
theorem dX9_takenFromDriven_41 : decode cX9_takenFromDriven 41 = .ok (.ldiv, 1) := by decide +kernel
theorem dX9_takenFromDriven_42 : decode cX9_takenFromDriven 42 = .ok (.ladd, 1) := by decide +kernel
theorem dX9_takenFromDriven_43 : decode cX9_takenFromDriven 43 = .ok (.lstore_n 2, 1) := by decide +kernel
theorem dX9_takenFromDriven_44 : decode cX9_takenFromDriven 44 = .ok (.iinc 4 1, 3) := by decide +kernel
theorem dX9_takenFromDriven_47 : decode cX9_takenFromDriven 47 = .ok (.goto (-42), 3) := by decide +kernel
theorem dX9_takenFromDriven_50 : decode cX9_takenFromDriven 50 = .ok (.lload_n 2, 1) := by decide +kernel
theorem dX9_takenFromDriven_51 : decode cX9_takenFromDriven 51 = .ok (.lreturn, 1) := by decide +kernel
theorem dX9_drawDay_0 : decode cX9_drawDay 0 = .ok (.iload_n 1, 1) := by decide +kernel
theorem dX9_drawDay_1 : decode cX9_drawDay 1 = .ok (.istore_n 2, 1) := by decide +kernel
theorem dX9_drawDay_2 : decode cX9_drawDay 2 = .ok (.iconst 0, 1) := by decide +kernel
theorem dX9_drawDay_3 : decode cX9_drawDay 3 = .ok (.istore_n 3, 1) := by decide +kernel
theorem dX9_drawDay_4 : decode cX9_drawDay 4 = .ok (.iload_n 3, 1) := by decide +kernel
theorem dX9_drawDay_5 : decode cX9_drawDay 5 = .ok (.bipush 24, 2) := by decide +kernel
theorem dX9_drawDay_7 : decode cX9_drawDay 7 = .ok (.if_icmp .ge 35, 3) := by decide +kernel
theorem dX9_drawDay_10 : decode cX9_drawDay 10 = .ok (.iload_n 2, 1) := by decide +kernel
theorem dX9_drawDay_11 : decode cX9_drawDay 11 = .ok (.sipush 1103, 3) := by decide +kernel
theorem dX9_drawDay_14 : decode cX9_drawDay 14 = .ok (.imul, 1) := by decide +kernel
theorem dX9_drawDay_15 : decode cX9_drawDay 15 = .ok (.sipush 12345, 3) := by decide +kernel
theorem dX9_drawDay_18 : decode cX9_drawDay 18 = .ok (.iadd, 1) := by decide +kernel
theorem dX9_drawDay_19 : decode cX9_drawDay 19 = .ok (.ldc 120, 2) := by decide +kernel
theorem dX9_drawDay_21 : decode cX9_drawDay 21 = .ok (.irem, 1) := by decide +kernel
theorem dX9_drawDay_22 : decode cX9_drawDay 22 = .ok (.istore_n 2, 1) := by decide +kernel
theorem dX9_drawDay_23 : decode cX9_drawDay 23 = .ok (.aload_n 0, 1) := by decide +kernel
theorem dX9_drawDay_24 : decode cX9_drawDay 24 = .ok (.getfield 22, 3) := by decide +kernel
theorem dX9_drawDay_27 : decode cX9_drawDay 27 = .ok (.iload_n 3, 1) := by decide +kernel
theorem dX9_drawDay_28 : decode cX9_drawDay 28 = .ok (.iload_n 2, 1) := by decide +kernel
theorem dX9_drawDay_29 : decode cX9_drawDay 29 = .ok (.bipush 41, 2) := by decide +kernel
theorem dX9_drawDay_31 : decode cX9_drawDay 31 = .ok (.irem, 1) := by decide +kernel
theorem dX9_drawDay_32 : decode cX9_drawDay 32 = .ok (.bipush 20, 2) := by decide +kernel
theorem dX9_drawDay_34 : decode cX9_drawDay 34 = .ok (.isub, 1) := by decide +kernel
theorem dX9_drawDay_35 : decode cX9_drawDay 35 = .ok (.iastore, 1) := by decide +kernel
theorem dX9_drawDay_36 : decode cX9_drawDay 36 = .ok (.iinc 3 1, 3) := by decide +kernel
theorem dX9_drawDay_39 : decode cX9_drawDay 39 = .ok (.goto (-35), 3) := by decide +kernel
theorem dX9_drawDay_42 : decode cX9_drawDay 42 = .ok (.aload_n 0, 1) := by decide +kernel
theorem dX9_drawDay_43 : decode cX9_drawDay 43 = .ok (.aload_n 0, 1) := by decide +kernel
theorem dX9_drawDay_44 : decode cX9_drawDay 44 = .ok (.getfield 38, 3) := by decide +kernel
theorem dX9_drawDay_47 : decode cX9_drawDay 47 = .ok (.invokestatic 104, 3) := by decide +kernel
theorem dX9_drawDay_50 : decode cX9_drawDay 50 = .ok (.putfield 38, 3) := by decide +kernel
theorem dX9_drawDay_53 : decode cX9_drawDay 53 = .ok (.aload_n 0, 1) := by decide +kernel
theorem dX9_drawDay_54 : decode cX9_drawDay 54 = .ok (.aload_n 0, 1) := by decide +kernel
theorem dX9_drawDay_55 : decode cX9_drawDay 55 = .ok (.getfield 38, 3) := by decide +kernel
theorem dX9_drawDay_58 : decode cX9_drawDay 58 = .ok (.aload_n 0, 1) := by decide +kernel
theorem dX9_drawDay_59 : decode cX9_drawDay 59 = .ok (.getfield 58, 3) := by decide +kernel
theorem dX9_drawDay_62 : decode cX9_drawDay 62 = .ok (.getfield 90, 3) := by decide +kernel
theorem dX9_drawDay_65 : decode cX9_drawDay 65 = .ok (.bipush 10, 2) := by decide +kernel
theorem dX9_drawDay_67 : decode cX9_drawDay 67 = .ok (.iaload, 1) := by decide +kernel
theorem dX9_drawDay_68 : decode cX9_drawDay 68 = .ok (.iconst 0, 1) := by decide +kernel
theorem dX9_drawDay_69 : decode cX9_drawDay 69 = .ok (.invokevirtual 100, 3) := by decide +kernel
theorem dX9_drawDay_72 : decode cX9_drawDay 72 = .ok (.return_, 1) := by decide +kernel
theorem dX9_made_0 : decode cX9_made 0 = .ok (.aload_n 0, 1) := by decide +kernel
theorem dX9_made_1 : decode cX9_made 1 = .ok (.ifnull 7, 3) := by decide +kernel
theorem dX9_made_4 : decode cX9_made 4 = .ok (.aload_n 0, 1) := by decide +kernel
theorem dX9_made_5 : decode cX9_made 5 = .ok (.goto 8, 3) := by decide +kernel
theorem dX9_made_8 : decode cX9_made 8 = .ok (.sipush 1440, 3) := by decide +kernel
theorem dX9_made_11 : decode cX9_made 11 = .ok (.newarray .int, 2) := by decide +kernel
theorem dX9_made_13 : decode cX9_made 13 = .ok (.areturn, 1) := by decide +kernel
theorem dX9_run_0 : decode cX9_run 0 = .ok (.aload_n 0, 1) := by decide +kernel
theorem dX9_run_1 : decode cX9_run 1 = .ok (.invokevirtual 121, 3) := by decide +kernel
theorem dX9_run_4 : decode cX9_run 4 = .ok (.aload_n 0, 1) := by decide +kernel
theorem dX9_run_5 : decode cX9_run 5 = .ok (.getfield 58, 3) := by decide +kernel
theorem dX9_run_8 : decode cX9_run 8 = .ok (.getfield 90, 3) := by decide +kernel
theorem dX9_run_11 : decode cX9_run 11 = .ok (.iconst 4, 1) := by decide +kernel
theorem dX9_run_12 : decode cX9_run 12 = .ok (.iaload, 1) := by decide +kernel
theorem dX9_run_13 : decode cX9_run 13 = .ok (.istore 4, 2) := by decide +kernel
theorem dX9_run_15 : decode cX9_run 15 = .ok (.iconst 0, 1) := by decide +kernel
theorem dX9_run_16 : decode cX9_run 16 = .ok (.istore 5, 2) := by decide +kernel
theorem dX9_run_18 : decode cX9_run 18 = .ok (.iload 5, 2) := by decide +kernel
theorem dX9_run_20 : decode cX9_run 20 = .ok (.sipush 1440, 3) := by decide +kernel
theorem dX9_run_23 : decode cX9_run 23 = .ok (.if_icmp .ge 39, 3) := by decide +kernel
theorem dX9_run_26 : decode cX9_run 26 = .ok (.aload_n 1, 1) := by decide +kernel
theorem dX9_run_27 : decode cX9_run 27 = .ok (.iload 5, 2) := by decide +kernel
theorem dX9_run_29 : decode cX9_run 29 = .ok (.iload 4, 2) := by decide +kernel
theorem dX9_run_31 : decode cX9_run 31 = .ok (.iastore, 1) := by decide +kernel
theorem dX9_run_32 : decode cX9_run 32 = .ok (.iload 4, 2) := by decide +kernel
theorem dX9_run_34 : decode cX9_run 34 = .ok (.aload_n 0, 1) := by decide +kernel
theorem dX9_run_35 : decode cX9_run 35 = .ok (.iload 5, 2) := by decide +kernel
theorem dX9_run_37 : decode cX9_run 37 = .ok (.iload 4, 2) := by decide +kernel
theorem dX9_run_39 : decode cX9_run 39 = .ok (.iload_n 2, 1) := by decide +kernel
theorem dX9_run_40 : decode cX9_run 40 = .ok (.iload_n 3, 1) := by decide +kernel
theorem dX9_run_41 : decode cX9_run 41 = .ok (.invokevirtual 124, 3) := by decide +kernel
theorem dX9_run_44 : decode cX9_run 44 = .ok (.iadd, 1) := by decide +kernel
theorem dX9_run_45 : decode cX9_run 45 = .ok (.sipush (-2000), 3) := by decide +kernel
theorem dX9_run_48 : decode cX9_run 48 = .ok (.sipush 2000, 3) := by decide +kernel
theorem dX9_run_51 : decode cX9_run 51 = .ok (.invokestatic 127, 3) := by decide +kernel
theorem dX9_run_54 : decode cX9_run 54 = .ok (.istore 4, 2) := by decide +kernel
theorem dX9_run_56 : decode cX9_run 56 = .ok (.iinc 5 1, 3) := by decide +kernel
theorem dX9_run_59 : decode cX9_run 59 = .ok (.goto (-41), 3) := by decide +kernel
theorem dX9_run_62 : decode cX9_run 62 = .ok (.return_, 1) := by decide +kernel
theorem dX9_gain_0 : decode cX9_gain 0 = .ok (.aload_n 0, 1) := by decide +kernel
theorem dX9_gain_1 : decode cX9_gain 1 = .ok (.getfield 22, 3) := by decide +kernel
theorem dX9_gain_4 : decode cX9_gain 4 = .ok (.iload_n 1, 1) := by decide +kernel
theorem dX9_gain_5 : decode cX9_gain 5 = .ok (.bipush 60, 2) := by decide +kernel
theorem dX9_gain_7 : decode cX9_gain 7 = .ok (.idiv, 1) := by decide +kernel
theorem dX9_gain_8 : decode cX9_gain 8 = .ok (.iaload, 1) := by decide +kernel
theorem dX9_gain_9 : decode cX9_gain 9 = .ok (.istore 5, 2) := by decide +kernel
theorem dX9_gain_11 : decode cX9_gain 11 = .ok (.aload_n 0, 1) := by decide +kernel
theorem dX9_gain_12 : decode cX9_gain 12 = .ok (.iconst 0, 1) := by decide +kernel
theorem dX9_gain_13 : decode cX9_gain 13 = .ok (.iload_n 1, 1) := by decide +kernel
theorem dX9_gain_14 : decode cX9_gain 14 = .ok (.iload 5, 2) := by decide +kernel
theorem dX9_gain_16 : decode cX9_gain 16 = .ok (.iload_n 3, 1) := by decide +kernel
theorem dX9_gain_17 : decode cX9_gain 17 = .ok (.invokevirtual 93, 3) := by decide +kernel
theorem dX9_gain_20 : decode cX9_gain 20 = .ok (.aload_n 0, 1) := by decide +kernel
theorem dX9_gain_21 : decode cX9_gain 21 = .ok (.iconst 1, 1) := by decide +kernel
theorem dX9_gain_22 : decode cX9_gain 22 = .ok (.iload_n 1, 1) := by decide +kernel
theorem dX9_gain_23 : decode cX9_gain 23 = .ok (.iload 5, 2) := by decide +kernel
theorem dX9_gain_25 : decode cX9_gain 25 = .ok (.iload_n 3, 1) := by decide +kernel
theorem dX9_gain_26 : decode cX9_gain 26 = .ok (.invokevirtual 93, 3) := by decide +kernel
theorem dX9_gain_29 : decode cX9_gain 29 = .ok (.isub, 1) := by decide +kernel
theorem dX9_gain_30 : decode cX9_gain 30 = .ok (.istore 6, 2) := by decide +kernel
theorem dX9_gain_32 : decode cX9_gain 32 = .ok (.aload_n 0, 1) := by decide +kernel
theorem dX9_gain_33 : decode cX9_gain 33 = .ok (.getfield 58, 3) := by decide +kernel
theorem dX9_gain_36 : decode cX9_gain 36 = .ok (.invokevirtual 130, 3) := by decide +kernel
theorem dX9_gain_39 : decode cX9_gain 39 = .ok (.astore 7, 2) := by decide +kernel
theorem dX9_gain_41 : decode cX9_gain 41 = .ok (.aload 7, 2) := by decide +kernel
theorem dX9_gain_43 : decode cX9_gain 43 = .ok (.ifnull 50, 3) := by decide +kernel
theorem dX9_gain_46 : decode cX9_gain 46 = .ok (.aload_n 0, 1) := by decide +kernel
theorem dX9_gain_47 : decode cX9_gain 47 = .ok (.getfield 12, 3) := by decide +kernel
theorem dX9_gain_50 : decode cX9_gain 50 = .ok (.iload 6, 2) := by decide +kernel
theorem dX9_gain_52 : decode cX9_gain 52 = .ok (.iload_n 2, 1) := by decide +kernel
theorem dX9_gain_53 : decode cX9_gain 53 = .ok (.iload_n 1, 1) := by decide +kernel
theorem dX9_gain_54 : decode cX9_gain 54 = .ok (.iload 5, 2) := by decide +kernel
theorem dX9_gain_56 : decode cX9_gain 56 = .ok (.iload_n 3, 1) := by decide +kernel
theorem dX9_gain_57 : decode cX9_gain 57 = .ok (.iconst 0, 1) := by decide +kernel
theorem dX9_gain_58 : decode cX9_gain 58 = .ok (.iload 4, 2) := by decide +kernel
theorem dX9_gain_60 : decode cX9_gain 60 = .ok (.invokevirtual 134, 3) := by decide +kernel
theorem dX9_gain_63 : decode cX9_gain 63 = .ok (.aload_n 0, 1) := by decide +kernel
theorem dX9_gain_64 : decode cX9_gain 64 = .ok (.getfield 12, 3) := by decide +kernel
theorem dX9_gain_67 : decode cX9_gain 67 = .ok (.aload 7, 2) := by decide +kernel
theorem dX9_gain_69 : decode cX9_gain 69 = .ok (.iconst 0, 1) := by decide +kernel
theorem dX9_gain_70 : decode cX9_gain 70 = .ok (.invokevirtual 140, 3) := by decide +kernel
theorem dX9_gain_73 : decode cX9_gain 73 = .ok (.ifCond .eq 20, 3) := by decide +kernel
theorem dX9_gain_76 : decode cX9_gain 76 = .ok (.aload_n 0, 1) := by decide +kernel
theorem dX9_gain_77 : decode cX9_gain 77 = .ok (.getfield 12, 3) := by decide +kernel
theorem dX9_gain_80 : decode cX9_gain 80 = .ok (.getfield 144, 3) := by decide +kernel
theorem dX9_gain_83 : decode cX9_gain 83 = .ok (.sipush (-500), 3) := by decide +kernel
theorem dX9_gain_86 : decode cX9_gain 86 = .ok (.sipush 500, 3) := by decide +kernel
theorem dX9_gain_89 : decode cX9_gain 89 = .ok (.invokestatic 127, 3) := by decide +kernel
theorem dX9_gain_92 : decode cX9_gain 92 = .ok (.ireturn, 1) := by decide +kernel
theorem dX9_gain_93 : decode cX9_gain 93 = .ok (.aload_n 0, 1) := by decide +kernel
theorem dX9_gain_94 : decode cX9_gain 94 = .ok (.getfield 58, 3) := by decide +kernel
theorem dX9_gain_97 : decode cX9_gain 97 = .ok (.getfield 90, 3) := by decide +kernel
theorem dX9_gain_100 : decode cX9_gain 100 = .ok (.iconst 1, 1) := by decide +kernel
theorem dX9_gain_101 : decode cX9_gain 101 = .ok (.iaload, 1) := by decide +kernel
theorem dX9_gain_102 : decode cX9_gain 102 = .ok (.aload_n 0, 1) := by decide +kernel
theorem dX9_gain_103 : decode cX9_gain 103 = .ok (.getfield 58, 3) := by decide +kernel
theorem dX9_gain_106 : decode cX9_gain 106 = .ok (.getfield 90, 3) := by decide +kernel
theorem dX9_gain_109 : decode cX9_gain 109 = .ok (.bipush 7, 2) := by decide +kernel
theorem dX9_gain_111 : decode cX9_gain 111 = .ok (.iaload, 1) := by decide +kernel
theorem dX9_gain_112 : decode cX9_gain 112 = .ok (.iload 4, 2) := by decide +kernel
theorem dX9_gain_114 : decode cX9_gain 114 = .ok (.imul, 1) := by decide +kernel
theorem dX9_gain_115 : decode cX9_gain 115 = .ok (.iadd, 1) := by decide +kernel
theorem dX9_gain_116 : decode cX9_gain 116 = .ok (.i2l, 1) := by decide +kernel
theorem dX9_gain_117 : decode cX9_gain 117 = .ok (.lstore 8, 2) := by decide +kernel
theorem dX9_gain_119 : decode cX9_gain 119 = .ok (.iload_n 2, 1) := by decide +kernel
theorem dX9_gain_120 : decode cX9_gain 120 = .ok (.i2l, 1) := by decide +kernel
theorem dX9_gain_121 : decode cX9_gain 121 = .ok (.iload_n 2, 1) := by decide +kernel
theorem dX9_gain_122 : decode cX9_gain 122 = .ok (.invokestatic 112, 3) := by decide +kernel
theorem dX9_gain_125 : decode cX9_gain 125 = .ok (.i2l, 1) := by decide +kernel
theorem dX9_gain_126 : decode cX9_gain 126 = .ok (.lmul, 1) := by decide +kernel
theorem dX9_gain_127 : decode cX9_gain 127 = .ok (.lload 8, 2) := by decide +kernel
theorem dX9_gain_129 : decode cX9_gain 129 = .ok (.lmul, 1) := by decide +kernel
theorem dX9_gain_130 : decode cX9_gain 130 = .ok (.ldc2_w 147, 3) := by decide +kernel
theorem dX9_gain_133 : decode cX9_gain 133 = .ok (.ldiv, 1) := by decide +kernel
theorem dX9_gain_134 : decode cX9_gain 134 = .ok (.lstore 10, 2) := by decide +kernel
theorem dX9_gain_136 : decode cX9_gain 136 = .ok (.iconst 1, 1) := by decide +kernel
theorem dX9_gain_137 : decode cX9_gain 137 = .ok (.aload_n 0, 1) := by decide +kernel
theorem dX9_gain_138 : decode cX9_gain 138 = .ok (.getfield 58, 3) := by decide +kernel
theorem dX9_gain_141 : decode cX9_gain 141 = .ok (.getfield 90, 3) := by decide +kernel
theorem dX9_gain_144 : decode cX9_gain 144 = .ok (.iconst 2, 1) := by decide +kernel
theorem dX9_gain_145 : decode cX9_gain 145 = .ok (.iaload, 1) := by decide +kernel
theorem dX9_gain_146 : decode cX9_gain 146 = .ok (.invokestatic 149, 3) := by decide +kernel
theorem dX9_gain_149 : decode cX9_gain 149 = .ok (.i2l, 1) := by decide +kernel
theorem dX9_gain_150 : decode cX9_gain 150 = .ok (.lstore 12, 2) := by decide +kernel
theorem dX9_gain_152 : decode cX9_gain 152 = .ok (.iload 6, 2) := by decide +kernel
theorem dX9_gain_154 : decode cX9_gain 154 = .ok (.aload_n 0, 1) := by decide +kernel
theorem dX9_gain_155 : decode cX9_gain 155 = .ok (.getfield 58, 3) := by decide +kernel
theorem dX9_gain_158 : decode cX9_gain 158 = .ok (.getfield 90, 3) := by decide +kernel
theorem dX9_gain_161 : decode cX9_gain 161 = .ok (.iconst 0, 1) := by decide +kernel
theorem dX9_gain_162 : decode cX9_gain 162 = .ok (.iaload, 1) := by decide +kernel
theorem dX9_gain_163 : decode cX9_gain 163 = .ok (.imul, 1) := by decide +kernel
theorem dX9_gain_164 : decode cX9_gain 164 = .ok (.i2l, 1) := by decide +kernel
theorem dX9_gain_165 : decode cX9_gain 165 = .ok (.lload 10, 2) := by decide +kernel
theorem dX9_gain_167 : decode cX9_gain 167 = .ok (.lsub, 1) := by decide +kernel
theorem dX9_gain_168 : decode cX9_gain 168 = .ok (.lload 12, 2) := by decide +kernel
theorem dX9_gain_170 : decode cX9_gain 170 = .ok (.ldiv, 1) := by decide +kernel
theorem dX9_gain_171 : decode cX9_gain 171 = .ok (.l2i, 1) := by decide +kernel
theorem dX9_gain_172 : decode cX9_gain 172 = .ok (.ireturn, 1) := by decide +kernel
theorem dX9_flowOf_0 : decode cX9_flowOf 0 = .ok (.iload_n 1, 1) := by decide +kernel
theorem dX9_flowOf_1 : decode cX9_flowOf 1 = .ok (.tableswitch 83 0 4 #[35, 83, 37, 63, 72], 35) := by decide +kernel
theorem dX9_flowOf_36 : decode cX9_flowOf 36 = .ok (.iconst 0, 1) := by decide +kernel
theorem dX9_flowOf_37 : decode cX9_flowOf 37 = .ok (.ireturn, 1) := by decide +kernel
theorem dX9_flowOf_38 : decode cX9_flowOf 38 = .ok (.aload_n 0, 1) := by decide +kernel
theorem dX9_flowOf_39 : decode cX9_flowOf 39 = .ok (.getfield 29, 3) := by decide +kernel
theorem dX9_flowOf_42 : decode cX9_flowOf 42 = .ok (.iload_n 2, 1) := by decide +kernel
theorem dX9_flowOf_43 : decode cX9_flowOf 43 = .ok (.aload_n 0, 1) := by decide +kernel
theorem dX9_flowOf_44 : decode cX9_flowOf 44 = .ok (.getfield 58, 3) := by decide +kernel
theorem dX9_flowOf_47 : decode cX9_flowOf 47 = .ok (.getfield 90, 3) := by decide +kernel
theorem dX9_flowOf_50 : decode cX9_flowOf 50 = .ok (.iconst 5, 1) := by decide +kernel
theorem dX9_flowOf_51 : decode cX9_flowOf 51 = .ok (.iaload, 1) := by decide +kernel
theorem dX9_flowOf_52 : decode cX9_flowOf 52 = .ok (.iadd, 1) := by decide +kernel
theorem dX9_flowOf_53 : decode cX9_flowOf 53 = .ok (.sipush 1439, 3) := by decide +kernel
theorem dX9_flowOf_56 : decode cX9_flowOf 56 = .ok (.invokestatic 152, 3) := by decide +kernel
theorem dX9_flowOf_59 : decode cX9_flowOf 59 = .ok (.iaload, 1) := by decide +kernel
theorem dX9_flowOf_60 : decode cX9_flowOf 60 = .ok (.ineg, 1) := by decide +kernel
theorem dX9_flowOf_61 : decode cX9_flowOf 61 = .ok (.iconst 2, 1) := by decide +kernel
theorem dX9_flowOf_62 : decode cX9_flowOf 62 = .ok (.idiv, 1) := by decide +kernel
theorem dX9_flowOf_63 : decode cX9_flowOf 63 = .ok (.ireturn, 1) := by decide +kernel
theorem dX9_flowOf_64 : decode cX9_flowOf 64 = .ok (.aload_n 0, 1) := by decide +kernel
theorem dX9_flowOf_65 : decode cX9_flowOf 65 = .ok (.getfield 29, 3) := by decide +kernel
theorem dX9_flowOf_68 : decode cX9_flowOf 68 = .ok (.iload_n 2, 1) := by decide +kernel
theorem dX9_flowOf_69 : decode cX9_flowOf 69 = .ok (.iaload, 1) := by decide +kernel
theorem dX9_flowOf_70 : decode cX9_flowOf 70 = .ok (.iconst 4, 1) := by decide +kernel
theorem dX9_flowOf_71 : decode cX9_flowOf 71 = .ok (.idiv, 1) := by decide +kernel
theorem dX9_flowOf_72 : decode cX9_flowOf 72 = .ok (.ireturn, 1) := by decide +kernel
theorem dX9_flowOf_73 : decode cX9_flowOf 73 = .ok (.aload_n 0, 1) := by decide +kernel
theorem dX9_flowOf_74 : decode cX9_flowOf 74 = .ok (.getfield 29, 3) := by decide +kernel
theorem dX9_flowOf_77 : decode cX9_flowOf 77 = .ok (.iload_n 2, 1) := by decide +kernel
theorem dX9_flowOf_78 : decode cX9_flowOf 78 = .ok (.iaload, 1) := by decide +kernel
theorem dX9_flowOf_79 : decode cX9_flowOf 79 = .ok (.iconst 5, 1) := by decide +kernel
theorem dX9_flowOf_80 : decode cX9_flowOf 80 = .ok (.imul, 1) := by decide +kernel
theorem dX9_flowOf_81 : decode cX9_flowOf 81 = .ok (.iconst 4, 1) := by decide +kernel
theorem dX9_flowOf_82 : decode cX9_flowOf 82 = .ok (.idiv, 1) := by decide +kernel
theorem dX9_flowOf_83 : decode cX9_flowOf 83 = .ok (.ireturn, 1) := by decide +kernel
theorem dX9_flowOf_84 : decode cX9_flowOf 84 = .ok (.aload_n 0, 1) := by decide +kernel
theorem dX9_flowOf_85 : decode cX9_flowOf 85 = .ok (.getfield 29, 3) := by decide +kernel
theorem dX9_flowOf_88 : decode cX9_flowOf 88 = .ok (.iload_n 2, 1) := by decide +kernel
theorem dX9_flowOf_89 : decode cX9_flowOf 89 = .ok (.iaload, 1) := by decide +kernel
theorem dX9_flowOf_90 : decode cX9_flowOf 90 = .ok (.ireturn, 1) := by decide +kernel
theorem dX9_whiteOf_0 : decode cX9_whiteOf 0 = .ok (.iload_n 1, 1) := by decide +kernel
theorem dX9_whiteOf_1 : decode cX9_whiteOf 1 = .ok (.ifCond .ne 5, 3) := by decide +kernel
theorem dX9_whiteOf_4 : decode cX9_whiteOf 4 = .ok (.iconst 0, 1) := by decide +kernel
theorem dX9_whiteOf_5 : decode cX9_whiteOf 5 = .ok (.ireturn, 1) := by decide +kernel
theorem dX9_whiteOf_6 : decode cX9_whiteOf 6 = .ok (.aload_n 0, 1) := by decide +kernel
theorem dX9_whiteOf_7 : decode cX9_whiteOf 7 = .ok (.iload_n 1, 1) := by decide +kernel
theorem dX9_whiteOf_8 : decode cX9_whiteOf 8 = .ok (.iload_n 2, 1) := by decide +kernel
theorem dX9_whiteOf_9 : decode cX9_whiteOf 9 = .ok (.invokevirtual 155, 3) := by decide +kernel
theorem dX9_whiteOf_12 : decode cX9_whiteOf 12 = .ok (.istore_n 3, 1) := by decide +kernel
theorem dX9_whiteOf_13 : decode cX9_whiteOf 13 = .ok (.aload_n 0, 1) := by decide +kernel
theorem dX9_whiteOf_14 : decode cX9_whiteOf 14 = .ok (.getfield 58, 3) := by decide +kernel
theorem dX9_whiteOf_17 : decode cX9_whiteOf 17 = .ok (.getfield 90, 3) := by decide +kernel
theorem dX9_whiteOf_20 : decode cX9_whiteOf 20 = .ok (.bipush 9, 2) := by decide +kernel
theorem dX9_whiteOf_22 : decode cX9_whiteOf 22 = .ok (.iaload, 1) := by decide +kernel
theorem dX9_whiteOf_23 : decode cX9_whiteOf 23 = .ok (.istore 4, 2) := by decide +kernel
theorem dX9_whiteOf_25 : decode cX9_whiteOf 25 = .ok (.aload_n 0, 1) := by decide +kernel
theorem dX9_whiteOf_26 : decode cX9_whiteOf 26 = .ok (.getfield 58, 3) := by decide +kernel
theorem dX9_whiteOf_29 : decode cX9_whiteOf 29 = .ok (.getfield 90, 3) := by decide +kernel
theorem dX9_whiteOf_32 : decode cX9_whiteOf 32 = .ok (.bipush 10, 2) := by decide +kernel
theorem dX9_whiteOf_34 : decode cX9_whiteOf 34 = .ok (.iaload, 1) := by decide +kernel
theorem dX9_whiteOf_35 : decode cX9_whiteOf 35 = .ok (.istore 5, 2) := by decide +kernel
theorem dX9_whiteOf_37 : decode cX9_whiteOf 37 = .ok (.aload_n 0, 1) := by decide +kernel
theorem dX9_whiteOf_38 : decode cX9_whiteOf 38 = .ok (.getfield 58, 3) := by decide +kernel
theorem dX9_whiteOf_41 : decode cX9_whiteOf 41 = .ok (.invokevirtual 130, 3) := by decide +kernel
theorem dX9_whiteOf_44 : decode cX9_whiteOf 44 = .ok (.astore 6, 2) := by decide +kernel
theorem dX9_whiteOf_46 : decode cX9_whiteOf 46 = .ok (.aload 6, 2) := by decide +kernel
theorem dX9_whiteOf_48 : decode cX9_whiteOf 48 = .ok (.ifnull 62, 3) := by decide +kernel
theorem dX9_whiteOf_51 : decode cX9_whiteOf 51 = .ok (.aload_n 0, 1) := by decide +kernel
theorem dX9_whiteOf_52 : decode cX9_whiteOf 52 = .ok (.iconst 0, 1) := by decide +kernel
theorem dX9_whiteOf_53 : decode cX9_whiteOf 53 = .ok (.iload_n 2, 1) := by decide +kernel
theorem dX9_whiteOf_54 : decode cX9_whiteOf 54 = .ok (.invokevirtual 158, 3) := by decide +kernel
theorem dX9_whiteOf_57 : decode cX9_whiteOf 57 = .ok (.aload_n 0, 1) := by decide +kernel
theorem dX9_whiteOf_58 : decode cX9_whiteOf 58 = .ok (.iconst 1, 1) := by decide +kernel
theorem dX9_whiteOf_59 : decode cX9_whiteOf 59 = .ok (.iload_n 2, 1) := by decide +kernel
theorem dX9_whiteOf_60 : decode cX9_whiteOf 60 = .ok (.invokevirtual 158, 3) := by decide +kernel
theorem dX9_whiteOf_63 : decode cX9_whiteOf 63 = .ok (.isub, 1) := by decide +kernel
theorem dX9_whiteOf_64 : decode cX9_whiteOf 64 = .ok (.istore 7, 2) := by decide +kernel
theorem dX9_whiteOf_66 : decode cX9_whiteOf 66 = .ok (.aload_n 0, 1) := by decide +kernel
theorem dX9_whiteOf_67 : decode cX9_whiteOf 67 = .ok (.getfield 12, 3) := by decide +kernel
theorem dX9_whiteOf_70 : decode cX9_whiteOf 70 = .ok (.iload 7, 2) := by decide +kernel
theorem dX9_whiteOf_72 : decode cX9_whiteOf 72 = .ok (.iload_n 3, 1) := by decide +kernel
theorem dX9_whiteOf_73 : decode cX9_whiteOf 73 = .ok (.iload_n 2, 1) := by decide +kernel
theorem dX9_whiteOf_74 : decode cX9_whiteOf 74 = .ok (.iload 4, 2) := by decide +kernel
theorem dX9_whiteOf_76 : decode cX9_whiteOf 76 = .ok (.iload 5, 2) := by decide +kernel
theorem dX9_whiteOf_78 : decode cX9_whiteOf 78 = .ok (.iload_n 1, 1) := by decide +kernel
theorem dX9_whiteOf_79 : decode cX9_whiteOf 79 = .ok (.iconst 0, 1) := by decide +kernel
theorem dX9_whiteOf_80 : decode cX9_whiteOf 80 = .ok (.invokevirtual 134, 3) := by decide +kernel
theorem dX9_whiteOf_83 : decode cX9_whiteOf 83 = .ok (.aload_n 0, 1) := by decide +kernel
theorem dX9_whiteOf_84 : decode cX9_whiteOf 84 = .ok (.getfield 12, 3) := by decide +kernel
theorem dX9_whiteOf_87 : decode cX9_whiteOf 87 = .ok (.aload 6, 2) := by decide +kernel
theorem dX9_whiteOf_89 : decode cX9_whiteOf 89 = .ok (.iconst 1, 1) := by decide +kernel
theorem dX9_whiteOf_90 : decode cX9_whiteOf 90 = .ok (.invokevirtual 140, 3) := by decide +kernel
theorem dX9_whiteOf_93 : decode cX9_whiteOf 93 = .ok (.ifCond .eq 17, 3) := by decide +kernel
theorem dX9_whiteOf_96 : decode cX9_whiteOf 96 = .ok (.aload_n 0, 1) := by decide +kernel
theorem dX9_whiteOf_97 : decode cX9_whiteOf 97 = .ok (.getfield 12, 3) := by decide +kernel
theorem dX9_whiteOf_100 : decode cX9_whiteOf 100 = .ok (.getfield 144, 3) := by decide +kernel
theorem dX9_whiteOf_103 : decode cX9_whiteOf 103 = .ok (.iconst 0, 1) := by decide +kernel
theorem dX9_whiteOf_104 : decode cX9_whiteOf 104 = .ok (.bipush 99, 2) := by decide +kernel
theorem dX9_whiteOf_106 : decode cX9_whiteOf 106 = .ok (.invokestatic 127, 3) := by decide +kernel
theorem dX9_whiteOf_109 : decode cX9_whiteOf 109 = .ok (.ireturn, 1) := by decide +kernel
theorem dX9_whiteOf_110 : decode cX9_whiteOf 110 = .ok (.iload_n 3, 1) := by decide +kernel
theorem dX9_whiteOf_111 : decode cX9_whiteOf 111 = .ok (.iload 4, 2) := by decide +kernel
theorem dX9_whiteOf_113 : decode cX9_whiteOf 113 = .ok (.imul, 1) := by decide +kernel
theorem dX9_whiteOf_114 : decode cX9_whiteOf 114 = .ok (.sipush 1000, 3) := by decide +kernel
theorem dX9_whiteOf_117 : decode cX9_whiteOf 117 = .ok (.idiv, 1) := by decide +kernel
theorem dX9_whiteOf_118 : decode cX9_whiteOf 118 = .ok (.ineg, 1) := by decide +kernel
theorem dX9_whiteOf_119 : decode cX9_whiteOf 119 = .ok (.istore 7, 2) := by decide +kernel
theorem dX9_whiteOf_121 : decode cX9_whiteOf 121 = .ok (.iload_n 1, 1) := by decide +kernel
theorem dX9_whiteOf_122 : decode cX9_whiteOf 122 = .ok (.iconst 5, 1) := by decide +kernel
theorem dX9_whiteOf_123 : decode cX9_whiteOf 123 = .ok (.if_icmp .ne 10, 3) := by decide +kernel
theorem dX9_whiteOf_126 : decode cX9_whiteOf 126 = .ok (.iload 7, 2) := by decide +kernel
theorem dX9_whiteOf_128 : decode cX9_whiteOf 128 = .ok (.iconst 2, 1) := by decide +kernel
theorem dX9_whiteOf_129 : decode cX9_whiteOf 129 = .ok (.imul, 1) := by decide +kernel
theorem dX9_whiteOf_130 : decode cX9_whiteOf 130 = .ok (.goto 22, 3) := by decide +kernel
theorem dX9_whiteOf_133 : decode cX9_whiteOf 133 = .ok (.iload_n 1, 1) := by decide +kernel
theorem dX9_whiteOf_134 : decode cX9_whiteOf 134 = .ok (.iconst 2, 1) := by decide +kernel
theorem dX9_whiteOf_135 : decode cX9_whiteOf 135 = .ok (.if_icmp .eq 8, 3) := by decide +kernel
theorem dX9_whiteOf_138 : decode cX9_whiteOf 138 = .ok (.iload_n 1, 1) := by decide +kernel
theorem dX9_whiteOf_139 : decode cX9_whiteOf 139 = .ok (.iconst 3, 1) := by decide +kernel
theorem dX9_whiteOf_140 : decode cX9_whiteOf 140 = .ok (.if_icmp .ne 10, 3) := by decide +kernel
theorem dX9_whiteOf_143 : decode cX9_whiteOf 143 = .ok (.iload 7, 2) := by decide +kernel
theorem dX9_whiteOf_145 : decode cX9_whiteOf 145 = .ok (.iconst 2, 1) := by decide +kernel
theorem dX9_whiteOf_146 : decode cX9_whiteOf 146 = .ok (.idiv, 1) := by decide +kernel
theorem dX9_whiteOf_147 : decode cX9_whiteOf 147 = .ok (.goto 5, 3) := by decide +kernel
theorem dX9_whiteOf_150 : decode cX9_whiteOf 150 = .ok (.iload 7, 2) := by decide +kernel
theorem dX9_whiteOf_152 : decode cX9_whiteOf 152 = .ok (.istore 8, 2) := by decide +kernel
theorem dX9_whiteOf_154 : decode cX9_whiteOf 154 = .ok (.iload 8, 2) := by decide +kernel
theorem dX9_whiteOf_156 : decode cX9_whiteOf 156 = .ok (.iconst 0, 1) := by decide +kernel
theorem dX9_whiteOf_157 : decode cX9_whiteOf 157 = .ok (.bipush 99, 2) := by decide +kernel
theorem dX9_whiteOf_159 : decode cX9_whiteOf 159 = .ok (.invokestatic 127, 3) := by decide +kernel
theorem dX9_whiteOf_162 : decode cX9_whiteOf 162 = .ok (.ireturn, 1) := by decide +kernel
theorem dX9_isStill_0 : decode cX9_isStill 0 = .ok (.iload_n 1, 1) := by decide +kernel
theorem dX9_isStill_1 : decode cX9_isStill 1 = .ok (.invokestatic 112, 3) := by decide +kernel
theorem dX9_isStill_4 : decode cX9_isStill 4 = .ok (.aload_n 0, 1) := by decide +kernel
theorem dX9_isStill_5 : decode cX9_isStill 5 = .ok (.getfield 58, 3) := by decide +kernel
theorem dX9_isStill_8 : decode cX9_isStill 8 = .ok (.getfield 90, 3) := by decide +kernel
theorem dX9_isStill_11 : decode cX9_isStill 11 = .ok (.iconst 3, 1) := by decide +kernel
theorem dX9_isStill_12 : decode cX9_isStill 12 = .ok (.iaload, 1) := by decide +kernel
theorem dX9_isStill_13 : decode cX9_isStill 13 = .ok (.if_icmp .gt 7, 3) := by decide +kernel
theorem dX9_isStill_16 : decode cX9_isStill 16 = .ok (.iconst 1, 1) := by decide +kernel
theorem dX9_isStill_17 : decode cX9_isStill 17 = .ok (.goto 4, 3) := by decide +kernel
theorem dX9_isStill_20 : decode cX9_isStill 20 = .ok (.iconst 0, 1) := by decide +kernel
theorem dX9_isStill_21 : decode cX9_isStill 21 = .ok (.ireturn, 1) := by decide +kernel
theorem dX9_slacksOf_0 : decode cX9_slacksOf 0 = .ok (.iconst 0, 1) := by decide +kernel
theorem dX9_slacksOf_1 : decode cX9_slacksOf 1 = .ok (.istore_n 2, 1) := by decide +kernel
theorem dX9_slacksOf_2 : decode cX9_slacksOf 2 = .ok (.iconst 0, 1) := by decide +kernel
theorem dX9_slacksOf_3 : decode cX9_slacksOf 3 = .ok (.istore_n 3, 1) := by decide +kernel
theorem dX9_slacksOf_4 : decode cX9_slacksOf 4 = .ok (.iload_n 3, 1) := by decide +kernel
theorem dX9_slacksOf_5 : decode cX9_slacksOf 5 = .ok (.sipush 1440, 3) := by decide +kernel
theorem dX9_slacksOf_8 : decode cX9_slacksOf 8 = .ok (.if_icmp .ge 21, 3) := by decide +kernel
theorem dX9_slacksOf_11 : decode cX9_slacksOf 11 = .ok (.aload_n 0, 1) := by decide +kernel
theorem dX9_slacksOf_12 : decode cX9_slacksOf 12 = .ok (.aload_n 1, 1) := by decide +kernel
theorem dX9_slacksOf_13 : decode cX9_slacksOf 13 = .ok (.iload_n 3, 1) := by decide +kernel
theorem dX9_slacksOf_14 : decode cX9_slacksOf 14 = .ok (.invokevirtual 161, 3) := by decide +kernel
theorem dX9_slacksOf_17 : decode cX9_slacksOf 17 = .ok (.ifCond .eq 6, 3) := by decide +kernel
theorem dX9_slacksOf_20 : decode cX9_slacksOf 20 = .ok (.iinc 2 1, 3) := by decide +kernel
theorem dX9_slacksOf_23 : decode cX9_slacksOf 23 = .ok (.iinc 3 1, 3) := by decide +kernel
theorem dX9_slacksOf_26 : decode cX9_slacksOf 26 = .ok (.goto (-22), 3) := by decide +kernel
theorem dX9_slacksOf_29 : decode cX9_slacksOf 29 = .ok (.iload_n 2, 1) := by decide +kernel
theorem dX9_slacksOf_30 : decode cX9_slacksOf 30 = .ok (.ireturn, 1) := by decide +kernel
theorem dX9_slackStart_0 : decode cX9_slackStart 0 = .ok (.iconst 0, 1) := by decide +kernel
theorem dX9_slackStart_1 : decode cX9_slackStart 1 = .ok (.istore_n 3, 1) := by decide +kernel
theorem dX9_slackStart_2 : decode cX9_slackStart 2 = .ok (.iconst 0, 1) := by decide +kernel
theorem dX9_slackStart_3 : decode cX9_slackStart 3 = .ok (.istore 4, 2) := by decide +kernel
theorem dX9_slackStart_5 : decode cX9_slackStart 5 = .ok (.iload 4, 2) := by decide +kernel
theorem dX9_slackStart_7 : decode cX9_slackStart 7 = .ok (.sipush 1440, 3) := by decide +kernel
theorem dX9_slackStart_10 : decode cX9_slackStart 10 = .ok (.if_icmp .ge 30, 3) := by decide +kernel
theorem dX9_slackStart_13 : decode cX9_slackStart 13 = .ok (.aload_n 0, 1) := by decide +kernel
theorem dX9_slackStart_14 : decode cX9_slackStart 14 = .ok (.aload_n 1, 1) := by decide +kernel
theorem dX9_slackStart_15 : decode cX9_slackStart 15 = .ok (.iload 4, 2) := by decide +kernel
theorem dX9_slackStart_17 : decode cX9_slackStart 17 = .ok (.invokevirtual 161, 3) := by decide +kernel
theorem dX9_slackStart_20 : decode cX9_slackStart 20 = .ok (.ifCond .eq 14, 3) := by decide +kernel
theorem dX9_slackStart_23 : decode cX9_slackStart 23 = .ok (.iload_n 3, 1) := by decide +kernel
theorem dX9_slackStart_24 : decode cX9_slackStart 24 = .ok (.iload_n 2, 1) := by decide +kernel
theorem dX9_slackStart_25 : decode cX9_slackStart 25 = .ok (.if_icmp .ne 6, 3) := by decide +kernel
theorem dX9_slackStart_28 : decode cX9_slackStart 28 = .ok (.iload 4, 2) := by decide +kernel
theorem dX9_slackStart_30 : decode cX9_slackStart 30 = .ok (.ireturn, 1) := by decide +kernel
theorem dX9_slackStart_31 : decode cX9_slackStart 31 = .ok (.iinc 3 1, 3) := by decide +kernel
theorem dX9_slackStart_34 : decode cX9_slackStart 34 = .ok (.iinc 4 1, 3) := by decide +kernel
theorem dX9_slackStart_37 : decode cX9_slackStart 37 = .ok (.goto (-32), 3) := by decide +kernel
theorem dX9_slackStart_40 : decode cX9_slackStart 40 = .ok (.iconst (-1), 1) := by decide +kernel
theorem dX9_slackStart_41 : decode cX9_slackStart 41 = .ok (.ireturn, 1) := by decide +kernel
theorem dX9_beginsSlack_0 : decode cX9_beginsSlack 0 = .ok (.aload_n 0, 1) := by decide +kernel
theorem dX9_beginsSlack_1 : decode cX9_beginsSlack 1 = .ok (.aload_n 1, 1) := by decide +kernel
theorem dX9_beginsSlack_2 : decode cX9_beginsSlack 2 = .ok (.iload_n 2, 1) := by decide +kernel
theorem dX9_beginsSlack_3 : decode cX9_beginsSlack 3 = .ok (.iaload, 1) := by decide +kernel
theorem dX9_beginsSlack_4 : decode cX9_beginsSlack 4 = .ok (.invokevirtual 165, 3) := by decide +kernel
theorem dX9_beginsSlack_7 : decode cX9_beginsSlack 7 = .ok (.ifCond .eq 23, 3) := by decide +kernel
theorem dX9_beginsSlack_10 : decode cX9_beginsSlack 10 = .ok (.iload_n 2, 1) := by decide +kernel
theorem dX9_beginsSlack_11 : decode cX9_beginsSlack 11 = .ok (.ifCond .eq 15, 3) := by decide +kernel
theorem dX9_beginsSlack_14 : decode cX9_beginsSlack 14 = .ok (.aload_n 0, 1) := by decide +kernel
theorem dX9_beginsSlack_15 : decode cX9_beginsSlack 15 = .ok (.aload_n 1, 1) := by decide +kernel
theorem dX9_beginsSlack_16 : decode cX9_beginsSlack 16 = .ok (.iload_n 2, 1) := by decide +kernel
theorem dX9_beginsSlack_17 : decode cX9_beginsSlack 17 = .ok (.iconst 1, 1) := by decide +kernel
theorem dX9_beginsSlack_18 : decode cX9_beginsSlack 18 = .ok (.isub, 1) := by decide +kernel
theorem dX9_beginsSlack_19 : decode cX9_beginsSlack 19 = .ok (.iaload, 1) := by decide +kernel
theorem dX9_beginsSlack_20 : decode cX9_beginsSlack 20 = .ok (.invokevirtual 165, 3) := by decide +kernel
theorem dX9_beginsSlack_23 : decode cX9_beginsSlack 23 = .ok (.ifCond .ne 7, 3) := by decide +kernel
theorem dX9_beginsSlack_26 : decode cX9_beginsSlack 26 = .ok (.iconst 1, 1) := by decide +kernel
theorem dX9_beginsSlack_27 : decode cX9_beginsSlack 27 = .ok (.goto 4, 3) := by decide +kernel
theorem dX9_beginsSlack_30 : decode cX9_beginsSlack 30 = .ok (.iconst 0, 1) := by decide +kernel
theorem dX9_beginsSlack_31 : decode cX9_beginsSlack 31 = .ok (.ireturn, 1) := by decide +kernel
theorem dX9_slackLength_0 : decode cX9_slackLength 0 = .ok (.iconst 0, 1) := by decide +kernel
theorem dX9_slackLength_1 : decode cX9_slackLength 1 = .ok (.istore_n 3, 1) := by decide +kernel
theorem dX9_slackLength_2 : decode cX9_slackLength 2 = .ok (.iload_n 2, 1) := by decide +kernel
theorem dX9_slackLength_3 : decode cX9_slackLength 3 = .ok (.iload_n 3, 1) := by decide +kernel
theorem dX9_slackLength_4 : decode cX9_slackLength 4 = .ok (.iadd, 1) := by decide +kernel
theorem dX9_slackLength_5 : decode cX9_slackLength 5 = .ok (.sipush 1440, 3) := by decide +kernel
theorem dX9_slackLength_8 : decode cX9_slackLength 8 = .ok (.if_icmp .ge 21, 3) := by decide +kernel
theorem dX9_slackLength_11 : decode cX9_slackLength 11 = .ok (.aload_n 0, 1) := by decide +kernel
theorem dX9_slackLength_12 : decode cX9_slackLength 12 = .ok (.aload_n 1, 1) := by decide +kernel
theorem dX9_slackLength_13 : decode cX9_slackLength 13 = .ok (.iload_n 2, 1) := by decide +kernel
theorem dX9_slackLength_14 : decode cX9_slackLength 14 = .ok (.iload_n 3, 1) := by decide +kernel
theorem dX9_slackLength_15 : decode cX9_slackLength 15 = .ok (.iadd, 1) := by decide +kernel
theorem dX9_slackLength_16 : decode cX9_slackLength 16 = .ok (.iaload, 1) := by decide +kernel
theorem dX9_slackLength_17 : decode cX9_slackLength 17 = .ok (.invokevirtual 165, 3) := by decide +kernel
theorem dX9_slackLength_20 : decode cX9_slackLength 20 = .ok (.ifCond .eq 9, 3) := by decide +kernel
theorem dX9_slackLength_23 : decode cX9_slackLength 23 = .ok (.iinc 3 1, 3) := by decide +kernel
theorem dX9_slackLength_26 : decode cX9_slackLength 26 = .ok (.goto (-24), 3) := by decide +kernel
theorem dX9_slackLength_29 : decode cX9_slackLength 29 = .ok (.iload_n 3, 1) := by decide +kernel
theorem dX9_slackLength_30 : decode cX9_slackLength 30 = .ok (.ireturn, 1) := by decide +kernel
theorem dX9_sinceGreatest_0 : decode cX9_sinceGreatest 0 = .ok (.iload_n 1, 1) := by decide +kernel
theorem dX9_sinceGreatest_1 : decode cX9_sinceGreatest 1 = .ok (.istore_n 2, 1) := by decide +kernel
theorem dX9_sinceGreatest_2 : decode cX9_sinceGreatest 2 = .ok (.iload_n 1, 1) := by decide +kernel
theorem dX9_sinceGreatest_3 : decode cX9_sinceGreatest 3 = .ok (.iconst 1, 1) := by decide +kernel
theorem dX9_sinceGreatest_4 : decode cX9_sinceGreatest 4 = .ok (.isub, 1) := by decide +kernel
theorem dX9_sinceGreatest_5 : decode cX9_sinceGreatest 5 = .ok (.istore_n 3, 1) := by decide +kernel
theorem dX9_sinceGreatest_6 : decode cX9_sinceGreatest 6 = .ok (.iload_n 3, 1) := by decide +kernel
theorem dX9_sinceGreatest_7 : decode cX9_sinceGreatest 7 = .ok (.ifCond .lt 35, 3) := by decide +kernel
theorem dX9_sinceGreatest_10 : decode cX9_sinceGreatest 10 = .ok (.iload_n 3, 1) := by decide +kernel
theorem dX9_sinceGreatest_11 : decode cX9_sinceGreatest 11 = .ok (.iload_n 1, 1) := by decide +kernel
theorem dX9_sinceGreatest_12 : decode cX9_sinceGreatest 12 = .ok (.sipush 720, 3) := by decide +kernel
theorem dX9_sinceGreatest_15 : decode cX9_sinceGreatest 15 = .ok (.isub, 1) := by decide +kernel
theorem dX9_sinceGreatest_16 : decode cX9_sinceGreatest 16 = .ok (.if_icmp .lt 26, 3) := by decide +kernel
theorem dX9_sinceGreatest_19 : decode cX9_sinceGreatest 19 = .ok (.aload_n 0, 1) := by decide +kernel
theorem dX9_sinceGreatest_20 : decode cX9_sinceGreatest 20 = .ok (.getfield 18, 3) := by decide +kernel
theorem dX9_sinceGreatest_23 : decode cX9_sinceGreatest 23 = .ok (.iload_n 3, 1) := by decide +kernel
theorem dX9_sinceGreatest_24 : decode cX9_sinceGreatest 24 = .ok (.iaload, 1) := by decide +kernel
theorem dX9_sinceGreatest_25 : decode cX9_sinceGreatest 25 = .ok (.aload_n 0, 1) := by decide +kernel
theorem dX9_sinceGreatest_26 : decode cX9_sinceGreatest 26 = .ok (.getfield 18, 3) := by decide +kernel
theorem dX9_sinceGreatest_29 : decode cX9_sinceGreatest 29 = .ok (.iload_n 2, 1) := by decide +kernel
theorem dX9_sinceGreatest_30 : decode cX9_sinceGreatest 30 = .ok (.iaload, 1) := by decide +kernel
theorem dX9_sinceGreatest_31 : decode cX9_sinceGreatest 31 = .ok (.if_icmp .le 5, 3) := by decide +kernel
theorem dX9_sinceGreatest_34 : decode cX9_sinceGreatest 34 = .ok (.iload_n 3, 1) := by decide +kernel
theorem dX9_sinceGreatest_35 : decode cX9_sinceGreatest 35 = .ok (.istore_n 2, 1) := by decide +kernel
theorem dX9_sinceGreatest_36 : decode cX9_sinceGreatest 36 = .ok (.iinc 3 (-1), 3) := by decide +kernel
theorem dX9_sinceGreatest_39 : decode cX9_sinceGreatest 39 = .ok (.goto (-33), 3) := by decide +kernel
theorem dX9_sinceGreatest_42 : decode cX9_sinceGreatest 42 = .ok (.iload_n 1, 1) := by decide +kernel
theorem dX9_sinceGreatest_43 : decode cX9_sinceGreatest 43 = .ok (.iload_n 2, 1) := by decide +kernel
theorem dX9_sinceGreatest_44 : decode cX9_sinceGreatest 44 = .ok (.isub, 1) := by decide +kernel
theorem dX9_sinceGreatest_45 : decode cX9_sinceGreatest 45 = .ok (.ireturn, 1) := by decide +kernel
theorem dX9_isSlack_0 : decode cX9_isSlack 0 = .ok (.aload_n 0, 1) := by decide +kernel
theorem dX9_isSlack_1 : decode cX9_isSlack 1 = .ok (.aload_n 0, 1) := by decide +kernel
theorem dX9_isSlack_2 : decode cX9_isSlack 2 = .ok (.getfield 29, 3) := by decide +kernel
theorem dX9_isSlack_5 : decode cX9_isSlack 5 = .ok (.iload_n 1, 1) := by decide +kernel
theorem dX9_isSlack_6 : decode cX9_isSlack 6 = .ok (.iaload, 1) := by decide +kernel
theorem dX9_isSlack_7 : decode cX9_isSlack 7 = .ok (.invokevirtual 165, 3) := by decide +kernel
theorem dX9_isSlack_10 : decode cX9_isSlack 10 = .ok (.ireturn, 1) := by decide +kernel
theorem dX9_takenBy_0 : decode cX9_takenBy 0 = .ok (.aload_n 0, 1) := by decide +kernel
theorem dX9_takenBy_1 : decode cX9_takenBy 1 = .ok (.getfield 25, 3) := by decide +kernel
theorem dX9_takenBy_4 : decode cX9_takenBy 4 = .ok (.iload_n 1, 1) := by decide +kernel
theorem dX9_takenBy_5 : decode cX9_takenBy 5 = .ok (.laload, 1) := by decide +kernel
theorem dX9_takenBy_6 : decode cX9_takenBy 6 = .ok (.ldc2_w 62, 3) := by decide +kernel
theorem dX9_takenBy_9 : decode cX9_takenBy 9 = .ok (.lcmp, 1) := by decide +kernel
theorem dX9_takenBy_10 : decode cX9_takenBy 10 = .ok (.ifCond .ne 8, 3) := by decide +kernel
theorem dX9_takenBy_13 : decode cX9_takenBy 13 = .ok (.aload_n 0, 1) := by decide +kernel
theorem dX9_takenBy_14 : decode cX9_takenBy 14 = .ok (.iload_n 1, 1) := by decide +kernel
theorem dX9_takenBy_15 : decode cX9_takenBy 15 = .ok (.invokevirtual 169, 3) := by decide +kernel
theorem dX9_takenBy_18 : decode cX9_takenBy 18 = .ok (.aload_n 0, 1) := by decide +kernel
theorem dX9_takenBy_19 : decode cX9_takenBy 19 = .ok (.getfield 25, 3) := by decide +kernel
theorem dX9_takenBy_22 : decode cX9_takenBy 22 = .ok (.iload_n 1, 1) := by decide +kernel
theorem dX9_takenBy_23 : decode cX9_takenBy 23 = .ok (.laload, 1) := by decide +kernel
theorem dX9_takenBy_24 : decode cX9_takenBy 24 = .ok (.lreturn, 1) := by decide +kernel
theorem dX9_bestTurbines_0 : decode cX9_bestTurbines 0 = .ok (.aload_n 0, 1) := by decide +kernel
theorem dX9_bestTurbines_1 : decode cX9_bestTurbines 1 = .ok (.getfield 55, 3) := by decide +kernel
theorem dX9_bestTurbines_4 : decode cX9_bestTurbines 4 = .ok (.iconst (-1), 1) := by decide +kernel
theorem dX9_bestTurbines_5 : decode cX9_bestTurbines 5 = .ok (.if_icmp .eq 8, 3) := by decide +kernel
theorem dX9_bestTurbines_8 : decode cX9_bestTurbines 8 = .ok (.aload_n 0, 1) := by decide +kernel
theorem dX9_bestTurbines_9 : decode cX9_bestTurbines 9 = .ok (.getfield 55, 3) := by decide +kernel
theorem dX9_bestTurbines_12 : decode cX9_bestTurbines 12 = .ok (.ireturn, 1) := by decide +kernel
theorem dX9_bestTurbines_13 : decode cX9_bestTurbines 13 = .ok (.aload_n 0, 1) := by decide +kernel
theorem dX9_bestTurbines_14 : decode cX9_bestTurbines 14 = .ok (.getfield 25, 3) := by decide +kernel
theorem dX9_bestTurbines_17 : decode cX9_bestTurbines 17 = .ok (.iconst 0, 1) := by decide +kernel
theorem dX9_bestTurbines_18 : decode cX9_bestTurbines 18 = .ok (.lconst 0, 1) := by decide +kernel
theorem dX9_bestTurbines_19 : decode cX9_bestTurbines 19 = .ok (.lastore, 1) := by decide +kernel
theorem dX9_bestTurbines_20 : decode cX9_bestTurbines 20 = .ok (.aload_n 0, 1) := by decide +kernel
theorem dX9_bestTurbines_21 : decode cX9_bestTurbines 21 = .ok (.iconst 0, 1) := by decide +kernel
theorem dX9_bestTurbines_22 : decode cX9_bestTurbines 22 = .ok (.putfield 55, 3) := by decide +kernel
theorem dX9_bestTurbines_25 : decode cX9_bestTurbines 25 = .ok (.iconst 1, 1) := by decide +kernel
theorem dX9_bestTurbines_26 : decode cX9_bestTurbines 26 = .ok (.istore_n 1, 1) := by decide +kernel
theorem dX9_bestTurbines_27 : decode cX9_bestTurbines 27 = .ok (.iload_n 1, 1) := by decide +kernel
theorem dX9_bestTurbines_28 : decode cX9_bestTurbines 28 = .ok (.bipush 20, 2) := by decide +kernel
theorem dX9_bestTurbines_30 : decode cX9_bestTurbines 30 = .ok (.if_icmp .gt 51, 3) := by decide +kernel
theorem dX9_bestTurbines_33 : decode cX9_bestTurbines 33 = .ok (.aload_n 0, 1) := by decide +kernel
theorem dX9_bestTurbines_34 : decode cX9_bestTurbines 34 = .ok (.getfield 25, 3) := by decide +kernel
theorem dX9_bestTurbines_37 : decode cX9_bestTurbines 37 = .ok (.iload_n 1, 1) := by decide +kernel
theorem dX9_bestTurbines_38 : decode cX9_bestTurbines 38 = .ok (.laload, 1) := by decide +kernel
theorem dX9_bestTurbines_39 : decode cX9_bestTurbines 39 = .ok (.ldc2_w 62, 3) := by decide +kernel
theorem dX9_bestTurbines_42 : decode cX9_bestTurbines 42 = .ok (.lcmp, 1) := by decide +kernel
theorem dX9_bestTurbines_43 : decode cX9_bestTurbines 43 = .ok (.ifCond .ne 8, 3) := by decide +kernel
theorem dX9_bestTurbines_46 : decode cX9_bestTurbines 46 = .ok (.aload_n 0, 1) := by decide +kernel
theorem dX9_bestTurbines_47 : decode cX9_bestTurbines 47 = .ok (.iload_n 1, 1) := by decide +kernel
theorem dX9_bestTurbines_48 : decode cX9_bestTurbines 48 = .ok (.invokevirtual 169, 3) := by decide +kernel
theorem dX9_bestTurbines_51 : decode cX9_bestTurbines 51 = .ok (.aload_n 0, 1) := by decide +kernel
theorem dX9_bestTurbines_52 : decode cX9_bestTurbines 52 = .ok (.getfield 25, 3) := by decide +kernel
theorem dX9_bestTurbines_55 : decode cX9_bestTurbines 55 = .ok (.iload_n 1, 1) := by decide +kernel
theorem dX9_bestTurbines_56 : decode cX9_bestTurbines 56 = .ok (.laload, 1) := by decide +kernel
theorem dX9_bestTurbines_57 : decode cX9_bestTurbines 57 = .ok (.aload_n 0, 1) := by decide +kernel
theorem dX9_bestTurbines_58 : decode cX9_bestTurbines 58 = .ok (.getfield 25, 3) := by decide +kernel
theorem dX9_bestTurbines_61 : decode cX9_bestTurbines 61 = .ok (.aload_n 0, 1) := by decide +kernel
theorem dX9_bestTurbines_62 : decode cX9_bestTurbines 62 = .ok (.getfield 55, 3) := by decide +kernel
theorem dX9_bestTurbines_65 : decode cX9_bestTurbines 65 = .ok (.laload, 1) := by decide +kernel
theorem dX9_bestTurbines_66 : decode cX9_bestTurbines 66 = .ok (.lcmp, 1) := by decide +kernel
theorem dX9_bestTurbines_67 : decode cX9_bestTurbines 67 = .ok (.ifCond .le 8, 3) := by decide +kernel
theorem dX9_bestTurbines_70 : decode cX9_bestTurbines 70 = .ok (.aload_n 0, 1) := by decide +kernel
theorem dX9_bestTurbines_71 : decode cX9_bestTurbines 71 = .ok (.iload_n 1, 1) := by decide +kernel
theorem dX9_bestTurbines_72 : decode cX9_bestTurbines 72 = .ok (.putfield 55, 3) := by decide +kernel
theorem dX9_bestTurbines_75 : decode cX9_bestTurbines 75 = .ok (.iinc 1 1, 3) := by decide +kernel
theorem dX9_bestTurbines_78 : decode cX9_bestTurbines 78 = .ok (.goto (-51), 3) := by decide +kernel
theorem dX9_bestTurbines_81 : decode cX9_bestTurbines 81 = .ok (.aload_n 0, 1) := by decide +kernel
theorem dX9_bestTurbines_82 : decode cX9_bestTurbines 82 = .ok (.getfield 55, 3) := by decide +kernel
theorem dX9_bestTurbines_85 : decode cX9_bestTurbines 85 = .ok (.ireturn, 1) := by decide +kernel
