theorem dX11_refuse_1 : decode cX11_refuse 1 = .ok (.iload_n 1, 1) := by decide +kernel
theorem dX11_refuse_2 : decode cX11_refuse 2 = .ok (.putfield 92, 3) := by decide +kernel
theorem dX11_refuse_5 : decode cX11_refuse 5 = .ok (.iload_n 1, 1) := by decide +kernel
theorem dX11_refuse_6 : decode cX11_refuse 6 = .ok (.iconst (-1), 1) := by decide +kernel
theorem dX11_refuse_7 : decode cX11_refuse 7 = .ok (.if_icmp .ne 7, 3) := by decide +kernel
theorem dX11_refuse_10 : decode cX11_refuse 10 = .ok (.iconst 0, 1) := by decide +kernel
theorem dX11_refuse_11 : decode cX11_refuse 11 = .ok (.goto 24, 3) := by decide +kernel
theorem dX11_refuse_14 : decode cX11_refuse 14 = .ok (.iload_n 1, 1) := by decide +kernel
theorem dX11_refuse_15 : decode cX11_refuse 15 = .ok (.bipush (-2), 2) := by decide +kernel
theorem dX11_refuse_17 : decode cX11_refuse 17 = .ok (.if_icmp .ne 7, 3) := by decide +kernel
theorem dX11_refuse_20 : decode cX11_refuse 20 = .ok (.iconst 1, 1) := by decide +kernel
theorem dX11_refuse_21 : decode cX11_refuse 21 = .ok (.goto 14, 3) := by decide +kernel
theorem dX11_refuse_24 : decode cX11_refuse 24 = .ok (.iload_n 1, 1) := by decide +kernel
theorem dX11_refuse_25 : decode cX11_refuse 25 = .ok (.bipush (-5), 2) := by decide +kernel
theorem dX11_refuse_27 : decode cX11_refuse 27 = .ok (.if_icmp .ne 7, 3) := by decide +kernel
theorem dX11_refuse_30 : decode cX11_refuse 30 = .ok (.iconst 2, 1) := by decide +kernel
theorem dX11_refuse_31 : decode cX11_refuse 31 = .ok (.goto 4, 3) := by decide +kernel
theorem dX11_refuse_34 : decode cX11_refuse 34 = .ok (.iconst 3, 1) := by decide +kernel
theorem dX11_refuse_35 : decode cX11_refuse 35 = .ok (.istore_n 2, 1) := by decide +kernel
theorem dX11_refuse_36 : decode cX11_refuse 36 = .ok (.aload_n 0, 1) := by decide +kernel
theorem dX11_refuse_37 : decode cX11_refuse 37 = .ok (.getfield 88, 3) := by decide +kernel
theorem dX11_refuse_40 : decode cX11_refuse 40 = .ok (.iload_n 2, 1) := by decide +kernel
theorem dX11_refuse_41 : decode cX11_refuse 41 = .ok (.dup2, 1) := by decide +kernel
theorem dX11_refuse_42 : decode cX11_refuse 42 = .ok (.iaload, 1) := by decide +kernel
theorem dX11_refuse_43 : decode cX11_refuse 43 = .ok (.iconst 1, 1) := by decide +kernel
theorem dX11_refuse_44 : decode cX11_refuse 44 = .ok (.iadd, 1) := by decide +kernel
theorem dX11_refuse_45 : decode cX11_refuse 45 = .ok (.iastore, 1) := by decide +kernel
theorem dX11_refuse_46 : decode cX11_refuse 46 = .ok (.iload_n 1, 1) := by decide +kernel
theorem dX11_refuse_47 : decode cX11_refuse 47 = .ok (.ireturn, 1) := by decide +kernel
theorem dX11_grant_0 : decode cX11_grant 0 = .ok (.aload_n 0, 1) := by decide +kernel
theorem dX11_grant_1 : decode cX11_grant 1 = .ok (.iconst 0, 1) := by decide +kernel
theorem dX11_grant_2 : decode cX11_grant 2 = .ok (.putfield 92, 3) := by decide +kernel
theorem dX11_grant_5 : decode cX11_grant 5 = .ok (.iload_n 1, 1) := by decide +kernel
theorem dX11_grant_6 : decode cX11_grant 6 = .ok (.ireturn, 1) := by decide +kernel
theorem dX11_forgetLevels_0 : decode cX11_forgetLevels 0 = .ok (.aload_n 0, 1) := by decide +kernel
theorem dX11_forgetLevels_1 : decode cX11_forgetLevels 1 = .ok (.getfield 45, 3) := by decide +kernel
theorem dX11_forgetLevels_4 : decode cX11_forgetLevels 4 = .ok (.iconst 0, 1) := by decide +kernel
theorem dX11_forgetLevels_5 : decode cX11_forgetLevels 5 = .ok (.putfield 372, 3) := by decide +kernel
theorem dX11_forgetLevels_8 : decode cX11_forgetLevels 8 = .ok (.aload_n 0, 1) := by decide +kernel
theorem dX11_forgetLevels_9 : decode cX11_forgetLevels 9 = .ok (.invokevirtual 151, 3) := by decide +kernel
theorem dX11_forgetLevels_12 : decode cX11_forgetLevels 12 = .ok (.return_, 1) := by decide +kernel
theorem dX11_forgetFlows_0 : decode cX11_forgetFlows 0 = .ok (.aload_n 0, 1) := by decide +kernel
theorem dX11_forgetFlows_1 : decode cX11_forgetFlows 1 = .ok (.getfield 45, 3) := by decide +kernel
theorem dX11_forgetFlows_4 : decode cX11_forgetFlows 4 = .ok (.invokevirtual 375, 3) := by decide +kernel
theorem dX11_forgetFlows_7 : decode cX11_forgetFlows 7 = .ok (.aload_n 0, 1) := by decide +kernel
theorem dX11_forgetFlows_8 : decode cX11_forgetFlows 8 = .ok (.getfield 54, 3) := by decide +kernel
theorem dX11_forgetFlows_11 : decode cX11_forgetFlows 11 = .ok (.iconst 0, 1) := by decide +kernel
theorem dX11_forgetFlows_12 : decode cX11_forgetFlows 12 = .ok (.putfield 376, 3) := by decide +kernel
theorem dX11_forgetFlows_15 : decode cX11_forgetFlows 15 = .ok (.aload_n 0, 1) := by decide +kernel
theorem dX11_forgetFlows_16 : decode cX11_forgetFlows 16 = .ok (.getfield 61, 3) := by decide +kernel
theorem dX11_forgetFlows_19 : decode cX11_forgetFlows 19 = .ok (.iconst 0, 1) := by decide +kernel
theorem dX11_forgetFlows_20 : decode cX11_forgetFlows 20 = .ok (.putfield 285, 3) := by decide +kernel
theorem dX11_forgetFlows_23 : decode cX11_forgetFlows 23 = .ok (.aload_n 0, 1) := by decide +kernel
theorem dX11_forgetFlows_24 : decode cX11_forgetFlows 24 = .ok (.getfield 68, 3) := by decide +kernel
theorem dX11_forgetFlows_27 : decode cX11_forgetFlows 27 = .ok (.iconst (-1), 1) := by decide +kernel
theorem dX11_forgetFlows_28 : decode cX11_forgetFlows 28 = .ok (.putfield 326, 3) := by decide +kernel
theorem dX11_forgetFlows_31 : decode cX11_forgetFlows 31 = .ok (.aload_n 0, 1) := by decide +kernel
theorem dX11_forgetFlows_32 : decode cX11_forgetFlows 32 = .ok (.getfield 77, 3) := by decide +kernel
theorem dX11_forgetFlows_35 : decode cX11_forgetFlows 35 = .ok (.iconst 0, 1) := by decide +kernel
theorem dX11_forgetFlows_36 : decode cX11_forgetFlows 36 = .ok (.putfield 379, 3) := by decide +kernel
theorem dX11_forgetFlows_39 : decode cX11_forgetFlows 39 = .ok (.return_, 1) := by decide +kernel
theorem dX11_isBoat_0 : decode cX11_isBoat 0 = .ok (.iload_n 1, 1) := by decide +kernel
theorem dX11_isBoat_1 : decode cX11_isBoat 1 = .ok (.iconst 0, 1) := by decide +kernel
theorem dX11_isBoat_2 : decode cX11_isBoat 2 = .ok (.aload_n 0, 1) := by decide +kernel
theorem dX11_isBoat_3 : decode cX11_isBoat 3 = .ok (.getfield 10, 3) := by decide +kernel
theorem dX11_isBoat_6 : decode cX11_isBoat 6 = .ok (.getfield 229, 3) := by decide +kernel
theorem dX11_isBoat_9 : decode cX11_isBoat 9 = .ok (.iconst 1, 1) := by decide +kernel
theorem dX11_isBoat_10 : decode cX11_isBoat 10 = .ok (.isub, 1) := by decide +kernel
theorem dX11_isBoat_11 : decode cX11_isBoat 11 = .ok (.invokestatic 102, 3) := by decide +kernel
theorem dX11_isBoat_14 : decode cX11_isBoat 14 = .ok (.ireturn, 1) := by decide +kernel
theorem dX11_isMoon_0 : decode cX11_isMoon 0 = .ok (.iload_n 0, 1) := by decide +kernel
theorem dX11_isMoon_1 : decode cX11_isMoon 1 = .ok (.iconst 0, 1) := by decide +kernel
theorem dX11_isMoon_2 : decode cX11_isMoon 2 = .ok (.iconst 3, 1) := by decide +kernel
theorem dX11_isMoon_3 : decode cX11_isMoon 3 = .ok (.invokestatic 102, 3) := by decide +kernel
theorem dX11_isMoon_6 : decode cX11_isMoon 6 = .ok (.ireturn, 1) := by decide +kernel
theorem dX11_isCell_0 : decode cX11_isCell 0 = .ok (.iload_n 0, 1) := by decide +kernel
theorem dX11_isCell_1 : decode cX11_isCell 1 = .ok (.iconst 0, 1) := by decide +kernel
theorem dX11_isCell_2 : decode cX11_isCell 2 = .ok (.bipush 49, 2) := by decide +kernel
theorem dX11_isCell_4 : decode cX11_isCell 4 = .ok (.invokestatic 102, 3) := by decide +kernel
theorem dX11_isCell_7 : decode cX11_isCell 7 = .ok (.ireturn, 1) := by decide +kernel
theorem dX11_isStep_0 : decode cX11_isStep 0 = .ok (.iload_n 0, 1) := by decide +kernel
theorem dX11_isStep_1 : decode cX11_isStep 1 = .ok (.iconst 0, 1) := by decide +kernel
theorem dX11_isStep_2 : decode cX11_isStep 2 = .ok (.sipush 143, 3) := by decide +kernel
theorem dX11_isStep_5 : decode cX11_isStep 5 = .ok (.invokestatic 102, 3) := by decide +kernel
theorem dX11_isStep_8 : decode cX11_isStep 8 = .ok (.ireturn, 1) := by decide +kernel
theorem dX11_isMinute_0 : decode cX11_isMinute 0 = .ok (.iload_n 0, 1) := by decide +kernel
theorem dX11_isMinute_1 : decode cX11_isMinute 1 = .ok (.iconst 0, 1) := by decide +kernel
theorem dX11_isMinute_2 : decode cX11_isMinute 2 = .ok (.sipush 1439, 3) := by decide +kernel
theorem dX11_isMinute_5 : decode cX11_isMinute 5 = .ok (.invokestatic 102, 3) := by decide +kernel
theorem dX11_isMinute_8 : decode cX11_isMinute 8 = .ok (.ireturn, 1) := by decide +kernel
theorem dX11_isWithin_0 : decode cX11_isWithin 0 = .ok (.iload_n 0, 1) := by decide +kernel
theorem dX11_isWithin_1 : decode cX11_isWithin 1 = .ok (.iload_n 1, 1) := by decide +kernel
theorem dX11_isWithin_2 : decode cX11_isWithin 2 = .ok (.if_icmp .lt 12, 3) := by decide +kernel
theorem dX11_isWithin_5 : decode cX11_isWithin 5 = .ok (.iload_n 0, 1) := by decide +kernel
theorem dX11_isWithin_6 : decode cX11_isWithin 6 = .ok (.iload_n 2, 1) := by decide +kernel
theorem dX11_isWithin_7 : decode cX11_isWithin 7 = .ok (.if_icmp .gt 7, 3) := by decide +kernel
theorem dX11_isWithin_10 : decode cX11_isWithin 10 = .ok (.iconst 1, 1) := by decide +kernel
theorem dX11_isWithin_11 : decode cX11_isWithin 11 = .ok (.goto 4, 3) := by decide +kernel
theorem dX11_isWithin_14 : decode cX11_isWithin 14 = .ok (.iconst 0, 1) := by decide +kernel
theorem dX11_isWithin_15 : decode cX11_isWithin 15 = .ok (.ireturn, 1) := by decide +kernel
theorem dX11_nearest_0 : decode cX11_nearest 0 = .ok (.iload_n 0, 1) := by decide +kernel
theorem dX11_nearest_1 : decode cX11_nearest 1 = .ok (.iload_n 1, 1) := by decide +kernel
theorem dX11_nearest_2 : decode cX11_nearest 2 = .ok (.if_icmp .ge 7, 3) := by decide +kernel
theorem dX11_nearest_5 : decode cX11_nearest 5 = .ok (.iload_n 1, 1) := by decide +kernel
theorem dX11_nearest_6 : decode cX11_nearest 6 = .ok (.goto 13, 3) := by decide +kernel
theorem dX11_nearest_9 : decode cX11_nearest 9 = .ok (.iload_n 0, 1) := by decide +kernel
theorem dX11_nearest_10 : decode cX11_nearest 10 = .ok (.iload_n 2, 1) := by decide +kernel
theorem dX11_nearest_11 : decode cX11_nearest 11 = .ok (.if_icmp .le 7, 3) := by decide +kernel
theorem dX11_nearest_14 : decode cX11_nearest 14 = .ok (.iload_n 2, 1) := by decide +kernel
theorem dX11_nearest_15 : decode cX11_nearest 15 = .ok (.goto 4, 3) := by decide +kernel
theorem dX11_nearest_18 : decode cX11_nearest 18 = .ok (.iload_n 0, 1) := by decide +kernel
theorem dX11_nearest_19 : decode cX11_nearest 19 = .ok (.ireturn, 1) := by decide +kernel
theorem dX11_moonPlace_0 : decode cX11_moonPlace 0 = .ok (.iload_n 0, 1) := by decide +kernel
theorem dX11_moonPlace_1 : decode cX11_moonPlace 1 = .ok (.iconst 4, 1) := by decide +kernel
theorem dX11_moonPlace_2 : decode cX11_moonPlace 2 = .ok (.imul, 1) := by decide +kernel
theorem dX11_moonPlace_3 : decode cX11_moonPlace 3 = .ok (.iload_n 1, 1) := by decide +kernel
theorem dX11_moonPlace_4 : decode cX11_moonPlace 4 = .ok (.iadd, 1) := by decide +kernel
theorem dX11_moonPlace_5 : decode cX11_moonPlace 5 = .ok (.iconst 3, 1) := by decide +kernel
theorem dX11_moonPlace_6 : decode cX11_moonPlace 6 = .ok (.imul, 1) := by decide +kernel
theorem dX11_moonPlace_7 : decode cX11_moonPlace 7 = .ok (.ireturn, 1) := by decide +kernel
theorem dX11_wave_0 : decode cX11_wave 0 = .ok (.sipush 4000, 3) := by decide +kernel
theorem dX11_wave_3 : decode cX11_wave 3 = .ok (.iload_n 0, 1) := by decide +kernel
theorem dX11_wave_4 : decode cX11_wave 4 = .ok (.iload_n 1, 1) := by decide +kernel
theorem dX11_wave_5 : decode cX11_wave 5 = .ok (.iadd, 1) := by decide +kernel
theorem dX11_wave_6 : decode cX11_wave 6 = .ok (.iload_n 2, 1) := by decide +kernel
theorem dX11_wave_7 : decode cX11_wave 7 = .ok (.irem, 1) := by decide +kernel
theorem dX11_wave_8 : decode cX11_wave 8 = .ok (.imul, 1) := by decide +kernel
theorem dX11_wave_9 : decode cX11_wave 9 = .ok (.iload_n 2, 1) := by decide +kernel
theorem dX11_wave_10 : decode cX11_wave 10 = .ok (.idiv, 1) := by decide +kernel
theorem dX11_wave_11 : decode cX11_wave 11 = .ok (.istore_n 3, 1) := by decide +kernel
theorem dX11_wave_12 : decode cX11_wave 12 = .ok (.iload_n 3, 1) := by decide +kernel
theorem dX11_wave_13 : decode cX11_wave 13 = .ok (.sipush 2000, 3) := by decide +kernel
theorem dX11_wave_16 : decode cX11_wave 16 = .ok (.if_icmp .gt 17, 3) := by decide +kernel
theorem dX11_wave_19 : decode cX11_wave 19 = .ok (.iload_n 3, 1) := by decide +kernel
theorem dX11_wave_20 : decode cX11_wave 20 = .ok (.sipush 2000, 3) := by decide +kernel
theorem dX11_wave_23 : decode cX11_wave 23 = .ok (.iload_n 3, 1) := by decide +kernel
theorem dX11_wave_24 : decode cX11_wave 24 = .ok (.isub, 1) := by decide +kernel
theorem dX11_wave_25 : decode cX11_wave 25 = .ok (.imul, 1) := by decide +kernel
theorem dX11_wave_26 : decode cX11_wave 26 = .ok (.sipush 1000, 3) := by decide +kernel
theorem dX11_wave_29 : decode cX11_wave 29 = .ok (.idiv, 1) := by decide +kernel
theorem dX11_wave_30 : decode cX11_wave 30 = .ok (.goto 19, 3) := by decide +kernel
theorem dX11_wave_33 : decode cX11_wave 33 = .ok (.iload_n 3, 1) := by decide +kernel
theorem dX11_wave_34 : decode cX11_wave 34 = .ok (.sipush 2000, 3) := by decide +kernel
theorem dX11_wave_37 : decode cX11_wave 37 = .ok (.isub, 1) := by decide +kernel
theorem dX11_wave_38 : decode cX11_wave 38 = .ok (.sipush 4000, 3) := by decide +kernel
theorem dX11_wave_41 : decode cX11_wave 41 = .ok (.iload_n 3, 1) := by decide +kernel
theorem dX11_wave_42 : decode cX11_wave 42 = .ok (.isub, 1) := by decide +kernel
theorem dX11_wave_43 : decode cX11_wave 43 = .ok (.imul, 1) := by decide +kernel
theorem dX11_wave_44 : decode cX11_wave 44 = .ok (.sipush 1000, 3) := by decide +kernel
theorem dX11_wave_47 : decode cX11_wave 47 = .ok (.idiv, 1) := by decide +kernel
theorem dX11_wave_48 : decode cX11_wave 48 = .ok (.ineg, 1) := by decide +kernel
theorem dX11_wave_49 : decode cX11_wave 49 = .ok (.ireturn, 1) := by decide +kernel
