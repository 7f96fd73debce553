theorem dX8_init_0 : decode cX8_init 0 = .ok (.aload_n 0, 1) := by decide +kernel
theorem dX8_init_1 : decode cX8_init 1 = .ok (.invokespecial 3, 3) := by decide +kernel
theorem dX8_init_4 : decode cX8_init 4 = .ok (.aload_n 0, 1) := by decide +kernel
theorem dX8_init_5 : decode cX8_init 5 = .ok (.new 9, 3) := by decide +kernel
theorem dX8_init_8 : decode cX8_init 8 = .ok (.dup, 1) := by decide +kernel
theorem dX8_init_9 : decode cX8_init 9 = .ok (.invokespecial 11, 3) := by decide +kernel
theorem dX8_init_12 : decode cX8_init 12 = .ok (.putfield 12, 3) := by decide +kernel
theorem dX8_init_15 : decode cX8_init 15 = .ok (.aload_n 0, 1) := by decide +kernel
theorem dX8_init_16 : decode cX8_init 16 = .ok (.new 16, 3) := by decide +kernel
theorem dX8_init_19 : decode cX8_init 19 = .ok (.dup, 1) := by decide +kernel
theorem dX8_init_20 : decode cX8_init 20 = .ok (.invokespecial 18, 3) := by decide +kernel
theorem dX8_init_23 : decode cX8_init 23 = .ok (.putfield 19, 3) := by decide +kernel
theorem dX8_init_26 : decode cX8_init 26 = .ok (.aload_n 0, 1) := by decide +kernel
theorem dX8_init_27 : decode cX8_init 27 = .ok (.new 23, 3) := by decide +kernel
theorem dX8_init_30 : decode cX8_init 30 = .ok (.dup, 1) := by decide +kernel
theorem dX8_init_31 : decode cX8_init 31 = .ok (.invokespecial 25, 3) := by decide +kernel
theorem dX8_init_34 : decode cX8_init 34 = .ok (.putfield 26, 3) := by decide +kernel
theorem dX8_init_37 : decode cX8_init 37 = .ok (.aload_n 0, 1) := by decide +kernel
theorem dX8_init_38 : decode cX8_init 38 = .ok (.new 30, 3) := by decide +kernel
theorem dX8_init_41 : decode cX8_init 41 = .ok (.dup, 1) := by decide +kernel
theorem dX8_init_42 : decode cX8_init 42 = .ok (.invokespecial 32, 3) := by decide +kernel
theorem dX8_init_45 : decode cX8_init 45 = .ok (.putfield 33, 3) := by decide +kernel
theorem dX8_init_48 : decode cX8_init 48 = .ok (.aload_n 0, 1) := by decide +kernel
theorem dX8_init_49 : decode cX8_init 49 = .ok (.new 37, 3) := by decide +kernel
theorem dX8_init_52 : decode cX8_init 52 = .ok (.dup, 1) := by decide +kernel
theorem dX8_init_53 : decode cX8_init 53 = .ok (.invokespecial 39, 3) := by decide +kernel
theorem dX8_init_56 : decode cX8_init 56 = .ok (.putfield 40, 3) := by decide +kernel
theorem dX8_init_59 : decode cX8_init 59 = .ok (.aload_n 0, 1) := by decide +kernel
theorem dX8_init_60 : decode cX8_init 60 = .ok (.iconst 3, 1) := by decide +kernel
theorem dX8_init_61 : decode cX8_init 61 = .ok (.anewarray 37, 3) := by decide +kernel
theorem dX8_init_64 : decode cX8_init 64 = .ok (.putfield 44, 3) := by decide +kernel
theorem dX8_init_67 : decode cX8_init 67 = .ok (.iconst 0, 1) := by decide +kernel
theorem dX8_init_68 : decode cX8_init 68 = .ok (.istore_n 1, 1) := by decide +kernel
theorem dX8_init_69 : decode cX8_init 69 = .ok (.iload_n 1, 1) := by decide +kernel
theorem dX8_init_70 : decode cX8_init 70 = .ok (.iconst 3, 1) := by decide +kernel
theorem dX8_init_71 : decode cX8_init 71 = .ok (.if_icmp .ge 22, 3) := by decide +kernel
theorem dX8_init_74 : decode cX8_init 74 = .ok (.aload_n 0, 1) := by decide +kernel
theorem dX8_init_75 : decode cX8_init 75 = .ok (.getfield 44, 3) := by decide +kernel
theorem dX8_init_78 : decode cX8_init 78 = .ok (.iload_n 1, 1) := by decide +kernel
theorem dX8_init_79 : decode cX8_init 79 = .ok (.new 37, 3) := by decide +kernel
theorem dX8_init_82 : decode cX8_init 82 = .ok (.dup, 1) := by decide +kernel
theorem dX8_init_83 : decode cX8_init 83 = .ok (.invokespecial 39, 3) := by decide +kernel
theorem dX8_init_86 : decode cX8_init 86 = .ok (.aastore, 1) := by decide +kernel
theorem dX8_init_87 : decode cX8_init 87 = .ok (.iinc 1 1, 3) := by decide +kernel
theorem dX8_init_90 : decode cX8_init 90 = .ok (.goto (-21), 3) := by decide +kernel
theorem dX8_init_93 : decode cX8_init 93 = .ok (.aload_n 0, 1) := by decide +kernel
theorem dX8_init_94 : decode cX8_init 94 = .ok (.new 48, 3) := by decide +kernel
theorem dX8_init_97 : decode cX8_init 97 = .ok (.dup, 1) := by decide +kernel
theorem dX8_init_98 : decode cX8_init 98 = .ok (.invokespecial 50, 3) := by decide +kernel
theorem dX8_init_101 : decode cX8_init 101 = .ok (.putfield 51, 3) := by decide +kernel
theorem dX8_init_104 : decode cX8_init 104 = .ok (.aload_n 0, 1) := by decide +kernel
theorem dX8_init_105 : decode cX8_init 105 = .ok (.bipush 8, 2) := by decide +kernel
theorem dX8_init_107 : decode cX8_init 107 = .ok (.anewarray 55, 3) := by decide +kernel
theorem dX8_init_110 : decode cX8_init 110 = .ok (.putfield 57, 3) := by decide +kernel
theorem dX8_init_113 : decode cX8_init 113 = .ok (.iconst 0, 1) := by decide +kernel
theorem dX8_init_114 : decode cX8_init 114 = .ok (.istore_n 1, 1) := by decide +kernel
theorem dX8_init_115 : decode cX8_init 115 = .ok (.iload_n 1, 1) := by decide +kernel
theorem dX8_init_116 : decode cX8_init 116 = .ok (.bipush 8, 2) := by decide +kernel
theorem dX8_init_118 : decode cX8_init 118 = .ok (.if_icmp .ge 22, 3) := by decide +kernel
theorem dX8_init_121 : decode cX8_init 121 = .ok (.aload_n 0, 1) := by decide +kernel
theorem dX8_init_122 : decode cX8_init 122 = .ok (.getfield 57, 3) := by decide +kernel
theorem dX8_init_125 : decode cX8_init 125 = .ok (.iload_n 1, 1) := by decide +kernel
theorem dX8_init_126 : decode cX8_init 126 = .ok (.new 55, 3) := by decide +kernel
theorem dX8_init_129 : decode cX8_init 129 = .ok (.dup, 1) := by decide +kernel
theorem dX8_init_130 : decode cX8_init 130 = .ok (.invokespecial 61, 3) := by decide +kernel
theorem dX8_init_133 : decode cX8_init 133 = .ok (.aastore, 1) := by decide +kernel
theorem dX8_init_134 : decode cX8_init 134 = .ok (.iinc 1 1, 3) := by decide +kernel
theorem dX8_init_137 : decode cX8_init 137 = .ok (.goto (-22), 3) := by decide +kernel
theorem dX8_init_140 : decode cX8_init 140 = .ok (.aload_n 0, 1) := by decide +kernel
theorem dX8_init_141 : decode cX8_init 141 = .ok (.iconst 4, 1) := by decide +kernel
theorem dX8_init_142 : decode cX8_init 142 = .ok (.newarray .int, 2) := by decide +kernel
theorem dX8_init_144 : decode cX8_init 144 = .ok (.putfield 62, 3) := by decide +kernel
theorem dX8_init_147 : decode cX8_init 147 = .ok (.return_, 1) := by decide +kernel
theorem dX8_shore_0 : decode cX8_shore 0 = .ok (.iload_n 1, 1) := by decide +kernel
theorem dX8_shore_1 : decode cX8_shore 1 = .ok (.invokestatic 66, 3) := by decide +kernel
theorem dX8_shore_4 : decode cX8_shore 4 = .ok (.ifCond .eq 20, 3) := by decide +kernel
theorem dX8_shore_7 : decode cX8_shore 7 = .ok (.iload_n 2, 1) := by decide +kernel
theorem dX8_shore_8 : decode cX8_shore 8 = .ok (.iconst 0, 1) := by decide +kernel
theorem dX8_shore_9 : decode cX8_shore 9 = .ok (.bipush 9, 2) := by decide +kernel
theorem dX8_shore_11 : decode cX8_shore 11 = .ok (.invokestatic 70, 3) := by decide +kernel
theorem dX8_shore_14 : decode cX8_shore 14 = .ok (.ifCond .eq 10, 3) := by decide +kernel
theorem dX8_shore_17 : decode cX8_shore 17 = .ok (.aload_n 0, 1) := by decide +kernel
theorem dX8_shore_18 : decode cX8_shore 18 = .ok (.getfield 74, 3) := by decide +kernel
theorem dX8_shore_21 : decode cX8_shore 21 = .ok (.ifCond .eq 5, 3) := by decide +kernel
theorem dX8_shore_24 : decode cX8_shore 24 = .ok (.iconst 0, 1) := by decide +kernel
theorem dX8_shore_25 : decode cX8_shore 25 = .ok (.ireturn, 1) := by decide +kernel
theorem dX8_shore_26 : decode cX8_shore 26 = .ok (.aload_n 0, 1) := by decide +kernel
theorem dX8_shore_27 : decode cX8_shore 27 = .ok (.getfield 40, 3) := by decide +kernel
theorem dX8_shore_30 : decode cX8_shore 30 = .ok (.getfield 78, 3) := by decide +kernel
theorem dX8_shore_33 : decode cX8_shore 33 = .ok (.iload_n 1, 1) := by decide +kernel
theorem dX8_shore_34 : decode cX8_shore 34 = .ok (.iaload, 1) := by decide +kernel
theorem dX8_shore_35 : decode cX8_shore 35 = .ok (.ifCond .gt 33, 3) := by decide +kernel
theorem dX8_shore_38 : decode cX8_shore 38 = .ok (.aload_n 0, 1) := by decide +kernel
theorem dX8_shore_39 : decode cX8_shore 39 = .ok (.getfield 33, 3) := by decide +kernel
theorem dX8_shore_42 : decode cX8_shore 42 = .ok (.iload_n 1, 1) := by decide +kernel
theorem dX8_shore_43 : decode cX8_shore 43 = .ok (.invokevirtual 81, 3) := by decide +kernel
theorem dX8_shore_46 : decode cX8_shore 46 = .ok (.ifCond .ne 22, 3) := by decide +kernel
theorem dX8_shore_49 : decode cX8_shore 49 = .ok (.aload_n 0, 1) := by decide +kernel
theorem dX8_shore_50 : decode cX8_shore 50 = .ok (.getfield 19, 3) := by decide +kernel
theorem dX8_shore_53 : decode cX8_shore 53 = .ok (.iload_n 1, 1) := by decide +kernel
theorem dX8_shore_54 : decode cX8_shore 54 = .ok (.invokevirtual 84, 3) := by decide +kernel
theorem dX8_shore_57 : decode cX8_shore 57 = .ok (.ifCond .ne 11, 3) := by decide +kernel
theorem dX8_shore_60 : decode cX8_shore 60 = .ok (.aload_n 0, 1) := by decide +kernel
theorem dX8_shore_61 : decode cX8_shore 61 = .ok (.iload_n 1, 1) := by decide +kernel
theorem dX8_shore_62 : decode cX8_shore 62 = .ok (.invokevirtual 87, 3) := by decide +kernel
theorem dX8_shore_65 : decode cX8_shore 65 = .ok (.ifCond .eq 5, 3) := by decide +kernel
theorem dX8_shore_68 : decode cX8_shore 68 = .ok (.iconst 0, 1) := by decide +kernel
theorem dX8_shore_69 : decode cX8_shore 69 = .ok (.ireturn, 1) := by decide +kernel
theorem dX8_shore_70 : decode cX8_shore 70 = .ok (.aload_n 0, 1) := by decide +kernel
theorem dX8_shore_71 : decode cX8_shore 71 = .ok (.getfield 12, 3) := by decide +kernel
theorem dX8_shore_74 : decode cX8_shore 74 = .ok (.getfield 90, 3) := by decide +kernel
theorem dX8_shore_77 : decode cX8_shore 77 = .ok (.iload_n 1, 1) := by decide +kernel
theorem dX8_shore_78 : decode cX8_shore 78 = .ok (.iload_n 2, 1) := by decide +kernel
theorem dX8_shore_79 : decode cX8_shore 79 = .ok (.iastore, 1) := by decide +kernel
theorem dX8_shore_80 : decode cX8_shore 80 = .ok (.iconst 1, 1) := by decide +kernel
theorem dX8_shore_81 : decode cX8_shore 81 = .ok (.ireturn, 1) := by decide +kernel
theorem dX8_weather_0 : decode cX8_weather 0 = .ok (.iload_n 1, 1) := by decide +kernel
theorem dX8_weather_1 : decode cX8_weather 1 = .ok (.iconst 0, 1) := by decide +kernel
theorem dX8_weather_2 : decode cX8_weather 2 = .ok (.iconst 2, 1) := by decide +kernel
theorem dX8_weather_3 : decode cX8_weather 3 = .ok (.invokestatic 70, 3) := by decide +kernel
theorem dX8_weather_6 : decode cX8_weather 6 = .ok (.ifCond .eq 37, 3) := by decide +kernel
theorem dX8_weather_9 : decode cX8_weather 9 = .ok (.iload_n 2, 1) := by decide +kernel
theorem dX8_weather_10 : decode cX8_weather 10 = .ok (.aload_n 0, 1) := by decide +kernel
theorem dX8_weather_11 : decode cX8_weather 11 = .ok (.getfield 74, 3) := by decide +kernel
theorem dX8_weather_14 : decode cX8_weather 14 = .ok (.sipush 500, 3) := by decide +kernel
theorem dX8_weather_17 : decode cX8_weather 17 = .ok (.invokestatic 70, 3) := by decide +kernel
theorem dX8_weather_20 : decode cX8_weather 20 = .ok (.ifCond .eq 23, 3) := by decide +kernel
theorem dX8_weather_23 : decode cX8_weather 23 = .ok (.iload_n 3, 1) := by decide +kernel
theorem dX8_weather_24 : decode cX8_weather 24 = .ok (.iconst 0, 1) := by decide +kernel
theorem dX8_weather_25 : decode cX8_weather 25 = .ok (.iconst 4, 1) := by decide +kernel
theorem dX8_weather_26 : decode cX8_weather 26 = .ok (.invokestatic 70, 3) := by decide +kernel
theorem dX8_weather_29 : decode cX8_weather 29 = .ok (.ifCond .eq 14, 3) := by decide +kernel
theorem dX8_weather_32 : decode cX8_weather 32 = .ok (.iload 4, 2) := by decide +kernel
theorem dX8_weather_34 : decode cX8_weather 34 = .ok (.iconst 0, 1) := by decide +kernel
theorem dX8_weather_35 : decode cX8_weather 35 = .ok (.bipush 9, 2) := by decide +kernel
theorem dX8_weather_37 : decode cX8_weather 37 = .ok (.invokestatic 70, 3) := by decide +kernel
theorem dX8_weather_40 : decode cX8_weather 40 = .ok (.ifCond .ne 5, 3) := by decide +kernel
theorem dX8_weather_43 : decode cX8_weather 43 = .ok (.iconst 0, 1) := by decide +kernel
theorem dX8_weather_44 : decode cX8_weather 44 = .ok (.ireturn, 1) := by decide +kernel
theorem dX8_weather_45 : decode cX8_weather 45 = .ok (.aload_n 0, 1) := by decide +kernel
theorem dX8_weather_46 : decode cX8_weather 46 = .ok (.getfield 26, 3) := by decide +kernel
theorem dX8_weather_49 : decode cX8_weather 49 = .ok (.iload_n 1, 1) := by decide +kernel
theorem dX8_weather_50 : decode cX8_weather 50 = .ok (.iload_n 2, 1) := by decide +kernel
theorem dX8_weather_51 : decode cX8_weather 51 = .ok (.iload_n 3, 1) := by decide +kernel
theorem dX8_weather_52 : decode cX8_weather 52 = .ok (.iload 4, 2) := by decide +kernel
theorem dX8_weather_54 : decode cX8_weather 54 = .ok (.invokevirtual 93, 3) := by decide +kernel
theorem dX8_weather_57 : decode cX8_weather 57 = .ok (.iconst 1, 1) := by decide +kernel
theorem dX8_weather_58 : decode cX8_weather 58 = .ok (.ireturn, 1) := by decide +kernel
theorem dX8_boom_0 : decode cX8_boom 0 = .ok (.aload_n 0, 1) := by decide +kernel
theorem dX8_boom_1 : decode cX8_boom 1 = .ok (.getfield 12, 3) := by decide +kernel
theorem dX8_boom_4 : decode cX8_boom 4 = .ok (.iload_n 1, 1) := by decide +kernel
theorem dX8_boom_5 : decode cX8_boom 5 = .ok (.invokevirtual 97, 3) := by decide +kernel
theorem dX8_boom_8 : decode cX8_boom 8 = .ok (.ifCond .eq 24, 3) := by decide +kernel
theorem dX8_boom_11 : decode cX8_boom 11 = .ok (.aload_n 0, 1) := by decide +kernel
theorem dX8_boom_12 : decode cX8_boom 12 = .ok (.getfield 12, 3) := by decide +kernel
theorem dX8_boom_15 : decode cX8_boom 15 = .ok (.iload_n 2, 1) := by decide +kernel
theorem dX8_boom_16 : decode cX8_boom 16 = .ok (.invokevirtual 97, 3) := by decide +kernel
theorem dX8_boom_19 : decode cX8_boom 19 = .ok (.ifCond .eq 13, 3) := by decide +kernel
theorem dX8_boom_22 : decode cX8_boom 22 = .ok (.iload_n 3, 1) := by decide +kernel
theorem dX8_boom_23 : decode cX8_boom 23 = .ok (.iconst 0, 1) := by decide +kernel
theorem dX8_boom_24 : decode cX8_boom 24 = .ok (.bipush 9, 2) := by decide +kernel
theorem dX8_boom_26 : decode cX8_boom 26 = .ok (.invokestatic 70, 3) := by decide +kernel
theorem dX8_boom_29 : decode cX8_boom 29 = .ok (.ifCond .ne 5, 3) := by decide +kernel
theorem dX8_boom_32 : decode cX8_boom 32 = .ok (.iconst (-1), 1) := by decide +kernel
theorem dX8_boom_33 : decode cX8_boom 33 = .ok (.ireturn, 1) := by decide +kernel
theorem dX8_boom_34 : decode cX8_boom 34 = .ok (.iload_n 1, 1) := by decide +kernel
theorem dX8_boom_35 : decode cX8_boom 35 = .ok (.iload_n 2, 1) := by decide +kernel
theorem dX8_boom_36 : decode cX8_boom 36 = .ok (.invokestatic 100, 3) := by decide +kernel
theorem dX8_boom_39 : decode cX8_boom 39 = .ok (.istore 4, 2) := by decide +kernel
theorem dX8_boom_41 : decode cX8_boom 41 = .ok (.iload 4, 2) := by decide +kernel
theorem dX8_boom_43 : decode cX8_boom 43 = .ok (.ifCond .ne 7, 3) := by decide +kernel
theorem dX8_boom_46 : decode cX8_boom 46 = .ok (.iconst (-1), 1) := by decide +kernel
theorem dX8_boom_47 : decode cX8_boom 47 = .ok (.goto 14, 3) := by decide +kernel
theorem dX8_boom_50 : decode cX8_boom 50 = .ok (.aload_n 0, 1) := by decide +kernel
theorem dX8_boom_51 : decode cX8_boom 51 = .ok (.getfield 19, 3) := by decide +kernel
theorem dX8_boom_54 : decode cX8_boom 54 = .ok (.iload_n 1, 1) := by decide +kernel
theorem dX8_boom_55 : decode cX8_boom 55 = .ok (.iload 4, 2) := by decide +kernel
theorem dX8_boom_57 : decode cX8_boom 57 = .ok (.iload_n 3, 1) := by decide +kernel
theorem dX8_boom_58 : decode cX8_boom 58 = .ok (.invokevirtual 104, 3) := by decide +kernel
theorem dX8_boom_61 : decode cX8_boom 61 = .ok (.ireturn, 1) := by decide +kernel
theorem dX8_lift_0 : decode cX8_lift 0 = .ok (.aload_n 0, 1) := by decide +kernel
theorem dX8_lift_1 : decode cX8_lift 1 = .ok (.getfield 19, 3) := by decide +kernel
theorem dX8_lift_4 : decode cX8_lift 4 = .ok (.iload_n 1, 1) := by decide +kernel
theorem dX8_lift_5 : decode cX8_lift 5 = .ok (.invokevirtual 108, 3) := by decide +kernel
theorem dX8_lift_8 : decode cX8_lift 8 = .ok (.ireturn, 1) := by decide +kernel
theorem dX8_spill_0 : decode cX8_spill 0 = .ok (.aload_n 0, 1) := by decide +kernel
theorem dX8_spill_1 : decode cX8_spill 1 = .ok (.getfield 12, 3) := by decide +kernel
theorem dX8_spill_4 : decode cX8_spill 4 = .ok (.iload_n 1, 1) := by decide +kernel
theorem dX8_spill_5 : decode cX8_spill 5 = .ok (.invokevirtual 97, 3) := by decide +kernel
theorem dX8_spill_8 : decode cX8_spill 8 = .ok (.ifCond .eq 24, 3) := by decide +kernel
theorem dX8_spill_11 : decode cX8_spill 11 = .ok (.iload_n 2, 1) := by decide +kernel
theorem dX8_spill_12 : decode cX8_spill 12 = .ok (.iconst 1, 1) := by decide +kernel
theorem dX8_spill_13 : decode cX8_spill 13 = .ok (.ldc 111, 2) := by decide +kernel
theorem dX8_spill_15 : decode cX8_spill 15 = .ok (.invokestatic 70, 3) := by decide +kernel
theorem dX8_spill_18 : decode cX8_spill 18 = .ok (.ifCond .eq 14, 3) := by decide +kernel
theorem dX8_spill_21 : decode cX8_spill 21 = .ok (.aload_n 0, 1) := by decide +kernel
theorem dX8_spill_22 : decode cX8_spill 22 = .ok (.getfield 112, 3) := by decide +kernel
theorem dX8_spill_25 : decode cX8_spill 25 = .ok (.iload_n 2, 1) := by decide +kernel
theorem dX8_spill_26 : decode cX8_spill 26 = .ok (.iadd, 1) := by decide +kernel
theorem dX8_spill_27 : decode cX8_spill 27 = .ok (.ldc 115, 2) := by decide +kernel
theorem dX8_spill_29 : decode cX8_spill 29 = .ok (.if_icmp .le 5, 3) := by decide +kernel
theorem dX8_spill_32 : decode cX8_spill 32 = .ok (.iconst (-1), 1) := by decide +kernel
theorem dX8_spill_33 : decode cX8_spill 33 = .ok (.ireturn, 1) := by decide +kernel
theorem dX8_spill_34 : decode cX8_spill 34 = .ok (.aload_n 0, 1) := by decide +kernel
theorem dX8_spill_35 : decode cX8_spill 35 = .ok (.getfield 112, 3) := by decide +kernel
theorem dX8_spill_38 : decode cX8_spill 38 = .ok (.ifCond .ne 11, 3) := by decide +kernel
theorem dX8_spill_41 : decode cX8_spill 41 = .ok (.aload_n 0, 1) := by decide +kernel
theorem dX8_spill_42 : decode cX8_spill 42 = .ok (.aload_n 0, 1) := by decide +kernel
theorem dX8_spill_43 : decode cX8_spill 43 = .ok (.getfield 74, 3) := by decide +kernel
theorem dX8_spill_46 : decode cX8_spill 46 = .ok (.putfield 116, 3) := by decide +kernel
theorem dX8_spill_49 : decode cX8_spill 49 = .ok (.aload_n 0, 1) := by decide +kernel
theorem dX8_spill_50 : decode cX8_spill 50 = .ok (.dup, 1) := by decide +kernel
theorem dX8_spill_51 : decode cX8_spill 51 = .ok (.getfield 112, 3) := by decide +kernel
theorem dX8_spill_54 : decode cX8_spill 54 = .ok (.iload_n 2, 1) := by decide +kernel
theorem dX8_spill_55 : decode cX8_spill 55 = .ok (.iadd, 1) := by decide +kernel
theorem dX8_spill_56 : decode cX8_spill 56 = .ok (.putfield 112, 3) := by decide +kernel
theorem dX8_spill_59 : decode cX8_spill 59 = .ok (.aload_n 0, 1) := by decide +kernel
theorem dX8_spill_60 : decode cX8_spill 60 = .ok (.getfield 40, 3) := by decide +kernel
theorem dX8_spill_63 : decode cX8_spill 63 = .ok (.getfield 78, 3) := by decide +kernel
theorem dX8_spill_66 : decode cX8_spill 66 = .ok (.iload_n 1, 1) := by decide +kernel
theorem dX8_spill_67 : decode cX8_spill 67 = .ok (.dup2, 1) := by decide +kernel
theorem dX8_spill_68 : decode cX8_spill 68 = .ok (.iaload, 1) := by decide +kernel
theorem dX8_spill_69 : decode cX8_spill 69 = .ok (.iload_n 2, 1) := by decide +kernel
theorem dX8_spill_70 : decode cX8_spill 70 = .ok (.iadd, 1) := by decide +kernel
theorem dX8_spill_71 : decode cX8_spill 71 = .ok (.iastore, 1) := by decide +kernel
theorem dX8_spill_72 : decode cX8_spill 72 = .ok (.aload_n 0, 1) := by decide +kernel
theorem dX8_spill_73 : decode cX8_spill 73 = .ok (.getfield 40, 3) := by decide +kernel
theorem dX8_spill_76 : decode cX8_spill 76 = .ok (.getfield 78, 3) := by decide +kernel
theorem dX8_spill_79 : decode cX8_spill 79 = .ok (.iload_n 1, 1) := by decide +kernel
theorem dX8_spill_80 : decode cX8_spill 80 = .ok (.iaload, 1) := by decide +kernel
theorem dX8_spill_81 : decode cX8_spill 81 = .ok (.ireturn, 1) := by decide +kernel
theorem dX8_skimmer_0 : decode cX8_skimmer 0 = .ok (.aload_n 0, 1) := by decide +kernel
theorem dX8_skimmer_1 : decode cX8_skimmer 1 = .ok (.getfield 12, 3) := by decide +kernel
theorem dX8_skimmer_4 : decode cX8_skimmer 4 = .ok (.iload_n 1, 1) := by decide +kernel
theorem dX8_skimmer_5 : decode cX8_skimmer 5 = .ok (.invokevirtual 97, 3) := by decide +kernel
theorem dX8_skimmer_8 : decode cX8_skimmer 8 = .ok (.ifCond .eq 34, 3) := by decide +kernel
theorem dX8_skimmer_11 : decode cX8_skimmer 11 = .ok (.iload_n 2, 1) := by decide +kernel
theorem dX8_skimmer_12 : decode cX8_skimmer 12 = .ok (.iconst 1, 1) := by decide +kernel
theorem dX8_skimmer_13 : decode cX8_skimmer 13 = .ok (.sipush 5000, 3) := by decide +kernel
theorem dX8_skimmer_16 : decode cX8_skimmer 16 = .ok (.invokestatic 70, 3) := by decide +kernel
theorem dX8_skimmer_19 : decode cX8_skimmer 19 = .ok (.ifCond .eq 23, 3) := by decide +kernel
theorem dX8_skimmer_22 : decode cX8_skimmer 22 = .ok (.iload_n 3, 1) := by decide +kernel
theorem dX8_skimmer_23 : decode cX8_skimmer 23 = .ok (.iconst 0, 1) := by decide +kernel
theorem dX8_skimmer_24 : decode cX8_skimmer 24 = .ok (.ldc 111, 2) := by decide +kernel
theorem dX8_skimmer_26 : decode cX8_skimmer 26 = .ok (.invokestatic 70, 3) := by decide +kernel
theorem dX8_skimmer_29 : decode cX8_skimmer 29 = .ok (.ifCond .eq 13, 3) := by decide +kernel
theorem dX8_skimmer_32 : decode cX8_skimmer 32 = .ok (.iload 4, 2) := by decide +kernel
theorem dX8_skimmer_34 : decode cX8_skimmer 34 = .ok (.iconst 1, 1) := by decide +kernel
theorem dX8_skimmer_35 : decode cX8_skimmer 35 = .ok (.iconst 3, 1) := by decide +kernel
theorem dX8_skimmer_36 : decode cX8_skimmer 36 = .ok (.invokestatic 70, 3) := by decide +kernel
theorem dX8_skimmer_39 : decode cX8_skimmer 39 = .ok (.ifCond .ne 5, 3) := by decide +kernel
theorem dX8_skimmer_42 : decode cX8_skimmer 42 = .ok (.iconst (-1), 1) := by decide +kernel
theorem dX8_skimmer_43 : decode cX8_skimmer 43 = .ok (.ireturn, 1) := by decide +kernel
theorem dX8_skimmer_44 : decode cX8_skimmer 44 = .ok (.aload_n 0, 1) := by decide +kernel
theorem dX8_skimmer_45 : decode cX8_skimmer 45 = .ok (.getfield 33, 3) := by decide +kernel
theorem dX8_skimmer_48 : decode cX8_skimmer 48 = .ok (.iload_n 1, 1) := by decide +kernel
theorem dX8_skimmer_49 : decode cX8_skimmer 49 = .ok (.iload_n 2, 1) := by decide +kernel
theorem dX8_skimmer_50 : decode cX8_skimmer 50 = .ok (.iload_n 3, 1) := by decide +kernel
theorem dX8_skimmer_51 : decode cX8_skimmer 51 = .ok (.iload 4, 2) := by decide +kernel
theorem dX8_skimmer_53 : decode cX8_skimmer 53 = .ok (.invokevirtual 119, 3) := by decide +kernel
theorem dX8_skimmer_56 : decode cX8_skimmer 56 = .ok (.ireturn, 1) := by decide +kernel
theorem dX8_sail_0 : decode cX8_sail 0 = .ok (.aload_n 0, 1) := by decide +kernel
theorem dX8_sail_1 : decode cX8_sail 1 = .ok (.getfield 33, 3) := by decide +kernel
theorem dX8_sail_4 : decode cX8_sail 4 = .ok (.iload_n 1, 1) := by decide +kernel
theorem dX8_sail_5 : decode cX8_sail 5 = .ok (.invokevirtual 123, 3) := by decide +kernel
theorem dX8_sail_8 : decode cX8_sail 8 = .ok (.ifCond .ne 5, 3) := by decide +kernel
theorem dX8_sail_11 : decode cX8_sail 11 = .ok (.iconst 0, 1) := by decide +kernel
theorem dX8_sail_12 : decode cX8_sail 12 = .ok (.ireturn, 1) := by decide +kernel
theorem dX8_sail_13 : decode cX8_sail 13 = .ok (.aload_n 0, 1) := by decide +kernel
theorem dX8_sail_14 : decode cX8_sail 14 = .ok (.getfield 33, 3) := by decide +kernel
theorem dX8_sail_17 : decode cX8_sail 17 = .ok (.getfield 126, 3) := by decide +kernel
theorem dX8_sail_20 : decode cX8_sail 20 = .ok (.iload_n 1, 1) := by decide +kernel
theorem dX8_sail_21 : decode cX8_sail 21 = .ok (.aaload, 1) := by decide +kernel
theorem dX8_sail_22 : decode cX8_sail 22 = .ok (.astore_n 3, 1) := by decide +kernel
theorem dX8_sail_23 : decode cX8_sail 23 = .ok (.aload_n 3, 1) := by decide +kernel
theorem dX8_sail_24 : decode cX8_sail 24 = .ok (.getfield 130, 3) := by decide +kernel
theorem dX8_sail_27 : decode cX8_sail 27 = .ok (.ifCond .ne 22, 3) := by decide +kernel
theorem dX8_sail_30 : decode cX8_sail 30 = .ok (.aload_n 0, 1) := by decide +kernel
theorem dX8_sail_31 : decode cX8_sail 31 = .ok (.getfield 12, 3) := by decide +kernel
theorem dX8_sail_34 : decode cX8_sail 34 = .ok (.aload_n 3, 1) := by decide +kernel
theorem dX8_sail_35 : decode cX8_sail 35 = .ok (.getfield 136, 3) := by decide +kernel
theorem dX8_sail_38 : decode cX8_sail 38 = .ok (.iload_n 2, 1) := by decide +kernel
theorem dX8_sail_39 : decode cX8_sail 39 = .ok (.aload_n 3, 1) := by decide +kernel
theorem dX8_sail_40 : decode cX8_sail 40 = .ok (.getfield 139, 3) := by decide +kernel
theorem dX8_sail_43 : decode cX8_sail 43 = .ok (.invokestatic 142, 3) := by decide +kernel
theorem dX8_sail_46 : decode cX8_sail 46 = .ok (.ifCond .ne 5, 3) := by decide +kernel
theorem dX8_sail_49 : decode cX8_sail 49 = .ok (.iconst 0, 1) := by decide +kernel
theorem dX8_sail_50 : decode cX8_sail 50 = .ok (.ireturn, 1) := by decide +kernel
theorem dX8_sail_51 : decode cX8_sail 51 = .ok (.aload_n 3, 1) := by decide +kernel
theorem dX8_sail_52 : decode cX8_sail 52 = .ok (.iload_n 2, 1) := by decide +kernel
theorem dX8_sail_53 : decode cX8_sail 53 = .ok (.putfield 136, 3) := by decide +kernel
theorem dX8_sail_56 : decode cX8_sail 56 = .ok (.aload_n 3, 1) := by decide +kernel
theorem dX8_sail_57 : decode cX8_sail 57 = .ok (.iconst 1, 1) := by decide +kernel
theorem dX8_sail_58 : decode cX8_sail 58 = .ok (.putfield 130, 3) := by decide +kernel
theorem dX8_sail_61 : decode cX8_sail 61 = .ok (.iconst 1, 1) := by decide +kernel
theorem dX8_sail_62 : decode cX8_sail 62 = .ok (.ireturn, 1) := by decide +kernel
theorem dX8_empty_0 : decode cX8_empty 0 = .ok (.aload_n 0, 1) := by decide +kernel
theorem dX8_empty_1 : decode cX8_empty 1 = .ok (.getfield 33, 3) := by decide +kernel
theorem dX8_empty_4 : decode cX8_empty 4 = .ok (.iload_n 1, 1) := by decide +kernel
theorem dX8_empty_5 : decode cX8_empty 5 = .ok (.invokevirtual 123, 3) := by decide +kernel
theorem dX8_empty_8 : decode cX8_empty 8 = .ok (.ifCond .ne 5, 3) := by decide +kernel
theorem dX8_empty_11 : decode cX8_empty 11 = .ok (.iconst (-1), 1) := by decide +kernel
theorem dX8_empty_12 : decode cX8_empty 12 = .ok (.ireturn, 1) := by decide +kernel
theorem dX8_empty_13 : decode cX8_empty 13 = .ok (.aload_n 0, 1) := by decide +kernel
theorem dX8_empty_14 : decode cX8_empty 14 = .ok (.getfield 40, 3) := by decide +kernel
theorem dX8_empty_17 : decode cX8_empty 17 = .ok (.getfield 146, 3) := by decide +kernel
theorem dX8_empty_20 : decode cX8_empty 20 = .ok (.iload_n 1, 1) := by decide +kernel
theorem dX8_empty_21 : decode cX8_empty 21 = .ok (.iaload, 1) := by decide +kernel
theorem dX8_empty_22 : decode cX8_empty 22 = .ok (.istore_n 2, 1) := by decide +kernel
theorem dX8_empty_23 : decode cX8_empty 23 = .ok (.aload_n 0, 1) := by decide +kernel
theorem dX8_empty_24 : decode cX8_empty 24 = .ok (.getfield 33, 3) := by decide +kernel
theorem dX8_empty_27 : decode cX8_empty 27 = .ok (.getfield 126, 3) := by decide +kernel
theorem dX8_empty_30 : decode cX8_empty 30 = .ok (.iload_n 1, 1) := by decide +kernel
theorem dX8_empty_31 : decode cX8_empty 31 = .ok (.aaload, 1) := by decide +kernel
theorem dX8_empty_32 : decode cX8_empty 32 = .ok (.dup, 1) := by decide +kernel
theorem dX8_empty_33 : decode cX8_empty 33 = .ok (.getfield 149, 3) := by decide +kernel
theorem dX8_empty_36 : decode cX8_empty 36 = .ok (.iload_n 2, 1) := by decide +kernel
theorem dX8_empty_37 : decode cX8_empty 37 = .ok (.iadd, 1) := by decide +kernel
theorem dX8_empty_38 : decode cX8_empty 38 = .ok (.putfield 149, 3) := by decide +kernel
theorem dX8_empty_41 : decode cX8_empty 41 = .ok (.aload_n 0, 1) := by decide +kernel
theorem dX8_empty_42 : decode cX8_empty 42 = .ok (.getfield 40, 3) := by decide +kernel
theorem dX8_empty_45 : decode cX8_empty 45 = .ok (.getfield 146, 3) := by decide +kernel
theorem dX8_empty_48 : decode cX8_empty 48 = .ok (.iload_n 1, 1) := by decide +kernel
theorem dX8_empty_49 : decode cX8_empty 49 = .ok (.iconst 0, 1) := by decide +kernel
theorem dX8_empty_50 : decode cX8_empty 50 = .ok (.iastore, 1) := by decide +kernel
theorem dX8_empty_51 : decode cX8_empty 51 = .ok (.iload_n 2, 1) := by decide +kernel
theorem dX8_empty_52 : decode cX8_empty 52 = .ok (.ireturn, 1) := by decide +kernel
theorem dX8_go_0 : decode cX8_go 0 = .ok (.iload_n 1, 1) := by decide +kernel
theorem dX8_go_1 : decode cX8_go 1 = .ok (.iconst 0, 1) := by decide +kernel
theorem dX8_go_2 : decode cX8_go 2 = .ok (.bipush 48, 2) := by decide +kernel
theorem dX8_go_4 : decode cX8_go 4 = .ok (.invokestatic 70, 3) := by decide +kernel
theorem dX8_go_7 : decode cX8_go 7 = .ok (.ifCond .ne 5, 3) := by decide +kernel
theorem dX8_go_10 : decode cX8_go 10 = .ok (.iconst (-1), 1) := by decide +kernel
theorem dX8_go_11 : decode cX8_go 11 = .ok (.ireturn, 1) := by decide +kernel
theorem dX8_go_12 : decode cX8_go 12 = .ok (.aload_n 0, 1) := by decide +kernel
theorem dX8_go_13 : decode cX8_go 13 = .ok (.getfield 74, 3) := by decide +kernel
theorem dX8_go_16 : decode cX8_go 16 = .ok (.iload_n 1, 1) := by decide +kernel
theorem dX8_go_17 : decode cX8_go 17 = .ok (.iadd, 1) := by decide +kernel
theorem dX8_go_18 : decode cX8_go 18 = .ok (.sipush 500, 3) := by decide +kernel
theorem dX8_go_21 : decode cX8_go 21 = .ok (.invokestatic 152, 3) := by decide +kernel
theorem dX8_go_24 : decode cX8_go 24 = .ok (.istore_n 2, 1) := by decide +kernel
theorem dX8_go_25 : decode cX8_go 25 = .ok (.aload_n 0, 1) := by decide +kernel
theorem dX8_go_26 : decode cX8_go 26 = .ok (.getfield 74, 3) := by decide +kernel
theorem dX8_go_29 : decode cX8_go 29 = .ok (.iload_n 2, 1) := by decide +kernel
theorem dX8_go_30 : decode cX8_go 30 = .ok (.if_icmp .ge 82, 3) := by decide +kernel
theorem dX8_go_33 : decode cX8_go 33 = .ok (.aload_n 0, 1) := by decide +kernel
theorem dX8_go_34 : decode cX8_go 34 = .ok (.aload_n 0, 1) := by decide +kernel
theorem dX8_go_35 : decode cX8_go 35 = .ok (.getfield 40, 3) := by decide +kernel
theorem dX8_go_38 : decode cX8_go 38 = .ok (.iconst 0, 1) := by decide +kernel
theorem dX8_go_39 : decode cX8_go 39 = .ok (.aload_n 0, 1) := by decide +kernel
theorem dX8_go_40 : decode cX8_go 40 = .ok (.getfield 74, 3) := by decide +kernel
theorem dX8_go_43 : decode cX8_go 43 = .ok (.invokevirtual 157, 3) := by decide +kernel
theorem dX8_go_46 : decode cX8_go 46 = .ok (.iconst 0, 1) := by decide +kernel
theorem dX8_go_47 : decode cX8_go 47 = .ok (.istore_n 3, 1) := by decide +kernel
theorem dX8_go_48 : decode cX8_go 48 = .ok (.iload_n 3, 1) := by decide +kernel
theorem dX8_go_49 : decode cX8_go 49 = .ok (.aload_n 0, 1) := by decide +kernel
theorem dX8_go_50 : decode cX8_go 50 = .ok (.getfield 161, 3) := by decide +kernel
theorem dX8_go_53 : decode cX8_go 53 = .ok (.if_icmp .ge 23, 3) := by decide +kernel
theorem dX8_go_56 : decode cX8_go 56 = .ok (.aload_n 0, 1) := by decide +kernel
theorem dX8_go_57 : decode cX8_go 57 = .ok (.aload_n 0, 1) := by decide +kernel
theorem dX8_go_58 : decode cX8_go 58 = .ok (.getfield 57, 3) := by decide +kernel
theorem dX8_go_61 : decode cX8_go 61 = .ok (.iload_n 3, 1) := by decide +kernel
theorem dX8_go_62 : decode cX8_go 62 = .ok (.aaload, 1) := by decide +kernel
theorem dX8_go_63 : decode cX8_go 63 = .ok (.aload_n 0, 1) := by decide +kernel
theorem dX8_go_64 : decode cX8_go 64 = .ok (.getfield 74, 3) := by decide +kernel
theorem dX8_go_67 : decode cX8_go 67 = .ok (.invokevirtual 164, 3) := by decide +kernel
theorem dX8_go_70 : decode cX8_go 70 = .ok (.iinc 3 1, 3) := by decide +kernel
theorem dX8_go_73 : decode cX8_go 73 = .ok (.goto (-25), 3) := by decide +kernel
theorem dX8_go_76 : decode cX8_go 76 = .ok (.aload_n 0, 1) := by decide +kernel
theorem dX8_go_77 : decode cX8_go 77 = .ok (.dup, 1) := by decide +kernel
theorem dX8_go_78 : decode cX8_go 78 = .ok (.getfield 168, 3) := by decide +kernel
theorem dX8_go_81 : decode cX8_go 81 = .ok (.aload_n 0, 1) := by decide +kernel
theorem dX8_go_82 : decode cX8_go 82 = .ok (.getfield 33, 3) := by decide +kernel
theorem dX8_go_85 : decode cX8_go 85 = .ok (.getfield 171, 3) := by decide +kernel
theorem dX8_go_88 : decode cX8_go 88 = .ok (.iadd, 1) := by decide +kernel
theorem dX8_go_89 : decode cX8_go 89 = .ok (.putfield 168, 3) := by decide +kernel
theorem dX8_go_92 : decode cX8_go 92 = .ok (.aload_n 0, 1) := by decide +kernel
theorem dX8_go_93 : decode cX8_go 93 = .ok (.getfield 33, 3) := by decide +kernel
theorem dX8_go_96 : decode cX8_go 96 = .ok (.invokevirtual 174, 3) := by decide +kernel
theorem dX8_go_99 : decode cX8_go 99 = .ok (.aload_n 0, 1) := by decide +kernel
theorem dX8_go_100 : decode cX8_go 100 = .ok (.dup, 1) := by decide +kernel
theorem dX8_go_101 : decode cX8_go 101 = .ok (.getfield 74, 3) := by decide +kernel
theorem dX8_go_104 : decode cX8_go 104 = .ok (.iconst 1, 1) := by decide +kernel
theorem dX8_go_105 : decode cX8_go 105 = .ok (.iadd, 1) := by decide +kernel
theorem dX8_go_106 : decode cX8_go 106 = .ok (.putfield 74, 3) := by decide +kernel
theorem dX8_go_109 : decode cX8_go 109 = .ok (.goto (-84), 3) := by decide +kernel
theorem dX8_go_112 : decode cX8_go 112 = .ok (.aload_n 0, 1) := by decide +kernel
theorem dX8_go_113 : decode cX8_go 113 = .ok (.getfield 74, 3) := by decide +kernel
theorem dX8_go_116 : decode cX8_go 116 = .ok (.ireturn, 1) := by decide +kernel
theorem dX8_oil_0 : decode cX8_oil 0 = .ok (.iload_n 1, 1) := by decide +kernel
theorem dX8_oil_1 : decode cX8_oil 1 = .ok (.invokestatic 66, 3) := by decide +kernel
theorem dX8_oil_4 : decode cX8_oil 4 = .ok (.ifCond .eq 15, 3) := by decide +kernel
theorem dX8_oil_7 : decode cX8_oil 7 = .ok (.aload_n 0, 1) := by decide +kernel
theorem dX8_oil_8 : decode cX8_oil 8 = .ok (.getfield 40, 3) := by decide +kernel
theorem dX8_oil_11 : decode cX8_oil 11 = .ok (.getfield 78, 3) := by decide +kernel
theorem dX8_oil_14 : decode cX8_oil 14 = .ok (.iload_n 1, 1) := by decide +kernel
theorem dX8_oil_15 : decode cX8_oil 15 = .ok (.iaload, 1) := by decide +kernel
theorem dX8_oil_16 : decode cX8_oil 16 = .ok (.goto 4, 3) := by decide +kernel
theorem dX8_oil_19 : decode cX8_oil 19 = .ok (.iconst (-1), 1) := by decide +kernel
theorem dX8_oil_20 : decode cX8_oil 20 = .ok (.ireturn, 1) := by decide +kernel
theorem dX8_foretold_0 : decode cX8_foretold 0 = .ok (.iload_n 1, 1) := by decide +kernel
theorem dX8_foretold_1 : decode cX8_foretold 1 = .ok (.iconst 0, 1) := by decide +kernel
theorem dX8_foretold_2 : decode cX8_foretold 2 = .ok (.iconst 2, 1) := by decide +kernel
theorem dX8_foretold_3 : decode cX8_foretold 3 = .ok (.invokestatic 70, 3) := by decide +kernel
theorem dX8_foretold_6 : decode cX8_foretold 6 = .ok (.ifCond .eq 13, 3) := by decide +kernel
theorem dX8_foretold_9 : decode cX8_foretold 9 = .ok (.iload_n 2, 1) := by decide +kernel
theorem dX8_foretold_10 : decode cX8_foretold 10 = .ok (.iconst 0, 1) := by decide +kernel
theorem dX8_foretold_11 : decode cX8_foretold 11 = .ok (.bipush 48, 2) := by decide +kernel
theorem dX8_foretold_13 : decode cX8_foretold 13 = .ok (.invokestatic 70, 3) := by decide +kernel
theorem dX8_foretold_16 : decode cX8_foretold 16 = .ok (.ifCond .ne 5, 3) := by decide +kernel
theorem dX8_foretold_19 : decode cX8_foretold 19 = .ok (.iconst (-1), 1) := by decide +kernel
theorem dX8_foretold_20 : decode cX8_foretold 20 = .ok (.ireturn, 1) := by decide +kernel
theorem dX8_foretold_21 : decode cX8_foretold 21 = .ok (.aload_n 0, 1) := by decide +kernel
theorem dX8_foretold_22 : decode cX8_foretold 22 = .ok (.iload_n 1, 1) := by decide +kernel
theorem dX8_foretold_23 : decode cX8_foretold 23 = .ok (.iload_n 2, 1) := by decide +kernel
theorem dX8_foretold_24 : decode cX8_foretold 24 = .ok (.invokevirtual 177, 3) := by decide +kernel
theorem dX8_foretold_27 : decode cX8_foretold 27 = .ok (.ireturn, 1) := by decide +kernel
theorem dX8_worst_0 : decode cX8_worst 0 = .ok (.iload_n 1, 1) := by decide +kernel
theorem dX8_worst_1 : decode cX8_worst 1 = .ok (.iconst 0, 1) := by decide +kernel
theorem dX8_worst_2 : decode cX8_worst 2 = .ok (.bipush 48, 2) := by decide +kernel
theorem dX8_worst_4 : decode cX8_worst 4 = .ok (.invokestatic 70, 3) := by decide +kernel
theorem dX8_worst_7 : decode cX8_worst 7 = .ok (.ifCond .ne 5, 3) := by decide +kernel
theorem dX8_worst_10 : decode cX8_worst 10 = .ok (.iconst (-1), 1) := by decide +kernel
theorem dX8_worst_11 : decode cX8_worst 11 = .ok (.ireturn, 1) := by decide +kernel
theorem dX8_worst_12 : decode cX8_worst 12 = .ok (.iconst 0, 1) := by decide +kernel
theorem dX8_worst_13 : decode cX8_worst 13 = .ok (.istore_n 2, 1) := by decide +kernel
theorem dX8_worst_14 : decode cX8_worst 14 = .ok (.iconst 0, 1) := by decide +kernel
theorem dX8_worst_15 : decode cX8_worst 15 = .ok (.istore_n 3, 1) := by decide +kernel
theorem dX8_worst_16 : decode cX8_worst 16 = .ok (.iload_n 3, 1) := by decide +kernel
theorem dX8_worst_17 : decode cX8_worst 17 = .ok (.iconst 3, 1) := by decide +kernel
theorem dX8_worst_18 : decode cX8_worst 18 = .ok (.if_icmp .ge 20, 3) := by decide +kernel
theorem dX8_worst_21 : decode cX8_worst 21 = .ok (.iload_n 2, 1) := by decide +kernel
theorem dX8_worst_22 : decode cX8_worst 22 = .ok (.aload_n 0, 1) := by decide +kernel
theorem dX8_worst_23 : decode cX8_worst 23 = .ok (.iload_n 3, 1) := by decide +kernel
theorem dX8_worst_24 : decode cX8_worst 24 = .ok (.iload_n 1, 1) := by decide +kernel
theorem dX8_worst_25 : decode cX8_worst 25 = .ok (.invokevirtual 177, 3) := by decide +kernel
theorem dX8_worst_28 : decode cX8_worst 28 = .ok (.invokestatic 180, 3) := by decide +kernel
theorem dX8_worst_31 : decode cX8_worst 31 = .ok (.istore_n 2, 1) := by decide +kernel
theorem dX8_worst_32 : decode cX8_worst 32 = .ok (.iinc 3 1, 3) := by decide +kernel
theorem dX8_worst_35 : decode cX8_worst 35 = .ok (.goto (-19), 3) := by decide +kernel
theorem dX8_worst_38 : decode cX8_worst 38 = .ok (.iload_n 2, 1) := by decide +kernel
theorem dX8_worst_39 : decode cX8_worst 39 = .ok (.ireturn, 1) := by decide +kernel
theorem dX8_best_0 : decode cX8_best 0 = .ok (.aload_n 0, 1) := by decide +kernel
theorem dX8_best_1 : decode cX8_best 1 = .ok (.getfield 33, 3) := by decide +kernel
theorem dX8_best_4 : decode cX8_best 4 = .ok (.iload_n 1, 1) := by decide +kernel
theorem dX8_best_5 : decode cX8_best 5 = .ok (.invokevirtual 123, 3) := by decide +kernel
theorem dX8_best_8 : decode cX8_best 8 = .ok (.ifCond .eq 21, 3) := by decide +kernel
theorem dX8_best_11 : decode cX8_best 11 = .ok (.iload_n 2, 1) := by decide +kernel
theorem dX8_best_12 : decode cX8_best 12 = .ok (.iconst 1, 1) := by decide +kernel
theorem dX8_best_13 : decode cX8_best 13 = .ok (.iconst 3, 1) := by decide +kernel
theorem dX8_best_14 : decode cX8_best 14 = .ok (.invokestatic 70, 3) := by decide +kernel
theorem dX8_best_17 : decode cX8_best 17 = .ok (.ifCond .eq 12, 3) := by decide +kernel
theorem dX8_best_20 : decode cX8_best 20 = .ok (.iload_n 3, 1) := by decide +kernel
theorem dX8_best_21 : decode cX8_best 21 = .ok (.iconst 0, 1) := by decide +kernel
theorem dX8_best_22 : decode cX8_best 22 = .ok (.iconst 1, 1) := by decide +kernel
theorem dX8_best_23 : decode cX8_best 23 = .ok (.invokestatic 70, 3) := by decide +kernel
theorem dX8_best_26 : decode cX8_best 26 = .ok (.ifCond .ne 5, 3) := by decide +kernel
theorem dX8_best_29 : decode cX8_best 29 = .ok (.iconst (-1), 1) := by decide +kernel
theorem dX8_best_30 : decode cX8_best 30 = .ok (.ireturn, 1) := by decide +kernel
theorem dX8_best_31 : decode cX8_best 31 = .ok (.aload_n 0, 1) := by decide +kernel
theorem dX8_best_32 : decode cX8_best 32 = .ok (.getfield 33, 3) := by decide +kernel
theorem dX8_best_35 : decode cX8_best 35 = .ok (.getfield 126, 3) := by decide +kernel
theorem dX8_best_38 : decode cX8_best 38 = .ok (.iload_n 1, 1) := by decide +kernel
theorem dX8_best_39 : decode cX8_best 39 = .ok (.aaload, 1) := by decide +kernel
theorem dX8_best_40 : decode cX8_best 40 = .ok (.getfield 130, 3) := by decide +kernel
theorem dX8_best_43 : decode cX8_best 43 = .ok (.ifCond .eq 5, 3) := by decide +kernel
theorem dX8_best_46 : decode cX8_best 46 = .ok (.iconst (-1), 1) := by decide +kernel
theorem dX8_best_47 : decode cX8_best 47 = .ok (.ireturn, 1) := by decide +kernel
theorem dX8_best_48 : decode cX8_best 48 = .ok (.aload_n 0, 1) := by decide +kernel
theorem dX8_best_49 : decode cX8_best 49 = .ok (.getfield 51, 3) := by decide +kernel
theorem dX8_best_52 : decode cX8_best 52 = .ok (.iload_n 1, 1) := by decide +kernel
theorem dX8_best_53 : decode cX8_best 53 = .ok (.iload_n 2, 1) := by decide +kernel
theorem dX8_best_54 : decode cX8_best 54 = .ok (.invokevirtual 183, 3) := by decide +kernel
theorem dX8_best_57 : decode cX8_best 57 = .ok (.aload_n 0, 1) := by decide +kernel
theorem dX8_best_58 : decode cX8_best 58 = .ok (.getfield 44, 3) := by decide +kernel
theorem dX8_best_61 : decode cX8_best 61 = .ok (.iconst 0, 1) := by decide +kernel
theorem dX8_best_62 : decode cX8_best 62 = .ok (.aaload, 1) := by decide +kernel
theorem dX8_best_63 : decode cX8_best 63 = .ok (.aload_n 0, 1) := by decide +kernel
theorem dX8_best_64 : decode cX8_best 64 = .ok (.getfield 40, 3) := by decide +kernel
theorem dX8_best_67 : decode cX8_best 67 = .ok (.invokevirtual 187, 3) := by decide +kernel
theorem dX8_best_70 : decode cX8_best 70 = .ok (.aload_n 0, 1) := by decide +kernel
theorem dX8_best_71 : decode cX8_best 71 = .ok (.iconst 0, 1) := by decide +kernel
theorem dX8_best_72 : decode cX8_best 72 = .ok (.aload_n 0, 1) := by decide +kernel
theorem dX8_best_73 : decode cX8_best 73 = .ok (.getfield 33, 3) := by decide +kernel
theorem dX8_best_76 : decode cX8_best 76 = .ok (.getfield 126, 3) := by decide +kernel
theorem dX8_best_79 : decode cX8_best 79 = .ok (.iload_n 1, 1) := by decide +kernel
theorem dX8_best_80 : decode cX8_best 80 = .ok (.aaload, 1) := by decide +kernel
theorem dX8_best_81 : decode cX8_best 81 = .ok (.getfield 136, 3) := by decide +kernel
theorem dX8_best_84 : decode cX8_best 84 = .ok (.iconst 0, 1) := by decide +kernel
theorem dX8_best_85 : decode cX8_best 85 = .ok (.invokevirtual 191, 3) := by decide +kernel
theorem dX8_best_88 : decode cX8_best 88 = .ok (.iload_n 3, 1) := by decide +kernel
theorem dX8_best_89 : decode cX8_best 89 = .ok (.ifCond .ne 13, 3) := by decide +kernel
theorem dX8_best_92 : decode cX8_best 92 = .ok (.aload_n 0, 1) := by decide +kernel
theorem dX8_best_93 : decode cX8_best 93 = .ok (.getfield 51, 3) := by decide +kernel
theorem dX8_best_96 : decode cX8_best 96 = .ok (.getfield 195, 3) := by decide +kernel
theorem dX8_best_99 : decode cX8_best 99 = .ok (.goto 10, 3) := by decide +kernel
theorem dX8_best_102 : decode cX8_best 102 = .ok (.aload_n 0, 1) := by decide +kernel
theorem dX8_best_103 : decode cX8_best 103 = .ok (.getfield 51, 3) := by decide +kernel
theorem dX8_best_106 : decode cX8_best 106 = .ok (.getfield 198, 3) := by decide +kernel
theorem dX8_best_109 : decode cX8_best 109 = .ok (.ireturn, 1) := by decide +kernel
theorem dX8_ship_0 : decode cX8_ship 0 = .ok (.iload_n 1, 1) := by decide +kernel
theorem dX8_ship_1 : decode cX8_ship 1 = .ok (.iconst 0, 1) := by decide +kernel
theorem dX8_ship_2 : decode cX8_ship 2 = .ok (.ldc 201, 2) := by decide +kernel
theorem dX8_ship_4 : decode cX8_ship 4 = .ok (.invokestatic 70, 3) := by decide +kernel
theorem dX8_ship_7 : decode cX8_ship 7 = .ok (.ifCond .eq 35, 3) := by decide +kernel
theorem dX8_ship_10 : decode cX8_ship 10 = .ok (.aload_n 0, 1) := by decide +kernel
theorem dX8_ship_11 : decode cX8_ship 11 = .ok (.getfield 12, 3) := by decide +kernel
theorem dX8_ship_14 : decode cX8_ship 14 = .ok (.iload_n 2, 1) := by decide +kernel
theorem dX8_ship_15 : decode cX8_ship 15 = .ok (.invokevirtual 97, 3) := by decide +kernel
theorem dX8_ship_18 : decode cX8_ship 18 = .ok (.ifCond .eq 24, 3) := by decide +kernel
theorem dX8_ship_21 : decode cX8_ship 21 = .ok (.iload_n 3, 1) := by decide +kernel
theorem dX8_ship_22 : decode cX8_ship 22 = .ok (.iconst 0, 1) := by decide +kernel
theorem dX8_ship_23 : decode cX8_ship 23 = .ok (.aload_n 0, 1) := by decide +kernel
theorem dX8_ship_24 : decode cX8_ship 24 = .ok (.getfield 74, 3) := by decide +kernel
theorem dX8_ship_27 : decode cX8_ship 27 = .ok (.invokestatic 70, 3) := by decide +kernel
theorem dX8_ship_30 : decode cX8_ship 30 = .ok (.ifCond .eq 12, 3) := by decide +kernel
theorem dX8_ship_33 : decode cX8_ship 33 = .ok (.aload_n 0, 1) := by decide +kernel
theorem dX8_ship_34 : decode cX8_ship 34 = .ok (.getfield 161, 3) := by decide +kernel
theorem dX8_ship_37 : decode cX8_ship 37 = .ok (.bipush 8, 2) := by decide +kernel
theorem dX8_ship_39 : decode cX8_ship 39 = .ok (.if_icmp .lt 5, 3) := by decide +kernel
theorem dX8_ship_42 : decode cX8_ship 42 = .ok (.iconst (-1), 1) := by decide +kernel
theorem dX8_ship_43 : decode cX8_ship 43 = .ok (.ireturn, 1) := by decide +kernel
theorem dX8_ship_44 : decode cX8_ship 44 = .ok (.aload_n 0, 1) := by decide +kernel
theorem dX8_ship_45 : decode cX8_ship 45 = .ok (.getfield 57, 3) := by decide +kernel
theorem dX8_ship_48 : decode cX8_ship 48 = .ok (.aload_n 0, 1) := by decide +kernel
theorem dX8_ship_49 : decode cX8_ship 49 = .ok (.getfield 161, 3) := by decide +kernel
theorem dX8_ship_52 : decode cX8_ship 52 = .ok (.aaload, 1) := by decide +kernel
theorem dX8_ship_53 : decode cX8_ship 53 = .ok (.astore 4, 2) := by decide +kernel
theorem dX8_ship_55 : decode cX8_ship 55 = .ok (.aload 4, 2) := by decide +kernel
theorem dX8_ship_57 : decode cX8_ship 57 = .ok (.iload_n 1, 1) := by decide +kernel
theorem dX8_ship_58 : decode cX8_ship 58 = .ok (.putfield 202, 3) := by decide +kernel
theorem dX8_ship_61 : decode cX8_ship 61 = .ok (.aload 4, 2) := by decide +kernel
theorem dX8_ship_63 : decode cX8_ship 63 = .ok (.iload_n 2, 1) := by decide +kernel
theorem dX8_ship_64 : decode cX8_ship 64 = .ok (.putfield 205, 3) := by decide +kernel
theorem dX8_ship_67 : decode cX8_ship 67 = .ok (.aload 4, 2) := by decide +kernel
theorem dX8_ship_69 : decode cX8_ship 69 = .ok (.getfield 206, 3) := by decide +kernel
theorem dX8_ship_72 : decode cX8_ship 72 = .ok (.iload_n 2, 1) := by decide +kernel
theorem dX8_ship_73 : decode cX8_ship 73 = .ok (.iconst 1, 1) := by decide +kernel
theorem dX8_ship_74 : decode cX8_ship 74 = .ok (.bastore, 1) := by decide +kernel
theorem dX8_ship_75 : decode cX8_ship 75 = .ok (.iload_n 3, 1) := by decide +kernel
theorem dX8_ship_76 : decode cX8_ship 76 = .ok (.istore 5, 2) := by decide +kernel
theorem dX8_ship_78 : decode cX8_ship 78 = .ok (.iload 5, 2) := by decide +kernel
theorem dX8_ship_80 : decode cX8_ship 80 = .ok (.aload_n 0, 1) := by decide +kernel
theorem dX8_ship_81 : decode cX8_ship 81 = .ok (.getfield 74, 3) := by decide +kernel
theorem dX8_ship_84 : decode cX8_ship 84 = .ok (.if_icmp .ge 17, 3) := by decide +kernel
theorem dX8_ship_87 : decode cX8_ship 87 = .ok (.aload_n 0, 1) := by decide +kernel
theorem dX8_ship_88 : decode cX8_ship 88 = .ok (.aload 4, 2) := by decide +kernel
theorem dX8_ship_90 : decode cX8_ship 90 = .ok (.iload 5, 2) := by decide +kernel
theorem dX8_ship_92 : decode cX8_ship 92 = .ok (.invokevirtual 164, 3) := by decide +kernel
theorem dX8_ship_95 : decode cX8_ship 95 = .ok (.iinc 5 1, 3) := by decide +kernel
theorem dX8_ship_98 : decode cX8_ship 98 = .ok (.goto (-20), 3) := by decide +kernel
theorem dX8_ship_101 : decode cX8_ship 101 = .ok (.aload_n 0, 1) := by decide +kernel
theorem dX8_ship_102 : decode cX8_ship 102 = .ok (.dup, 1) := by decide +kernel
theorem dX8_ship_103 : decode cX8_ship 103 = .ok (.getfield 161, 3) := by decide +kernel
theorem dX8_ship_106 : decode cX8_ship 106 = .ok (.iconst 1, 1) := by decide +kernel
theorem dX8_ship_107 : decode cX8_ship 107 = .ok (.iadd, 1) := by decide +kernel
theorem dX8_ship_108 : decode cX8_ship 108 = .ok (.putfield 161, 3) := by decide +kernel
theorem dX8_ship_111 : decode cX8_ship 111 = .ok (.aload_n 0, 1) := by decide +kernel
theorem dX8_ship_112 : decode cX8_ship 112 = .ok (.getfield 161, 3) := by decide +kernel
theorem dX8_ship_115 : decode cX8_ship 115 = .ok (.iconst 1, 1) := by decide +kernel
theorem dX8_ship_116 : decode cX8_ship 116 = .ok (.isub, 1) := by decide +kernel
theorem dX8_ship_117 : decode cX8_ship 117 = .ok (.ireturn, 1) := by decide +kernel
theorem dX8_could_0 : decode cX8_could 0 = .ok (.iload_n 1, 1) := by decide +kernel
theorem dX8_could_1 : decode cX8_could 1 = .ok (.iconst 0, 1) := by decide +kernel
theorem dX8_could_2 : decode cX8_could 2 = .ok (.aload_n 0, 1) := by decide +kernel
theorem dX8_could_3 : decode cX8_could 3 = .ok (.getfield 161, 3) := by decide +kernel
theorem dX8_could_6 : decode cX8_could 6 = .ok (.iconst 1, 1) := by decide +kernel
theorem dX8_could_7 : decode cX8_could 7 = .ok (.isub, 1) := by decide +kernel
theorem dX8_could_8 : decode cX8_could 8 = .ok (.invokestatic 70, 3) := by decide +kernel
theorem dX8_could_11 : decode cX8_could 11 = .ok (.ifCond .eq 32, 3) := by decide +kernel
theorem dX8_could_14 : decode cX8_could 14 = .ok (.aload_n 0, 1) := by decide +kernel
theorem dX8_could_15 : decode cX8_could 15 = .ok (.getfield 12, 3) := by decide +kernel
theorem dX8_could_18 : decode cX8_could 18 = .ok (.iload_n 2, 1) := by decide +kernel
theorem dX8_could_19 : decode cX8_could 19 = .ok (.invokevirtual 97, 3) := by decide +kernel
theorem dX8_could_22 : decode cX8_could 22 = .ok (.ifCond .eq 21, 3) := by decide +kernel
theorem dX8_could_25 : decode cX8_could 25 = .ok (.aload_n 0, 1) := by decide +kernel
theorem dX8_could_26 : decode cX8_could 26 = .ok (.getfield 57, 3) := by decide +kernel
theorem dX8_could_29 : decode cX8_could 29 = .ok (.iload_n 1, 1) := by decide +kernel
theorem dX8_could_30 : decode cX8_could 30 = .ok (.aaload, 1) := by decide +kernel
theorem dX8_could_31 : decode cX8_could 31 = .ok (.getfield 206, 3) := by decide +kernel
theorem dX8_could_34 : decode cX8_could 34 = .ok (.iload_n 2, 1) := by decide +kernel
theorem dX8_could_35 : decode cX8_could 35 = .ok (.baload, 1) := by decide +kernel
theorem dX8_could_36 : decode cX8_could 36 = .ok (.ifCond .eq 7, 3) := by decide +kernel
theorem dX8_could_39 : decode cX8_could 39 = .ok (.iconst 1, 1) := by decide +kernel
theorem dX8_could_40 : decode cX8_could 40 = .ok (.goto 4, 3) := by decide +kernel
theorem dX8_could_43 : decode cX8_could 43 = .ok (.iconst 0, 1) := by decide +kernel
theorem dX8_could_44 : decode cX8_could 44 = .ok (.ireturn, 1) := by decide +kernel
theorem dX8_sample_0 : decode cX8_sample 0 = .ok (.aload_n 0, 1) := by decide +kernel
theorem dX8_sample_1 : decode cX8_sample 1 = .ok (.getfield 12, 3) := by decide +kernel
theorem dX8_sample_4 : decode cX8_sample 4 = .ok (.iload_n 1, 1) := by decide +kernel
theorem dX8_sample_5 : decode cX8_sample 5 = .ok (.invokevirtual 97, 3) := by decide +kernel
theorem dX8_sample_8 : decode cX8_sample 8 = .ok (.ifCond .eq 13, 3) := by decide +kernel
theorem dX8_sample_11 : decode cX8_sample 11 = .ok (.iload_n 2, 1) := by decide +kernel
theorem dX8_sample_12 : decode cX8_sample 12 = .ok (.iconst 0, 1) := by decide +kernel
theorem dX8_sample_13 : decode cX8_sample 13 = .ok (.ldc 201, 2) := by decide +kernel
theorem dX8_sample_15 : decode cX8_sample 15 = .ok (.invokestatic 70, 3) := by decide +kernel
theorem dX8_sample_18 : decode cX8_sample 18 = .ok (.ifCond .ne 5, 3) := by decide +kernel
theorem dX8_sample_21 : decode cX8_sample 21 = .ok (.iconst (-1), 1) := by decide +kernel
theorem dX8_sample_22 : decode cX8_sample 22 = .ok (.ireturn, 1) := by decide +kernel
theorem dX8_sample_23 : decode cX8_sample 23 = .ok (.iconst (-1), 1) := by decide +kernel
theorem dX8_sample_24 : decode cX8_sample 24 = .ok (.istore_n 3, 1) := by decide +kernel
theorem dX8_sample_25 : decode cX8_sample 25 = .ok (.iconst 0, 1) := by decide +kernel
theorem dX8_sample_26 : decode cX8_sample 26 = .ok (.istore 4, 2) := by decide +kernel
theorem dX8_sample_28 : decode cX8_sample 28 = .ok (.iconst 0, 1) := by decide +kernel
theorem dX8_sample_29 : decode cX8_sample 29 = .ok (.istore 5, 2) := by decide +kernel
theorem dX8_sample_31 : decode cX8_sample 31 = .ok (.iload 5, 2) := by decide +kernel
theorem dX8_sample_33 : decode cX8_sample 33 = .ok (.aload_n 0, 1) := by decide +kernel
theorem dX8_sample_34 : decode cX8_sample 34 = .ok (.getfield 161, 3) := by decide +kernel
theorem dX8_sample_37 : decode cX8_sample 37 = .ok (.if_icmp .ge 59, 3) := by decide +kernel
theorem dX8_sample_40 : decode cX8_sample 40 = .ok (.aload_n 0, 1) := by decide +kernel
theorem dX8_sample_41 : decode cX8_sample 41 = .ok (.getfield 57, 3) := by decide +kernel
theorem dX8_sample_44 : decode cX8_sample 44 = .ok (.iload 5, 2) := by decide +kernel
theorem dX8_sample_46 : decode cX8_sample 46 = .ok (.aaload, 1) := by decide +kernel
theorem dX8_sample_47 : decode cX8_sample 47 = .ok (.getfield 202, 3) := by decide +kernel
theorem dX8_sample_50 : decode cX8_sample 50 = .ok (.iload_n 2, 1) := by decide +kernel
theorem dX8_sample_51 : decode cX8_sample 51 = .ok (.invokestatic 210, 3) := by decide +kernel
theorem dX8_sample_54 : decode cX8_sample 54 = .ok (.istore 6, 2) := by decide +kernel
theorem dX8_sample_56 : decode cX8_sample 56 = .ok (.aload_n 0, 1) := by decide +kernel
theorem dX8_sample_57 : decode cX8_sample 57 = .ok (.getfield 57, 3) := by decide +kernel
theorem dX8_sample_60 : decode cX8_sample 60 = .ok (.iload 5, 2) := by decide +kernel
theorem dX8_sample_62 : decode cX8_sample 62 = .ok (.aaload, 1) := by decide +kernel
theorem dX8_sample_63 : decode cX8_sample 63 = .ok (.getfield 206, 3) := by decide +kernel
theorem dX8_sample_66 : decode cX8_sample 66 = .ok (.iload_n 1, 1) := by decide +kernel
theorem dX8_sample_67 : decode cX8_sample 67 = .ok (.baload, 1) := by decide +kernel
theorem dX8_sample_68 : decode cX8_sample 68 = .ok (.ifCond .eq 22, 3) := by decide +kernel
theorem dX8_sample_71 : decode cX8_sample 71 = .ok (.iload_n 3, 1) := by decide +kernel
theorem dX8_sample_72 : decode cX8_sample 72 = .ok (.iconst (-1), 1) := by decide +kernel
theorem dX8_sample_73 : decode cX8_sample 73 = .ok (.if_icmp .eq 10, 3) := by decide +kernel
theorem dX8_sample_76 : decode cX8_sample 76 = .ok (.iload 6, 2) := by decide +kernel
theorem dX8_sample_78 : decode cX8_sample 78 = .ok (.iload 4, 2) := by decide +kernel
theorem dX8_sample_80 : decode cX8_sample 80 = .ok (.if_icmp .ge 10, 3) := by decide +kernel
theorem dX8_sample_83 : decode cX8_sample 83 = .ok (.iload 5, 2) := by decide +kernel
theorem dX8_sample_85 : decode cX8_sample 85 = .ok (.istore_n 3, 1) := by decide +kernel
theorem dX8_sample_86 : decode cX8_sample 86 = .ok (.iload 6, 2) := by decide +kernel
theorem dX8_sample_88 : decode cX8_sample 88 = .ok (.istore 4, 2) := by decide +kernel
theorem dX8_sample_90 : decode cX8_sample 90 = .ok (.iinc 5 1, 3) := by decide +kernel
theorem dX8_sample_93 : decode cX8_sample 93 = .ok (.goto (-62), 3) := by decide +kernel
theorem dX8_sample_96 : decode cX8_sample 96 = .ok (.aload_n 0, 1) := by decide +kernel
theorem dX8_sample_97 : decode cX8_sample 97 = .ok (.iload_n 3, 1) := by decide +kernel
theorem dX8_sample_98 : decode cX8_sample 98 = .ok (.iload 4, 2) := by decide +kernel
theorem dX8_sample_100 : decode cX8_sample 100 = .ok (.iconst 5, 1) := by decide +kernel
theorem dX8_sample_101 : decode cX8_sample 101 = .ok (.iadd, 1) := by decide +kernel
theorem dX8_sample_102 : decode cX8_sample 102 = .ok (.iload_n 1, 1) := by decide +kernel
theorem dX8_sample_103 : decode cX8_sample 103 = .ok (.iload_n 2, 1) := by decide +kernel
theorem dX8_sample_104 : decode cX8_sample 104 = .ok (.invokevirtual 213, 3) := by decide +kernel
theorem dX8_sample_107 : decode cX8_sample 107 = .ok (.ifCond .eq 8, 3) := by decide +kernel
theorem dX8_sample_110 : decode cX8_sample 110 = .ok (.bipush (-2), 2) := by decide +kernel
theorem dX8_sample_112 : decode cX8_sample 112 = .ok (.goto 4, 3) := by decide +kernel
theorem dX8_sample_115 : decode cX8_sample 115 = .ok (.iload_n 3, 1) := by decide +kernel
theorem dX8_sample_116 : decode cX8_sample 116 = .ok (.ireturn, 1) := by decide +kernel
theorem dX8_part_0 : decode cX8_part 0 = .ok (.iload_n 1, 1) := by decide +kernel
theorem dX8_part_1 : decode cX8_part 1 = .ok (.iconst 0, 1) := by decide +kernel
theorem dX8_part_2 : decode cX8_part 2 = .ok (.iconst 3, 1) := by decide +kernel
theorem dX8_part_3 : decode cX8_part 3 = .ok (.invokestatic 70, 3) := by decide +kernel
theorem dX8_part_6 : decode cX8_part 6 = .ok (.ifCond .eq 13, 3) := by decide +kernel
theorem dX8_part_9 : decode cX8_part 9 = .ok (.iload_n 2, 1) := by decide +kernel
theorem dX8_part_10 : decode cX8_part 10 = .ok (.iconst 0, 1) := by decide +kernel
theorem dX8_part_11 : decode cX8_part 11 = .ok (.bipush 100, 2) := by decide +kernel
theorem dX8_part_13 : decode cX8_part 13 = .ok (.invokestatic 70, 3) := by decide +kernel
theorem dX8_part_16 : decode cX8_part 16 = .ok (.ifCond .ne 5, 3) := by decide +kernel
theorem dX8_part_19 : decode cX8_part 19 = .ok (.iconst 0, 1) := by decide +kernel
theorem dX8_part_20 : decode cX8_part 20 = .ok (.ireturn, 1) := by decide +kernel
theorem dX8_part_21 : decode cX8_part 21 = .ok (.aload_n 0, 1) := by decide +kernel
theorem dX8_part_22 : decode cX8_part 22 = .ok (.getfield 62, 3) := by decide +kernel
theorem dX8_part_25 : decode cX8_part 25 = .ok (.iload_n 1, 1) := by decide +kernel
theorem dX8_part_26 : decode cX8_part 26 = .ok (.iload_n 2, 1) := by decide +kernel
theorem dX8_part_27 : decode cX8_part 27 = .ok (.iastore, 1) := by decide +kernel
theorem dX8_part_28 : decode cX8_part 28 = .ok (.iconst 1, 1) := by decide +kernel
theorem dX8_part_29 : decode cX8_part 29 = .ok (.ireturn, 1) := by decide +kernel
theorem dX8_bill_0 : decode cX8_bill 0 = .ok (.iload_n 1, 1) := by decide +kernel
theorem dX8_bill_1 : decode cX8_bill 1 = .ok (.iconst 0, 1) := by decide +kernel
theorem dX8_bill_2 : decode cX8_bill 2 = .ok (.iconst 3, 1) := by decide +kernel
theorem dX8_bill_3 : decode cX8_bill 3 = .ok (.invokestatic 70, 3) := by decide +kernel
theorem dX8_bill_6 : decode cX8_bill 6 = .ok (.ifCond .ne 5, 3) := by decide +kernel
theorem dX8_bill_9 : decode cX8_bill 9 = .ok (.iconst (-1), 1) := by decide +kernel
theorem dX8_bill_10 : decode cX8_bill 10 = .ok (.ireturn, 1) := by decide +kernel
theorem dX8_bill_11 : decode cX8_bill 11 = .ok (.iconst 0, 1) := by decide +kernel
theorem dX8_bill_12 : decode cX8_bill 12 = .ok (.istore_n 2, 1) := by decide +kernel
theorem dX8_bill_13 : decode cX8_bill 13 = .ok (.iconst 0, 1) := by decide +kernel
theorem dX8_bill_14 : decode cX8_bill 14 = .ok (.istore_n 3, 1) := by decide +kernel
theorem dX8_bill_15 : decode cX8_bill 15 = .ok (.iload_n 3, 1) := by decide +kernel
theorem dX8_bill_16 : decode cX8_bill 16 = .ok (.iconst 4, 1) := by decide +kernel
theorem dX8_bill_17 : decode cX8_bill 17 = .ok (.if_icmp .ge 18, 3) := by decide +kernel
theorem dX8_bill_20 : decode cX8_bill 20 = .ok (.iload_n 2, 1) := by decide +kernel
theorem dX8_bill_21 : decode cX8_bill 21 = .ok (.aload_n 0, 1) := by decide +kernel
theorem dX8_bill_22 : decode cX8_bill 22 = .ok (.getfield 62, 3) := by decide +kernel
theorem dX8_bill_25 : decode cX8_bill 25 = .ok (.iload_n 3, 1) := by decide +kernel
theorem dX8_bill_26 : decode cX8_bill 26 = .ok (.iaload, 1) := by decide +kernel
theorem dX8_bill_27 : decode cX8_bill 27 = .ok (.iadd, 1) := by decide +kernel
theorem dX8_bill_28 : decode cX8_bill 28 = .ok (.istore_n 2, 1) := by decide +kernel
theorem dX8_bill_29 : decode cX8_bill 29 = .ok (.iinc 3 1, 3) := by decide +kernel
theorem dX8_bill_32 : decode cX8_bill 32 = .ok (.goto (-17), 3) := by decide +kernel
theorem dX8_bill_35 : decode cX8_bill 35 = .ok (.aload_n 0, 1) := by decide +kernel
theorem dX8_bill_36 : decode cX8_bill 36 = .ok (.iload_n 1, 1) := by decide +kernel
theorem dX8_bill_37 : decode cX8_bill 37 = .ok (.aload_n 0, 1) := by decide +kernel
theorem dX8_bill_38 : decode cX8_bill 38 = .ok (.invokevirtual 217, 3) := by decide +kernel
theorem dX8_bill_41 : decode cX8_bill 41 = .ok (.iload_n 2, 1) := by decide +kernel
theorem dX8_bill_42 : decode cX8_bill 42 = .ok (.invokevirtual 221, 3) := by decide +kernel
theorem dX8_bill_45 : decode cX8_bill 45 = .ok (.ireturn, 1) := by decide +kernel
theorem dX8_told_0 : decode cX8_told 0 = .ok (.aload_n 0, 1) := by decide +kernel
theorem dX8_told_1 : decode cX8_told 1 = .ok (.getfield 33, 3) := by decide +kernel
theorem dX8_told_4 : decode cX8_told 4 = .ok (.iload_n 1, 1) := by decide +kernel
theorem dX8_told_5 : decode cX8_told 5 = .ok (.invokevirtual 123, 3) := by decide +kernel
theorem dX8_told_8 : decode cX8_told 8 = .ok (.ifCond .ne 5, 3) := by decide +kernel
theorem dX8_told_11 : decode cX8_told 11 = .ok (.iconst (-1), 1) := by decide +kernel
theorem dX8_told_12 : decode cX8_told 12 = .ok (.ireturn, 1) := by decide +kernel
theorem dX8_told_13 : decode cX8_told 13 = .ok (.aload_n 0, 1) := by decide +kernel
theorem dX8_told_14 : decode cX8_told 14 = .ok (.getfield 33, 3) := by decide +kernel
theorem dX8_told_17 : decode cX8_told 17 = .ok (.getfield 126, 3) := by decide +kernel
theorem dX8_told_20 : decode cX8_told 20 = .ok (.iload_n 1, 1) := by decide +kernel
theorem dX8_told_21 : decode cX8_told 21 = .ok (.aaload, 1) := by decide +kernel
theorem dX8_told_22 : decode cX8_told 22 = .ok (.astore_n 3, 1) := by decide +kernel
theorem dX8_told_23 : decode cX8_told 23 = .ok (.iload_n 2, 1) := by decide +kernel
theorem dX8_told_24 : decode cX8_told 24 = .ok (.tableswitch 75 0 3 #[32, 37, 47, 62], 32) := by decide +kernel
theorem dX8_told_56 : decode cX8_told 56 = .ok (.aload_n 3, 1) := by decide +kernel
theorem dX8_told_57 : decode cX8_told 57 = .ok (.getfield 136, 3) := by decide +kernel
theorem dX8_told_60 : decode cX8_told 60 = .ok (.ireturn, 1) := by decide +kernel
theorem dX8_told_61 : decode cX8_told 61 = .ok (.aload_n 0, 1) := by decide +kernel
theorem dX8_told_62 : decode cX8_told 62 = .ok (.getfield 40, 3) := by decide +kernel
theorem dX8_told_65 : decode cX8_told 65 = .ok (.getfield 146, 3) := by decide +kernel
theorem dX8_told_68 : decode cX8_told 68 = .ok (.iload_n 1, 1) := by decide +kernel
theorem dX8_told_69 : decode cX8_told 69 = .ok (.iaload, 1) := by decide +kernel
theorem dX8_told_70 : decode cX8_told 70 = .ok (.ireturn, 1) := by decide +kernel
theorem dX8_told_71 : decode cX8_told 71 = .ok (.aload_n 3, 1) := by decide +kernel
theorem dX8_told_72 : decode cX8_told 72 = .ok (.getfield 149, 3) := by decide +kernel
theorem dX8_told_75 : decode cX8_told 75 = .ok (.aload_n 0, 1) := by decide +kernel
theorem dX8_told_76 : decode cX8_told 76 = .ok (.getfield 40, 3) := by decide +kernel
theorem dX8_told_79 : decode cX8_told 79 = .ok (.getfield 146, 3) := by decide +kernel
theorem dX8_told_82 : decode cX8_told 82 = .ok (.iload_n 1, 1) := by decide +kernel
theorem dX8_told_83 : decode cX8_told 83 = .ok (.iaload, 1) := by decide +kernel
theorem dX8_told_84 : decode cX8_told 84 = .ok (.iadd, 1) := by decide +kernel
theorem dX8_told_85 : decode cX8_told 85 = .ok (.ireturn, 1) := by decide +kernel
theorem dX8_told_86 : decode cX8_told 86 = .ok (.aload_n 3, 1) := by decide +kernel
theorem dX8_told_87 : decode cX8_told 87 = .ok (.getfield 130, 3) := by decide +kernel
theorem dX8_told_90 : decode cX8_told 90 = .ok (.ifCond .eq 7, 3) := by decide +kernel
theorem dX8_told_93 : decode cX8_told 93 = .ok (.iconst 1, 1) := by decide +kernel
theorem dX8_told_94 : decode cX8_told 94 = .ok (.goto 4, 3) := by decide +kernel
theorem dX8_told_97 : decode cX8_told 97 = .ok (.iconst 0, 1) := by decide +kernel
theorem dX8_told_98 : decode cX8_told 98 = .ok (.ireturn, 1) := by decide +kernel
theorem dX8_told_99 : decode cX8_told 99 = .ok (.iconst (-1), 1) := by decide +kernel
theorem dX8_told_100 : decode cX8_told 100 = .ok (.ireturn, 1) := by decide +kernel
theorem dX8_count_0 : decode cX8_count 0 = .ok (.iload_n 1, 1) := by decide +kernel
theorem dX8_count_1 : decode cX8_count 1 = .ok (.tableswitch 135 0 10 #[59, 64, 69, 78, 86, 95, 103, 108, 117, 122, 130], 59) := by decide +kernel
theorem dX8_count_60 : decode cX8_count 60 = .ok (.aload_n 0, 1) := by decide +kernel
theorem dX8_count_61 : decode cX8_count 61 = .ok (.getfield 74, 3) := by decide +kernel
theorem dX8_count_64 : decode cX8_count 64 = .ok (.ireturn, 1) := by decide +kernel
theorem dX8_count_65 : decode cX8_count 65 = .ok (.aload_n 0, 1) := by decide +kernel
theorem dX8_count_66 : decode cX8_count 66 = .ok (.getfield 112, 3) := by decide +kernel
theorem dX8_count_69 : decode cX8_count 69 = .ok (.ireturn, 1) := by decide +kernel
theorem dX8_count_70 : decode cX8_count 70 = .ok (.aload_n 0, 1) := by decide +kernel
theorem dX8_count_71 : decode cX8_count 71 = .ok (.aload_n 0, 1) := by decide +kernel
theorem dX8_count_72 : decode cX8_count 72 = .ok (.getfield 40, 3) := by decide +kernel
theorem dX8_count_75 : decode cX8_count 75 = .ok (.invokevirtual 224, 3) := by decide +kernel
theorem dX8_count_78 : decode cX8_count 78 = .ok (.ireturn, 1) := by decide +kernel
theorem dX8_count_79 : decode cX8_count 79 = .ok (.aload_n 0, 1) := by decide +kernel
theorem dX8_count_80 : decode cX8_count 80 = .ok (.getfield 40, 3) := by decide +kernel
theorem dX8_count_83 : decode cX8_count 83 = .ok (.getfield 228, 3) := by decide +kernel
theorem dX8_count_86 : decode cX8_count 86 = .ok (.ireturn, 1) := by decide +kernel
theorem dX8_count_87 : decode cX8_count 87 = .ok (.aload_n 0, 1) := by decide +kernel
theorem dX8_count_88 : decode cX8_count 88 = .ok (.aload_n 0, 1) := by decide +kernel
theorem dX8_count_89 : decode cX8_count 89 = .ok (.getfield 40, 3) := by decide +kernel
theorem dX8_count_92 : decode cX8_count 92 = .ok (.invokevirtual 231, 3) := by decide +kernel
theorem dX8_count_95 : decode cX8_count 95 = .ok (.ireturn, 1) := by decide +kernel
theorem dX8_count_96 : decode cX8_count 96 = .ok (.aload_n 0, 1) := by decide +kernel
theorem dX8_count_97 : decode cX8_count 97 = .ok (.getfield 40, 3) := by decide +kernel
theorem dX8_count_100 : decode cX8_count 100 = .ok (.getfield 234, 3) := by decide +kernel
theorem dX8_count_103 : decode cX8_count 103 = .ok (.ireturn, 1) := by decide +kernel
theorem dX8_count_104 : decode cX8_count 104 = .ok (.aload_n 0, 1) := by decide +kernel
theorem dX8_count_105 : decode cX8_count 105 = .ok (.invokevirtual 237, 3) := by decide +kernel
theorem dX8_count_108 : decode cX8_count 108 = .ok (.ireturn, 1) := by decide +kernel
theorem dX8_count_109 : decode cX8_count 109 = .ok (.aload_n 0, 1) := by decide +kernel
theorem dX8_count_110 : decode cX8_count 110 = .ok (.aload_n 0, 1) := by decide +kernel
theorem dX8_count_111 : decode cX8_count 111 = .ok (.getfield 40, 3) := by decide +kernel
theorem dX8_count_114 : decode cX8_count 114 = .ok (.invokevirtual 240, 3) := by decide +kernel
theorem dX8_count_117 : decode cX8_count 117 = .ok (.ireturn, 1) := by decide +kernel
theorem dX8_count_118 : decode cX8_count 118 = .ok (.aload_n 0, 1) := by decide +kernel
theorem dX8_count_119 : decode cX8_count 119 = .ok (.invokevirtual 217, 3) := by decide +kernel
theorem dX8_count_122 : decode cX8_count 122 = .ok (.ireturn, 1) := by decide +kernel
theorem dX8_count_123 : decode cX8_count 123 = .ok (.aload_n 0, 1) := by decide +kernel
theorem dX8_count_124 : decode cX8_count 124 = .ok (.getfield 19, 3) := by decide +kernel
theorem dX8_count_127 : decode cX8_count 127 = .ok (.getfield 243, 3) := by decide +kernel
theorem dX8_count_130 : decode cX8_count 130 = .ok (.ireturn, 1) := by decide +kernel
theorem dX8_count_131 : decode cX8_count 131 = .ok (.aload_n 0, 1) := by decide +kernel
theorem dX8_count_132 : decode cX8_count 132 = .ok (.getfield 161, 3) := by decide +kernel
theorem dX8_count_135 : decode cX8_count 135 = .ok (.ireturn, 1) := by decide +kernel
theorem dX8_count_136 : decode cX8_count 136 = .ok (.iconst (-1), 1) := by decide +kernel
theorem dX8_count_137 : decode cX8_count 137 = .ok (.ireturn, 1) := by decide +kernel
theorem dX8_isWithin_0 : decode cX8_isWithin 0 = .ok (.iload_n 0, 1) := by decide +kernel
theorem dX8_isWithin_1 : decode cX8_isWithin 1 = .ok (.iload_n 1, 1) := by decide +kernel
theorem dX8_isWithin_2 : decode cX8_isWithin 2 = .ok (.if_icmp .lt 12, 3) := by decide +kernel
theorem dX8_isWithin_5 : decode cX8_isWithin 5 = .ok (.iload_n 0, 1) := by decide +kernel
theorem dX8_isWithin_6 : decode cX8_isWithin 6 = .ok (.iload_n 2, 1) := by decide +kernel
theorem dX8_isWithin_7 : decode cX8_isWithin 7 = .ok (.if_icmp .gt 7, 3) := by decide +kernel
theorem dX8_isWithin_10 : decode cX8_isWithin 10 = .ok (.iconst 1, 1) := by decide +kernel
theorem dX8_isWithin_11 : decode cX8_isWithin 11 = .ok (.goto 4, 3) := by decide +kernel
theorem dX8_isWithin_14 : decode cX8_isWithin 14 = .ok (.iconst 0, 1) := by decide +kernel
theorem dX8_isWithin_15 : decode cX8_isWithin 15 = .ok (.ireturn, 1) := by decide +kernel
theorem dX8_passHour_0 : decode cX8_passHour 0 = .ok (.aload_n 0, 1) := by decide +kernel
theorem dX8_passHour_1 : decode cX8_passHour 1 = .ok (.aload_n 1, 1) := by decide +kernel
theorem dX8_passHour_2 : decode cX8_passHour 2 = .ok (.iload_n 2, 1) := by decide +kernel
theorem dX8_passHour_3 : decode cX8_passHour 3 = .ok (.iload_n 3, 1) := by decide +kernel
theorem dX8_passHour_4 : decode cX8_passHour 4 = .ok (.invokevirtual 244, 3) := by decide +kernel
theorem dX8_passHour_7 : decode cX8_passHour 7 = .ok (.aload_n 0, 1) := by decide +kernel
theorem dX8_passHour_8 : decode cX8_passHour 8 = .ok (.getfield 33, 3) := by decide +kernel
theorem dX8_passHour_11 : decode cX8_passHour 11 = .ok (.aload_n 1, 1) := by decide +kernel
theorem dX8_passHour_12 : decode cX8_passHour 12 = .ok (.iconst 0, 1) := by decide +kernel
theorem dX8_passHour_13 : decode cX8_passHour 13 = .ok (.aload_n 0, 1) := by decide +kernel
theorem dX8_passHour_14 : decode cX8_passHour 14 = .ok (.getfield 33, 3) := by decide +kernel
theorem dX8_passHour_17 : decode cX8_passHour 17 = .ok (.getfield 171, 3) := by decide +kernel
theorem dX8_passHour_20 : decode cX8_passHour 20 = .ok (.invokevirtual 247, 3) := by decide +kernel
theorem dX8_passHour_23 : decode cX8_passHour 23 = .ok (.return_, 1) := by decide +kernel
theorem dX8_driftAndLose_0 : decode cX8_driftAndLose 0 = .ok (.aload_n 0, 1) := by decide +kernel
theorem dX8_driftAndLose_1 : decode cX8_driftAndLose 1 = .ok (.getfield 26, 3) := by decide +kernel
theorem dX8_driftAndLose_4 : decode cX8_driftAndLose 4 = .ok (.iload_n 2, 1) := by decide +kernel
theorem dX8_driftAndLose_5 : decode cX8_driftAndLose 5 = .ok (.iload_n 3, 1) := by decide +kernel
theorem dX8_driftAndLose_6 : decode cX8_driftAndLose 6 = .ok (.invokevirtual 250, 3) := by decide +kernel
theorem dX8_driftAndLose_9 : decode cX8_driftAndLose 9 = .ok (.istore 4, 2) := by decide +kernel
theorem dX8_driftAndLose_11 : decode cX8_driftAndLose 11 = .ok (.iload 4, 2) := by decide +kernel
theorem dX8_driftAndLose_13 : decode cX8_driftAndLose 13 = .ok (.ifCond .eq 19, 3) := by decide +kernel
theorem dX8_driftAndLose_16 : decode cX8_driftAndLose 16 = .ok (.aload_n 0, 1) := by decide +kernel
theorem dX8_driftAndLose_17 : decode cX8_driftAndLose 17 = .ok (.aload_n 1, 1) := by decide +kernel
theorem dX8_driftAndLose_18 : decode cX8_driftAndLose 18 = .ok (.iload 4, 2) := by decide +kernel
theorem dX8_driftAndLose_20 : decode cX8_driftAndLose 20 = .ok (.aload_n 0, 1) := by decide +kernel
theorem dX8_driftAndLose_21 : decode cX8_driftAndLose 21 = .ok (.getfield 26, 3) := by decide +kernel
theorem dX8_driftAndLose_24 : decode cX8_driftAndLose 24 = .ok (.iload_n 2, 1) := by decide +kernel
theorem dX8_driftAndLose_25 : decode cX8_driftAndLose 25 = .ok (.iload_n 3, 1) := by decide +kernel
theorem dX8_driftAndLose_26 : decode cX8_driftAndLose 26 = .ok (.invokevirtual 253, 3) := by decide +kernel
theorem dX8_driftAndLose_29 : decode cX8_driftAndLose 29 = .ok (.invokevirtual 256, 3) := by decide +kernel
theorem dX8_driftAndLose_32 : decode cX8_driftAndLose 32 = .ok (.aload_n 0, 1) := by decide +kernel
theorem dX8_driftAndLose_33 : decode cX8_driftAndLose 33 = .ok (.aload_n 1, 1) := by decide +kernel
theorem dX8_driftAndLose_34 : decode cX8_driftAndLose 34 = .ok (.iload_n 3, 1) := by decide +kernel
theorem dX8_driftAndLose_35 : decode cX8_driftAndLose 35 = .ok (.aload_n 0, 1) := by decide +kernel
theorem dX8_driftAndLose_36 : decode cX8_driftAndLose 36 = .ok (.getfield 116, 3) := by decide +kernel
theorem dX8_driftAndLose_39 : decode cX8_driftAndLose 39 = .ok (.isub, 1) := by decide +kernel
theorem dX8_driftAndLose_40 : decode cX8_driftAndLose 40 = .ok (.invokevirtual 259, 3) := by decide +kernel
theorem dX8_driftAndLose_43 : decode cX8_driftAndLose 43 = .ok (.return_, 1) := by decide +kernel
theorem dX8_driftAll_0 : decode cX8_driftAll 0 = .ok (.iconst 0, 1) := by decide +kernel
theorem dX8_driftAll_1 : decode cX8_driftAll 1 = .ok (.istore 4, 2) := by decide +kernel
theorem dX8_driftAll_3 : decode cX8_driftAll 3 = .ok (.iload 4, 2) := by decide +kernel
theorem dX8_driftAll_5 : decode cX8_driftAll 5 = .ok (.bipush 96, 2) := by decide +kernel
theorem dX8_driftAll_7 : decode cX8_driftAll 7 = .ok (.if_icmp .ge 38, 3) := by decide +kernel
theorem dX8_driftAll_10 : decode cX8_driftAll 10 = .ok (.iload 4, 2) := by decide +kernel
theorem dX8_driftAll_12 : decode cX8_driftAll 12 = .ok (.iload_n 2, 1) := by decide +kernel
theorem dX8_driftAll_13 : decode cX8_driftAll 13 = .ok (.invokestatic 263, 3) := by decide +kernel
theorem dX8_driftAll_16 : decode cX8_driftAll 16 = .ok (.istore 5, 2) := by decide +kernel
theorem dX8_driftAll_18 : decode cX8_driftAll 18 = .ok (.aload_n 0, 1) := by decide +kernel
theorem dX8_driftAll_19 : decode cX8_driftAll 19 = .ok (.getfield 12, 3) := by decide +kernel
theorem dX8_driftAll_22 : decode cX8_driftAll 22 = .ok (.iload 5, 2) := by decide +kernel
theorem dX8_driftAll_24 : decode cX8_driftAll 24 = .ok (.invokevirtual 97, 3) := by decide +kernel
theorem dX8_driftAll_27 : decode cX8_driftAll 27 = .ok (.ifCond .eq 12, 3) := by decide +kernel
theorem dX8_driftAll_30 : decode cX8_driftAll 30 = .ok (.aload_n 0, 1) := by decide +kernel
theorem dX8_driftAll_31 : decode cX8_driftAll 31 = .ok (.aload_n 1, 1) := by decide +kernel
theorem dX8_driftAll_32 : decode cX8_driftAll 32 = .ok (.iload 5, 2) := by decide +kernel
theorem dX8_driftAll_34 : decode cX8_driftAll 34 = .ok (.iload_n 2, 1) := by decide +kernel
theorem dX8_driftAll_35 : decode cX8_driftAll 35 = .ok (.iload_n 3, 1) := by decide +kernel
theorem dX8_driftAll_36 : decode cX8_driftAll 36 = .ok (.invokevirtual 266, 3) := by decide +kernel
theorem dX8_driftAll_39 : decode cX8_driftAll 39 = .ok (.iinc 4 1, 3) := by decide +kernel
theorem dX8_driftAll_42 : decode cX8_driftAll 42 = .ok (.goto (-39), 3) := by decide +kernel
theorem dX8_driftAll_45 : decode cX8_driftAll 45 = .ok (.return_, 1) := by decide +kernel
theorem dX8_cellAtTurn_0 : decode cX8_cellAtTurn 0 = .ok (.iload_n 1, 1) := by decide +kernel
theorem dX8_cellAtTurn_1 : decode cX8_cellAtTurn 1 = .ok (.iconst 2, 1) := by decide +kernel
theorem dX8_cellAtTurn_2 : decode cX8_cellAtTurn 2 = .ok (.if_icmp .eq 8, 3) := by decide +kernel
theorem dX8_cellAtTurn_5 : decode cX8_cellAtTurn 5 = .ok (.iload_n 1, 1) := by decide +kernel
theorem dX8_cellAtTurn_6 : decode cX8_cellAtTurn 6 = .ok (.iconst 3, 1) := by decide +kernel
theorem dX8_cellAtTurn_7 : decode cX8_cellAtTurn 7 = .ok (.if_icmp .ne 10, 3) := by decide +kernel
theorem dX8_cellAtTurn_10 : decode cX8_cellAtTurn 10 = .ok (.bipush 95, 2) := by decide +kernel
theorem dX8_cellAtTurn_12 : decode cX8_cellAtTurn 12 = .ok (.iload_n 0, 1) := by decide +kernel
theorem dX8_cellAtTurn_13 : decode cX8_cellAtTurn 13 = .ok (.isub, 1) := by decide +kernel
theorem dX8_cellAtTurn_14 : decode cX8_cellAtTurn 14 = .ok (.goto 4, 3) := by decide +kernel
theorem dX8_cellAtTurn_17 : decode cX8_cellAtTurn 17 = .ok (.iload_n 0, 1) := by decide +kernel
theorem dX8_cellAtTurn_18 : decode cX8_cellAtTurn 18 = .ok (.ireturn, 1) := by decide +kernel
theorem dX8_driftFrom_0 : decode cX8_driftFrom 0 = .ok (.aload_n 1, 1) := by decide +kernel
theorem dX8_driftFrom_1 : decode cX8_driftFrom 1 = .ok (.getfield 78, 3) := by decide +kernel
theorem dX8_driftFrom_4 : decode cX8_driftFrom 4 = .ok (.iload_n 2, 1) := by decide +kernel
theorem dX8_driftFrom_5 : decode cX8_driftFrom 5 = .ok (.iaload, 1) := by decide +kernel
theorem dX8_driftFrom_6 : decode cX8_driftFrom 6 = .ok (.iconst 2, 1) := by decide +kernel
theorem dX8_driftFrom_7 : decode cX8_driftFrom 7 = .ok (.idiv, 1) := by decide +kernel
theorem dX8_driftFrom_8 : decode cX8_driftFrom 8 = .ok (.istore 5, 2) := by decide +kernel
theorem dX8_driftFrom_10 : decode cX8_driftFrom 10 = .ok (.iload 5, 2) := by decide +kernel
theorem dX8_driftFrom_12 : decode cX8_driftFrom 12 = .ok (.ifCond .ne 4, 3) := by decide +kernel
theorem dX8_driftFrom_15 : decode cX8_driftFrom 15 = .ok (.return_, 1) := by decide +kernel
theorem dX8_driftFrom_16 : decode cX8_driftFrom 16 = .ok (.iload_n 2, 1) := by decide +kernel
theorem dX8_driftFrom_17 : decode cX8_driftFrom 17 = .ok (.iload_n 3, 1) := by decide +kernel
theorem dX8_driftFrom_18 : decode cX8_driftFrom 18 = .ok (.invokestatic 270, 3) := by decide +kernel
theorem dX8_driftFrom_21 : decode cX8_driftFrom 21 = .ok (.istore 6, 2) := by decide +kernel
theorem dX8_driftFrom_23 : decode cX8_driftFrom 23 = .ok (.iload 6, 2) := by decide +kernel
theorem dX8_driftFrom_25 : decode cX8_driftFrom 25 = .ok (.iconst (-1), 1) := by decide +kernel
theorem dX8_driftFrom_26 : decode cX8_driftFrom 26 = .ok (.if_icmp .ne 17, 3) := by decide +kernel
theorem dX8_driftFrom_29 : decode cX8_driftFrom 29 = .ok (.aload_n 1, 1) := by decide +kernel
theorem dX8_driftFrom_30 : decode cX8_driftFrom 30 = .ok (.dup, 1) := by decide +kernel
theorem dX8_driftFrom_31 : decode cX8_driftFrom 31 = .ok (.getfield 234, 3) := by decide +kernel
theorem dX8_driftFrom_34 : decode cX8_driftFrom 34 = .ok (.iload 5, 2) := by decide +kernel
theorem dX8_driftFrom_36 : decode cX8_driftFrom 36 = .ok (.iadd, 1) := by decide +kernel
theorem dX8_driftFrom_37 : decode cX8_driftFrom 37 = .ok (.putfield 234, 3) := by decide +kernel
theorem dX8_driftFrom_40 : decode cX8_driftFrom 40 = .ok (.goto 36, 3) := by decide +kernel
theorem dX8_driftFrom_43 : decode cX8_driftFrom 43 = .ok (.aload_n 0, 1) := by decide +kernel
theorem dX8_driftFrom_44 : decode cX8_driftFrom 44 = .ok (.getfield 19, 3) := by decide +kernel
theorem dX8_driftFrom_47 : decode cX8_driftFrom 47 = .ok (.iload_n 2, 1) := by decide +kernel
theorem dX8_driftFrom_48 : decode cX8_driftFrom 48 = .ok (.iload_n 3, 1) := by decide +kernel
theorem dX8_driftFrom_49 : decode cX8_driftFrom 49 = .ok (.iload 4, 2) := by decide +kernel
theorem dX8_driftFrom_51 : decode cX8_driftFrom 51 = .ok (.invokevirtual 273, 3) := by decide +kernel
theorem dX8_driftFrom_54 : decode cX8_driftFrom 54 = .ok (.ifCond .eq 10, 3) := by decide +kernel
theorem dX8_driftFrom_57 : decode cX8_driftFrom 57 = .ok (.iload 5, 2) := by decide +kernel
theorem dX8_driftFrom_59 : decode cX8_driftFrom 59 = .ok (.bipush 10, 2) := by decide +kernel
theorem dX8_driftFrom_61 : decode cX8_driftFrom 61 = .ok (.idiv, 1) := by decide +kernel
theorem dX8_driftFrom_62 : decode cX8_driftFrom 62 = .ok (.istore 5, 2) := by decide +kernel
theorem dX8_driftFrom_64 : decode cX8_driftFrom 64 = .ok (.aload_n 1, 1) := by decide +kernel
theorem dX8_driftFrom_65 : decode cX8_driftFrom 65 = .ok (.getfield 78, 3) := by decide +kernel
theorem dX8_driftFrom_68 : decode cX8_driftFrom 68 = .ok (.iload 6, 2) := by decide +kernel
theorem dX8_driftFrom_70 : decode cX8_driftFrom 70 = .ok (.dup2, 1) := by decide +kernel
theorem dX8_driftFrom_71 : decode cX8_driftFrom 71 = .ok (.iaload, 1) := by decide +kernel
theorem dX8_driftFrom_72 : decode cX8_driftFrom 72 = .ok (.iload 5, 2) := by decide +kernel
theorem dX8_driftFrom_74 : decode cX8_driftFrom 74 = .ok (.iadd, 1) := by decide +kernel
theorem dX8_driftFrom_75 : decode cX8_driftFrom 75 = .ok (.iastore, 1) := by decide +kernel
theorem dX8_driftFrom_76 : decode cX8_driftFrom 76 = .ok (.aload_n 1, 1) := by decide +kernel
theorem dX8_driftFrom_77 : decode cX8_driftFrom 77 = .ok (.getfield 78, 3) := by decide +kernel
theorem dX8_driftFrom_80 : decode cX8_driftFrom 80 = .ok (.iload_n 2, 1) := by decide +kernel
theorem dX8_driftFrom_81 : decode cX8_driftFrom 81 = .ok (.dup2, 1) := by decide +kernel
theorem dX8_driftFrom_82 : decode cX8_driftFrom 82 = .ok (.iaload, 1) := by decide +kernel
theorem dX8_driftFrom_83 : decode cX8_driftFrom 83 = .ok (.iload 5, 2) := by decide +kernel
theorem dX8_driftFrom_85 : decode cX8_driftFrom 85 = .ok (.isub, 1) := by decide +kernel
theorem dX8_driftFrom_86 : decode cX8_driftFrom 86 = .ok (.iastore, 1) := by decide +kernel
theorem dX8_driftFrom_87 : decode cX8_driftFrom 87 = .ok (.return_, 1) := by decide +kernel
theorem dX8_loseByAge_0 : decode cX8_loseByAge 0 = .ok (.iload_n 2, 1) := by decide +kernel
theorem dX8_loseByAge_1 : decode cX8_loseByAge 1 = .ok (.bipush 12, 2) := by decide +kernel
theorem dX8_loseByAge_3 : decode cX8_loseByAge 3 = .ok (.if_icmp .ge 8, 3) := by decide +kernel
theorem dX8_loseByAge_6 : decode cX8_loseByAge 6 = .ok (.bipush 30, 2) := by decide +kernel
theorem dX8_loseByAge_8 : decode cX8_loseByAge 8 = .ok (.goto 15, 3) := by decide +kernel
theorem dX8_loseByAge_11 : decode cX8_loseByAge 11 = .ok (.iload_n 2, 1) := by decide +kernel
theorem dX8_loseByAge_12 : decode cX8_loseByAge 12 = .ok (.bipush 48, 2) := by decide +kernel
theorem dX8_loseByAge_14 : decode cX8_loseByAge 14 = .ok (.if_icmp .ge 8, 3) := by decide +kernel
theorem dX8_loseByAge_17 : decode cX8_loseByAge 17 = .ok (.bipush 10, 2) := by decide +kernel
theorem dX8_loseByAge_19 : decode cX8_loseByAge 19 = .ok (.goto 4, 3) := by decide +kernel
theorem dX8_loseByAge_22 : decode cX8_loseByAge 22 = .ok (.iconst 2, 1) := by decide +kernel
theorem dX8_loseByAge_23 : decode cX8_loseByAge 23 = .ok (.istore_n 3, 1) := by decide +kernel
theorem dX8_loseByAge_24 : decode cX8_loseByAge 24 = .ok (.iconst 0, 1) := by decide +kernel
theorem dX8_loseByAge_25 : decode cX8_loseByAge 25 = .ok (.istore 4, 2) := by decide +kernel
theorem dX8_loseByAge_27 : decode cX8_loseByAge 27 = .ok (.iload 4, 2) := by decide +kernel
theorem dX8_loseByAge_29 : decode cX8_loseByAge 29 = .ok (.bipush 96, 2) := by decide +kernel
theorem dX8_loseByAge_31 : decode cX8_loseByAge 31 = .ok (.if_icmp .ge 59, 3) := by decide +kernel
theorem dX8_loseByAge_34 : decode cX8_loseByAge 34 = .ok (.aload_n 0, 1) := by decide +kernel
theorem dX8_loseByAge_35 : decode cX8_loseByAge 35 = .ok (.getfield 12, 3) := by decide +kernel
theorem dX8_loseByAge_38 : decode cX8_loseByAge 38 = .ok (.iload 4, 2) := by decide +kernel
theorem dX8_loseByAge_40 : decode cX8_loseByAge 40 = .ok (.invokevirtual 97, 3) := by decide +kernel
theorem dX8_loseByAge_43 : decode cX8_loseByAge 43 = .ok (.ifCond .eq 41, 3) := by decide +kernel
theorem dX8_loseByAge_46 : decode cX8_loseByAge 46 = .ok (.aload_n 1, 1) := by decide +kernel
theorem dX8_loseByAge_47 : decode cX8_loseByAge 47 = .ok (.getfield 78, 3) := by decide +kernel
theorem dX8_loseByAge_50 : decode cX8_loseByAge 50 = .ok (.iload 4, 2) := by decide +kernel
theorem dX8_loseByAge_52 : decode cX8_loseByAge 52 = .ok (.iaload, 1) := by decide +kernel
theorem dX8_loseByAge_53 : decode cX8_loseByAge 53 = .ok (.iload_n 3, 1) := by decide +kernel
theorem dX8_loseByAge_54 : decode cX8_loseByAge 54 = .ok (.imul, 1) := by decide +kernel
theorem dX8_loseByAge_55 : decode cX8_loseByAge 55 = .ok (.sipush 1000, 3) := by decide +kernel
theorem dX8_loseByAge_58 : decode cX8_loseByAge 58 = .ok (.idiv, 1) := by decide +kernel
theorem dX8_loseByAge_59 : decode cX8_loseByAge 59 = .ok (.istore 5, 2) := by decide +kernel
theorem dX8_loseByAge_61 : decode cX8_loseByAge 61 = .ok (.aload_n 1, 1) := by decide +kernel
theorem dX8_loseByAge_62 : decode cX8_loseByAge 62 = .ok (.getfield 78, 3) := by decide +kernel
theorem dX8_loseByAge_65 : decode cX8_loseByAge 65 = .ok (.iload 4, 2) := by decide +kernel
theorem dX8_loseByAge_67 : decode cX8_loseByAge 67 = .ok (.dup2, 1) := by decide +kernel
theorem dX8_loseByAge_68 : decode cX8_loseByAge 68 = .ok (.iaload, 1) := by decide +kernel
theorem dX8_loseByAge_69 : decode cX8_loseByAge 69 = .ok (.iload 5, 2) := by decide +kernel
theorem dX8_loseByAge_71 : decode cX8_loseByAge 71 = .ok (.isub, 1) := by decide +kernel
theorem dX8_loseByAge_72 : decode cX8_loseByAge 72 = .ok (.iastore, 1) := by decide +kernel
theorem dX8_loseByAge_73 : decode cX8_loseByAge 73 = .ok (.aload_n 1, 1) := by decide +kernel
theorem dX8_loseByAge_74 : decode cX8_loseByAge 74 = .ok (.dup, 1) := by decide +kernel
theorem dX8_loseByAge_75 : decode cX8_loseByAge 75 = .ok (.getfield 228, 3) := by decide +kernel
theorem dX8_loseByAge_78 : decode cX8_loseByAge 78 = .ok (.iload 5, 2) := by decide +kernel
theorem dX8_loseByAge_80 : decode cX8_loseByAge 80 = .ok (.iadd, 1) := by decide +kernel
theorem dX8_loseByAge_81 : decode cX8_loseByAge 81 = .ok (.putfield 228, 3) := by decide +kernel
theorem dX8_loseByAge_84 : decode cX8_loseByAge 84 = .ok (.iinc 4 1, 3) := by decide +kernel
theorem dX8_loseByAge_87 : decode cX8_loseByAge 87 = .ok (.goto (-60), 3) := by decide +kernel
theorem dX8_loseByAge_90 : decode cX8_loseByAge 90 = .ok (.return_, 1) := by decide +kernel
theorem dX8_litersAfloat_0 : decode cX8_litersAfloat 0 = .ok (.iconst 0, 1) := by decide +kernel
theorem dX8_litersAfloat_1 : decode cX8_litersAfloat 1 = .ok (.istore_n 2, 1) := by decide +kernel
theorem dX8_litersAfloat_2 : decode cX8_litersAfloat 2 = .ok (.iconst 0, 1) := by decide +kernel
theorem dX8_litersAfloat_3 : decode cX8_litersAfloat 3 = .ok (.istore_n 3, 1) := by decide +kernel
theorem dX8_litersAfloat_4 : decode cX8_litersAfloat 4 = .ok (.iload_n 3, 1) := by decide +kernel
theorem dX8_litersAfloat_5 : decode cX8_litersAfloat 5 = .ok (.bipush 96, 2) := by decide +kernel
theorem dX8_litersAfloat_7 : decode cX8_litersAfloat 7 = .ok (.if_icmp .ge 33, 3) := by decide +kernel
theorem dX8_litersAfloat_10 : decode cX8_litersAfloat 10 = .ok (.iload_n 2, 1) := by decide +kernel
theorem dX8_litersAfloat_11 : decode cX8_litersAfloat 11 = .ok (.aload_n 0, 1) := by decide +kernel
theorem dX8_litersAfloat_12 : decode cX8_litersAfloat 12 = .ok (.getfield 12, 3) := by decide +kernel
theorem dX8_litersAfloat_15 : decode cX8_litersAfloat 15 = .ok (.iload_n 3, 1) := by decide +kernel
theorem dX8_litersAfloat_16 : decode cX8_litersAfloat 16 = .ok (.invokevirtual 97, 3) := by decide +kernel
theorem dX8_litersAfloat_19 : decode cX8_litersAfloat 19 = .ok (.ifCond .eq 12, 3) := by decide +kernel
theorem dX8_litersAfloat_22 : decode cX8_litersAfloat 22 = .ok (.aload_n 1, 1) := by decide +kernel
theorem dX8_litersAfloat_23 : decode cX8_litersAfloat 23 = .ok (.getfield 78, 3) := by decide +kernel
theorem dX8_litersAfloat_26 : decode cX8_litersAfloat 26 = .ok (.iload_n 3, 1) := by decide +kernel
theorem dX8_litersAfloat_27 : decode cX8_litersAfloat 27 = .ok (.iaload, 1) := by decide +kernel
theorem dX8_litersAfloat_28 : decode cX8_litersAfloat 28 = .ok (.goto 4, 3) := by decide +kernel
theorem dX8_litersAfloat_31 : decode cX8_litersAfloat 31 = .ok (.iconst 0, 1) := by decide +kernel
theorem dX8_litersAfloat_32 : decode cX8_litersAfloat 32 = .ok (.iadd, 1) := by decide +kernel
theorem dX8_litersAfloat_33 : decode cX8_litersAfloat 33 = .ok (.istore_n 2, 1) := by decide +kernel
theorem dX8_litersAfloat_34 : decode cX8_litersAfloat 34 = .ok (.iinc 3 1, 3) := by decide +kernel
theorem dX8_litersAfloat_37 : decode cX8_litersAfloat 37 = .ok (.goto (-33), 3) := by decide +kernel
theorem dX8_litersAfloat_40 : decode cX8_litersAfloat 40 = .ok (.iload_n 2, 1) := by decide +kernel
theorem dX8_litersAfloat_41 : decode cX8_litersAfloat 41 = .ok (.ireturn, 1) := by decide +kernel
theorem dX8_litersAshore_0 : decode cX8_litersAshore 0 = .ok (.iconst 0, 1) := by decide +kernel
theorem dX8_litersAshore_1 : decode cX8_litersAshore 1 = .ok (.istore_n 2, 1) := by decide +kernel
theorem dX8_litersAshore_2 : decode cX8_litersAshore 2 = .ok (.iconst 0, 1) := by decide +kernel
theorem dX8_litersAshore_3 : decode cX8_litersAshore 3 = .ok (.istore_n 3, 1) := by decide +kernel
theorem dX8_litersAshore_4 : decode cX8_litersAshore 4 = .ok (.iload_n 3, 1) := by decide +kernel
theorem dX8_litersAshore_5 : decode cX8_litersAshore 5 = .ok (.bipush 96, 2) := by decide +kernel
theorem dX8_litersAshore_7 : decode cX8_litersAshore 7 = .ok (.if_icmp .ge 33, 3) := by decide +kernel
theorem dX8_litersAshore_10 : decode cX8_litersAshore 10 = .ok (.iload_n 2, 1) := by decide +kernel
theorem dX8_litersAshore_11 : decode cX8_litersAshore 11 = .ok (.aload_n 0, 1) := by decide +kernel
theorem dX8_litersAshore_12 : decode cX8_litersAshore 12 = .ok (.getfield 12, 3) := by decide +kernel
theorem dX8_litersAshore_15 : decode cX8_litersAshore 15 = .ok (.iload_n 3, 1) := by decide +kernel
theorem dX8_litersAshore_16 : decode cX8_litersAshore 16 = .ok (.invokevirtual 97, 3) := by decide +kernel
theorem dX8_litersAshore_19 : decode cX8_litersAshore 19 = .ok (.ifCond .eq 7, 3) := by decide +kernel
theorem dX8_litersAshore_22 : decode cX8_litersAshore 22 = .ok (.iconst 0, 1) := by decide +kernel
theorem dX8_litersAshore_23 : decode cX8_litersAshore 23 = .ok (.goto 9, 3) := by decide +kernel
theorem dX8_litersAshore_26 : decode cX8_litersAshore 26 = .ok (.aload_n 1, 1) := by decide +kernel
theorem dX8_litersAshore_27 : decode cX8_litersAshore 27 = .ok (.getfield 78, 3) := by decide +kernel
theorem dX8_litersAshore_30 : decode cX8_litersAshore 30 = .ok (.iload_n 3, 1) := by decide +kernel
theorem dX8_litersAshore_31 : decode cX8_litersAshore 31 = .ok (.iaload, 1) := by decide +kernel
theorem dX8_litersAshore_32 : decode cX8_litersAshore 32 = .ok (.iadd, 1) := by decide +kernel
theorem dX8_litersAshore_33 : decode cX8_litersAshore 33 = .ok (.istore_n 2, 1) := by decide +kernel
theorem dX8_litersAshore_34 : decode cX8_litersAshore 34 = .ok (.iinc 3 1, 3) := by decide +kernel
theorem dX8_litersAshore_37 : decode cX8_litersAshore 37 = .ok (.goto (-33), 3) := by decide +kernel
theorem dX8_litersAshore_40 : decode cX8_litersAshore 40 = .ok (.iload_n 2, 1) := by decide +kernel
theorem dX8_litersAshore_41 : decode cX8_litersAshore 41 = .ok (.ireturn, 1) := by decide +kernel
theorem dX8_harmOf_0 : decode cX8_harmOf 0 = .ok (.iconst 0, 1) := by decide +kernel
theorem dX8_harmOf_1 : decode cX8_harmOf 1 = .ok (.istore_n 2, 1) := by decide +kernel
theorem dX8_harmOf_2 : decode cX8_harmOf 2 = .ok (.iconst 0, 1) := by decide +kernel
theorem dX8_harmOf_3 : decode cX8_harmOf 3 = .ok (.istore_n 3, 1) := by decide +kernel
theorem dX8_harmOf_4 : decode cX8_harmOf 4 = .ok (.iload_n 3, 1) := by decide +kernel
theorem dX8_harmOf_5 : decode cX8_harmOf 5 = .ok (.bipush 96, 2) := by decide +kernel
theorem dX8_harmOf_7 : decode cX8_harmOf 7 = .ok (.if_icmp .ge 28, 3) := by decide +kernel
theorem dX8_harmOf_10 : decode cX8_harmOf 10 = .ok (.iload_n 2, 1) := by decide +kernel
theorem dX8_harmOf_11 : decode cX8_harmOf 11 = .ok (.aload_n 1, 1) := by decide +kernel
theorem dX8_harmOf_12 : decode cX8_harmOf 12 = .ok (.getfield 78, 3) := by decide +kernel
theorem dX8_harmOf_15 : decode cX8_harmOf 15 = .ok (.iload_n 3, 1) := by decide +kernel
theorem dX8_harmOf_16 : decode cX8_harmOf 16 = .ok (.iaload, 1) := by decide +kernel
theorem dX8_harmOf_17 : decode cX8_harmOf 17 = .ok (.aload_n 0, 1) := by decide +kernel
theorem dX8_harmOf_18 : decode cX8_harmOf 18 = .ok (.getfield 12, 3) := by decide +kernel
theorem dX8_harmOf_21 : decode cX8_harmOf 21 = .ok (.getfield 90, 3) := by decide +kernel
theorem dX8_harmOf_24 : decode cX8_harmOf 24 = .ok (.iload_n 3, 1) := by decide +kernel
theorem dX8_harmOf_25 : decode cX8_harmOf 25 = .ok (.iaload, 1) := by decide +kernel
theorem dX8_harmOf_26 : decode cX8_harmOf 26 = .ok (.imul, 1) := by decide +kernel
theorem dX8_harmOf_27 : decode cX8_harmOf 27 = .ok (.iadd, 1) := by decide +kernel
theorem dX8_harmOf_28 : decode cX8_harmOf 28 = .ok (.istore_n 2, 1) := by decide +kernel
theorem dX8_harmOf_29 : decode cX8_harmOf 29 = .ok (.iinc 3 1, 3) := by decide +kernel
theorem dX8_harmOf_32 : decode cX8_harmOf 32 = .ok (.goto (-28), 3) := by decide +kernel
theorem dX8_harmOf_35 : decode cX8_harmOf 35 = .ok (.iload_n 2, 1) := by decide +kernel
theorem dX8_harmOf_36 : decode cX8_harmOf 36 = .ok (.sipush 1000, 3) := by decide +kernel
theorem dX8_harmOf_39 : decode cX8_harmOf 39 = .ok (.idiv, 1) := by decide +kernel
theorem dX8_harmOf_40 : decode cX8_harmOf 40 = .ok (.ireturn, 1) := by decide +kernel
theorem dX8_harmAhead_0 : decode cX8_harmAhead 0 = .ok (.aload_n 0, 1) := by decide +kernel
theorem dX8_harmAhead_1 : decode cX8_harmAhead 1 = .ok (.getfield 44, 3) := by decide +kernel
theorem dX8_harmAhead_4 : decode cX8_harmAhead 4 = .ok (.iconst 0, 1) := by decide +kernel
theorem dX8_harmAhead_5 : decode cX8_harmAhead 5 = .ok (.aaload, 1) := by decide +kernel
theorem dX8_harmAhead_6 : decode cX8_harmAhead 6 = .ok (.astore_n 3, 1) := by decide +kernel
theorem dX8_harmAhead_7 : decode cX8_harmAhead 7 = .ok (.aload_n 3, 1) := by decide +kernel
theorem dX8_harmAhead_8 : decode cX8_harmAhead 8 = .ok (.aload_n 0, 1) := by decide +kernel
theorem dX8_harmAhead_9 : decode cX8_harmAhead 9 = .ok (.getfield 40, 3) := by decide +kernel
theorem dX8_harmAhead_12 : decode cX8_harmAhead 12 = .ok (.invokevirtual 187, 3) := by decide +kernel
theorem dX8_harmAhead_15 : decode cX8_harmAhead 15 = .ok (.iconst 0, 1) := by decide +kernel
theorem dX8_harmAhead_16 : decode cX8_harmAhead 16 = .ok (.istore 4, 2) := by decide +kernel
theorem dX8_harmAhead_18 : decode cX8_harmAhead 18 = .ok (.iload 4, 2) := by decide +kernel
theorem dX8_harmAhead_20 : decode cX8_harmAhead 20 = .ok (.iload_n 2, 1) := by decide +kernel
theorem dX8_harmAhead_21 : decode cX8_harmAhead 21 = .ok (.if_icmp .ge 22, 3) := by decide +kernel
theorem dX8_harmAhead_24 : decode cX8_harmAhead 24 = .ok (.aload_n 0, 1) := by decide +kernel
theorem dX8_harmAhead_25 : decode cX8_harmAhead 25 = .ok (.aload_n 3, 1) := by decide +kernel
theorem dX8_harmAhead_26 : decode cX8_harmAhead 26 = .ok (.iload_n 1, 1) := by decide +kernel
theorem dX8_harmAhead_27 : decode cX8_harmAhead 27 = .ok (.aload_n 0, 1) := by decide +kernel
theorem dX8_harmAhead_28 : decode cX8_harmAhead 28 = .ok (.getfield 74, 3) := by decide +kernel
theorem dX8_harmAhead_31 : decode cX8_harmAhead 31 = .ok (.iload 4, 2) := by decide +kernel
theorem dX8_harmAhead_33 : decode cX8_harmAhead 33 = .ok (.iadd, 1) := by decide +kernel
theorem dX8_harmAhead_34 : decode cX8_harmAhead 34 = .ok (.invokevirtual 157, 3) := by decide +kernel
theorem dX8_harmAhead_37 : decode cX8_harmAhead 37 = .ok (.iinc 4 1, 3) := by decide +kernel
theorem dX8_harmAhead_40 : decode cX8_harmAhead 40 = .ok (.goto (-22), 3) := by decide +kernel
theorem dX8_harmAhead_43 : decode cX8_harmAhead 43 = .ok (.aload_n 0, 1) := by decide +kernel
theorem dX8_harmAhead_44 : decode cX8_harmAhead 44 = .ok (.aload_n 3, 1) := by decide +kernel
theorem dX8_harmAhead_45 : decode cX8_harmAhead 45 = .ok (.invokevirtual 240, 3) := by decide +kernel
theorem dX8_harmAhead_48 : decode cX8_harmAhead 48 = .ok (.ireturn, 1) := by decide +kernel
theorem dX8_searchHour_0 : decode cX8_searchHour 0 = .ok (.iload_n 1, 1) := by decide +kernel
theorem dX8_searchHour_1 : decode cX8_searchHour 1 = .ok (.ifCond .lt 8, 3) := by decide +kernel
theorem dX8_searchHour_4 : decode cX8_searchHour 4 = .ok (.iload_n 1, 1) := by decide +kernel
theorem dX8_searchHour_5 : decode cX8_searchHour 5 = .ok (.iconst 3, 1) := by decide +kernel
theorem dX8_searchHour_6 : decode cX8_searchHour 6 = .ok (.if_icmp .lt 4, 3) := by decide +kernel
theorem dX8_searchHour_9 : decode cX8_searchHour 9 = .ok (.return_, 1) := by decide +kernel
theorem dX8_searchHour_10 : decode cX8_searchHour 10 = .ok (.aload_n 0, 1) := by decide +kernel
theorem dX8_searchHour_11 : decode cX8_searchHour 11 = .ok (.getfield 44, 3) := by decide +kernel
theorem dX8_searchHour_14 : decode cX8_searchHour 14 = .ok (.iload_n 1, 1) := by decide +kernel
theorem dX8_searchHour_15 : decode cX8_searchHour 15 = .ok (.aaload, 1) := by decide +kernel
theorem dX8_searchHour_16 : decode cX8_searchHour 16 = .ok (.astore 4, 2) := by decide +kernel
theorem dX8_searchHour_18 : decode cX8_searchHour 18 = .ok (.aload_n 0, 1) := by decide +kernel
theorem dX8_searchHour_19 : decode cX8_searchHour 19 = .ok (.aload 4, 2) := by decide +kernel
theorem dX8_searchHour_21 : decode cX8_searchHour 21 = .ok (.iconst 0, 1) := by decide +kernel
theorem dX8_searchHour_22 : decode cX8_searchHour 22 = .ok (.aload_n 0, 1) := by decide +kernel
theorem dX8_searchHour_23 : decode cX8_searchHour 23 = .ok (.getfield 74, 3) := by decide +kernel
theorem dX8_searchHour_26 : decode cX8_searchHour 26 = .ok (.iload_n 1, 1) := by decide +kernel
theorem dX8_searchHour_27 : decode cX8_searchHour 27 = .ok (.iadd, 1) := by decide +kernel
theorem dX8_searchHour_28 : decode cX8_searchHour 28 = .ok (.invokevirtual 244, 3) := by decide +kernel
theorem dX8_searchHour_31 : decode cX8_searchHour 31 = .ok (.aload_n 0, 1) := by decide +kernel
theorem dX8_searchHour_32 : decode cX8_searchHour 32 = .ok (.getfield 33, 3) := by decide +kernel
theorem dX8_searchHour_35 : decode cX8_searchHour 35 = .ok (.aload 4, 2) := by decide +kernel
theorem dX8_searchHour_37 : decode cX8_searchHour 37 = .ok (.iconst 0, 1) := by decide +kernel
theorem dX8_searchHour_38 : decode cX8_searchHour 38 = .ok (.aload_n 0, 1) := by decide +kernel
theorem dX8_searchHour_39 : decode cX8_searchHour 39 = .ok (.getfield 51, 3) := by decide +kernel
theorem dX8_searchHour_42 : decode cX8_searchHour 42 = .ok (.getfield 276, 3) := by decide +kernel
theorem dX8_searchHour_45 : decode cX8_searchHour 45 = .ok (.invokevirtual 247, 3) := by decide +kernel
theorem dX8_searchHour_48 : decode cX8_searchHour 48 = .ok (.aload_n 0, 1) := by decide +kernel
theorem dX8_searchHour_49 : decode cX8_searchHour 49 = .ok (.getfield 33, 3) := by decide +kernel
theorem dX8_searchHour_52 : decode cX8_searchHour 52 = .ok (.getfield 126, 3) := by decide +kernel
theorem dX8_searchHour_55 : decode cX8_searchHour 55 = .ok (.aload_n 0, 1) := by decide +kernel
theorem dX8_searchHour_56 : decode cX8_searchHour 56 = .ok (.getfield 51, 3) := by decide +kernel
theorem dX8_searchHour_59 : decode cX8_searchHour 59 = .ok (.getfield 276, 3) := by decide +kernel
theorem dX8_searchHour_62 : decode cX8_searchHour 62 = .ok (.aaload, 1) := by decide +kernel
theorem dX8_searchHour_63 : decode cX8_searchHour 63 = .ok (.astore 5, 2) := by decide +kernel
theorem dX8_searchHour_65 : decode cX8_searchHour 65 = .ok (.aload 5, 2) := by decide +kernel
theorem dX8_searchHour_67 : decode cX8_searchHour 67 = .ok (.getfield 279, 3) := by decide +kernel
theorem dX8_searchHour_70 : decode cX8_searchHour 70 = .ok (.aload_n 0, 1) := by decide +kernel
theorem dX8_searchHour_71 : decode cX8_searchHour 71 = .ok (.getfield 51, 3) := by decide +kernel
theorem dX8_searchHour_74 : decode cX8_searchHour 74 = .ok (.getfield 282, 3) := by decide +kernel
theorem dX8_searchHour_77 : decode cX8_searchHour 77 = .ok (.iload_n 1, 1) := by decide +kernel
theorem dX8_searchHour_78 : decode cX8_searchHour 78 = .ok (.isub, 1) := by decide +kernel
theorem dX8_searchHour_79 : decode cX8_searchHour 79 = .ok (.iconst 1, 1) := by decide +kernel
theorem dX8_searchHour_80 : decode cX8_searchHour 80 = .ok (.isub, 1) := by decide +kernel
theorem dX8_searchHour_81 : decode cX8_searchHour 81 = .ok (.imul, 1) := by decide +kernel
theorem dX8_searchHour_82 : decode cX8_searchHour 82 = .ok (.istore 6, 2) := by decide +kernel
theorem dX8_searchHour_84 : decode cX8_searchHour 84 = .ok (.aload_n 0, 1) := by decide +kernel
theorem dX8_searchHour_85 : decode cX8_searchHour 85 = .ok (.aload 4, 2) := by decide +kernel
theorem dX8_searchHour_87 : decode cX8_searchHour 87 = .ok (.invokevirtual 224, 3) := by decide +kernel
theorem dX8_searchHour_90 : decode cX8_searchHour 90 = .ok (.aload_n 0, 1) := by decide +kernel
theorem dX8_searchHour_91 : decode cX8_searchHour 91 = .ok (.getfield 33, 3) := by decide +kernel
theorem dX8_searchHour_94 : decode cX8_searchHour 94 = .ok (.aload 4, 2) := by decide +kernel
theorem dX8_searchHour_96 : decode cX8_searchHour 96 = .ok (.aload_n 0, 1) := by decide +kernel
theorem dX8_searchHour_97 : decode cX8_searchHour 97 = .ok (.getfield 51, 3) := by decide +kernel
theorem dX8_searchHour_100 : decode cX8_searchHour 100 = .ok (.getfield 276, 3) := by decide +kernel
theorem dX8_searchHour_103 : decode cX8_searchHour 103 = .ok (.invokevirtual 285, 3) := by decide +kernel
theorem dX8_searchHour_106 : decode cX8_searchHour 106 = .ok (.invokestatic 152, 3) := by decide +kernel
theorem dX8_searchHour_109 : decode cX8_searchHour 109 = .ok (.istore 7, 2) := by decide +kernel
theorem dX8_searchHour_111 : decode cX8_searchHour 111 = .ok (.iconst 0, 1) := by decide +kernel
theorem dX8_searchHour_112 : decode cX8_searchHour 112 = .ok (.istore 8, 2) := by decide +kernel
theorem dX8_searchHour_114 : decode cX8_searchHour 114 = .ok (.iload 8, 2) := by decide +kernel
theorem dX8_searchHour_116 : decode cX8_searchHour 116 = .ok (.bipush 96, 2) := by decide +kernel
theorem dX8_searchHour_118 : decode cX8_searchHour 118 = .ok (.if_icmp .ge 83, 3) := by decide +kernel
theorem dX8_searchHour_121 : decode cX8_searchHour 121 = .ok (.aload_n 0, 1) := by decide +kernel
theorem dX8_searchHour_122 : decode cX8_searchHour 122 = .ok (.getfield 12, 3) := by decide +kernel
theorem dX8_searchHour_125 : decode cX8_searchHour 125 = .ok (.iload_n 2, 1) := by decide +kernel
theorem dX8_searchHour_126 : decode cX8_searchHour 126 = .ok (.iload 8, 2) := by decide +kernel
theorem dX8_searchHour_128 : decode cX8_searchHour 128 = .ok (.aload 5, 2) := by decide +kernel
theorem dX8_searchHour_130 : decode cX8_searchHour 130 = .ok (.getfield 139, 3) := by decide +kernel
theorem dX8_searchHour_133 : decode cX8_searchHour 133 = .ok (.invokestatic 142, 3) := by decide +kernel
theorem dX8_searchHour_136 : decode cX8_searchHour 136 = .ok (.ifCond .ne 6, 3) := by decide +kernel
theorem dX8_searchHour_139 : decode cX8_searchHour 139 = .ok (.goto 56, 3) := by decide +kernel
theorem dX8_searchHour_142 : decode cX8_searchHour 142 = .ok (.aload_n 0, 1) := by decide +kernel
theorem dX8_searchHour_143 : decode cX8_searchHour 143 = .ok (.getfield 33, 3) := by decide +kernel
theorem dX8_searchHour_146 : decode cX8_searchHour 146 = .ok (.aload 4, 2) := by decide +kernel
theorem dX8_searchHour_148 : decode cX8_searchHour 148 = .ok (.aload_n 0, 1) := by decide +kernel
theorem dX8_searchHour_149 : decode cX8_searchHour 149 = .ok (.getfield 51, 3) := by decide +kernel
theorem dX8_searchHour_152 : decode cX8_searchHour 152 = .ok (.getfield 276, 3) := by decide +kernel
theorem dX8_searchHour_155 : decode cX8_searchHour 155 = .ok (.iload 8, 2) := by decide +kernel
theorem dX8_searchHour_157 : decode cX8_searchHour 157 = .ok (.invokevirtual 289, 3) := by decide +kernel
theorem dX8_searchHour_160 : decode cX8_searchHour 160 = .ok (.istore 9, 2) := by decide +kernel
theorem dX8_searchHour_162 : decode cX8_searchHour 162 = .ok (.iload_n 3, 1) := by decide +kernel
theorem dX8_searchHour_163 : decode cX8_searchHour 163 = .ok (.iload 9, 2) := by decide +kernel
theorem dX8_searchHour_165 : decode cX8_searchHour 165 = .ok (.iload 6, 2) := by decide +kernel
theorem dX8_searchHour_167 : decode cX8_searchHour 167 = .ok (.iadd, 1) := by decide +kernel
theorem dX8_searchHour_168 : decode cX8_searchHour 168 = .ok (.iload 7, 2) := by decide +kernel
theorem dX8_searchHour_170 : decode cX8_searchHour 170 = .ok (.invokestatic 152, 3) := by decide +kernel
theorem dX8_searchHour_173 : decode cX8_searchHour 173 = .ok (.iadd, 1) := by decide +kernel
theorem dX8_searchHour_174 : decode cX8_searchHour 174 = .ok (.aload_n 0, 1) := by decide +kernel
theorem dX8_searchHour_175 : decode cX8_searchHour 175 = .ok (.getfield 51, 3) := by decide +kernel
theorem dX8_searchHour_178 : decode cX8_searchHour 178 = .ok (.getfield 195, 3) := by decide +kernel
theorem dX8_searchHour_181 : decode cX8_searchHour 181 = .ok (.if_icmp .le 14, 3) := by decide +kernel
theorem dX8_searchHour_184 : decode cX8_searchHour 184 = .ok (.aload_n 0, 1) := by decide +kernel
theorem dX8_searchHour_185 : decode cX8_searchHour 185 = .ok (.iload_n 1, 1) := by decide +kernel
theorem dX8_searchHour_186 : decode cX8_searchHour 186 = .ok (.iload 8, 2) := by decide +kernel
theorem dX8_searchHour_188 : decode cX8_searchHour 188 = .ok (.iload_n 3, 1) := by decide +kernel
theorem dX8_searchHour_189 : decode cX8_searchHour 189 = .ok (.iload 9, 2) := by decide +kernel
theorem dX8_searchHour_191 : decode cX8_searchHour 191 = .ok (.iadd, 1) := by decide +kernel
theorem dX8_searchHour_192 : decode cX8_searchHour 192 = .ok (.invokevirtual 293, 3) := by decide +kernel
theorem dX8_searchHour_195 : decode cX8_searchHour 195 = .ok (.iinc 8 1, 3) := by decide +kernel
theorem dX8_searchHour_198 : decode cX8_searchHour 198 = .ok (.goto (-84), 3) := by decide +kernel
theorem dX8_searchHour_201 : decode cX8_searchHour 201 = .ok (.return_, 1) := by decide +kernel
theorem dX8_searchFrom_0 : decode cX8_searchFrom 0 = .ok (.iload_n 1, 1) := by decide +kernel
theorem dX8_searchFrom_1 : decode cX8_searchFrom 1 = .ok (.ifCond .ne 11, 3) := by decide +kernel
theorem dX8_searchFrom_4 : decode cX8_searchFrom 4 = .ok (.aload_n 0, 1) := by decide +kernel
theorem dX8_searchFrom_5 : decode cX8_searchFrom 5 = .ok (.getfield 51, 3) := by decide +kernel
theorem dX8_searchFrom_8 : decode cX8_searchFrom 8 = .ok (.iload_n 2, 1) := by decide +kernel
theorem dX8_searchFrom_9 : decode cX8_searchFrom 9 = .ok (.putfield 296, 3) := by decide +kernel
theorem dX8_searchFrom_12 : decode cX8_searchFrom 12 = .ok (.iload_n 1, 1) := by decide +kernel
theorem dX8_searchFrom_13 : decode cX8_searchFrom 13 = .ok (.iconst 1, 1) := by decide +kernel
theorem dX8_searchFrom_14 : decode cX8_searchFrom 14 = .ok (.iadd, 1) := by decide +kernel
theorem dX8_searchFrom_15 : decode cX8_searchFrom 15 = .ok (.istore 4, 2) := by decide +kernel
theorem dX8_searchFrom_17 : decode cX8_searchFrom 17 = .ok (.iload 4, 2) := by decide +kernel
theorem dX8_searchFrom_19 : decode cX8_searchFrom 19 = .ok (.aload_n 0, 1) := by decide +kernel
theorem dX8_searchFrom_20 : decode cX8_searchFrom 20 = .ok (.getfield 51, 3) := by decide +kernel
theorem dX8_searchFrom_23 : decode cX8_searchFrom 23 = .ok (.getfield 282, 3) := by decide +kernel
theorem dX8_searchFrom_26 : decode cX8_searchFrom 26 = .ok (.if_icmp .ge 9, 3) := by decide +kernel
theorem dX8_searchFrom_29 : decode cX8_searchFrom 29 = .ok (.iload 4, 2) := by decide +kernel
theorem dX8_searchFrom_31 : decode cX8_searchFrom 31 = .ok (.iconst 3, 1) := by decide +kernel
theorem dX8_searchFrom_32 : decode cX8_searchFrom 32 = .ok (.if_icmp .lt 26, 3) := by decide +kernel
theorem dX8_searchFrom_35 : decode cX8_searchFrom 35 = .ok (.aload_n 0, 1) := by decide +kernel
theorem dX8_searchFrom_36 : decode cX8_searchFrom 36 = .ok (.getfield 51, 3) := by decide +kernel
theorem dX8_searchFrom_39 : decode cX8_searchFrom 39 = .ok (.iload_n 3, 1) := by decide +kernel
theorem dX8_searchFrom_40 : decode cX8_searchFrom 40 = .ok (.putfield 195, 3) := by decide +kernel
theorem dX8_searchFrom_43 : decode cX8_searchFrom 43 = .ok (.aload_n 0, 1) := by decide +kernel
theorem dX8_searchFrom_44 : decode cX8_searchFrom 44 = .ok (.getfield 51, 3) := by decide +kernel
theorem dX8_searchFrom_47 : decode cX8_searchFrom 47 = .ok (.aload_n 0, 1) := by decide +kernel
theorem dX8_searchFrom_48 : decode cX8_searchFrom 48 = .ok (.getfield 51, 3) := by decide +kernel
theorem dX8_searchFrom_51 : decode cX8_searchFrom 51 = .ok (.getfield 296, 3) := by decide +kernel
theorem dX8_searchFrom_54 : decode cX8_searchFrom 54 = .ok (.putfield 198, 3) := by decide +kernel
theorem dX8_searchFrom_57 : decode cX8_searchFrom 57 = .ok (.return_, 1) := by decide +kernel
theorem dX8_searchFrom_58 : decode cX8_searchFrom 58 = .ok (.aload_n 0, 1) := by decide +kernel
theorem dX8_searchFrom_59 : decode cX8_searchFrom 59 = .ok (.getfield 44, 3) := by decide +kernel
theorem dX8_searchFrom_62 : decode cX8_searchFrom 62 = .ok (.iload 4, 2) := by decide +kernel
theorem dX8_searchFrom_64 : decode cX8_searchFrom 64 = .ok (.aaload, 1) := by decide +kernel
theorem dX8_searchFrom_65 : decode cX8_searchFrom 65 = .ok (.aload_n 0, 1) := by decide +kernel
theorem dX8_searchFrom_66 : decode cX8_searchFrom 66 = .ok (.getfield 44, 3) := by decide +kernel
theorem dX8_searchFrom_69 : decode cX8_searchFrom 69 = .ok (.iload_n 1, 1) := by decide +kernel
theorem dX8_searchFrom_70 : decode cX8_searchFrom 70 = .ok (.aaload, 1) := by decide +kernel
theorem dX8_searchFrom_71 : decode cX8_searchFrom 71 = .ok (.invokevirtual 187, 3) := by decide +kernel
theorem dX8_searchFrom_74 : decode cX8_searchFrom 74 = .ok (.aload_n 0, 1) := by decide +kernel
theorem dX8_searchFrom_75 : decode cX8_searchFrom 75 = .ok (.getfield 33, 3) := by decide +kernel
theorem dX8_searchFrom_78 : decode cX8_searchFrom 78 = .ok (.aload_n 0, 1) := by decide +kernel
theorem dX8_searchFrom_79 : decode cX8_searchFrom 79 = .ok (.getfield 44, 3) := by decide +kernel
theorem dX8_searchFrom_82 : decode cX8_searchFrom 82 = .ok (.iload 4, 2) := by decide +kernel
theorem dX8_searchFrom_84 : decode cX8_searchFrom 84 = .ok (.aaload, 1) := by decide +kernel
theorem dX8_searchFrom_85 : decode cX8_searchFrom 85 = .ok (.aload_n 0, 1) := by decide +kernel
theorem dX8_searchFrom_86 : decode cX8_searchFrom 86 = .ok (.getfield 51, 3) := by decide +kernel
theorem dX8_searchFrom_89 : decode cX8_searchFrom 89 = .ok (.getfield 276, 3) := by decide +kernel
theorem dX8_searchFrom_92 : decode cX8_searchFrom 92 = .ok (.iload_n 2, 1) := by decide +kernel
theorem dX8_searchFrom_93 : decode cX8_searchFrom 93 = .ok (.invokevirtual 299, 3) := by decide +kernel
theorem dX8_searchFrom_96 : decode cX8_searchFrom 96 = .ok (.aload_n 0, 1) := by decide +kernel
theorem dX8_searchFrom_97 : decode cX8_searchFrom 97 = .ok (.getfield 33, 3) := by decide +kernel
theorem dX8_searchFrom_100 : decode cX8_searchFrom 100 = .ok (.aload_n 0, 1) := by decide +kernel
theorem dX8_searchFrom_101 : decode cX8_searchFrom 101 = .ok (.getfield 44, 3) := by decide +kernel
theorem dX8_searchFrom_104 : decode cX8_searchFrom 104 = .ok (.iload 4, 2) := by decide +kernel
theorem dX8_searchFrom_106 : decode cX8_searchFrom 106 = .ok (.aaload, 1) := by decide +kernel
theorem dX8_searchFrom_107 : decode cX8_searchFrom 107 = .ok (.aload_n 0, 1) := by decide +kernel
theorem dX8_searchFrom_108 : decode cX8_searchFrom 108 = .ok (.getfield 51, 3) := by decide +kernel
theorem dX8_searchFrom_111 : decode cX8_searchFrom 111 = .ok (.getfield 276, 3) := by decide +kernel
theorem dX8_searchFrom_114 : decode cX8_searchFrom 114 = .ok (.iconst 1, 1) := by decide +kernel
theorem dX8_searchFrom_115 : decode cX8_searchFrom 115 = .ok (.iadd, 1) := by decide +kernel
theorem dX8_searchFrom_116 : decode cX8_searchFrom 116 = .ok (.aload_n 0, 1) := by decide +kernel
theorem dX8_searchFrom_117 : decode cX8_searchFrom 117 = .ok (.getfield 33, 3) := by decide +kernel
theorem dX8_searchFrom_120 : decode cX8_searchFrom 120 = .ok (.getfield 171, 3) := by decide +kernel
theorem dX8_searchFrom_123 : decode cX8_searchFrom 123 = .ok (.invokevirtual 247, 3) := by decide +kernel
theorem dX8_searchFrom_126 : decode cX8_searchFrom 126 = .ok (.aload_n 0, 1) := by decide +kernel
theorem dX8_searchFrom_127 : decode cX8_searchFrom 127 = .ok (.iload 4, 2) := by decide +kernel
theorem dX8_searchFrom_129 : decode cX8_searchFrom 129 = .ok (.iload_n 2, 1) := by decide +kernel
theorem dX8_searchFrom_130 : decode cX8_searchFrom 130 = .ok (.iload_n 3, 1) := by decide +kernel
theorem dX8_searchFrom_131 : decode cX8_searchFrom 131 = .ok (.invokevirtual 191, 3) := by decide +kernel
theorem dX8_searchFrom_134 : decode cX8_searchFrom 134 = .ok (.return_, 1) := by decide +kernel
theorem dX8_isWayOverSea_0 : decode cX8_isWayOverSea 0 = .ok (.iload_n 3, 1) := by decide +kernel
theorem dX8_isWayOverSea_1 : decode cX8_isWayOverSea 1 = .ok (.ifCond .lt 28, 3) := by decide +kernel
theorem dX8_isWayOverSea_4 : decode cX8_isWayOverSea 4 = .ok (.aload_n 0, 1) := by decide +kernel
theorem dX8_isWayOverSea_5 : decode cX8_isWayOverSea 5 = .ok (.iload_n 1, 1) := by decide +kernel
theorem dX8_isWayOverSea_6 : decode cX8_isWayOverSea 6 = .ok (.invokevirtual 97, 3) := by decide +kernel
theorem dX8_isWayOverSea_9 : decode cX8_isWayOverSea 9 = .ok (.ifCond .eq 20, 3) := by decide +kernel
theorem dX8_isWayOverSea_12 : decode cX8_isWayOverSea 12 = .ok (.aload_n 0, 1) := by decide +kernel
theorem dX8_isWayOverSea_13 : decode cX8_isWayOverSea 13 = .ok (.iload_n 2, 1) := by decide +kernel
theorem dX8_isWayOverSea_14 : decode cX8_isWayOverSea 14 = .ok (.invokevirtual 97, 3) := by decide +kernel
theorem dX8_isWayOverSea_17 : decode cX8_isWayOverSea 17 = .ok (.ifCond .eq 12, 3) := by decide +kernel
theorem dX8_isWayOverSea_20 : decode cX8_isWayOverSea 20 = .ok (.iload_n 1, 1) := by decide +kernel
theorem dX8_isWayOverSea_21 : decode cX8_isWayOverSea 21 = .ok (.iload_n 2, 1) := by decide +kernel
theorem dX8_isWayOverSea_22 : decode cX8_isWayOverSea 22 = .ok (.invokestatic 302, 3) := by decide +kernel
theorem dX8_isWayOverSea_25 : decode cX8_isWayOverSea 25 = .ok (.iload_n 3, 1) := by decide +kernel
theorem dX8_isWayOverSea_26 : decode cX8_isWayOverSea 26 = .ok (.if_icmp .le 5, 3) := by decide +kernel
theorem dX8_isWayOverSea_29 : decode cX8_isWayOverSea 29 = .ok (.iconst 0, 1) := by decide +kernel
theorem dX8_isWayOverSea_30 : decode cX8_isWayOverSea 30 = .ok (.ireturn, 1) := by decide +kernel
theorem dX8_isWayOverSea_31 : decode cX8_isWayOverSea 31 = .ok (.iload_n 1, 1) := by decide +kernel
theorem dX8_isWayOverSea_32 : decode cX8_isWayOverSea 32 = .ok (.iload_n 2, 1) := by decide +kernel
theorem dX8_isWayOverSea_33 : decode cX8_isWayOverSea 33 = .ok (.if_icmp .ne 5, 3) := by decide +kernel
theorem dX8_isWayOverSea_36 : decode cX8_isWayOverSea 36 = .ok (.iconst 1, 1) := by decide +kernel
theorem dX8_isWayOverSea_37 : decode cX8_isWayOverSea 37 = .ok (.ireturn, 1) := by decide +kernel
theorem dX8_isWayOverSea_38 : decode cX8_isWayOverSea 38 = .ok (.iconst 1, 1) := by decide +kernel
theorem dX8_isWayOverSea_39 : decode cX8_isWayOverSea 39 = .ok (.istore 4, 2) := by decide +kernel
theorem dX8_isWayOverSea_41 : decode cX8_isWayOverSea 41 = .ok (.iload 4, 2) := by decide +kernel
theorem dX8_isWayOverSea_43 : decode cX8_isWayOverSea 43 = .ok (.iconst 4, 1) := by decide +kernel
theorem dX8_isWayOverSea_44 : decode cX8_isWayOverSea 44 = .ok (.if_icmp .gt 28, 3) := by decide +kernel
theorem dX8_isWayOverSea_47 : decode cX8_isWayOverSea 47 = .ok (.aload_n 0, 1) := by decide +kernel
theorem dX8_isWayOverSea_48 : decode cX8_isWayOverSea 48 = .ok (.iload_n 1, 1) := by decide +kernel
theorem dX8_isWayOverSea_49 : decode cX8_isWayOverSea 49 = .ok (.iload 4, 2) := by decide +kernel
theorem dX8_isWayOverSea_51 : decode cX8_isWayOverSea 51 = .ok (.invokestatic 270, 3) := by decide +kernel
theorem dX8_isWayOverSea_54 : decode cX8_isWayOverSea 54 = .ok (.iload_n 2, 1) := by decide +kernel
theorem dX8_isWayOverSea_55 : decode cX8_isWayOverSea 55 = .ok (.iload_n 3, 1) := by decide +kernel
theorem dX8_isWayOverSea_56 : decode cX8_isWayOverSea 56 = .ok (.iconst 1, 1) := by decide +kernel
theorem dX8_isWayOverSea_57 : decode cX8_isWayOverSea 57 = .ok (.isub, 1) := by decide +kernel
theorem dX8_isWayOverSea_58 : decode cX8_isWayOverSea 58 = .ok (.invokestatic 142, 3) := by decide +kernel
theorem dX8_isWayOverSea_61 : decode cX8_isWayOverSea 61 = .ok (.ifCond .eq 5, 3) := by decide +kernel
theorem dX8_isWayOverSea_64 : decode cX8_isWayOverSea 64 = .ok (.iconst 1, 1) := by decide +kernel
theorem dX8_isWayOverSea_65 : decode cX8_isWayOverSea 65 = .ok (.ireturn, 1) := by decide +kernel
theorem dX8_isWayOverSea_66 : decode cX8_isWayOverSea 66 = .ok (.iinc 4 1, 3) := by decide +kernel
theorem dX8_isWayOverSea_69 : decode cX8_isWayOverSea 69 = .ok (.goto (-28), 3) := by decide +kernel
theorem dX8_isWayOverSea_72 : decode cX8_isWayOverSea 72 = .ok (.iconst 0, 1) := by decide +kernel
theorem dX8_isWayOverSea_73 : decode cX8_isWayOverSea 73 = .ok (.ireturn, 1) := by decide +kernel
theorem dX8_shipLeftAt_0 : decode cX8_shipLeftAt 0 = .ok (.iconst 0, 1) := by decide +kernel
theorem dX8_shipLeftAt_1 : decode cX8_shipLeftAt 1 = .ok (.istore_n 2, 1) := by decide +kernel
theorem dX8_shipLeftAt_2 : decode cX8_shipLeftAt 2 = .ok (.iload_n 2, 1) := by decide +kernel
theorem dX8_shipLeftAt_3 : decode cX8_shipLeftAt 3 = .ok (.aload_n 0, 1) := by decide +kernel
theorem dX8_shipLeftAt_4 : decode cX8_shipLeftAt 4 = .ok (.getfield 161, 3) := by decide +kernel
theorem dX8_shipLeftAt_7 : decode cX8_shipLeftAt 7 = .ok (.if_icmp .ge 24, 3) := by decide +kernel
theorem dX8_shipLeftAt_10 : decode cX8_shipLeftAt 10 = .ok (.aload_n 0, 1) := by decide +kernel
theorem dX8_shipLeftAt_11 : decode cX8_shipLeftAt 11 = .ok (.getfield 57, 3) := by decide +kernel
theorem dX8_shipLeftAt_14 : decode cX8_shipLeftAt 14 = .ok (.iload_n 2, 1) := by decide +kernel
theorem dX8_shipLeftAt_15 : decode cX8_shipLeftAt 15 = .ok (.aaload, 1) := by decide +kernel
theorem dX8_shipLeftAt_16 : decode cX8_shipLeftAt 16 = .ok (.getfield 205, 3) := by decide +kernel
theorem dX8_shipLeftAt_19 : decode cX8_shipLeftAt 19 = .ok (.iload_n 1, 1) := by decide +kernel
theorem dX8_shipLeftAt_20 : decode cX8_shipLeftAt 20 = .ok (.if_icmp .ne 5, 3) := by decide +kernel
theorem dX8_shipLeftAt_23 : decode cX8_shipLeftAt 23 = .ok (.iconst 1, 1) := by decide +kernel
theorem dX8_shipLeftAt_24 : decode cX8_shipLeftAt 24 = .ok (.ireturn, 1) := by decide +kernel
theorem dX8_shipLeftAt_25 : decode cX8_shipLeftAt 25 = .ok (.iinc 2 1, 3) := by decide +kernel
theorem dX8_shipLeftAt_28 : decode cX8_shipLeftAt 28 = .ok (.goto (-26), 3) := by decide +kernel
theorem dX8_shipLeftAt_31 : decode cX8_shipLeftAt 31 = .ok (.iconst 0, 1) := by decide +kernel
theorem dX8_shipLeftAt_32 : decode cX8_shipLeftAt 32 = .ok (.ireturn, 1) := by decide +kernel
theorem dX8_spreadPossible_0 : decode cX8_spreadPossible 0 = .ok (.aload_n 0, 1) := by decide +kernel
theorem dX8_spreadPossible_1 : decode cX8_spreadPossible 1 = .ok (.getfield 26, 3) := by decide +kernel
theorem dX8_spreadPossible_4 : decode cX8_spreadPossible 4 = .ok (.iconst 0, 1) := by decide +kernel
theorem dX8_spreadPossible_5 : decode cX8_spreadPossible 5 = .ok (.iload_n 2, 1) := by decide +kernel
theorem dX8_spreadPossible_6 : decode cX8_spreadPossible 6 = .ok (.invokevirtual 250, 3) := by decide +kernel
theorem dX8_spreadPossible_9 : decode cX8_spreadPossible 9 = .ok (.istore_n 3, 1) := by decide +kernel
theorem dX8_spreadPossible_10 : decode cX8_spreadPossible 10 = .ok (.iconst 0, 1) := by decide +kernel
theorem dX8_spreadPossible_11 : decode cX8_spreadPossible 11 = .ok (.istore 4, 2) := by decide +kernel
theorem dX8_spreadPossible_13 : decode cX8_spreadPossible 13 = .ok (.iload 4, 2) := by decide +kernel
theorem dX8_spreadPossible_15 : decode cX8_spreadPossible 15 = .ok (.bipush 96, 2) := by decide +kernel
theorem dX8_spreadPossible_17 : decode cX8_spreadPossible 17 = .ok (.if_icmp .ge 59, 3) := by decide +kernel
theorem dX8_spreadPossible_20 : decode cX8_spreadPossible 20 = .ok (.iload_n 3, 1) := by decide +kernel
theorem dX8_spreadPossible_21 : decode cX8_spreadPossible 21 = .ok (.ifCond .eq 55, 3) := by decide +kernel
theorem dX8_spreadPossible_24 : decode cX8_spreadPossible 24 = .ok (.iload 4, 2) := by decide +kernel
theorem dX8_spreadPossible_26 : decode cX8_spreadPossible 26 = .ok (.iload_n 3, 1) := by decide +kernel
theorem dX8_spreadPossible_27 : decode cX8_spreadPossible 27 = .ok (.invokestatic 263, 3) := by decide +kernel
theorem dX8_spreadPossible_30 : decode cX8_spreadPossible 30 = .ok (.istore 5, 2) := by decide +kernel
theorem dX8_spreadPossible_32 : decode cX8_spreadPossible 32 = .ok (.iload 5, 2) := by decide +kernel
theorem dX8_spreadPossible_34 : decode cX8_spreadPossible 34 = .ok (.iload_n 3, 1) := by decide +kernel
theorem dX8_spreadPossible_35 : decode cX8_spreadPossible 35 = .ok (.invokestatic 270, 3) := by decide +kernel
theorem dX8_spreadPossible_38 : decode cX8_spreadPossible 38 = .ok (.istore 6, 2) := by decide +kernel
theorem dX8_spreadPossible_40 : decode cX8_spreadPossible 40 = .ok (.aload_n 1, 1) := by decide +kernel
theorem dX8_spreadPossible_41 : decode cX8_spreadPossible 41 = .ok (.getfield 206, 3) := by decide +kernel
theorem dX8_spreadPossible_44 : decode cX8_spreadPossible 44 = .ok (.iload 5, 2) := by decide +kernel
theorem dX8_spreadPossible_46 : decode cX8_spreadPossible 46 = .ok (.baload, 1) := by decide +kernel
theorem dX8_spreadPossible_47 : decode cX8_spreadPossible 47 = .ok (.ifCond .eq 23, 3) := by decide +kernel
theorem dX8_spreadPossible_50 : decode cX8_spreadPossible 50 = .ok (.aload_n 0, 1) := by decide +kernel
theorem dX8_spreadPossible_51 : decode cX8_spreadPossible 51 = .ok (.getfield 12, 3) := by decide +kernel
theorem dX8_spreadPossible_54 : decode cX8_spreadPossible 54 = .ok (.iload 6, 2) := by decide +kernel
theorem dX8_spreadPossible_56 : decode cX8_spreadPossible 56 = .ok (.invokevirtual 97, 3) := by decide +kernel
theorem dX8_spreadPossible_59 : decode cX8_spreadPossible 59 = .ok (.ifCond .eq 11, 3) := by decide +kernel
theorem dX8_spreadPossible_62 : decode cX8_spreadPossible 62 = .ok (.aload_n 1, 1) := by decide +kernel
theorem dX8_spreadPossible_63 : decode cX8_spreadPossible 63 = .ok (.getfield 206, 3) := by decide +kernel
theorem dX8_spreadPossible_66 : decode cX8_spreadPossible 66 = .ok (.iload 6, 2) := by decide +kernel
theorem dX8_spreadPossible_68 : decode cX8_spreadPossible 68 = .ok (.iconst 1, 1) := by decide +kernel
theorem dX8_spreadPossible_69 : decode cX8_spreadPossible 69 = .ok (.bastore, 1) := by decide +kernel
theorem dX8_spreadPossible_70 : decode cX8_spreadPossible 70 = .ok (.iinc 4 1, 3) := by decide +kernel
theorem dX8_spreadPossible_73 : decode cX8_spreadPossible 73 = .ok (.goto (-60), 3) := by decide +kernel
theorem dX8_spreadPossible_76 : decode cX8_spreadPossible 76 = .ok (.return_, 1) := by decide +kernel
theorem dX8_isDoubtful_0 : decode cX8_isDoubtful 0 = .ok (.iconst 0, 1) := by decide +kernel
theorem dX8_isDoubtful_1 : decode cX8_isDoubtful 1 = .ok (.istore 5, 2) := by decide +kernel
theorem dX8_isDoubtful_3 : decode cX8_isDoubtful 3 = .ok (.iload 5, 2) := by decide +kernel
theorem dX8_isDoubtful_5 : decode cX8_isDoubtful 5 = .ok (.aload_n 0, 1) := by decide +kernel
theorem dX8_isDoubtful_6 : decode cX8_isDoubtful 6 = .ok (.getfield 161, 3) := by decide +kernel
theorem dX8_isDoubtful_9 : decode cX8_isDoubtful 9 = .ok (.if_icmp .ge 51, 3) := by decide +kernel
theorem dX8_isDoubtful_12 : decode cX8_isDoubtful 12 = .ok (.iload 5, 2) := by decide +kernel
theorem dX8_isDoubtful_14 : decode cX8_isDoubtful 14 = .ok (.iload_n 1, 1) := by decide +kernel
theorem dX8_isDoubtful_15 : decode cX8_isDoubtful 15 = .ok (.if_icmp .eq 39, 3) := by decide +kernel
theorem dX8_isDoubtful_18 : decode cX8_isDoubtful 18 = .ok (.aload_n 0, 1) := by decide +kernel
theorem dX8_isDoubtful_19 : decode cX8_isDoubtful 19 = .ok (.getfield 57, 3) := by decide +kernel
theorem dX8_isDoubtful_22 : decode cX8_isDoubtful 22 = .ok (.iload 5, 2) := by decide +kernel
theorem dX8_isDoubtful_24 : decode cX8_isDoubtful 24 = .ok (.aaload, 1) := by decide +kernel
theorem dX8_isDoubtful_25 : decode cX8_isDoubtful 25 = .ok (.getfield 206, 3) := by decide +kernel
theorem dX8_isDoubtful_28 : decode cX8_isDoubtful 28 = .ok (.iload_n 3, 1) := by decide +kernel
theorem dX8_isDoubtful_29 : decode cX8_isDoubtful 29 = .ok (.baload, 1) := by decide +kernel
theorem dX8_isDoubtful_30 : decode cX8_isDoubtful 30 = .ok (.ifCond .eq 24, 3) := by decide +kernel
theorem dX8_isDoubtful_33 : decode cX8_isDoubtful 33 = .ok (.aload_n 0, 1) := by decide +kernel
theorem dX8_isDoubtful_34 : decode cX8_isDoubtful 34 = .ok (.getfield 57, 3) := by decide +kernel
theorem dX8_isDoubtful_37 : decode cX8_isDoubtful 37 = .ok (.iload 5, 2) := by decide +kernel
theorem dX8_isDoubtful_39 : decode cX8_isDoubtful 39 = .ok (.aaload, 1) := by decide +kernel
theorem dX8_isDoubtful_40 : decode cX8_isDoubtful 40 = .ok (.getfield 202, 3) := by decide +kernel
theorem dX8_isDoubtful_43 : decode cX8_isDoubtful 43 = .ok (.iload 4, 2) := by decide +kernel
theorem dX8_isDoubtful_45 : decode cX8_isDoubtful 45 = .ok (.invokestatic 210, 3) := by decide +kernel
theorem dX8_isDoubtful_48 : decode cX8_isDoubtful 48 = .ok (.iload_n 2, 1) := by decide +kernel
theorem dX8_isDoubtful_49 : decode cX8_isDoubtful 49 = .ok (.if_icmp .ge 5, 3) := by decide +kernel
theorem dX8_isDoubtful_52 : decode cX8_isDoubtful 52 = .ok (.iconst 1, 1) := by decide +kernel
theorem dX8_isDoubtful_53 : decode cX8_isDoubtful 53 = .ok (.ireturn, 1) := by decide +kernel
theorem dX8_isDoubtful_54 : decode cX8_isDoubtful 54 = .ok (.iinc 5 1, 3) := by decide +kernel
theorem dX8_isDoubtful_57 : decode cX8_isDoubtful 57 = .ok (.goto (-54), 3) := by decide +kernel
theorem dX8_isDoubtful_60 : decode cX8_isDoubtful 60 = .ok (.iconst 0, 1) := by decide +kernel
theorem dX8_isDoubtful_61 : decode cX8_isDoubtful 61 = .ok (.ireturn, 1) := by decide +kernel
theorem dX8_markDifference_0 : decode cX8_markDifference 0 = .ok (.iconst 0, 1) := by decide +kernel
theorem dX8_markDifference_1 : decode cX8_markDifference 1 = .ok (.istore_n 2, 1) := by decide +kernel
theorem dX8_markDifference_2 : decode cX8_markDifference 2 = .ok (.iload_n 0, 1) := by decide +kernel
theorem dX8_markDifference_3 : decode cX8_markDifference 3 = .ok (.istore_n 3, 1) := by decide +kernel
theorem dX8_markDifference_4 : decode cX8_markDifference 4 = .ok (.iload_n 1, 1) := by decide +kernel
theorem dX8_markDifference_5 : decode cX8_markDifference 5 = .ok (.istore 4, 2) := by decide +kernel
theorem dX8_markDifference_7 : decode cX8_markDifference 7 = .ok (.iconst 0, 1) := by decide +kernel
theorem dX8_markDifference_8 : decode cX8_markDifference 8 = .ok (.istore 5, 2) := by decide +kernel
theorem dX8_markDifference_10 : decode cX8_markDifference 10 = .ok (.iload 5, 2) := by decide +kernel
theorem dX8_markDifference_12 : decode cX8_markDifference 12 = .ok (.bipush 6, 2) := by decide +kernel
theorem dX8_markDifference_14 : decode cX8_markDifference 14 = .ok (.if_icmp .ge 41, 3) := by decide +kernel
theorem dX8_markDifference_17 : decode cX8_markDifference 17 = .ok (.iload_n 3, 1) := by decide +kernel
theorem dX8_markDifference_18 : decode cX8_markDifference 18 = .ok (.bipush 10, 2) := by decide +kernel
theorem dX8_markDifference_20 : decode cX8_markDifference 20 = .ok (.irem, 1) := by decide +kernel
theorem dX8_markDifference_21 : decode cX8_markDifference 21 = .ok (.iload 4, 2) := by decide +kernel
theorem dX8_markDifference_23 : decode cX8_markDifference 23 = .ok (.bipush 10, 2) := by decide +kernel
theorem dX8_markDifference_25 : decode cX8_markDifference 25 = .ok (.irem, 1) := by decide +kernel
theorem dX8_markDifference_26 : decode cX8_markDifference 26 = .ok (.isub, 1) := by decide +kernel
theorem dX8_markDifference_27 : decode cX8_markDifference 27 = .ok (.istore 6, 2) := by decide +kernel
theorem dX8_markDifference_29 : decode cX8_markDifference 29 = .ok (.iload_n 2, 1) := by decide +kernel
theorem dX8_markDifference_30 : decode cX8_markDifference 30 = .ok (.iload 6, 2) := by decide +kernel
theorem dX8_markDifference_32 : decode cX8_markDifference 32 = .ok (.iload 6, 2) := by decide +kernel
theorem dX8_markDifference_34 : decode cX8_markDifference 34 = .ok (.imul, 1) := by decide +kernel
theorem dX8_markDifference_35 : decode cX8_markDifference 35 = .ok (.iadd, 1) := by decide +kernel
theorem dX8_markDifference_36 : decode cX8_markDifference 36 = .ok (.istore_n 2, 1) := by decide +kernel
theorem dX8_markDifference_37 : decode cX8_markDifference 37 = .ok (.iload_n 3, 1) := by decide +kernel
theorem dX8_markDifference_38 : decode cX8_markDifference 38 = .ok (.bipush 10, 2) := by decide +kernel
theorem dX8_markDifference_40 : decode cX8_markDifference 40 = .ok (.idiv, 1) := by decide +kernel
theorem dX8_markDifference_41 : decode cX8_markDifference 41 = .ok (.istore_n 3, 1) := by decide +kernel
theorem dX8_markDifference_42 : decode cX8_markDifference 42 = .ok (.iload 4, 2) := by decide +kernel
theorem dX8_markDifference_44 : decode cX8_markDifference 44 = .ok (.bipush 10, 2) := by decide +kernel
theorem dX8_markDifference_46 : decode cX8_markDifference 46 = .ok (.idiv, 1) := by decide +kernel
theorem dX8_markDifference_47 : decode cX8_markDifference 47 = .ok (.istore 4, 2) := by decide +kernel
theorem dX8_markDifference_49 : decode cX8_markDifference 49 = .ok (.iinc 5 1, 3) := by decide +kernel
theorem dX8_markDifference_52 : decode cX8_markDifference 52 = .ok (.goto (-42), 3) := by decide +kernel
theorem dX8_markDifference_55 : decode cX8_markDifference 55 = .ok (.iload_n 2, 1) := by decide +kernel
theorem dX8_markDifference_56 : decode cX8_markDifference 56 = .ok (.ireturn, 1) := by decide +kernel
theorem dX8_litersSkimmed_0 : decode cX8_litersSkimmed 0 = .ok (.iconst 0, 1) := by decide +kernel
theorem dX8_litersSkimmed_1 : decode cX8_litersSkimmed 1 = .ok (.istore_n 1, 1) := by decide +kernel
theorem dX8_litersSkimmed_2 : decode cX8_litersSkimmed 2 = .ok (.iconst 0, 1) := by decide +kernel
theorem dX8_litersSkimmed_3 : decode cX8_litersSkimmed 3 = .ok (.istore_n 2, 1) := by decide +kernel
theorem dX8_litersSkimmed_4 : decode cX8_litersSkimmed 4 = .ok (.iload_n 2, 1) := by decide +kernel
theorem dX8_litersSkimmed_5 : decode cX8_litersSkimmed 5 = .ok (.aload_n 0, 1) := by decide +kernel
theorem dX8_litersSkimmed_6 : decode cX8_litersSkimmed 6 = .ok (.getfield 33, 3) := by decide +kernel
theorem dX8_litersSkimmed_9 : decode cX8_litersSkimmed 9 = .ok (.getfield 171, 3) := by decide +kernel
theorem dX8_litersSkimmed_12 : decode cX8_litersSkimmed 12 = .ok (.if_icmp .ge 34, 3) := by decide +kernel
theorem dX8_litersSkimmed_15 : decode cX8_litersSkimmed 15 = .ok (.iload_n 1, 1) := by decide +kernel
theorem dX8_litersSkimmed_16 : decode cX8_litersSkimmed 16 = .ok (.aload_n 0, 1) := by decide +kernel
theorem dX8_litersSkimmed_17 : decode cX8_litersSkimmed 17 = .ok (.getfield 33, 3) := by decide +kernel
theorem dX8_litersSkimmed_20 : decode cX8_litersSkimmed 20 = .ok (.getfield 126, 3) := by decide +kernel
theorem dX8_litersSkimmed_23 : decode cX8_litersSkimmed 23 = .ok (.iload_n 2, 1) := by decide +kernel
theorem dX8_litersSkimmed_24 : decode cX8_litersSkimmed 24 = .ok (.aaload, 1) := by decide +kernel
theorem dX8_litersSkimmed_25 : decode cX8_litersSkimmed 25 = .ok (.getfield 149, 3) := by decide +kernel
theorem dX8_litersSkimmed_28 : decode cX8_litersSkimmed 28 = .ok (.aload_n 0, 1) := by decide +kernel
theorem dX8_litersSkimmed_29 : decode cX8_litersSkimmed 29 = .ok (.getfield 40, 3) := by decide +kernel
theorem dX8_litersSkimmed_32 : decode cX8_litersSkimmed 32 = .ok (.getfield 146, 3) := by decide +kernel
theorem dX8_litersSkimmed_35 : decode cX8_litersSkimmed 35 = .ok (.iload_n 2, 1) := by decide +kernel
theorem dX8_litersSkimmed_36 : decode cX8_litersSkimmed 36 = .ok (.iaload, 1) := by decide +kernel
theorem dX8_litersSkimmed_37 : decode cX8_litersSkimmed 37 = .ok (.iadd, 1) := by decide +kernel
theorem dX8_litersSkimmed_38 : decode cX8_litersSkimmed 38 = .ok (.iadd, 1) := by decide +kernel
theorem dX8_litersSkimmed_39 : decode cX8_litersSkimmed 39 = .ok (.istore_n 1, 1) := by decide +kernel
theorem dX8_litersSkimmed_40 : decode cX8_litersSkimmed 40 = .ok (.iinc 2 1, 3) := by decide +kernel
theorem dX8_litersSkimmed_43 : decode cX8_litersSkimmed 43 = .ok (.goto (-39), 3) := by decide +kernel
theorem dX8_litersSkimmed_46 : decode cX8_litersSkimmed 46 = .ok (.iload_n 1, 1) := by decide +kernel
theorem dX8_litersSkimmed_47 : decode cX8_litersSkimmed 47 = .ok (.ireturn, 1) := by decide +kernel
theorem dX8_wholeBill_0 : decode cX8_wholeBill 0 = .ok (.iconst 2, 1) := by decide +kernel
theorem dX8_wholeBill_1 : decode cX8_wholeBill 1 = .ok (.aload_n 0, 1) := by decide +kernel
theorem dX8_wholeBill_2 : decode cX8_wholeBill 2 = .ok (.invokevirtual 237, 3) := by decide +kernel
theorem dX8_wholeBill_5 : decode cX8_wholeBill 5 = .ok (.imul, 1) := by decide +kernel
theorem dX8_wholeBill_6 : decode cX8_wholeBill 6 = .ok (.bipush 50, 2) := by decide +kernel
theorem dX8_wholeBill_8 : decode cX8_wholeBill 8 = .ok (.aload_n 0, 1) := by decide +kernel
theorem dX8_wholeBill_9 : decode cX8_wholeBill 9 = .ok (.getfield 168, 3) := by decide +kernel
theorem dX8_wholeBill_12 : decode cX8_wholeBill 12 = .ok (.imul, 1) := by decide +kernel
theorem dX8_wholeBill_13 : decode cX8_wholeBill 13 = .ok (.iadd, 1) := by decide +kernel
theorem dX8_wholeBill_14 : decode cX8_wholeBill 14 = .ok (.bipush 10, 2) := by decide +kernel
theorem dX8_wholeBill_16 : decode cX8_wholeBill 16 = .ok (.aload_n 0, 1) := by decide +kernel
theorem dX8_wholeBill_17 : decode cX8_wholeBill 17 = .ok (.aload_n 0, 1) := by decide +kernel
theorem dX8_wholeBill_18 : decode cX8_wholeBill 18 = .ok (.getfield 40, 3) := by decide +kernel
theorem dX8_wholeBill_21 : decode cX8_wholeBill 21 = .ok (.invokevirtual 240, 3) := by decide +kernel
theorem dX8_wholeBill_24 : decode cX8_wholeBill 24 = .ok (.imul, 1) := by decide +kernel
theorem dX8_wholeBill_25 : decode cX8_wholeBill 25 = .ok (.iadd, 1) := by decide +kernel
theorem dX8_wholeBill_26 : decode cX8_wholeBill 26 = .ok (.ireturn, 1) := by decide +kernel
theorem dX8_shareOf_0 : decode cX8_shareOf 0 = .ok (.iload_n 3, 1) := by decide +kernel
theorem dX8_shareOf_1 : decode cX8_shareOf 1 = .ok (.ifCond .ne 5, 3) := by decide +kernel
theorem dX8_shareOf_4 : decode cX8_shareOf 4 = .ok (.iconst 0, 1) := by decide +kernel
theorem dX8_shareOf_5 : decode cX8_shareOf 5 = .ok (.ireturn, 1) := by decide +kernel
theorem dX8_shareOf_6 : decode cX8_shareOf 6 = .ok (.iload_n 2, 1) := by decide +kernel
theorem dX8_shareOf_7 : decode cX8_shareOf 7 = .ok (.istore 4, 2) := by decide +kernel
theorem dX8_shareOf_9 : decode cX8_shareOf 9 = .ok (.iconst 0, 1) := by decide +kernel
theorem dX8_shareOf_10 : decode cX8_shareOf 10 = .ok (.istore 5, 2) := by decide +kernel
theorem dX8_shareOf_12 : decode cX8_shareOf 12 = .ok (.iload_n 2, 1) := by decide +kernel
theorem dX8_shareOf_13 : decode cX8_shareOf 13 = .ok (.aload_n 0, 1) := by decide +kernel
theorem dX8_shareOf_14 : decode cX8_shareOf 14 = .ok (.getfield 62, 3) := by decide +kernel
theorem dX8_shareOf_17 : decode cX8_shareOf 17 = .ok (.iload_n 1, 1) := by decide +kernel
theorem dX8_shareOf_18 : decode cX8_shareOf 18 = .ok (.iaload, 1) := by decide +kernel
theorem dX8_shareOf_19 : decode cX8_shareOf 19 = .ok (.imul, 1) := by decide +kernel
theorem dX8_shareOf_20 : decode cX8_shareOf 20 = .ok (.iload_n 3, 1) := by decide +kernel
theorem dX8_shareOf_21 : decode cX8_shareOf 21 = .ok (.irem, 1) := by decide +kernel
theorem dX8_shareOf_22 : decode cX8_shareOf 22 = .ok (.istore 6, 2) := by decide +kernel
theorem dX8_shareOf_24 : decode cX8_shareOf 24 = .ok (.iconst 0, 1) := by decide +kernel
theorem dX8_shareOf_25 : decode cX8_shareOf 25 = .ok (.istore 7, 2) := by decide +kernel
theorem dX8_shareOf_27 : decode cX8_shareOf 27 = .ok (.iload 7, 2) := by decide +kernel
theorem dX8_shareOf_29 : decode cX8_shareOf 29 = .ok (.iconst 4, 1) := by decide +kernel
theorem dX8_shareOf_30 : decode cX8_shareOf 30 = .ok (.if_icmp .ge 61, 3) := by decide +kernel
theorem dX8_shareOf_33 : decode cX8_shareOf 33 = .ok (.iload 4, 2) := by decide +kernel
theorem dX8_shareOf_35 : decode cX8_shareOf 35 = .ok (.iload_n 2, 1) := by decide +kernel
theorem dX8_shareOf_36 : decode cX8_shareOf 36 = .ok (.aload_n 0, 1) := by decide +kernel
theorem dX8_shareOf_37 : decode cX8_shareOf 37 = .ok (.getfield 62, 3) := by decide +kernel
theorem dX8_shareOf_40 : decode cX8_shareOf 40 = .ok (.iload 7, 2) := by decide +kernel
theorem dX8_shareOf_42 : decode cX8_shareOf 42 = .ok (.iaload, 1) := by decide +kernel
theorem dX8_shareOf_43 : decode cX8_shareOf 43 = .ok (.imul, 1) := by decide +kernel
theorem dX8_shareOf_44 : decode cX8_shareOf 44 = .ok (.iload_n 3, 1) := by decide +kernel
theorem dX8_shareOf_45 : decode cX8_shareOf 45 = .ok (.idiv, 1) := by decide +kernel
theorem dX8_shareOf_46 : decode cX8_shareOf 46 = .ok (.isub, 1) := by decide +kernel
theorem dX8_shareOf_47 : decode cX8_shareOf 47 = .ok (.istore 4, 2) := by decide +kernel
theorem dX8_shareOf_49 : decode cX8_shareOf 49 = .ok (.iload_n 2, 1) := by decide +kernel
theorem dX8_shareOf_50 : decode cX8_shareOf 50 = .ok (.aload_n 0, 1) := by decide +kernel
theorem dX8_shareOf_51 : decode cX8_shareOf 51 = .ok (.getfield 62, 3) := by decide +kernel
theorem dX8_shareOf_54 : decode cX8_shareOf 54 = .ok (.iload 7, 2) := by decide +kernel
theorem dX8_shareOf_56 : decode cX8_shareOf 56 = .ok (.iaload, 1) := by decide +kernel
theorem dX8_shareOf_57 : decode cX8_shareOf 57 = .ok (.imul, 1) := by decide +kernel
theorem dX8_shareOf_58 : decode cX8_shareOf 58 = .ok (.iload_n 3, 1) := by decide +kernel
theorem dX8_shareOf_59 : decode cX8_shareOf 59 = .ok (.irem, 1) := by decide +kernel
theorem dX8_shareOf_60 : decode cX8_shareOf 60 = .ok (.istore 8, 2) := by decide +kernel
theorem dX8_shareOf_62 : decode cX8_shareOf 62 = .ok (.iload 8, 2) := by decide +kernel
theorem dX8_shareOf_64 : decode cX8_shareOf 64 = .ok (.iload 6, 2) := by decide +kernel
theorem dX8_shareOf_66 : decode cX8_shareOf 66 = .ok (.if_icmp .gt 16, 3) := by decide +kernel
theorem dX8_shareOf_69 : decode cX8_shareOf 69 = .ok (.iload 8, 2) := by decide +kernel
theorem dX8_shareOf_71 : decode cX8_shareOf 71 = .ok (.iload 6, 2) := by decide +kernel
theorem dX8_shareOf_73 : decode cX8_shareOf 73 = .ok (.if_icmp .ne 12, 3) := by decide +kernel
theorem dX8_shareOf_76 : decode cX8_shareOf 76 = .ok (.iload 7, 2) := by decide +kernel
theorem dX8_shareOf_78 : decode cX8_shareOf 78 = .ok (.iload_n 1, 1) := by decide +kernel
theorem dX8_shareOf_79 : decode cX8_shareOf 79 = .ok (.if_icmp .ge 6, 3) := by decide +kernel
theorem dX8_shareOf_82 : decode cX8_shareOf 82 = .ok (.iinc 5 1, 3) := by decide +kernel
theorem dX8_shareOf_85 : decode cX8_shareOf 85 = .ok (.iinc 7 1, 3) := by decide +kernel
theorem dX8_shareOf_88 : decode cX8_shareOf 88 = .ok (.goto (-61), 3) := by decide +kernel
theorem dX8_shareOf_91 : decode cX8_shareOf 91 = .ok (.iload_n 2, 1) := by decide +kernel
theorem dX8_shareOf_92 : decode cX8_shareOf 92 = .ok (.aload_n 0, 1) := by decide +kernel
theorem dX8_shareOf_93 : decode cX8_shareOf 93 = .ok (.getfield 62, 3) := by decide +kernel
theorem dX8_shareOf_96 : decode cX8_shareOf 96 = .ok (.iload_n 1, 1) := by decide +kernel
theorem dX8_shareOf_97 : decode cX8_shareOf 97 = .ok (.iaload, 1) := by decide +kernel
theorem dX8_shareOf_98 : decode cX8_shareOf 98 = .ok (.imul, 1) := by decide +kernel
theorem dX8_shareOf_99 : decode cX8_shareOf 99 = .ok (.iload_n 3, 1) := by decide +kernel
theorem dX8_shareOf_100 : decode cX8_shareOf 100 = .ok (.idiv, 1) := by decide +kernel
theorem dX8_shareOf_101 : decode cX8_shareOf 101 = .ok (.iload 5, 2) := by decide +kernel
theorem dX8_shareOf_103 : decode cX8_shareOf 103 = .ok (.iload 4, 2) := by decide +kernel
theorem dX8_shareOf_105 : decode cX8_shareOf 105 = .ok (.if_icmp .ge 7, 3) := by decide +kernel
theorem dX8_shareOf_108 : decode cX8_shareOf 108 = .ok (.iconst 1, 1) := by decide +kernel
theorem dX8_shareOf_109 : decode cX8_shareOf 109 = .ok (.goto 4, 3) := by decide +kernel
theorem dX8_shareOf_112 : decode cX8_shareOf 112 = .ok (.iconst 0, 1) := by decide +kernel
theorem dX8_shareOf_113 : decode cX8_shareOf 113 = .ok (.iadd, 1) := by decide +kernel
theorem dX8_shareOf_114 : decode cX8_shareOf 114 = .ok (.ireturn, 1) := by decide +kernel
