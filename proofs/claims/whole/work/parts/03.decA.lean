theorem dX0_init_0 : decode cX0_init 0 = .ok (.aload_n 0, 1) := by decide +kernel
theorem dX0_init_1 : decode cX0_init 1 = .ok (.invokespecial 3, 3) := by decide +kernel
theorem dX0_init_4 : decode cX0_init 4 = .ok (.aload_n 0, 1) := by decide +kernel
theorem dX0_init_5 : decode cX0_init 5 = .ok (.bipush 20, 2) := by decide +kernel
theorem dX0_init_7 : decode cX0_init 7 = .ok (.newarray .int, 2) := by decide +kernel
theorem dX0_init_9 : decode cX0_init 9 = .ok (.putfield 9, 3) := by decide +kernel
theorem dX0_init_12 : decode cX0_init 12 = .ok (.aload_n 0, 1) := by decide +kernel
theorem dX0_init_13 : decode cX0_init 13 = .ok (.bipush 20, 2) := by decide +kernel
theorem dX0_init_15 : decode cX0_init 15 = .ok (.newarray .int, 2) := by decide +kernel
theorem dX0_init_17 : decode cX0_init 17 = .ok (.putfield 15, 3) := by decide +kernel
theorem dX0_init_20 : decode cX0_init 20 = .ok (.aload_n 0, 1) := by decide +kernel
theorem dX0_init_21 : decode cX0_init 21 = .ok (.sipush 480, 3) := by decide +kernel
theorem dX0_init_24 : decode cX0_init 24 = .ok (.newarray .int, 2) := by decide +kernel
theorem dX0_init_26 : decode cX0_init 26 = .ok (.putfield 18, 3) := by decide +kernel
theorem dX0_init_29 : decode cX0_init 29 = .ok (.iconst 0, 1) := by decide +kernel
theorem dX0_init_30 : decode cX0_init 30 = .ok (.istore_n 1, 1) := by decide +kernel
theorem dX0_init_31 : decode cX0_init 31 = .ok (.iload_n 1, 1) := by decide +kernel
theorem dX0_init_32 : decode cX0_init 32 = .ok (.bipush 20, 2) := by decide +kernel
theorem dX0_init_34 : decode cX0_init 34 = .ok (.if_icmp .ge 16, 3) := by decide +kernel
theorem dX0_init_37 : decode cX0_init 37 = .ok (.aload_n 0, 1) := by decide +kernel
theorem dX0_init_38 : decode cX0_init 38 = .ok (.getfield 9, 3) := by decide +kernel
theorem dX0_init_41 : decode cX0_init 41 = .ok (.iload_n 1, 1) := by decide +kernel
theorem dX0_init_42 : decode cX0_init 42 = .ok (.iconst (-1), 1) := by decide +kernel
theorem dX0_init_43 : decode cX0_init 43 = .ok (.iastore, 1) := by decide +kernel
theorem dX0_init_44 : decode cX0_init 44 = .ok (.iinc 1 1, 3) := by decide +kernel
theorem dX0_init_47 : decode cX0_init 47 = .ok (.goto (-16), 3) := by decide +kernel
theorem dX0_init_50 : decode cX0_init 50 = .ok (.iconst 0, 1) := by decide +kernel
theorem dX0_init_51 : decode cX0_init 51 = .ok (.istore_n 1, 1) := by decide +kernel
theorem dX0_init_52 : decode cX0_init 52 = .ok (.iload_n 1, 1) := by decide +kernel
theorem dX0_init_53 : decode cX0_init 53 = .ok (.sipush 480, 3) := by decide +kernel
theorem dX0_init_56 : decode cX0_init 56 = .ok (.if_icmp .ge 16, 3) := by decide +kernel
theorem dX0_init_59 : decode cX0_init 59 = .ok (.aload_n 0, 1) := by decide +kernel
theorem dX0_init_60 : decode cX0_init 60 = .ok (.getfield 18, 3) := by decide +kernel
theorem dX0_init_63 : decode cX0_init 63 = .ok (.iload_n 1, 1) := by decide +kernel
theorem dX0_init_64 : decode cX0_init 64 = .ok (.iconst (-1), 1) := by decide +kernel
theorem dX0_init_65 : decode cX0_init 65 = .ok (.iastore, 1) := by decide +kernel
theorem dX0_init_66 : decode cX0_init 66 = .ok (.iinc 1 1, 3) := by decide +kernel
theorem dX0_init_69 : decode cX0_init 69 = .ok (.goto (-17), 3) := by decide +kernel
theorem dX0_init_72 : decode cX0_init 72 = .ok (.return_, 1) := by decide +kernel
theorem dX0_lay_0 : decode cX0_lay 0 = .ok (.aload_n 0, 1) := by decide +kernel
theorem dX0_lay_1 : decode cX0_lay 1 = .ok (.getfield 18, 3) := by decide +kernel
theorem dX0_lay_4 : decode cX0_lay 4 = .ok (.iload_n 1, 1) := by decide +kernel
theorem dX0_lay_5 : decode cX0_lay 5 = .ok (.iconst 5, 1) := by decide +kernel
theorem dX0_lay_6 : decode cX0_lay 6 = .ok (.imul, 1) := by decide +kernel
theorem dX0_lay_7 : decode cX0_lay 7 = .ok (.iload_n 2, 1) := by decide +kernel
theorem dX0_lay_8 : decode cX0_lay 8 = .ok (.iadd, 1) := by decide +kernel
theorem dX0_lay_9 : decode cX0_lay 9 = .ok (.iaload, 1) := by decide +kernel
theorem dX0_lay_10 : decode cX0_lay 10 = .ok (.iconst (-1), 1) := by decide +kernel
theorem dX0_lay_11 : decode cX0_lay 11 = .ok (.if_icmp .eq 5, 3) := by decide +kernel
theorem dX0_lay_14 : decode cX0_lay 14 = .ok (.iconst (-1), 1) := by decide +kernel
theorem dX0_lay_15 : decode cX0_lay 15 = .ok (.ireturn, 1) := by decide +kernel
theorem dX0_lay_16 : decode cX0_lay 16 = .ok (.iconst 0, 1) := by decide +kernel
theorem dX0_lay_17 : decode cX0_lay 17 = .ok (.istore 4, 2) := by decide +kernel
theorem dX0_lay_19 : decode cX0_lay 19 = .ok (.iload 4, 2) := by decide +kernel
theorem dX0_lay_21 : decode cX0_lay 21 = .ok (.bipush 20, 2) := by decide +kernel
theorem dX0_lay_23 : decode cX0_lay 23 = .ok (.if_icmp .ge 56, 3) := by decide +kernel
theorem dX0_lay_26 : decode cX0_lay 26 = .ok (.aload_n 0, 1) := by decide +kernel
theorem dX0_lay_27 : decode cX0_lay 27 = .ok (.getfield 9, 3) := by decide +kernel
theorem dX0_lay_30 : decode cX0_lay 30 = .ok (.iload 4, 2) := by decide +kernel
theorem dX0_lay_32 : decode cX0_lay 32 = .ok (.iaload, 1) := by decide +kernel
theorem dX0_lay_33 : decode cX0_lay 33 = .ok (.iconst (-1), 1) := by decide +kernel
theorem dX0_lay_34 : decode cX0_lay 34 = .ok (.if_icmp .ne 39, 3) := by decide +kernel
theorem dX0_lay_37 : decode cX0_lay 37 = .ok (.aload_n 0, 1) := by decide +kernel
theorem dX0_lay_38 : decode cX0_lay 38 = .ok (.getfield 9, 3) := by decide +kernel
theorem dX0_lay_41 : decode cX0_lay 41 = .ok (.iload 4, 2) := by decide +kernel
theorem dX0_lay_43 : decode cX0_lay 43 = .ok (.iload_n 1, 1) := by decide +kernel
theorem dX0_lay_44 : decode cX0_lay 44 = .ok (.iastore, 1) := by decide +kernel
theorem dX0_lay_45 : decode cX0_lay 45 = .ok (.aload_n 0, 1) := by decide +kernel
theorem dX0_lay_46 : decode cX0_lay 46 = .ok (.getfield 15, 3) := by decide +kernel
theorem dX0_lay_49 : decode cX0_lay 49 = .ok (.iload 4, 2) := by decide +kernel
theorem dX0_lay_51 : decode cX0_lay 51 = .ok (.iload_n 2, 1) := by decide +kernel
theorem dX0_lay_52 : decode cX0_lay 52 = .ok (.iastore, 1) := by decide +kernel
theorem dX0_lay_53 : decode cX0_lay 53 = .ok (.aload_n 0, 1) := by decide +kernel
theorem dX0_lay_54 : decode cX0_lay 54 = .ok (.iload_n 1, 1) := by decide +kernel
theorem dX0_lay_55 : decode cX0_lay 55 = .ok (.iload_n 2, 1) := by decide +kernel
theorem dX0_lay_56 : decode cX0_lay 56 = .ok (.iload_n 3, 1) := by decide +kernel
theorem dX0_lay_57 : decode cX0_lay 57 = .ok (.invokevirtual 21, 3) := by decide +kernel
theorem dX0_lay_60 : decode cX0_lay 60 = .ok (.aload_n 0, 1) := by decide +kernel
theorem dX0_lay_61 : decode cX0_lay 61 = .ok (.dup, 1) := by decide +kernel
theorem dX0_lay_62 : decode cX0_lay 62 = .ok (.getfield 25, 3) := by decide +kernel
theorem dX0_lay_65 : decode cX0_lay 65 = .ok (.iconst 1, 1) := by decide +kernel
theorem dX0_lay_66 : decode cX0_lay 66 = .ok (.iadd, 1) := by decide +kernel
theorem dX0_lay_67 : decode cX0_lay 67 = .ok (.putfield 25, 3) := by decide +kernel
theorem dX0_lay_70 : decode cX0_lay 70 = .ok (.iload 4, 2) := by decide +kernel
theorem dX0_lay_72 : decode cX0_lay 72 = .ok (.ireturn, 1) := by decide +kernel
theorem dX0_lay_73 : decode cX0_lay 73 = .ok (.iinc 4 1, 3) := by decide +kernel
theorem dX0_lay_76 : decode cX0_lay 76 = .ok (.goto (-57), 3) := by decide +kernel
theorem dX0_lay_79 : decode cX0_lay 79 = .ok (.iconst (-1), 1) := by decide +kernel
theorem dX0_lay_80 : decode cX0_lay 80 = .ok (.ireturn, 1) := by decide +kernel
theorem dX0_takeUp_0 : decode cX0_takeUp 0 = .ok (.iload_n 1, 1) := by decide +kernel
theorem dX0_takeUp_1 : decode cX0_takeUp 1 = .ok (.ifCond .lt 19, 3) := by decide +kernel
theorem dX0_takeUp_4 : decode cX0_takeUp 4 = .ok (.iload_n 1, 1) := by decide +kernel
theorem dX0_takeUp_5 : decode cX0_takeUp 5 = .ok (.bipush 20, 2) := by decide +kernel
theorem dX0_takeUp_7 : decode cX0_takeUp 7 = .ok (.if_icmp .ge 13, 3) := by decide +kernel
theorem dX0_takeUp_10 : decode cX0_takeUp 10 = .ok (.aload_n 0, 1) := by decide +kernel
theorem dX0_takeUp_11 : decode cX0_takeUp 11 = .ok (.getfield 9, 3) := by decide +kernel
theorem dX0_takeUp_14 : decode cX0_takeUp 14 = .ok (.iload_n 1, 1) := by decide +kernel
theorem dX0_takeUp_15 : decode cX0_takeUp 15 = .ok (.iaload, 1) := by decide +kernel
theorem dX0_takeUp_16 : decode cX0_takeUp 16 = .ok (.iconst (-1), 1) := by decide +kernel
theorem dX0_takeUp_17 : decode cX0_takeUp 17 = .ok (.if_icmp .ne 5, 3) := by decide +kernel
theorem dX0_takeUp_20 : decode cX0_takeUp 20 = .ok (.iconst 0, 1) := by decide +kernel
theorem dX0_takeUp_21 : decode cX0_takeUp 21 = .ok (.ireturn, 1) := by decide +kernel
theorem dX0_takeUp_22 : decode cX0_takeUp 22 = .ok (.aload_n 0, 1) := by decide +kernel
theorem dX0_takeUp_23 : decode cX0_takeUp 23 = .ok (.aload_n 0, 1) := by decide +kernel
theorem dX0_takeUp_24 : decode cX0_takeUp 24 = .ok (.getfield 9, 3) := by decide +kernel
theorem dX0_takeUp_27 : decode cX0_takeUp 27 = .ok (.iload_n 1, 1) := by decide +kernel
theorem dX0_takeUp_28 : decode cX0_takeUp 28 = .ok (.iaload, 1) := by decide +kernel
theorem dX0_takeUp_29 : decode cX0_takeUp 29 = .ok (.aload_n 0, 1) := by decide +kernel
theorem dX0_takeUp_30 : decode cX0_takeUp 30 = .ok (.getfield 15, 3) := by decide +kernel
theorem dX0_takeUp_33 : decode cX0_takeUp 33 = .ok (.iload_n 1, 1) := by decide +kernel
theorem dX0_takeUp_34 : decode cX0_takeUp 34 = .ok (.iaload, 1) := by decide +kernel
theorem dX0_takeUp_35 : decode cX0_takeUp 35 = .ok (.iconst (-1), 1) := by decide +kernel
theorem dX0_takeUp_36 : decode cX0_takeUp 36 = .ok (.invokevirtual 21, 3) := by decide +kernel
theorem dX0_takeUp_39 : decode cX0_takeUp 39 = .ok (.aload_n 0, 1) := by decide +kernel
theorem dX0_takeUp_40 : decode cX0_takeUp 40 = .ok (.getfield 9, 3) := by decide +kernel
theorem dX0_takeUp_43 : decode cX0_takeUp 43 = .ok (.iload_n 1, 1) := by decide +kernel
theorem dX0_takeUp_44 : decode cX0_takeUp 44 = .ok (.iconst (-1), 1) := by decide +kernel
theorem dX0_takeUp_45 : decode cX0_takeUp 45 = .ok (.iastore, 1) := by decide +kernel
theorem dX0_takeUp_46 : decode cX0_takeUp 46 = .ok (.aload_n 0, 1) := by decide +kernel
theorem dX0_takeUp_47 : decode cX0_takeUp 47 = .ok (.dup, 1) := by decide +kernel
theorem dX0_takeUp_48 : decode cX0_takeUp 48 = .ok (.getfield 25, 3) := by decide +kernel
theorem dX0_takeUp_51 : decode cX0_takeUp 51 = .ok (.iconst 1, 1) := by decide +kernel
theorem dX0_takeUp_52 : decode cX0_takeUp 52 = .ok (.isub, 1) := by decide +kernel
theorem dX0_takeUp_53 : decode cX0_takeUp 53 = .ok (.putfield 25, 3) := by decide +kernel
theorem dX0_takeUp_56 : decode cX0_takeUp 56 = .ok (.iconst 1, 1) := by decide +kernel
theorem dX0_takeUp_57 : decode cX0_takeUp 57 = .ok (.ireturn, 1) := by decide +kernel
theorem dX0_limitBothSides_0 : decode cX0_limitBothSides 0 = .ok (.iload_n 1, 1) := by decide +kernel
theorem dX0_limitBothSides_1 : decode cX0_limitBothSides 1 = .ok (.iload_n 2, 1) := by decide +kernel
theorem dX0_limitBothSides_2 : decode cX0_limitBothSides 2 = .ok (.invokestatic 29, 3) := by decide +kernel
theorem dX0_limitBothSides_5 : decode cX0_limitBothSides 5 = .ok (.istore 4, 2) := by decide +kernel
theorem dX0_limitBothSides_7 : decode cX0_limitBothSides 7 = .ok (.aload_n 0, 1) := by decide +kernel
theorem dX0_limitBothSides_8 : decode cX0_limitBothSides 8 = .ok (.getfield 18, 3) := by decide +kernel
theorem dX0_limitBothSides_11 : decode cX0_limitBothSides 11 = .ok (.iload_n 1, 1) := by decide +kernel
theorem dX0_limitBothSides_12 : decode cX0_limitBothSides 12 = .ok (.iconst 5, 1) := by decide +kernel
theorem dX0_limitBothSides_13 : decode cX0_limitBothSides 13 = .ok (.imul, 1) := by decide +kernel
theorem dX0_limitBothSides_14 : decode cX0_limitBothSides 14 = .ok (.iload_n 2, 1) := by decide +kernel
theorem dX0_limitBothSides_15 : decode cX0_limitBothSides 15 = .ok (.iadd, 1) := by decide +kernel
theorem dX0_limitBothSides_16 : decode cX0_limitBothSides 16 = .ok (.iload_n 3, 1) := by decide +kernel
theorem dX0_limitBothSides_17 : decode cX0_limitBothSides 17 = .ok (.iastore, 1) := by decide +kernel
theorem dX0_limitBothSides_18 : decode cX0_limitBothSides 18 = .ok (.iload 4, 2) := by decide +kernel
theorem dX0_limitBothSides_20 : decode cX0_limitBothSides 20 = .ok (.iconst (-1), 1) := by decide +kernel
theorem dX0_limitBothSides_21 : decode cX0_limitBothSides 21 = .ok (.if_icmp .eq 18, 3) := by decide +kernel
theorem dX0_limitBothSides_24 : decode cX0_limitBothSides 24 = .ok (.aload_n 0, 1) := by decide +kernel
theorem dX0_limitBothSides_25 : decode cX0_limitBothSides 25 = .ok (.getfield 18, 3) := by decide +kernel
theorem dX0_limitBothSides_28 : decode cX0_limitBothSides 28 = .ok (.iload 4, 2) := by decide +kernel
theorem dX0_limitBothSides_30 : decode cX0_limitBothSides 30 = .ok (.iconst 5, 1) := by decide +kernel
theorem dX0_limitBothSides_31 : decode cX0_limitBothSides 31 = .ok (.imul, 1) := by decide +kernel
theorem dX0_limitBothSides_32 : decode cX0_limitBothSides 32 = .ok (.iload_n 2, 1) := by decide +kernel
theorem dX0_limitBothSides_33 : decode cX0_limitBothSides 33 = .ok (.invokestatic 35, 3) := by decide +kernel
theorem dX0_limitBothSides_36 : decode cX0_limitBothSides 36 = .ok (.iadd, 1) := by decide +kernel
theorem dX0_limitBothSides_37 : decode cX0_limitBothSides 37 = .ok (.iload_n 3, 1) := by decide +kernel
theorem dX0_limitBothSides_38 : decode cX0_limitBothSides 38 = .ok (.iastore, 1) := by decide +kernel
theorem dX0_limitBothSides_39 : decode cX0_limitBothSides 39 = .ok (.return_, 1) := by decide +kernel
theorem dX0_endAt_0 : decode cX0_endAt 0 = .ok (.iconst 1, 1) := by decide +kernel
theorem dX0_endAt_1 : decode cX0_endAt 1 = .ok (.istore_n 2, 1) := by decide +kernel
theorem dX0_endAt_2 : decode cX0_endAt 2 = .ok (.iload_n 2, 1) := by decide +kernel
theorem dX0_endAt_3 : decode cX0_endAt 3 = .ok (.iconst 4, 1) := by decide +kernel
theorem dX0_endAt_4 : decode cX0_endAt 4 = .ok (.if_icmp .gt 25, 3) := by decide +kernel
theorem dX0_endAt_7 : decode cX0_endAt 7 = .ok (.aload_n 0, 1) := by decide +kernel
theorem dX0_endAt_8 : decode cX0_endAt 8 = .ok (.getfield 18, 3) := by decide +kernel
theorem dX0_endAt_11 : decode cX0_endAt 11 = .ok (.iload_n 1, 1) := by decide +kernel
theorem dX0_endAt_12 : decode cX0_endAt 12 = .ok (.iconst 5, 1) := by decide +kernel
theorem dX0_endAt_13 : decode cX0_endAt 13 = .ok (.imul, 1) := by decide +kernel
theorem dX0_endAt_14 : decode cX0_endAt 14 = .ok (.iload_n 2, 1) := by decide +kernel
theorem dX0_endAt_15 : decode cX0_endAt 15 = .ok (.iadd, 1) := by decide +kernel
theorem dX0_endAt_16 : decode cX0_endAt 16 = .ok (.iaload, 1) := by decide +kernel
theorem dX0_endAt_17 : decode cX0_endAt 17 = .ok (.iconst (-1), 1) := by decide +kernel
theorem dX0_endAt_18 : decode cX0_endAt 18 = .ok (.if_icmp .eq 5, 3) := by decide +kernel
theorem dX0_endAt_21 : decode cX0_endAt 21 = .ok (.iconst 1, 1) := by decide +kernel
theorem dX0_endAt_22 : decode cX0_endAt 22 = .ok (.ireturn, 1) := by decide +kernel
theorem dX0_endAt_23 : decode cX0_endAt 23 = .ok (.iinc 2 1, 3) := by decide +kernel
theorem dX0_endAt_26 : decode cX0_endAt 26 = .ok (.goto (-24), 3) := by decide +kernel
theorem dX0_endAt_29 : decode cX0_endAt 29 = .ok (.iconst 0, 1) := by decide +kernel
theorem dX0_endAt_30 : decode cX0_endAt 30 = .ok (.ireturn, 1) := by decide +kernel
theorem dX0_hold_0 : decode cX0_hold 0 = .ok (.iload_n 3, 1) := by decide +kernel
theorem dX0_hold_1 : decode cX0_hold 1 = .ok (.aload_n 0, 1) := by decide +kernel
theorem dX0_hold_2 : decode cX0_hold 2 = .ok (.getfield 18, 3) := by decide +kernel
theorem dX0_hold_5 : decode cX0_hold 5 = .ok (.iload_n 1, 1) := by decide +kernel
theorem dX0_hold_6 : decode cX0_hold 6 = .ok (.iconst 5, 1) := by decide +kernel
theorem dX0_hold_7 : decode cX0_hold 7 = .ok (.imul, 1) := by decide +kernel
theorem dX0_hold_8 : decode cX0_hold 8 = .ok (.iload_n 2, 1) := by decide +kernel
theorem dX0_hold_9 : decode cX0_hold 9 = .ok (.iadd, 1) := by decide +kernel
theorem dX0_hold_10 : decode cX0_hold 10 = .ok (.iaload, 1) := by decide +kernel
theorem dX0_hold_11 : decode cX0_hold 11 = .ok (.if_icmp .gt 7, 3) := by decide +kernel
theorem dX0_hold_14 : decode cX0_hold 14 = .ok (.iconst 1, 1) := by decide +kernel
theorem dX0_hold_15 : decode cX0_hold 15 = .ok (.goto 4, 3) := by decide +kernel
theorem dX0_hold_18 : decode cX0_hold 18 = .ok (.iconst 0, 1) := by decide +kernel
theorem dX0_hold_19 : decode cX0_hold 19 = .ok (.ireturn, 1) := by decide +kernel
theorem dX1_init_0 : decode cX1_init 0 = .ok (.aload_n 0, 1) := by decide +kernel
theorem dX1_init_1 : decode cX1_init 1 = .ok (.invokespecial 3, 3) := by decide +kernel
theorem dX1_init_4 : decode cX1_init 4 = .ok (.aload_n 0, 1) := by decide +kernel
theorem dX1_init_5 : decode cX1_init 5 = .ok (.iconst 4, 1) := by decide +kernel
theorem dX1_init_6 : decode cX1_init 6 = .ok (.anewarray 9, 3) := by decide +kernel
theorem dX1_init_9 : decode cX1_init 9 = .ok (.putfield 11, 3) := by decide +kernel
theorem dX1_init_12 : decode cX1_init 12 = .ok (.iconst 0, 1) := by decide +kernel
theorem dX1_init_13 : decode cX1_init 13 = .ok (.istore_n 1, 1) := by decide +kernel
theorem dX1_init_14 : decode cX1_init 14 = .ok (.iload_n 1, 1) := by decide +kernel
theorem dX1_init_15 : decode cX1_init 15 = .ok (.iconst 4, 1) := by decide +kernel
theorem dX1_init_16 : decode cX1_init 16 = .ok (.if_icmp .ge 22, 3) := by decide +kernel
theorem dX1_init_19 : decode cX1_init 19 = .ok (.aload_n 0, 1) := by decide +kernel
theorem dX1_init_20 : decode cX1_init 20 = .ok (.getfield 11, 3) := by decide +kernel
theorem dX1_init_23 : decode cX1_init 23 = .ok (.iload_n 1, 1) := by decide +kernel
theorem dX1_init_24 : decode cX1_init 24 = .ok (.new 9, 3) := by decide +kernel
theorem dX1_init_27 : decode cX1_init 27 = .ok (.dup, 1) := by decide +kernel
theorem dX1_init_28 : decode cX1_init 28 = .ok (.invokespecial 17, 3) := by decide +kernel
theorem dX1_init_31 : decode cX1_init 31 = .ok (.aastore, 1) := by decide +kernel
theorem dX1_init_32 : decode cX1_init 32 = .ok (.iinc 1 1, 3) := by decide +kernel
theorem dX1_init_35 : decode cX1_init 35 = .ok (.goto (-21), 3) := by decide +kernel
theorem dX1_init_38 : decode cX1_init 38 = .ok (.return_, 1) := by decide +kernel
theorem dX1_has_0 : decode cX1_has 0 = .ok (.iload_n 1, 1) := by decide +kernel
theorem dX1_has_1 : decode cX1_has 1 = .ok (.ifCond .lt 15, 3) := by decide +kernel
theorem dX1_has_4 : decode cX1_has 4 = .ok (.iload_n 1, 1) := by decide +kernel
theorem dX1_has_5 : decode cX1_has 5 = .ok (.aload_n 0, 1) := by decide +kernel
theorem dX1_has_6 : decode cX1_has 6 = .ok (.getfield 18, 3) := by decide +kernel
theorem dX1_has_9 : decode cX1_has 9 = .ok (.if_icmp .ge 7, 3) := by decide +kernel
theorem dX1_has_12 : decode cX1_has 12 = .ok (.iconst 1, 1) := by decide +kernel
theorem dX1_has_13 : decode cX1_has 13 = .ok (.goto 4, 3) := by decide +kernel
theorem dX1_has_16 : decode cX1_has 16 = .ok (.iconst 0, 1) := by decide +kernel
theorem dX1_has_17 : decode cX1_has 17 = .ok (.ireturn, 1) := by decide +kernel
theorem dX1_add_0 : decode cX1_add 0 = .ok (.aload_n 0, 1) := by decide +kernel
theorem dX1_add_1 : decode cX1_add 1 = .ok (.getfield 18, 3) := by decide +kernel
theorem dX1_add_4 : decode cX1_add 4 = .ok (.iconst 4, 1) := by decide +kernel
theorem dX1_add_5 : decode cX1_add 5 = .ok (.if_icmp .lt 5, 3) := by decide +kernel
theorem dX1_add_8 : decode cX1_add 8 = .ok (.iconst (-1), 1) := by decide +kernel
theorem dX1_add_9 : decode cX1_add 9 = .ok (.ireturn, 1) := by decide +kernel
theorem dX1_add_10 : decode cX1_add 10 = .ok (.aload_n 0, 1) := by decide +kernel
theorem dX1_add_11 : decode cX1_add 11 = .ok (.getfield 11, 3) := by decide +kernel
theorem dX1_add_14 : decode cX1_add 14 = .ok (.aload_n 0, 1) := by decide +kernel
theorem dX1_add_15 : decode cX1_add 15 = .ok (.getfield 18, 3) := by decide +kernel
theorem dX1_add_18 : decode cX1_add 18 = .ok (.aaload, 1) := by decide +kernel
theorem dX1_add_19 : decode cX1_add 19 = .ok (.astore 5, 2) := by decide +kernel
theorem dX1_add_21 : decode cX1_add 21 = .ok (.aload 5, 2) := by decide +kernel
theorem dX1_add_23 : decode cX1_add 23 = .ok (.iload_n 1, 1) := by decide +kernel
theorem dX1_add_24 : decode cX1_add 24 = .ok (.putfield 22, 3) := by decide +kernel
theorem dX1_add_27 : decode cX1_add 27 = .ok (.aload 5, 2) := by decide +kernel
theorem dX1_add_29 : decode cX1_add 29 = .ok (.iload_n 2, 1) := by decide +kernel
theorem dX1_add_30 : decode cX1_add 30 = .ok (.putfield 25, 3) := by decide +kernel
theorem dX1_add_33 : decode cX1_add 33 = .ok (.aload 5, 2) := by decide +kernel
theorem dX1_add_35 : decode cX1_add 35 = .ok (.iload_n 3, 1) := by decide +kernel
theorem dX1_add_36 : decode cX1_add 36 = .ok (.putfield 28, 3) := by decide +kernel
theorem dX1_add_39 : decode cX1_add 39 = .ok (.aload 5, 2) := by decide +kernel
theorem dX1_add_41 : decode cX1_add 41 = .ok (.iload 4, 2) := by decide +kernel
theorem dX1_add_43 : decode cX1_add 43 = .ok (.putfield 31, 3) := by decide +kernel
theorem dX1_add_46 : decode cX1_add 46 = .ok (.aload_n 0, 1) := by decide +kernel
theorem dX1_add_47 : decode cX1_add 47 = .ok (.dup, 1) := by decide +kernel
theorem dX1_add_48 : decode cX1_add 48 = .ok (.getfield 18, 3) := by decide +kernel
theorem dX1_add_51 : decode cX1_add 51 = .ok (.iconst 1, 1) := by decide +kernel
theorem dX1_add_52 : decode cX1_add 52 = .ok (.iadd, 1) := by decide +kernel
theorem dX1_add_53 : decode cX1_add 53 = .ok (.putfield 18, 3) := by decide +kernel
theorem dX1_add_56 : decode cX1_add 56 = .ok (.aload_n 0, 1) := by decide +kernel
theorem dX1_add_57 : decode cX1_add 57 = .ok (.getfield 18, 3) := by decide +kernel
theorem dX1_add_60 : decode cX1_add 60 = .ok (.iconst 1, 1) := by decide +kernel
theorem dX1_add_61 : decode cX1_add 61 = .ok (.isub, 1) := by decide +kernel
theorem dX1_add_62 : decode cX1_add 62 = .ok (.ireturn, 1) := by decide +kernel
theorem dX1_isAt_0 : decode cX1_isAt 0 = .ok (.iconst 0, 1) := by decide +kernel
theorem dX1_isAt_1 : decode cX1_isAt 1 = .ok (.istore_n 2, 1) := by decide +kernel
theorem dX1_isAt_2 : decode cX1_isAt 2 = .ok (.iload_n 2, 1) := by decide +kernel
theorem dX1_isAt_3 : decode cX1_isAt 3 = .ok (.aload_n 0, 1) := by decide +kernel
theorem dX1_isAt_4 : decode cX1_isAt 4 = .ok (.getfield 18, 3) := by decide +kernel
theorem dX1_isAt_7 : decode cX1_isAt 7 = .ok (.if_icmp .ge 24, 3) := by decide +kernel
theorem dX1_isAt_10 : decode cX1_isAt 10 = .ok (.aload_n 0, 1) := by decide +kernel
theorem dX1_isAt_11 : decode cX1_isAt 11 = .ok (.getfield 11, 3) := by decide +kernel
theorem dX1_isAt_14 : decode cX1_isAt 14 = .ok (.iload_n 2, 1) := by decide +kernel
theorem dX1_isAt_15 : decode cX1_isAt 15 = .ok (.aaload, 1) := by decide +kernel
theorem dX1_isAt_16 : decode cX1_isAt 16 = .ok (.getfield 22, 3) := by decide +kernel
theorem dX1_isAt_19 : decode cX1_isAt 19 = .ok (.iload_n 1, 1) := by decide +kernel
theorem dX1_isAt_20 : decode cX1_isAt 20 = .ok (.if_icmp .ne 5, 3) := by decide +kernel
theorem dX1_isAt_23 : decode cX1_isAt 23 = .ok (.iconst 1, 1) := by decide +kernel
theorem dX1_isAt_24 : decode cX1_isAt 24 = .ok (.ireturn, 1) := by decide +kernel
theorem dX1_isAt_25 : decode cX1_isAt 25 = .ok (.iinc 2 1, 3) := by decide +kernel
theorem dX1_isAt_28 : decode cX1_isAt 28 = .ok (.goto (-26), 3) := by decide +kernel
theorem dX1_isAt_31 : decode cX1_isAt 31 = .ok (.iconst 0, 1) := by decide +kernel
theorem dX1_isAt_32 : decode cX1_isAt 32 = .ok (.ireturn, 1) := by decide +kernel
theorem dX1_beginHour_0 : decode cX1_beginHour 0 = .ok (.iconst 0, 1) := by decide +kernel
theorem dX1_beginHour_1 : decode cX1_beginHour 1 = .ok (.istore_n 1, 1) := by decide +kernel
theorem dX1_beginHour_2 : decode cX1_beginHour 2 = .ok (.iload_n 1, 1) := by decide +kernel
theorem dX1_beginHour_3 : decode cX1_beginHour 3 = .ok (.aload_n 0, 1) := by decide +kernel
theorem dX1_beginHour_4 : decode cX1_beginHour 4 = .ok (.getfield 18, 3) := by decide +kernel
theorem dX1_beginHour_7 : decode cX1_beginHour 7 = .ok (.if_icmp .ge 19, 3) := by decide +kernel
theorem dX1_beginHour_10 : decode cX1_beginHour 10 = .ok (.aload_n 0, 1) := by decide +kernel
theorem dX1_beginHour_11 : decode cX1_beginHour 11 = .ok (.getfield 11, 3) := by decide +kernel
theorem dX1_beginHour_14 : decode cX1_beginHour 14 = .ok (.iload_n 1, 1) := by decide +kernel
theorem dX1_beginHour_15 : decode cX1_beginHour 15 = .ok (.aaload, 1) := by decide +kernel
theorem dX1_beginHour_16 : decode cX1_beginHour 16 = .ok (.iconst 0, 1) := by decide +kernel
theorem dX1_beginHour_17 : decode cX1_beginHour 17 = .ok (.putfield 34, 3) := by decide +kernel
theorem dX1_beginHour_20 : decode cX1_beginHour 20 = .ok (.iinc 1 1, 3) := by decide +kernel
theorem dX1_beginHour_23 : decode cX1_beginHour 23 = .ok (.goto (-21), 3) := by decide +kernel
theorem dX1_beginHour_26 : decode cX1_beginHour 26 = .ok (.return_, 1) := by decide +kernel
theorem dX1_roomLeft_0 : decode cX1_roomLeft 0 = .ok (.aload_n 0, 1) := by decide +kernel
theorem dX1_roomLeft_1 : decode cX1_roomLeft 1 = .ok (.getfield 11, 3) := by decide +kernel
theorem dX1_roomLeft_4 : decode cX1_roomLeft 4 = .ok (.iload_n 2, 1) := by decide +kernel
theorem dX1_roomLeft_5 : decode cX1_roomLeft 5 = .ok (.aaload, 1) := by decide +kernel
theorem dX1_roomLeft_6 : decode cX1_roomLeft 6 = .ok (.getfield 28, 3) := by decide +kernel
theorem dX1_roomLeft_9 : decode cX1_roomLeft 9 = .ok (.aload_n 1, 1) := by decide +kernel
theorem dX1_roomLeft_10 : decode cX1_roomLeft 10 = .ok (.getfield 38, 3) := by decide +kernel
theorem dX1_roomLeft_13 : decode cX1_roomLeft 13 = .ok (.iload_n 2, 1) := by decide +kernel
theorem dX1_roomLeft_14 : decode cX1_roomLeft 14 = .ok (.iaload, 1) := by decide +kernel
theorem dX1_roomLeft_15 : decode cX1_roomLeft 15 = .ok (.isub, 1) := by decide +kernel
theorem dX1_roomLeft_16 : decode cX1_roomLeft 16 = .ok (.ireturn, 1) := by decide +kernel
theorem dX1_canTake_0 : decode cX1_canTake 0 = .ok (.aload_n 0, 1) := by decide +kernel
theorem dX1_canTake_1 : decode cX1_canTake 1 = .ok (.getfield 11, 3) := by decide +kernel
theorem dX1_canTake_4 : decode cX1_canTake 4 = .ok (.iload_n 2, 1) := by decide +kernel
theorem dX1_canTake_5 : decode cX1_canTake 5 = .ok (.aaload, 1) := by decide +kernel
theorem dX1_canTake_6 : decode cX1_canTake 6 = .ok (.getfield 25, 3) := by decide +kernel
theorem dX1_canTake_9 : decode cX1_canTake 9 = .ok (.aload_n 0, 1) := by decide +kernel
theorem dX1_canTake_10 : decode cX1_canTake 10 = .ok (.aload_n 1, 1) := by decide +kernel
theorem dX1_canTake_11 : decode cX1_canTake 11 = .ok (.iload_n 2, 1) := by decide +kernel
theorem dX1_canTake_12 : decode cX1_canTake 12 = .ok (.invokevirtual 44, 3) := by decide +kernel
theorem dX1_canTake_15 : decode cX1_canTake 15 = .ok (.invokestatic 48, 3) := by decide +kernel
theorem dX1_canTake_18 : decode cX1_canTake 18 = .ok (.istore 4, 2) := by decide +kernel
theorem dX1_canTake_20 : decode cX1_canTake 20 = .ok (.iload 4, 2) := by decide +kernel
theorem dX1_canTake_22 : decode cX1_canTake 22 = .ok (.aload_n 1, 1) := by decide +kernel
theorem dX1_canTake_23 : decode cX1_canTake 23 = .ok (.getfield 54, 3) := by decide +kernel
theorem dX1_canTake_26 : decode cX1_canTake 26 = .ok (.iload_n 3, 1) := by decide +kernel
theorem dX1_canTake_27 : decode cX1_canTake 27 = .ok (.iaload, 1) := by decide +kernel
theorem dX1_canTake_28 : decode cX1_canTake 28 = .ok (.invokestatic 48, 3) := by decide +kernel
theorem dX1_canTake_31 : decode cX1_canTake 31 = .ok (.ireturn, 1) := by decide +kernel
theorem dX1_take_0 : decode cX1_take 0 = .ok (.aload_n 0, 1) := by decide +kernel
theorem dX1_take_1 : decode cX1_take 1 = .ok (.aload_n 1, 1) := by decide +kernel
theorem dX1_take_2 : decode cX1_take 2 = .ok (.iload_n 2, 1) := by decide +kernel
theorem dX1_take_3 : decode cX1_take 3 = .ok (.iload_n 3, 1) := by decide +kernel
theorem dX1_take_4 : decode cX1_take 4 = .ok (.invokevirtual 57, 3) := by decide +kernel
theorem dX1_take_7 : decode cX1_take 7 = .ok (.istore 4, 2) := by decide +kernel
theorem dX1_take_9 : decode cX1_take 9 = .ok (.aload_n 1, 1) := by decide +kernel
theorem dX1_take_10 : decode cX1_take 10 = .ok (.getfield 54, 3) := by decide +kernel
theorem dX1_take_13 : decode cX1_take 13 = .ok (.iload_n 3, 1) := by decide +kernel
theorem dX1_take_14 : decode cX1_take 14 = .ok (.dup2, 1) := by decide +kernel
theorem dX1_take_15 : decode cX1_take 15 = .ok (.iaload, 1) := by decide +kernel
theorem dX1_take_16 : decode cX1_take 16 = .ok (.iload 4, 2) := by decide +kernel
theorem dX1_take_18 : decode cX1_take 18 = .ok (.isub, 1) := by decide +kernel
theorem dX1_take_19 : decode cX1_take 19 = .ok (.iastore, 1) := by decide +kernel
theorem dX1_take_20 : decode cX1_take 20 = .ok (.aload_n 1, 1) := by decide +kernel
theorem dX1_take_21 : decode cX1_take 21 = .ok (.getfield 38, 3) := by decide +kernel
theorem dX1_take_24 : decode cX1_take 24 = .ok (.iload_n 2, 1) := by decide +kernel
theorem dX1_take_25 : decode cX1_take 25 = .ok (.dup2, 1) := by decide +kernel
theorem dX1_take_26 : decode cX1_take 26 = .ok (.iaload, 1) := by decide +kernel
theorem dX1_take_27 : decode cX1_take 27 = .ok (.iload 4, 2) := by decide +kernel
theorem dX1_take_29 : decode cX1_take 29 = .ok (.iadd, 1) := by decide +kernel
theorem dX1_take_30 : decode cX1_take 30 = .ok (.iastore, 1) := by decide +kernel
theorem dX1_take_31 : decode cX1_take 31 = .ok (.return_, 1) := by decide +kernel
theorem dX1_skim_0 : decode cX1_skim 0 = .ok (.iload_n 2, 1) := by decide +kernel
theorem dX1_skim_1 : decode cX1_skim 1 = .ok (.istore 4, 2) := by decide +kernel
theorem dX1_skim_3 : decode cX1_skim 3 = .ok (.iload 4, 2) := by decide +kernel
theorem dX1_skim_5 : decode cX1_skim 5 = .ok (.iload_n 3, 1) := by decide +kernel
theorem dX1_skim_6 : decode cX1_skim 6 = .ok (.if_icmp .ge 26, 3) := by decide +kernel
theorem dX1_skim_9 : decode cX1_skim 9 = .ok (.aload_n 0, 1) := by decide +kernel
theorem dX1_skim_10 : decode cX1_skim 10 = .ok (.aload_n 1, 1) := by decide +kernel
theorem dX1_skim_11 : decode cX1_skim 11 = .ok (.iload 4, 2) := by decide +kernel
theorem dX1_skim_13 : decode cX1_skim 13 = .ok (.aload_n 0, 1) := by decide +kernel
theorem dX1_skim_14 : decode cX1_skim 14 = .ok (.getfield 11, 3) := by decide +kernel
theorem dX1_skim_17 : decode cX1_skim 17 = .ok (.iload 4, 2) := by decide +kernel
theorem dX1_skim_19 : decode cX1_skim 19 = .ok (.aaload, 1) := by decide +kernel
theorem dX1_skim_20 : decode cX1_skim 20 = .ok (.getfield 22, 3) := by decide +kernel
theorem dX1_skim_23 : decode cX1_skim 23 = .ok (.invokevirtual 61, 3) := by decide +kernel
theorem dX1_skim_26 : decode cX1_skim 26 = .ok (.iinc 4 1, 3) := by decide +kernel
theorem dX1_skim_29 : decode cX1_skim 29 = .ok (.goto (-26), 3) := by decide +kernel
theorem dX1_skim_32 : decode cX1_skim 32 = .ok (.return_, 1) := by decide +kernel
theorem dX2_init_0 : decode cX2_init 0 = .ok (.aload_n 0, 1) := by decide +kernel
theorem dX2_init_1 : decode cX2_init 1 = .ok (.invokespecial 3, 3) := by decide +kernel
theorem dX2_init_4 : decode cX2_init 4 = .ok (.aload_n 0, 1) := by decide +kernel
theorem dX2_init_5 : decode cX2_init 5 = .ok (.bipush 96, 2) := by decide +kernel
theorem dX2_init_7 : decode cX2_init 7 = .ok (.newarray .int, 2) := by decide +kernel
theorem dX2_init_9 : decode cX2_init 9 = .ok (.putfield 9, 3) := by decide +kernel
theorem dX2_init_12 : decode cX2_init 12 = .ok (.return_, 1) := by decide +kernel
theorem dX2_isCell_0 : decode cX2_isCell 0 = .ok (.iload_n 0, 1) := by decide +kernel
theorem dX2_isCell_1 : decode cX2_isCell 1 = .ok (.ifCond .lt 13, 3) := by decide +kernel
theorem dX2_isCell_4 : decode cX2_isCell 4 = .ok (.iload_n 0, 1) := by decide +kernel
theorem dX2_isCell_5 : decode cX2_isCell 5 = .ok (.bipush 96, 2) := by decide +kernel
theorem dX2_isCell_7 : decode cX2_isCell 7 = .ok (.if_icmp .ge 7, 3) := by decide +kernel
theorem dX2_isCell_10 : decode cX2_isCell 10 = .ok (.iconst 1, 1) := by decide +kernel
theorem dX2_isCell_11 : decode cX2_isCell 11 = .ok (.goto 4, 3) := by decide +kernel
theorem dX2_isCell_14 : decode cX2_isCell 14 = .ok (.iconst 0, 1) := by decide +kernel
theorem dX2_isCell_15 : decode cX2_isCell 15 = .ok (.ireturn, 1) := by decide +kernel
theorem dX2_isSea_0 : decode cX2_isSea 0 = .ok (.iload_n 1, 1) := by decide +kernel
theorem dX2_isSea_1 : decode cX2_isSea 1 = .ok (.invokestatic 15, 3) := by decide +kernel
theorem dX2_isSea_4 : decode cX2_isSea 4 = .ok (.ifCond .eq 16, 3) := by decide +kernel
theorem dX2_isSea_7 : decode cX2_isSea 7 = .ok (.aload_n 0, 1) := by decide +kernel
theorem dX2_isSea_8 : decode cX2_isSea 8 = .ok (.getfield 9, 3) := by decide +kernel
theorem dX2_isSea_11 : decode cX2_isSea 11 = .ok (.iload_n 1, 1) := by decide +kernel
theorem dX2_isSea_12 : decode cX2_isSea 12 = .ok (.iaload, 1) := by decide +kernel
theorem dX2_isSea_13 : decode cX2_isSea 13 = .ok (.ifCond .ne 7, 3) := by decide +kernel
theorem dX2_isSea_16 : decode cX2_isSea 16 = .ok (.iconst 1, 1) := by decide +kernel
theorem dX2_isSea_17 : decode cX2_isSea 17 = .ok (.goto 4, 3) := by decide +kernel
theorem dX2_isSea_20 : decode cX2_isSea 20 = .ok (.iconst 0, 1) := by decide +kernel
theorem dX2_isSea_21 : decode cX2_isSea 21 = .ok (.ireturn, 1) := by decide +kernel
theorem dX2_ahead_0 : decode cX2_ahead 0 = .ok (.iload_n 0, 1) := by decide +kernel
theorem dX2_ahead_1 : decode cX2_ahead 1 = .ok (.bipush 12, 2) := by decide +kernel
theorem dX2_ahead_3 : decode cX2_ahead 3 = .ok (.irem, 1) := by decide +kernel
theorem dX2_ahead_4 : decode cX2_ahead 4 = .ok (.istore_n 2, 1) := by decide +kernel
theorem dX2_ahead_5 : decode cX2_ahead 5 = .ok (.iload_n 1, 1) := by decide +kernel
theorem dX2_ahead_6 : decode cX2_ahead 6 = .ok (.tableswitch 86 1 4 #[30, 45, 59, 74], 30) := by decide +kernel
theorem dX2_ahead_36 : decode cX2_ahead 36 = .ok (.iload_n 0, 1) := by decide +kernel
theorem dX2_ahead_37 : decode cX2_ahead 37 = .ok (.bipush 12, 2) := by decide +kernel
theorem dX2_ahead_39 : decode cX2_ahead 39 = .ok (.if_icmp .lt 10, 3) := by decide +kernel
theorem dX2_ahead_42 : decode cX2_ahead 42 = .ok (.iload_n 0, 1) := by decide +kernel
theorem dX2_ahead_43 : decode cX2_ahead 43 = .ok (.bipush 12, 2) := by decide +kernel
theorem dX2_ahead_45 : decode cX2_ahead 45 = .ok (.isub, 1) := by decide +kernel
theorem dX2_ahead_46 : decode cX2_ahead 46 = .ok (.goto 4, 3) := by decide +kernel
theorem dX2_ahead_49 : decode cX2_ahead 49 = .ok (.iconst (-1), 1) := by decide +kernel
theorem dX2_ahead_50 : decode cX2_ahead 50 = .ok (.ireturn, 1) := by decide +kernel
theorem dX2_ahead_51 : decode cX2_ahead 51 = .ok (.iload_n 2, 1) := by decide +kernel
theorem dX2_ahead_52 : decode cX2_ahead 52 = .ok (.bipush 11, 2) := by decide +kernel
theorem dX2_ahead_54 : decode cX2_ahead 54 = .ok (.if_icmp .ge 9, 3) := by decide +kernel
theorem dX2_ahead_57 : decode cX2_ahead 57 = .ok (.iload_n 0, 1) := by decide +kernel
theorem dX2_ahead_58 : decode cX2_ahead 58 = .ok (.iconst 1, 1) := by decide +kernel
theorem dX2_ahead_59 : decode cX2_ahead 59 = .ok (.iadd, 1) := by decide +kernel
theorem dX2_ahead_60 : decode cX2_ahead 60 = .ok (.goto 4, 3) := by decide +kernel
theorem dX2_ahead_63 : decode cX2_ahead 63 = .ok (.iconst (-1), 1) := by decide +kernel
theorem dX2_ahead_64 : decode cX2_ahead 64 = .ok (.ireturn, 1) := by decide +kernel
theorem dX2_ahead_65 : decode cX2_ahead 65 = .ok (.iload_n 0, 1) := by decide +kernel
theorem dX2_ahead_66 : decode cX2_ahead 66 = .ok (.bipush 84, 2) := by decide +kernel
theorem dX2_ahead_68 : decode cX2_ahead 68 = .ok (.if_icmp .ge 10, 3) := by decide +kernel
theorem dX2_ahead_71 : decode cX2_ahead 71 = .ok (.iload_n 0, 1) := by decide +kernel
theorem dX2_ahead_72 : decode cX2_ahead 72 = .ok (.bipush 12, 2) := by decide +kernel
theorem dX2_ahead_74 : decode cX2_ahead 74 = .ok (.iadd, 1) := by decide +kernel
theorem dX2_ahead_75 : decode cX2_ahead 75 = .ok (.goto 4, 3) := by decide +kernel
theorem dX2_ahead_78 : decode cX2_ahead 78 = .ok (.iconst (-1), 1) := by decide +kernel
theorem dX2_ahead_79 : decode cX2_ahead 79 = .ok (.ireturn, 1) := by decide +kernel
theorem dX2_ahead_80 : decode cX2_ahead 80 = .ok (.iload_n 2, 1) := by decide +kernel
theorem dX2_ahead_81 : decode cX2_ahead 81 = .ok (.ifCond .le 9, 3) := by decide +kernel
theorem dX2_ahead_84 : decode cX2_ahead 84 = .ok (.iload_n 0, 1) := by decide +kernel
theorem dX2_ahead_85 : decode cX2_ahead 85 = .ok (.iconst 1, 1) := by decide +kernel
theorem dX2_ahead_86 : decode cX2_ahead 86 = .ok (.isub, 1) := by decide +kernel
theorem dX2_ahead_87 : decode cX2_ahead 87 = .ok (.goto 4, 3) := by decide +kernel
theorem dX2_ahead_90 : decode cX2_ahead 90 = .ok (.iconst (-1), 1) := by decide +kernel
theorem dX2_ahead_91 : decode cX2_ahead 91 = .ok (.ireturn, 1) := by decide +kernel
theorem dX2_ahead_92 : decode cX2_ahead 92 = .ok (.iconst (-1), 1) := by decide +kernel
theorem dX2_ahead_93 : decode cX2_ahead 93 = .ok (.ireturn, 1) := by decide +kernel
theorem dX2_opposite_0 : decode cX2_opposite 0 = .ok (.iload_n 0, 1) := by decide +kernel
theorem dX2_opposite_1 : decode cX2_opposite 1 = .ok (.tableswitch 39 1 4 #[31, 33, 35, 37], 31) := by decide +kernel
theorem dX2_opposite_32 : decode cX2_opposite 32 = .ok (.iconst 3, 1) := by decide +kernel
theorem dX2_opposite_33 : decode cX2_opposite 33 = .ok (.ireturn, 1) := by decide +kernel
theorem dX2_opposite_34 : decode cX2_opposite 34 = .ok (.iconst 4, 1) := by decide +kernel
theorem dX2_opposite_35 : decode cX2_opposite 35 = .ok (.ireturn, 1) := by decide +kernel
theorem dX2_opposite_36 : decode cX2_opposite 36 = .ok (.iconst 1, 1) := by decide +kernel
theorem dX2_opposite_37 : decode cX2_opposite 37 = .ok (.ireturn, 1) := by decide +kernel
theorem dX2_opposite_38 : decode cX2_opposite 38 = .ok (.iconst 2, 1) := by decide +kernel
theorem dX2_opposite_39 : decode cX2_opposite 39 = .ok (.ireturn, 1) := by decide +kernel
theorem dX2_opposite_40 : decode cX2_opposite 40 = .ok (.iconst 0, 1) := by decide +kernel
theorem dX2_opposite_41 : decode cX2_opposite 41 = .ok (.ireturn, 1) := by decide +kernel
theorem dX2_wayBeside_0 : decode cX2_wayBeside 0 = .ok (.iconst 1, 1) := by decide +kernel
theorem dX2_wayBeside_1 : decode cX2_wayBeside 1 = .ok (.istore_n 2, 1) := by decide +kernel
theorem dX2_wayBeside_2 : decode cX2_wayBeside 2 = .ok (.iload_n 2, 1) := by decide +kernel
theorem dX2_wayBeside_3 : decode cX2_wayBeside 3 = .ok (.iconst 4, 1) := by decide +kernel
theorem dX2_wayBeside_4 : decode cX2_wayBeside 4 = .ok (.if_icmp .gt 20, 3) := by decide +kernel
theorem dX2_wayBeside_7 : decode cX2_wayBeside 7 = .ok (.iload_n 0, 1) := by decide +kernel
theorem dX2_wayBeside_8 : decode cX2_wayBeside 8 = .ok (.iload_n 2, 1) := by decide +kernel
theorem dX2_wayBeside_9 : decode cX2_wayBeside 9 = .ok (.invokestatic 19, 3) := by decide +kernel
theorem dX2_wayBeside_12 : decode cX2_wayBeside 12 = .ok (.iload_n 1, 1) := by decide +kernel
theorem dX2_wayBeside_13 : decode cX2_wayBeside 13 = .ok (.if_icmp .ne 5, 3) := by decide +kernel
theorem dX2_wayBeside_16 : decode cX2_wayBeside 16 = .ok (.iload_n 2, 1) := by decide +kernel
theorem dX2_wayBeside_17 : decode cX2_wayBeside 17 = .ok (.ireturn, 1) := by decide +kernel
theorem dX2_wayBeside_18 : decode cX2_wayBeside 18 = .ok (.iinc 2 1, 3) := by decide +kernel
theorem dX2_wayBeside_21 : decode cX2_wayBeside 21 = .ok (.goto (-19), 3) := by decide +kernel
theorem dX2_wayBeside_24 : decode cX2_wayBeside 24 = .ok (.iconst 0, 1) := by decide +kernel
theorem dX2_wayBeside_25 : decode cX2_wayBeside 25 = .ok (.ireturn, 1) := by decide +kernel
theorem dX2_distance_0 : decode cX2_distance 0 = .ok (.iload_n 0, 1) := by decide +kernel
theorem dX2_distance_1 : decode cX2_distance 1 = .ok (.bipush 12, 2) := by decide +kernel
theorem dX2_distance_3 : decode cX2_distance 3 = .ok (.idiv, 1) := by decide +kernel
theorem dX2_distance_4 : decode cX2_distance 4 = .ok (.iload_n 1, 1) := by decide +kernel
theorem dX2_distance_5 : decode cX2_distance 5 = .ok (.bipush 12, 2) := by decide +kernel
theorem dX2_distance_7 : decode cX2_distance 7 = .ok (.idiv, 1) := by decide +kernel
theorem dX2_distance_8 : decode cX2_distance 8 = .ok (.isub, 1) := by decide +kernel
theorem dX2_distance_9 : decode cX2_distance 9 = .ok (.invokestatic 23, 3) := by decide +kernel
theorem dX2_distance_12 : decode cX2_distance 12 = .ok (.iload_n 0, 1) := by decide +kernel
theorem dX2_distance_13 : decode cX2_distance 13 = .ok (.bipush 12, 2) := by decide +kernel
theorem dX2_distance_15 : decode cX2_distance 15 = .ok (.irem, 1) := by decide +kernel
theorem dX2_distance_16 : decode cX2_distance 16 = .ok (.iload_n 1, 1) := by decide +kernel
theorem dX2_distance_17 : decode cX2_distance 17 = .ok (.bipush 12, 2) := by decide +kernel
theorem dX2_distance_19 : decode cX2_distance 19 = .ok (.irem, 1) := by decide +kernel
theorem dX2_distance_20 : decode cX2_distance 20 = .ok (.isub, 1) := by decide +kernel
theorem dX2_distance_21 : decode cX2_distance 21 = .ok (.invokestatic 23, 3) := by decide +kernel
theorem dX2_distance_24 : decode cX2_distance 24 = .ok (.iadd, 1) := by decide +kernel
theorem dX2_distance_25 : decode cX2_distance 25 = .ok (.ireturn, 1) := by decide +kernel
theorem dX3_init_0 : decode cX3_init 0 = .ok (.aload_n 0, 1) := by decide +kernel
theorem dX3_init_1 : decode cX3_init 1 = .ok (.invokespecial 3, 3) := by decide +kernel
theorem dX3_init_4 : decode cX3_init 4 = .ok (.return_, 1) := by decide +kernel
theorem dX3_begin_0 : decode cX3_begin 0 = .ok (.aload_n 0, 1) := by decide +kernel
theorem dX3_begin_1 : decode cX3_begin 1 = .ok (.iload_n 1, 1) := by decide +kernel
theorem dX3_begin_2 : decode cX3_begin 2 = .ok (.putfield 9, 3) := by decide +kernel
theorem dX3_begin_5 : decode cX3_begin 5 = .ok (.aload_n 0, 1) := by decide +kernel
theorem dX3_begin_6 : decode cX3_begin 6 = .ok (.iload_n 2, 1) := by decide +kernel
theorem dX3_begin_7 : decode cX3_begin 7 = .ok (.putfield 15, 3) := by decide +kernel
theorem dX3_begin_10 : decode cX3_begin 10 = .ok (.aload_n 0, 1) := by decide +kernel
theorem dX3_begin_11 : decode cX3_begin 11 = .ok (.iconst (-1), 1) := by decide +kernel
theorem dX3_begin_12 : decode cX3_begin 12 = .ok (.putfield 18, 3) := by decide +kernel
theorem dX3_begin_15 : decode cX3_begin 15 = .ok (.aload_n 0, 1) := by decide +kernel
theorem dX3_begin_16 : decode cX3_begin 16 = .ok (.iconst (-1), 1) := by decide +kernel
theorem dX3_begin_17 : decode cX3_begin 17 = .ok (.putfield 21, 3) := by decide +kernel
theorem dX3_begin_20 : decode cX3_begin 20 = .ok (.aload_n 0, 1) := by decide +kernel
theorem dX3_begin_21 : decode cX3_begin 21 = .ok (.iconst (-1), 1) := by decide +kernel
theorem dX3_begin_22 : decode cX3_begin 22 = .ok (.putfield 24, 3) := by decide +kernel
theorem dX3_begin_25 : decode cX3_begin 25 = .ok (.return_, 1) := by decide +kernel
theorem dX4_init_0 : decode cX4_init 0 = .ok (.aload_n 0, 1) := by decide +kernel
theorem dX4_init_1 : decode cX4_init 1 = .ok (.invokespecial 3, 3) := by decide +kernel
theorem dX4_init_4 : decode cX4_init 4 = .ok (.aload_n 0, 1) := by decide +kernel
theorem dX4_init_5 : decode cX4_init 5 = .ok (.bipush 96, 2) := by decide +kernel
theorem dX4_init_7 : decode cX4_init 7 = .ok (.newarray .boolean, 2) := by decide +kernel
theorem dX4_init_9 : decode cX4_init 9 = .ok (.putfield 9, 3) := by decide +kernel
theorem dX4_init_12 : decode cX4_init 12 = .ok (.return_, 1) := by decide +kernel
theorem dX5_init_0 : decode cX5_init 0 = .ok (.aload_n 0, 1) := by decide +kernel
theorem dX5_init_1 : decode cX5_init 1 = .ok (.invokespecial 1, 3) := by decide +kernel
theorem dX5_init_4 : decode cX5_init 4 = .ok (.return_, 1) := by decide +kernel
theorem dX6_init_0 : decode cX6_init 0 = .ok (.aload_n 0, 1) := by decide +kernel
theorem dX6_init_1 : decode cX6_init 1 = .ok (.invokespecial 3, 3) := by decide +kernel
theorem dX6_init_4 : decode cX6_init 4 = .ok (.aload_n 0, 1) := by decide +kernel
theorem dX6_init_5 : decode cX6_init 5 = .ok (.sipush 1503, 3) := by decide +kernel
theorem dX6_init_8 : decode cX6_init 8 = .ok (.newarray .int, 2) := by decide +kernel
theorem dX6_init_10 : decode cX6_init 10 = .ok (.putfield 9, 3) := by decide +kernel
theorem dX6_init_13 : decode cX6_init 13 = .ok (.return_, 1) := by decide +kernel
theorem dX6_tell_0 : decode cX6_tell 0 = .ok (.aload_n 0, 1) := by decide +kernel
theorem dX6_tell_1 : decode cX6_tell 1 = .ok (.getfield 9, 3) := by decide +kernel
theorem dX6_tell_4 : decode cX6_tell 4 = .ok (.iload_n 1, 1) := by decide +kernel
theorem dX6_tell_5 : decode cX6_tell 5 = .ok (.sipush 501, 3) := by decide +kernel
theorem dX6_tell_8 : decode cX6_tell 8 = .ok (.imul, 1) := by decide +kernel
theorem dX6_tell_9 : decode cX6_tell 9 = .ok (.iload_n 2, 1) := by decide +kernel
theorem dX6_tell_10 : decode cX6_tell 10 = .ok (.iadd, 1) := by decide +kernel
theorem dX6_tell_11 : decode cX6_tell 11 = .ok (.iload_n 3, 1) := by decide +kernel
theorem dX6_tell_12 : decode cX6_tell 12 = .ok (.bipush 10, 2) := by decide +kernel
theorem dX6_tell_14 : decode cX6_tell 14 = .ok (.imul, 1) := by decide +kernel
theorem dX6_tell_15 : decode cX6_tell 15 = .ok (.iload 4, 2) := by decide +kernel
theorem dX6_tell_17 : decode cX6_tell 17 = .ok (.iadd, 1) := by decide +kernel
theorem dX6_tell_18 : decode cX6_tell 18 = .ok (.iastore, 1) := by decide +kernel
theorem dX6_tell_19 : decode cX6_tell 19 = .ok (.return_, 1) := by decide +kernel
theorem dX6_wayAt_0 : decode cX6_wayAt 0 = .ok (.aload_n 0, 1) := by decide +kernel
theorem dX6_wayAt_1 : decode cX6_wayAt 1 = .ok (.iload_n 1, 1) := by decide +kernel
theorem dX6_wayAt_2 : decode cX6_wayAt 2 = .ok (.iload_n 2, 1) := by decide +kernel
theorem dX6_wayAt_3 : decode cX6_wayAt 3 = .ok (.invokevirtual 15, 3) := by decide +kernel
theorem dX6_wayAt_6 : decode cX6_wayAt 6 = .ok (.bipush 10, 2) := by decide +kernel
theorem dX6_wayAt_8 : decode cX6_wayAt 8 = .ok (.idiv, 1) := by decide +kernel
theorem dX6_wayAt_9 : decode cX6_wayAt 9 = .ok (.ireturn, 1) := by decide +kernel
theorem dX6_forceAt_0 : decode cX6_forceAt 0 = .ok (.aload_n 0, 1) := by decide +kernel
theorem dX6_forceAt_1 : decode cX6_forceAt 1 = .ok (.iload_n 1, 1) := by decide +kernel
theorem dX6_forceAt_2 : decode cX6_forceAt 2 = .ok (.iload_n 2, 1) := by decide +kernel
theorem dX6_forceAt_3 : decode cX6_forceAt 3 = .ok (.invokevirtual 15, 3) := by decide +kernel
theorem dX6_forceAt_6 : decode cX6_forceAt 6 = .ok (.bipush 10, 2) := by decide +kernel
theorem dX6_forceAt_8 : decode cX6_forceAt 8 = .ok (.irem, 1) := by decide +kernel
theorem dX6_forceAt_9 : decode cX6_forceAt 9 = .ok (.ireturn, 1) := by decide +kernel
theorem dX6_at_0 : decode cX6_at 0 = .ok (.iload_n 2, 1) := by decide +kernel
theorem dX6_at_1 : decode cX6_at 1 = .ok (.sipush 500, 3) := by decide +kernel
theorem dX6_at_4 : decode cX6_at 4 = .ok (.if_icmp .le 7, 3) := by decide +kernel
theorem dX6_at_7 : decode cX6_at 7 = .ok (.iconst 0, 1) := by decide +kernel
theorem dX6_at_8 : decode cX6_at 8 = .ok (.goto 15, 3) := by decide +kernel
theorem dX6_at_11 : decode cX6_at 11 = .ok (.aload_n 0, 1) := by decide +kernel
theorem dX6_at_12 : decode cX6_at 12 = .ok (.getfield 9, 3) := by decide +kernel
theorem dX6_at_15 : decode cX6_at 15 = .ok (.iload_n 1, 1) := by decide +kernel
theorem dX6_at_16 : decode cX6_at 16 = .ok (.sipush 501, 3) := by decide +kernel
theorem dX6_at_19 : decode cX6_at 19 = .ok (.imul, 1) := by decide +kernel
theorem dX6_at_20 : decode cX6_at 20 = .ok (.iload_n 2, 1) := by decide +kernel
theorem dX6_at_21 : decode cX6_at 21 = .ok (.iadd, 1) := by decide +kernel
theorem dX6_at_22 : decode cX6_at 22 = .ok (.iaload, 1) := by decide +kernel
theorem dX6_at_23 : decode cX6_at 23 = .ok (.ireturn, 1) := by decide +kernel
theorem dX7_init_0 : decode cX7_init 0 = .ok (.aload_n 0, 1) := by decide +kernel
theorem dX7_init_1 : decode cX7_init 1 = .ok (.invokespecial 3, 3) := by decide +kernel
theorem dX7_init_4 : decode cX7_init 4 = .ok (.aload_n 0, 1) := by decide +kernel
theorem dX7_init_5 : decode cX7_init 5 = .ok (.bipush 96, 2) := by decide +kernel
theorem dX7_init_7 : decode cX7_init 7 = .ok (.newarray .int, 2) := by decide +kernel
theorem dX7_init_9 : decode cX7_init 9 = .ok (.putfield 9, 3) := by decide +kernel
theorem dX7_init_12 : decode cX7_init 12 = .ok (.aload_n 0, 1) := by decide +kernel
theorem dX7_init_13 : decode cX7_init 13 = .ok (.iconst 4, 1) := by decide +kernel
theorem dX7_init_14 : decode cX7_init 14 = .ok (.newarray .int, 2) := by decide +kernel
theorem dX7_init_16 : decode cX7_init 16 = .ok (.putfield 15, 3) := by decide +kernel
theorem dX7_init_19 : decode cX7_init 19 = .ok (.return_, 1) := by decide +kernel
theorem dX7_become_0 : decode cX7_become 0 = .ok (.aload_n 1, 1) := by decide +kernel
theorem dX7_become_1 : decode cX7_become 1 = .ok (.getfield 9, 3) := by decide +kernel
theorem dX7_become_4 : decode cX7_become 4 = .ok (.iconst 0, 1) := by decide +kernel
theorem dX7_become_5 : decode cX7_become 5 = .ok (.aload_n 0, 1) := by decide +kernel
theorem dX7_become_6 : decode cX7_become 6 = .ok (.getfield 9, 3) := by decide +kernel
theorem dX7_become_9 : decode cX7_become 9 = .ok (.iconst 0, 1) := by decide +kernel
theorem dX7_become_10 : decode cX7_become 10 = .ok (.bipush 96, 2) := by decide +kernel
theorem dX7_become_12 : decode cX7_become 12 = .ok (.invokestatic 18, 3) := by decide +kernel
theorem dX7_become_15 : decode cX7_become 15 = .ok (.aload_n 1, 1) := by decide +kernel
theorem dX7_become_16 : decode cX7_become 16 = .ok (.getfield 15, 3) := by decide +kernel
theorem dX7_become_19 : decode cX7_become 19 = .ok (.iconst 0, 1) := by decide +kernel
theorem dX7_become_20 : decode cX7_become 20 = .ok (.aload_n 0, 1) := by decide +kernel
theorem dX7_become_21 : decode cX7_become 21 = .ok (.getfield 15, 3) := by decide +kernel
theorem dX7_become_24 : decode cX7_become 24 = .ok (.iconst 0, 1) := by decide +kernel
theorem dX7_become_25 : decode cX7_become 25 = .ok (.iconst 4, 1) := by decide +kernel
theorem dX7_become_26 : decode cX7_become 26 = .ok (.invokestatic 18, 3) := by decide +kernel
theorem dX7_become_29 : decode cX7_become 29 = .ok (.aload_n 0, 1) := by decide +kernel
theorem dX7_become_30 : decode cX7_become 30 = .ok (.aload_n 1, 1) := by decide +kernel
theorem dX7_become_31 : decode cX7_become 31 = .ok (.getfield 24, 3) := by decide +kernel
theorem dX7_become_34 : decode cX7_become 34 = .ok (.putfield 24, 3) := by decide +kernel
theorem dX7_become_37 : decode cX7_become 37 = .ok (.aload_n 0, 1) := by decide +kernel
theorem dX7_become_38 : decode cX7_become 38 = .ok (.aload_n 1, 1) := by decide +kernel
theorem dX7_become_39 : decode cX7_become 39 = .ok (.getfield 28, 3) := by decide +kernel
theorem dX7_become_42 : decode cX7_become 42 = .ok (.putfield 28, 3) := by decide +kernel
theorem dX7_become_45 : decode cX7_become 45 = .ok (.return_, 1) := by decide +kernel
theorem dJ9_abs_0f7a4_0 : decode cJ9_abs_0f7a4 0 = .ok (.iload_n 0, 1) := by decide +kernel
theorem dJ9_abs_0f7a4_1 : decode cJ9_abs_0f7a4 1 = .ok (.ifCond .ge 8, 3) := by decide +kernel
theorem dJ9_abs_0f7a4_4 : decode cJ9_abs_0f7a4 4 = .ok (.iload_n 0, 1) := by decide +kernel
theorem dJ9_abs_0f7a4_5 : decode cJ9_abs_0f7a4 5 = .ok (.ineg, 1) := by decide +kernel
theorem dJ9_abs_0f7a4_6 : decode cJ9_abs_0f7a4 6 = .ok (.goto 4, 3) := by decide +kernel
theorem dJ9_abs_0f7a4_9 : decode cJ9_abs_0f7a4 9 = .ok (.iload_n 0, 1) := by decide +kernel
theorem dJ9_abs_0f7a4_10 : decode cJ9_abs_0f7a4 10 = .ok (.ireturn, 1) := by decide +kernel
theorem dJ9_max_7cf53_0 : decode cJ9_max_7cf53 0 = .ok (.iload_n 0, 1) := by decide +kernel
theorem dJ9_max_7cf53_1 : decode cJ9_max_7cf53 1 = .ok (.iload_n 1, 1) := by decide +kernel
theorem dJ9_max_7cf53_2 : decode cJ9_max_7cf53 2 = .ok (.if_icmp .lt 7, 3) := by decide +kernel
theorem dJ9_max_7cf53_5 : decode cJ9_max_7cf53 5 = .ok (.iload_n 0, 1) := by decide +kernel
theorem dJ9_max_7cf53_6 : decode cJ9_max_7cf53 6 = .ok (.goto 4, 3) := by decide +kernel
theorem dJ9_max_7cf53_9 : decode cJ9_max_7cf53 9 = .ok (.iload_n 1, 1) := by decide +kernel
theorem dJ9_max_7cf53_10 : decode cJ9_max_7cf53 10 = .ok (.ireturn, 1) := by decide +kernel
theorem dJ9_min_7cf53_0 : decode cJ9_min_7cf53 0 = .ok (.iload_n 0, 1) := by decide +kernel
theorem dJ9_min_7cf53_1 : decode cJ9_min_7cf53 1 = .ok (.iload_n 1, 1) := by decide +kernel
theorem dJ9_min_7cf53_2 : decode cJ9_min_7cf53 2 = .ok (.if_icmp .gt 7, 3) := by decide +kernel
theorem dJ9_min_7cf53_5 : decode cJ9_min_7cf53 5 = .ok (.iload_n 0, 1) := by decide +kernel
theorem dJ9_min_7cf53_6 : decode cJ9_min_7cf53 6 = .ok (.goto 4, 3) := by decide +kernel
theorem dJ9_min_7cf53_9 : decode cJ9_min_7cf53 9 = .ok (.iload_n 1, 1) := by decide +kernel
theorem dJ9_min_7cf53_10 : decode cJ9_min_7cf53 10 = .ok (.ireturn, 1) := by decide +kernel
