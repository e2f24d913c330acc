theorem dX3_isSafe_6 : decode cX3_isSafe 6 = .ok (.ldc 84, 2) := by decide +kernel
theorem dX3_isSafe_8 : decode cX3_isSafe 8 = .ok (.iand, 1) := by decide +kernel
theorem dX3_isSafe_9 : decode cX3_isSafe 9 = .ok (.ifCond .ne 7, 3) := by decide +kernel
theorem dX3_isSafe_12 : decode cX3_isSafe 12 = .ok (.iconst 1, 1) := by decide +kernel
theorem dX3_isSafe_13 : decode cX3_isSafe 13 = .ok (.goto 4, 3) := by decide +kernel
theorem dX3_isSafe_16 : decode cX3_isSafe 16 = .ok (.iconst 0, 1) := by decide +kernel
theorem dX3_isSafe_17 : decode cX3_isSafe 17 = .ok (.ireturn, 1) := by decide +kernel
theorem dX3_heats_0 : decode cX3_heats 0 = .ok (.aload_n 0, 1) := by decide +kernel
theorem dX3_heats_1 : decode cX3_heats 1 = .ok (.aload_n 0, 1) := by decide +kernel
theorem dX3_heats_2 : decode cX3_heats 2 = .ok (.getfield 34, 3) := by decide +kernel
theorem dX3_heats_5 : decode cX3_heats 5 = .ok (.invokevirtual 85, 3) := by decide +kernel
theorem dX3_heats_8 : decode cX3_heats 8 = .ok (.ireturn, 1) := by decide +kernel
theorem dX3_heatsWithout_0 : decode cX3_heatsWithout 0 = .ok (.iconst 0, 1) := by decide +kernel
theorem dX3_heatsWithout_1 : decode cX3_heatsWithout 1 = .ok (.istore_n 2, 1) := by decide +kernel
theorem dX3_heatsWithout_2 : decode cX3_heatsWithout 2 = .ok (.iconst 0, 1) := by decide +kernel
theorem dX3_heatsWithout_3 : decode cX3_heatsWithout 3 = .ok (.istore_n 3, 1) := by decide +kernel
theorem dX3_heatsWithout_4 : decode cX3_heatsWithout 4 = .ok (.iload_n 3, 1) := by decide +kernel
theorem dX3_heatsWithout_5 : decode cX3_heatsWithout 5 = .ok (.aload_n 0, 1) := by decide +kernel
theorem dX3_heatsWithout_6 : decode cX3_heatsWithout 6 = .ok (.getfield 27, 3) := by decide +kernel
theorem dX3_heatsWithout_9 : decode cX3_heatsWithout 9 = .ok (.if_icmp .ge 31, 3) := by decide +kernel
theorem dX3_heatsWithout_12 : decode cX3_heatsWithout 12 = .ok (.iload_n 1, 1) := by decide +kernel
theorem dX3_heatsWithout_13 : decode cX3_heatsWithout 13 = .ok (.iload_n 3, 1) := by decide +kernel
theorem dX3_heatsWithout_14 : decode cX3_heatsWithout 14 = .ok (.invokestatic 37, 3) := by decide +kernel
theorem dX3_heatsWithout_17 : decode cX3_heatsWithout 17 = .ok (.ifCond .ne 17, 3) := by decide +kernel
theorem dX3_heatsWithout_20 : decode cX3_heatsWithout 20 = .ok (.iload_n 2, 1) := by decide +kernel
theorem dX3_heatsWithout_21 : decode cX3_heatsWithout 21 = .ok (.aload_n 0, 1) := by decide +kernel
theorem dX3_heatsWithout_22 : decode cX3_heatsWithout 22 = .ok (.iload_n 3, 1) := by decide +kernel
theorem dX3_heatsWithout_23 : decode cX3_heatsWithout 23 = .ok (.aload_n 0, 1) := by decide +kernel
theorem dX3_heatsWithout_24 : decode cX3_heatsWithout 24 = .ok (.getfield 18, 3) := by decide +kernel
theorem dX3_heatsWithout_27 : decode cX3_heatsWithout 27 = .ok (.iload_n 3, 1) := by decide +kernel
theorem dX3_heatsWithout_28 : decode cX3_heatsWithout 28 = .ok (.iaload, 1) := by decide +kernel
theorem dX3_heatsWithout_29 : decode cX3_heatsWithout 29 = .ok (.invokevirtual 88, 3) := by decide +kernel
theorem dX3_heatsWithout_32 : decode cX3_heatsWithout 32 = .ok (.iadd, 1) := by decide +kernel
theorem dX3_heatsWithout_33 : decode cX3_heatsWithout 33 = .ok (.istore_n 2, 1) := by decide +kernel
theorem dX3_heatsWithout_34 : decode cX3_heatsWithout 34 = .ok (.iinc 3 1, 3) := by decide +kernel
theorem dX3_heatsWithout_37 : decode cX3_heatsWithout 37 = .ok (.goto (-33), 3) := by decide +kernel
theorem dX3_heatsWithout_40 : decode cX3_heatsWithout 40 = .ok (.iload_n 2, 1) := by decide +kernel
theorem dX3_heatsWithout_41 : decode cX3_heatsWithout 41 = .ok (.ireturn, 1) := by decide +kernel
theorem dX3_aimingAt_0 : decode cX3_aimingAt 0 = .ok (.iconst 0, 1) := by decide +kernel
theorem dX3_aimingAt_1 : decode cX3_aimingAt 1 = .ok (.istore_n 2, 1) := by decide +kernel
theorem dX3_aimingAt_2 : decode cX3_aimingAt 2 = .ok (.iconst 0, 1) := by decide +kernel
theorem dX3_aimingAt_3 : decode cX3_aimingAt 3 = .ok (.istore_n 3, 1) := by decide +kernel
theorem dX3_aimingAt_4 : decode cX3_aimingAt 4 = .ok (.iload_n 3, 1) := by decide +kernel
theorem dX3_aimingAt_5 : decode cX3_aimingAt 5 = .ok (.aload_n 0, 1) := by decide +kernel
theorem dX3_aimingAt_6 : decode cX3_aimingAt 6 = .ok (.getfield 27, 3) := by decide +kernel
theorem dX3_aimingAt_9 : decode cX3_aimingAt 9 = .ok (.if_icmp .ge 22, 3) := by decide +kernel
theorem dX3_aimingAt_12 : decode cX3_aimingAt 12 = .ok (.aload_n 0, 1) := by decide +kernel
theorem dX3_aimingAt_13 : decode cX3_aimingAt 13 = .ok (.getfield 18, 3) := by decide +kernel
theorem dX3_aimingAt_16 : decode cX3_aimingAt 16 = .ok (.iload_n 3, 1) := by decide +kernel
theorem dX3_aimingAt_17 : decode cX3_aimingAt 17 = .ok (.iaload, 1) := by decide +kernel
theorem dX3_aimingAt_18 : decode cX3_aimingAt 18 = .ok (.iload_n 1, 1) := by decide +kernel
theorem dX3_aimingAt_19 : decode cX3_aimingAt 19 = .ok (.if_icmp .ne 6, 3) := by decide +kernel
theorem dX3_aimingAt_22 : decode cX3_aimingAt 22 = .ok (.iinc 2 1, 3) := by decide +kernel
theorem dX3_aimingAt_25 : decode cX3_aimingAt 25 = .ok (.iinc 3 1, 3) := by decide +kernel
theorem dX3_aimingAt_28 : decode cX3_aimingAt 28 = .ok (.goto (-24), 3) := by decide +kernel
theorem dX3_aimingAt_31 : decode cX3_aimingAt 31 = .ok (.iload_n 2, 1) := by decide +kernel
theorem dX3_aimingAt_32 : decode cX3_aimingAt 32 = .ok (.ireturn, 1) := by decide +kernel
theorem dX3_bound_0 : decode cX3_bound 0 = .ok (.iconst 0, 1) := by decide +kernel
theorem dX3_bound_1 : decode cX3_bound 1 = .ok (.istore_n 1, 1) := by decide +kernel
theorem dX3_bound_2 : decode cX3_bound 2 = .ok (.iconst 0, 1) := by decide +kernel
theorem dX3_bound_3 : decode cX3_bound 3 = .ok (.istore_n 2, 1) := by decide +kernel
theorem dX3_bound_4 : decode cX3_bound 4 = .ok (.iload_n 2, 1) := by decide +kernel
theorem dX3_bound_5 : decode cX3_bound 5 = .ok (.aload_n 0, 1) := by decide +kernel
theorem dX3_bound_6 : decode cX3_bound 6 = .ok (.getfield 27, 3) := by decide +kernel
theorem dX3_bound_9 : decode cX3_bound 9 = .ok (.if_icmp .ge 50, 3) := by decide +kernel
theorem dX3_bound_12 : decode cX3_bound 12 = .ok (.aload_n 0, 1) := by decide +kernel
theorem dX3_bound_13 : decode cX3_bound 13 = .ok (.iload_n 2, 1) := by decide +kernel
theorem dX3_bound_14 : decode cX3_bound 14 = .ok (.invokevirtual 91, 3) := by decide +kernel
theorem dX3_bound_17 : decode cX3_bound 17 = .ok (.ifCond .ne 36, 3) := by decide +kernel
theorem dX3_bound_20 : decode cX3_bound 20 = .ok (.iload_n 1, 1) := by decide +kernel
theorem dX3_bound_21 : decode cX3_bound 21 = .ok (.aload_n 0, 1) := by decide +kernel
theorem dX3_bound_22 : decode cX3_bound 22 = .ok (.iload_n 2, 1) := by decide +kernel
theorem dX3_bound_23 : decode cX3_bound 23 = .ok (.invokevirtual 94, 3) := by decide +kernel
theorem dX3_bound_26 : decode cX3_bound 26 = .ok (.ifCond .eq 20, 3) := by decide +kernel
theorem dX3_bound_29 : decode cX3_bound 29 = .ok (.aload_n 0, 1) := by decide +kernel
theorem dX3_bound_30 : decode cX3_bound 30 = .ok (.iload_n 2, 1) := by decide +kernel
theorem dX3_bound_31 : decode cX3_bound 31 = .ok (.aload_n 0, 1) := by decide +kernel
theorem dX3_bound_32 : decode cX3_bound 32 = .ok (.getfield 18, 3) := by decide +kernel
theorem dX3_bound_35 : decode cX3_bound 35 = .ok (.iload_n 2, 1) := by decide +kernel
theorem dX3_bound_36 : decode cX3_bound 36 = .ok (.iaload, 1) := by decide +kernel
theorem dX3_bound_37 : decode cX3_bound 37 = .ok (.invokevirtual 88, 3) := by decide +kernel
theorem dX3_bound_40 : decode cX3_bound 40 = .ok (.invokestatic 97, 3) := by decide +kernel
theorem dX3_bound_43 : decode cX3_bound 43 = .ok (.goto 8, 3) := by decide +kernel
theorem dX3_bound_46 : decode cX3_bound 46 = .ok (.aload_n 0, 1) := by decide +kernel
theorem dX3_bound_47 : decode cX3_bound 47 = .ok (.iload_n 2, 1) := by decide +kernel
theorem dX3_bound_48 : decode cX3_bound 48 = .ok (.invokevirtual 100, 3) := by decide +kernel
theorem dX3_bound_51 : decode cX3_bound 51 = .ok (.iadd, 1) := by decide +kernel
theorem dX3_bound_52 : decode cX3_bound 52 = .ok (.istore_n 1, 1) := by decide +kernel
theorem dX3_bound_53 : decode cX3_bound 53 = .ok (.iinc 2 1, 3) := by decide +kernel
theorem dX3_bound_56 : decode cX3_bound 56 = .ok (.goto (-52), 3) := by decide +kernel
theorem dX3_bound_59 : decode cX3_bound 59 = .ok (.iconst 0, 1) := by decide +kernel
theorem dX3_bound_60 : decode cX3_bound 60 = .ok (.istore_n 2, 1) := by decide +kernel
theorem dX3_bound_61 : decode cX3_bound 61 = .ok (.iconst 0, 1) := by decide +kernel
theorem dX3_bound_62 : decode cX3_bound 62 = .ok (.istore_n 3, 1) := by decide +kernel
theorem dX3_bound_63 : decode cX3_bound 63 = .ok (.iload_n 3, 1) := by decide +kernel
theorem dX3_bound_64 : decode cX3_bound 64 = .ok (.aload_n 0, 1) := by decide +kernel
theorem dX3_bound_65 : decode cX3_bound 65 = .ok (.getfield 31, 3) := by decide +kernel
theorem dX3_bound_68 : decode cX3_bound 68 = .ok (.if_icmp .ge 18, 3) := by decide +kernel
theorem dX3_bound_71 : decode cX3_bound 71 = .ok (.iload_n 2, 1) := by decide +kernel
theorem dX3_bound_72 : decode cX3_bound 72 = .ok (.aload_n 0, 1) := by decide +kernel
theorem dX3_bound_73 : decode cX3_bound 73 = .ok (.getfield 24, 3) := by decide +kernel
theorem dX3_bound_76 : decode cX3_bound 76 = .ok (.iload_n 3, 1) := by decide +kernel
theorem dX3_bound_77 : decode cX3_bound 77 = .ok (.iaload, 1) := by decide +kernel
theorem dX3_bound_78 : decode cX3_bound 78 = .ok (.iadd, 1) := by decide +kernel
theorem dX3_bound_79 : decode cX3_bound 79 = .ok (.istore_n 2, 1) := by decide +kernel
theorem dX3_bound_80 : decode cX3_bound 80 = .ok (.iinc 3 1, 3) := by decide +kernel
theorem dX3_bound_83 : decode cX3_bound 83 = .ok (.goto (-20), 3) := by decide +kernel
theorem dX3_bound_86 : decode cX3_bound 86 = .ok (.iload_n 1, 1) := by decide +kernel
theorem dX3_bound_87 : decode cX3_bound 87 = .ok (.iload_n 2, 1) := by decide +kernel
theorem dX3_bound_88 : decode cX3_bound 88 = .ok (.invokestatic 50, 3) := by decide +kernel
theorem dX3_bound_91 : decode cX3_bound 91 = .ok (.ireturn, 1) := by decide +kernel
theorem dX3_mostLight_0 : decode cX3_mostLight 0 = .ok (.iconst 0, 1) := by decide +kernel
theorem dX3_mostLight_1 : decode cX3_mostLight 1 = .ok (.istore_n 2, 1) := by decide +kernel
theorem dX3_mostLight_2 : decode cX3_mostLight 2 = .ok (.iconst 0, 1) := by decide +kernel
theorem dX3_mostLight_3 : decode cX3_mostLight 3 = .ok (.istore_n 3, 1) := by decide +kernel
theorem dX3_mostLight_4 : decode cX3_mostLight 4 = .ok (.iload_n 3, 1) := by decide +kernel
theorem dX3_mostLight_5 : decode cX3_mostLight 5 = .ok (.aload_n 0, 1) := by decide +kernel
theorem dX3_mostLight_6 : decode cX3_mostLight 6 = .ok (.getfield 31, 3) := by decide +kernel
theorem dX3_mostLight_9 : decode cX3_mostLight 9 = .ok (.if_icmp .ge 23, 3) := by decide +kernel
theorem dX3_mostLight_12 : decode cX3_mostLight 12 = .ok (.iload_n 2, 1) := by decide +kernel
theorem dX3_mostLight_13 : decode cX3_mostLight 13 = .ok (.aload_n 0, 1) := by decide +kernel
theorem dX3_mostLight_14 : decode cX3_mostLight 14 = .ok (.iload_n 1, 1) := by decide +kernel
theorem dX3_mostLight_15 : decode cX3_mostLight 15 = .ok (.iload_n 3, 1) := by decide +kernel
theorem dX3_mostLight_16 : decode cX3_mostLight 16 = .ok (.invokevirtual 88, 3) := by decide +kernel
theorem dX3_mostLight_19 : decode cX3_mostLight 19 = .ok (.invokestatic 97, 3) := by decide +kernel
theorem dX3_mostLight_22 : decode cX3_mostLight 22 = .ok (.invokestatic 103, 3) := by decide +kernel
theorem dX3_mostLight_25 : decode cX3_mostLight 25 = .ok (.istore_n 2, 1) := by decide +kernel
theorem dX3_mostLight_26 : decode cX3_mostLight 26 = .ok (.iinc 3 1, 3) := by decide +kernel
theorem dX3_mostLight_29 : decode cX3_mostLight 29 = .ok (.goto (-25), 3) := by decide +kernel
theorem dX3_mostLight_32 : decode cX3_mostLight 32 = .ok (.iload_n 2, 1) := by decide +kernel
theorem dX3_mostLight_33 : decode cX3_mostLight 33 = .ok (.ireturn, 1) := by decide +kernel
theorem dX3_placeNow_0 : decode cX3_placeNow 0 = .ok (.iconst 0, 1) := by decide +kernel
theorem dX3_placeNow_1 : decode cX3_placeNow 1 = .ok (.istore_n 1, 1) := by decide +kernel
theorem dX3_placeNow_2 : decode cX3_placeNow 2 = .ok (.iconst 0, 1) := by decide +kernel
theorem dX3_placeNow_3 : decode cX3_placeNow 3 = .ok (.istore_n 2, 1) := by decide +kernel
theorem dX3_placeNow_4 : decode cX3_placeNow 4 = .ok (.iload_n 2, 1) := by decide +kernel
theorem dX3_placeNow_5 : decode cX3_placeNow 5 = .ok (.aload_n 0, 1) := by decide +kernel
theorem dX3_placeNow_6 : decode cX3_placeNow 6 = .ok (.getfield 27, 3) := by decide +kernel
theorem dX3_placeNow_9 : decode cX3_placeNow 9 = .ok (.if_icmp .ge 26, 3) := by decide +kernel
theorem dX3_placeNow_12 : decode cX3_placeNow 12 = .ok (.iload_n 1, 1) := by decide +kernel
theorem dX3_placeNow_13 : decode cX3_placeNow 13 = .ok (.aload_n 0, 1) := by decide +kernel
theorem dX3_placeNow_14 : decode cX3_placeNow 14 = .ok (.getfield 18, 3) := by decide +kernel
theorem dX3_placeNow_17 : decode cX3_placeNow 17 = .ok (.iload_n 2, 1) := by decide +kernel
theorem dX3_placeNow_18 : decode cX3_placeNow 18 = .ok (.iaload, 1) := by decide +kernel
theorem dX3_placeNow_19 : decode cX3_placeNow 19 = .ok (.iconst 1, 1) := by decide +kernel
theorem dX3_placeNow_20 : decode cX3_placeNow 20 = .ok (.iadd, 1) := by decide +kernel
theorem dX3_placeNow_21 : decode cX3_placeNow 21 = .ok (.getstatic 106, 3) := by decide +kernel
theorem dX3_placeNow_24 : decode cX3_placeNow 24 = .ok (.iload_n 2, 1) := by decide +kernel
theorem dX3_placeNow_25 : decode cX3_placeNow 25 = .ok (.iaload, 1) := by decide +kernel
theorem dX3_placeNow_26 : decode cX3_placeNow 26 = .ok (.imul, 1) := by decide +kernel
theorem dX3_placeNow_27 : decode cX3_placeNow 27 = .ok (.iadd, 1) := by decide +kernel
theorem dX3_placeNow_28 : decode cX3_placeNow 28 = .ok (.istore_n 1, 1) := by decide +kernel
theorem dX3_placeNow_29 : decode cX3_placeNow 29 = .ok (.iinc 2 1, 3) := by decide +kernel
theorem dX3_placeNow_32 : decode cX3_placeNow 32 = .ok (.goto (-28), 3) := by decide +kernel
theorem dX3_placeNow_35 : decode cX3_placeNow 35 = .ok (.iload_n 1, 1) := by decide +kernel
theorem dX3_placeNow_36 : decode cX3_placeNow 36 = .ok (.ireturn, 1) := by decide +kernel
theorem dX3_bestTrade_0 : decode cX3_bestTrade 0 = .ok (.sipush (-1001), 3) := by decide +kernel
theorem dX3_bestTrade_3 : decode cX3_bestTrade 3 = .ok (.istore_n 1, 1) := by decide +kernel
theorem dX3_bestTrade_4 : decode cX3_bestTrade 4 = .ok (.aload_n 0, 1) := by decide +kernel
theorem dX3_bestTrade_5 : decode cX3_bestTrade 5 = .ok (.invokevirtual 109, 3) := by decide +kernel
theorem dX3_bestTrade_8 : decode cX3_bestTrade 8 = .ok (.invokestatic 97, 3) := by decide +kernel
theorem dX3_bestTrade_11 : decode cX3_bestTrade 11 = .ok (.istore_n 2, 1) := by decide +kernel
theorem dX3_bestTrade_12 : decode cX3_bestTrade 12 = .ok (.iconst 0, 1) := by decide +kernel
theorem dX3_bestTrade_13 : decode cX3_bestTrade 13 = .ok (.istore_n 3, 1) := by decide +kernel
theorem dX3_bestTrade_14 : decode cX3_bestTrade 14 = .ok (.iload_n 3, 1) := by decide +kernel
theorem dX3_bestTrade_15 : decode cX3_bestTrade 15 = .ok (.aload_n 0, 1) := by decide +kernel
theorem dX3_bestTrade_16 : decode cX3_bestTrade 16 = .ok (.getfield 27, 3) := by decide +kernel
theorem dX3_bestTrade_19 : decode cX3_bestTrade 19 = .ok (.if_icmp .ge 106, 3) := by decide +kernel
theorem dX3_bestTrade_22 : decode cX3_bestTrade 22 = .ok (.iload_n 3, 1) := by decide +kernel
theorem dX3_bestTrade_23 : decode cX3_bestTrade 23 = .ok (.iconst 1, 1) := by decide +kernel
theorem dX3_bestTrade_24 : decode cX3_bestTrade 24 = .ok (.iadd, 1) := by decide +kernel
theorem dX3_bestTrade_25 : decode cX3_bestTrade 25 = .ok (.istore 4, 2) := by decide +kernel
theorem dX3_bestTrade_27 : decode cX3_bestTrade 27 = .ok (.iload 4, 2) := by decide +kernel
theorem dX3_bestTrade_29 : decode cX3_bestTrade 29 = .ok (.aload_n 0, 1) := by decide +kernel
theorem dX3_bestTrade_30 : decode cX3_bestTrade 30 = .ok (.getfield 27, 3) := by decide +kernel
theorem dX3_bestTrade_33 : decode cX3_bestTrade 33 = .ok (.if_icmp .ge 86, 3) := by decide +kernel
theorem dX3_bestTrade_36 : decode cX3_bestTrade 36 = .ok (.aload_n 0, 1) := by decide +kernel
theorem dX3_bestTrade_37 : decode cX3_bestTrade 37 = .ok (.iload_n 3, 1) := by decide +kernel
theorem dX3_bestTrade_38 : decode cX3_bestTrade 38 = .ok (.invokevirtual 94, 3) := by decide +kernel
theorem dX3_bestTrade_41 : decode cX3_bestTrade 41 = .ok (.ifCond .ne 72, 3) := by decide +kernel
theorem dX3_bestTrade_44 : decode cX3_bestTrade 44 = .ok (.aload_n 0, 1) := by decide +kernel
theorem dX3_bestTrade_45 : decode cX3_bestTrade 45 = .ok (.iload 4, 2) := by decide +kernel
theorem dX3_bestTrade_47 : decode cX3_bestTrade 47 = .ok (.invokevirtual 94, 3) := by decide +kernel
theorem dX3_bestTrade_50 : decode cX3_bestTrade 50 = .ok (.ifCond .ne 63, 3) := by decide +kernel
theorem dX3_bestTrade_53 : decode cX3_bestTrade 53 = .ok (.aload_n 0, 1) := by decide +kernel
theorem dX3_bestTrade_54 : decode cX3_bestTrade 54 = .ok (.getfield 18, 3) := by decide +kernel
theorem dX3_bestTrade_57 : decode cX3_bestTrade 57 = .ok (.iload_n 3, 1) := by decide +kernel
theorem dX3_bestTrade_58 : decode cX3_bestTrade 58 = .ok (.iaload, 1) := by decide +kernel
theorem dX3_bestTrade_59 : decode cX3_bestTrade 59 = .ok (.aload_n 0, 1) := by decide +kernel
theorem dX3_bestTrade_60 : decode cX3_bestTrade 60 = .ok (.getfield 18, 3) := by decide +kernel
theorem dX3_bestTrade_63 : decode cX3_bestTrade 63 = .ok (.iload 4, 2) := by decide +kernel
theorem dX3_bestTrade_65 : decode cX3_bestTrade 65 = .ok (.iaload, 1) := by decide +kernel
theorem dX3_bestTrade_66 : decode cX3_bestTrade 66 = .ok (.if_icmp .ne 6, 3) := by decide +kernel
theorem dX3_bestTrade_69 : decode cX3_bestTrade 69 = .ok (.goto 44, 3) := by decide +kernel
theorem dX3_bestTrade_72 : decode cX3_bestTrade 72 = .ok (.aload_n 0, 1) := by decide +kernel
theorem dX3_bestTrade_73 : decode cX3_bestTrade 73 = .ok (.iload_n 3, 1) := by decide +kernel
theorem dX3_bestTrade_74 : decode cX3_bestTrade 74 = .ok (.iload 4, 2) := by decide +kernel
theorem dX3_bestTrade_76 : decode cX3_bestTrade 76 = .ok (.invokevirtual 113, 3) := by decide +kernel
theorem dX3_bestTrade_79 : decode cX3_bestTrade 79 = .ok (.istore 5, 2) := by decide +kernel
theorem dX3_bestTrade_81 : decode cX3_bestTrade 81 = .ok (.aload_n 0, 1) := by decide +kernel
theorem dX3_bestTrade_82 : decode cX3_bestTrade 82 = .ok (.iload 5, 2) := by decide +kernel
theorem dX3_bestTrade_84 : decode cX3_bestTrade 84 = .ok (.invokevirtual 116, 3) := by decide +kernel
theorem dX3_bestTrade_87 : decode cX3_bestTrade 87 = .ok (.ifCond .eq 26, 3) := by decide +kernel
theorem dX3_bestTrade_90 : decode cX3_bestTrade 90 = .ok (.iload 5, 2) := by decide +kernel
theorem dX3_bestTrade_92 : decode cX3_bestTrade 92 = .ok (.invokestatic 97, 3) := by decide +kernel
theorem dX3_bestTrade_95 : decode cX3_bestTrade 95 = .ok (.iload_n 2, 1) := by decide +kernel
theorem dX3_bestTrade_96 : decode cX3_bestTrade 96 = .ok (.if_icmp .le 17, 3) := by decide +kernel
theorem dX3_bestTrade_99 : decode cX3_bestTrade 99 = .ok (.iload 5, 2) := by decide +kernel
theorem dX3_bestTrade_101 : decode cX3_bestTrade 101 = .ok (.invokestatic 97, 3) := by decide +kernel
theorem dX3_bestTrade_104 : decode cX3_bestTrade 104 = .ok (.istore_n 2, 1) := by decide +kernel
theorem dX3_bestTrade_105 : decode cX3_bestTrade 105 = .ok (.bipush 8, 2) := by decide +kernel
theorem dX3_bestTrade_107 : decode cX3_bestTrade 107 = .ok (.iload_n 3, 1) := by decide +kernel
theorem dX3_bestTrade_108 : decode cX3_bestTrade 108 = .ok (.imul, 1) := by decide +kernel
theorem dX3_bestTrade_109 : decode cX3_bestTrade 109 = .ok (.iload 4, 2) := by decide +kernel
theorem dX3_bestTrade_111 : decode cX3_bestTrade 111 = .ok (.iadd, 1) := by decide +kernel
theorem dX3_bestTrade_112 : decode cX3_bestTrade 112 = .ok (.istore_n 1, 1) := by decide +kernel
theorem dX3_bestTrade_113 : decode cX3_bestTrade 113 = .ok (.iinc 4 1, 3) := by decide +kernel
theorem dX3_bestTrade_116 : decode cX3_bestTrade 116 = .ok (.goto (-89), 3) := by decide +kernel
theorem dX3_bestTrade_119 : decode cX3_bestTrade 119 = .ok (.iinc 3 1, 3) := by decide +kernel
theorem dX3_bestTrade_122 : decode cX3_bestTrade 122 = .ok (.goto (-108), 3) := by decide +kernel
theorem dX3_bestTrade_125 : decode cX3_bestTrade 125 = .ok (.iload_n 1, 1) := by decide +kernel
theorem dX3_bestTrade_126 : decode cX3_bestTrade 126 = .ok (.ireturn, 1) := by decide +kernel
theorem dX3_heatsByTrade_0 : decode cX3_heatsByTrade 0 = .ok (.aload_n 0, 1) := by decide +kernel
theorem dX3_heatsByTrade_1 : decode cX3_heatsByTrade 1 = .ok (.iload_n 1, 1) := by decide +kernel
theorem dX3_heatsByTrade_2 : decode cX3_heatsByTrade 2 = .ok (.iload_n 2, 1) := by decide +kernel
theorem dX3_heatsByTrade_3 : decode cX3_heatsByTrade 3 = .ok (.invokevirtual 119, 3) := by decide +kernel
theorem dX3_heatsByTrade_6 : decode cX3_heatsByTrade 6 = .ok (.aload_n 0, 1) := by decide +kernel
theorem dX3_heatsByTrade_7 : decode cX3_heatsByTrade 7 = .ok (.aload_n 0, 1) := by decide +kernel
theorem dX3_heatsByTrade_8 : decode cX3_heatsByTrade 8 = .ok (.getfield 34, 3) := by decide +kernel
theorem dX3_heatsByTrade_11 : decode cX3_heatsByTrade 11 = .ok (.invokevirtual 85, 3) := by decide +kernel
theorem dX3_heatsByTrade_14 : decode cX3_heatsByTrade 14 = .ok (.istore_n 3, 1) := by decide +kernel
theorem dX3_heatsByTrade_15 : decode cX3_heatsByTrade 15 = .ok (.aload_n 0, 1) := by decide +kernel
theorem dX3_heatsByTrade_16 : decode cX3_heatsByTrade 16 = .ok (.iload_n 1, 1) := by decide +kernel
theorem dX3_heatsByTrade_17 : decode cX3_heatsByTrade 17 = .ok (.iload_n 2, 1) := by decide +kernel
theorem dX3_heatsByTrade_18 : decode cX3_heatsByTrade 18 = .ok (.invokevirtual 119, 3) := by decide +kernel
theorem dX3_heatsByTrade_21 : decode cX3_heatsByTrade 21 = .ok (.iload_n 3, 1) := by decide +kernel
theorem dX3_heatsByTrade_22 : decode cX3_heatsByTrade 22 = .ok (.ireturn, 1) := by decide +kernel
theorem dX3_swapAims_0 : decode cX3_swapAims 0 = .ok (.aload_n 0, 1) := by decide +kernel
theorem dX3_swapAims_1 : decode cX3_swapAims 1 = .ok (.iload_n 1, 1) := by decide +kernel
theorem dX3_swapAims_2 : decode cX3_swapAims 2 = .ok (.invokevirtual 78, 3) := by decide +kernel
theorem dX3_swapAims_5 : decode cX3_swapAims 5 = .ok (.ifCond .eq 37, 3) := by decide +kernel
theorem dX3_swapAims_8 : decode cX3_swapAims 8 = .ok (.aload_n 0, 1) := by decide +kernel
theorem dX3_swapAims_9 : decode cX3_swapAims 9 = .ok (.iload_n 2, 1) := by decide +kernel
theorem dX3_swapAims_10 : decode cX3_swapAims 10 = .ok (.invokevirtual 78, 3) := by decide +kernel
theorem dX3_swapAims_13 : decode cX3_swapAims 13 = .ok (.ifCond .eq 29, 3) := by decide +kernel
theorem dX3_swapAims_16 : decode cX3_swapAims 16 = .ok (.aload_n 0, 1) := by decide +kernel
theorem dX3_swapAims_17 : decode cX3_swapAims 17 = .ok (.getfield 18, 3) := by decide +kernel
theorem dX3_swapAims_20 : decode cX3_swapAims 20 = .ok (.iload_n 1, 1) := by decide +kernel
theorem dX3_swapAims_21 : decode cX3_swapAims 21 = .ok (.iaload, 1) := by decide +kernel
theorem dX3_swapAims_22 : decode cX3_swapAims 22 = .ok (.istore_n 3, 1) := by decide +kernel
theorem dX3_swapAims_23 : decode cX3_swapAims 23 = .ok (.aload_n 0, 1) := by decide +kernel
theorem dX3_swapAims_24 : decode cX3_swapAims 24 = .ok (.getfield 18, 3) := by decide +kernel
theorem dX3_swapAims_27 : decode cX3_swapAims 27 = .ok (.iload_n 1, 1) := by decide +kernel
theorem dX3_swapAims_28 : decode cX3_swapAims 28 = .ok (.aload_n 0, 1) := by decide +kernel
theorem dX3_swapAims_29 : decode cX3_swapAims 29 = .ok (.getfield 18, 3) := by decide +kernel
theorem dX3_swapAims_32 : decode cX3_swapAims 32 = .ok (.iload_n 2, 1) := by decide +kernel
theorem dX3_swapAims_33 : decode cX3_swapAims 33 = .ok (.iaload, 1) := by decide +kernel
theorem dX3_swapAims_34 : decode cX3_swapAims 34 = .ok (.iastore, 1) := by decide +kernel
theorem dX3_swapAims_35 : decode cX3_swapAims 35 = .ok (.aload_n 0, 1) := by decide +kernel
theorem dX3_swapAims_36 : decode cX3_swapAims 36 = .ok (.getfield 18, 3) := by decide +kernel
theorem dX3_swapAims_39 : decode cX3_swapAims 39 = .ok (.iload_n 2, 1) := by decide +kernel
theorem dX3_swapAims_40 : decode cX3_swapAims 40 = .ok (.iload_n 3, 1) := by decide +kernel
theorem dX3_swapAims_41 : decode cX3_swapAims 41 = .ok (.iastore, 1) := by decide +kernel
theorem dX3_swapAims_42 : decode cX3_swapAims 42 = .ok (.return_, 1) := by decide +kernel
theorem dX3_bestRelief_0 : decode cX3_bestRelief 0 = .ok (.sipush (-1001), 3) := by decide +kernel
theorem dX3_bestRelief_3 : decode cX3_bestRelief 3 = .ok (.istore_n 1, 1) := by decide +kernel
theorem dX3_bestRelief_4 : decode cX3_bestRelief 4 = .ok (.bipush 6, 2) := by decide +kernel
theorem dX3_bestRelief_6 : decode cX3_bestRelief 6 = .ok (.istore_n 2, 1) := by decide +kernel
theorem dX3_bestRelief_7 : decode cX3_bestRelief 7 = .ok (.iconst 0, 1) := by decide +kernel
theorem dX3_bestRelief_8 : decode cX3_bestRelief 8 = .ok (.istore_n 3, 1) := by decide +kernel
theorem dX3_bestRelief_9 : decode cX3_bestRelief 9 = .ok (.iconst 0, 1) := by decide +kernel
theorem dX3_bestRelief_10 : decode cX3_bestRelief 10 = .ok (.istore 4, 2) := by decide +kernel
theorem dX3_bestRelief_12 : decode cX3_bestRelief 12 = .ok (.iload 4, 2) := by decide +kernel
theorem dX3_bestRelief_14 : decode cX3_bestRelief 14 = .ok (.iconst 1, 1) := by decide +kernel
theorem dX3_bestRelief_15 : decode cX3_bestRelief 15 = .ok (.aload_n 0, 1) := by decide +kernel
theorem dX3_bestRelief_16 : decode cX3_bestRelief 16 = .ok (.getfield 27, 3) := by decide +kernel
theorem dX3_bestRelief_19 : decode cX3_bestRelief 19 = .ok (.ishl, 1) := by decide +kernel
theorem dX3_bestRelief_20 : decode cX3_bestRelief 20 = .ok (.if_icmp .ge 84, 3) := by decide +kernel
theorem dX3_bestRelief_23 : decode cX3_bestRelief 23 = .ok (.aload_n 0, 1) := by decide +kernel
theorem dX3_bestRelief_24 : decode cX3_bestRelief 24 = .ok (.aload_n 0, 1) := by decide +kernel
theorem dX3_bestRelief_25 : decode cX3_bestRelief 25 = .ok (.getfield 34, 3) := by decide +kernel
theorem dX3_bestRelief_28 : decode cX3_bestRelief 28 = .ok (.iload 4, 2) := by decide +kernel
theorem dX3_bestRelief_30 : decode cX3_bestRelief 30 = .ok (.ior, 1) := by decide +kernel
theorem dX3_bestRelief_31 : decode cX3_bestRelief 31 = .ok (.invokevirtual 85, 3) := by decide +kernel
theorem dX3_bestRelief_34 : decode cX3_bestRelief 34 = .ok (.istore 5, 2) := by decide +kernel
theorem dX3_bestRelief_36 : decode cX3_bestRelief 36 = .ok (.iload 4, 2) := by decide +kernel
theorem dX3_bestRelief_38 : decode cX3_bestRelief 38 = .ok (.aload_n 0, 1) := by decide +kernel
theorem dX3_bestRelief_39 : decode cX3_bestRelief 39 = .ok (.getfield 41, 3) := by decide +kernel
theorem dX3_bestRelief_42 : decode cX3_bestRelief 42 = .ok (.iand, 1) := by decide +kernel
theorem dX3_bestRelief_43 : decode cX3_bestRelief 43 = .ok (.ifCond .ne 55, 3) := by decide +kernel
theorem dX3_bestRelief_46 : decode cX3_bestRelief 46 = .ok (.aload_n 0, 1) := by decide +kernel
theorem dX3_bestRelief_47 : decode cX3_bestRelief 47 = .ok (.iload 5, 2) := by decide +kernel
theorem dX3_bestRelief_49 : decode cX3_bestRelief 49 = .ok (.invokevirtual 116, 3) := by decide +kernel
theorem dX3_bestRelief_52 : decode cX3_bestRelief 52 = .ok (.ifCond .ne 6, 3) := by decide +kernel
theorem dX3_bestRelief_55 : decode cX3_bestRelief 55 = .ok (.goto 43, 3) := by decide +kernel
theorem dX3_bestRelief_58 : decode cX3_bestRelief 58 = .ok (.iload 4, 2) := by decide +kernel
theorem dX3_bestRelief_60 : decode cX3_bestRelief 60 = .ok (.invokestatic 123, 3) := by decide +kernel
theorem dX3_bestRelief_63 : decode cX3_bestRelief 63 = .ok (.istore 6, 2) := by decide +kernel
theorem dX3_bestRelief_65 : decode cX3_bestRelief 65 = .ok (.iload 6, 2) := by decide +kernel
theorem dX3_bestRelief_67 : decode cX3_bestRelief 67 = .ok (.iload_n 2, 1) := by decide +kernel
theorem dX3_bestRelief_68 : decode cX3_bestRelief 68 = .ok (.if_icmp .lt 18, 3) := by decide +kernel
theorem dX3_bestRelief_71 : decode cX3_bestRelief 71 = .ok (.iload 6, 2) := by decide +kernel
theorem dX3_bestRelief_73 : decode cX3_bestRelief 73 = .ok (.iload_n 2, 1) := by decide +kernel
theorem dX3_bestRelief_74 : decode cX3_bestRelief 74 = .ok (.if_icmp .ne 24, 3) := by decide +kernel
theorem dX3_bestRelief_77 : decode cX3_bestRelief 77 = .ok (.iload 5, 2) := by decide +kernel
theorem dX3_bestRelief_79 : decode cX3_bestRelief 79 = .ok (.invokestatic 97, 3) := by decide +kernel
theorem dX3_bestRelief_82 : decode cX3_bestRelief 82 = .ok (.iload_n 3, 1) := by decide +kernel
theorem dX3_bestRelief_83 : decode cX3_bestRelief 83 = .ok (.if_icmp .le 15, 3) := by decide +kernel
theorem dX3_bestRelief_86 : decode cX3_bestRelief 86 = .ok (.iload 4, 2) := by decide +kernel
theorem dX3_bestRelief_88 : decode cX3_bestRelief 88 = .ok (.istore_n 1, 1) := by decide +kernel
theorem dX3_bestRelief_89 : decode cX3_bestRelief 89 = .ok (.iload 6, 2) := by decide +kernel
theorem dX3_bestRelief_91 : decode cX3_bestRelief 91 = .ok (.istore_n 2, 1) := by decide +kernel
theorem dX3_bestRelief_92 : decode cX3_bestRelief 92 = .ok (.iload 5, 2) := by decide +kernel
theorem dX3_bestRelief_94 : decode cX3_bestRelief 94 = .ok (.invokestatic 97, 3) := by decide +kernel
theorem dX3_bestRelief_97 : decode cX3_bestRelief 97 = .ok (.istore_n 3, 1) := by decide +kernel
theorem dX3_bestRelief_98 : decode cX3_bestRelief 98 = .ok (.iinc 4 1, 3) := by decide +kernel
theorem dX3_bestRelief_101 : decode cX3_bestRelief 101 = .ok (.goto (-89), 3) := by decide +kernel
theorem dX3_bestRelief_104 : decode cX3_bestRelief 104 = .ok (.iload_n 1, 1) := by decide +kernel
theorem dX3_bestRelief_105 : decode cX3_bestRelief 105 = .ok (.ireturn, 1) := by decide +kernel
theorem dX4_init_0 : decode cX4_init 0 = .ok (.aload_n 0, 1) := by decide +kernel
theorem dX4_init_1 : decode cX4_init 1 = .ok (.invokespecial 1, 3) := by decide +kernel
theorem dX4_init_4 : decode cX4_init 4 = .ok (.aload_n 0, 1) := by decide +kernel
theorem dX4_init_5 : decode cX4_init 5 = .ok (.new 7, 3) := by decide +kernel
theorem dX4_init_8 : decode cX4_init 8 = .ok (.dup, 1) := by decide +kernel
theorem dX4_init_9 : decode cX4_init 9 = .ok (.invokespecial 9, 3) := by decide +kernel
theorem dX4_init_12 : decode cX4_init 12 = .ok (.putfield 10, 3) := by decide +kernel
theorem dX4_init_15 : decode cX4_init 15 = .ok (.aload_n 0, 1) := by decide +kernel
theorem dX4_init_16 : decode cX4_init 16 = .ok (.new 16, 3) := by decide +kernel
theorem dX4_init_19 : decode cX4_init 19 = .ok (.dup, 1) := by decide +kernel
theorem dX4_init_20 : decode cX4_init 20 = .ok (.invokespecial 18, 3) := by decide +kernel
theorem dX4_init_23 : decode cX4_init 23 = .ok (.putfield 19, 3) := by decide +kernel
theorem dX4_init_26 : decode cX4_init 26 = .ok (.aload_n 0, 1) := by decide +kernel
theorem dX4_init_27 : decode cX4_init 27 = .ok (.new 23, 3) := by decide +kernel
theorem dX4_init_30 : decode cX4_init 30 = .ok (.dup, 1) := by decide +kernel
theorem dX4_init_31 : decode cX4_init 31 = .ok (.invokespecial 25, 3) := by decide +kernel
theorem dX4_init_34 : decode cX4_init 34 = .ok (.putfield 26, 3) := by decide +kernel
theorem dX4_init_37 : decode cX4_init 37 = .ok (.return_, 1) := by decide +kernel
theorem dX4_letter_0 : decode cX4_letter 0 = .ok (.iload_n 1, 1) := by decide +kernel
theorem dX4_letter_1 : decode cX4_letter 1 = .ok (.bipush 32, 2) := by decide +kernel
theorem dX4_letter_3 : decode cX4_letter 3 = .ok (.if_icmp .lt 9, 3) := by decide +kernel
theorem dX4_letter_6 : decode cX4_letter 6 = .ok (.iload_n 1, 1) := by decide +kernel
theorem dX4_letter_7 : decode cX4_letter 7 = .ok (.bipush 126, 2) := by decide +kernel
theorem dX4_letter_9 : decode cX4_letter 9 = .ok (.if_icmp .le 7, 3) := by decide +kernel
theorem dX4_letter_12 : decode cX4_letter 12 = .ok (.sipush (-1003), 3) := by decide +kernel
theorem dX4_letter_15 : decode cX4_letter 15 = .ok (.ireturn, 1) := by decide +kernel
theorem dX4_letter_16 : decode cX4_letter 16 = .ok (.aload_n 0, 1) := by decide +kernel
theorem dX4_letter_17 : decode cX4_letter 17 = .ok (.getfield 10, 3) := by decide +kernel
theorem dX4_letter_20 : decode cX4_letter 20 = .ok (.getfield 30, 3) := by decide +kernel
theorem dX4_letter_23 : decode cX4_letter 23 = .ok (.bipush 21, 2) := by decide +kernel
theorem dX4_letter_25 : decode cX4_letter 25 = .ok (.if_icmp .lt 7, 3) := by decide +kernel
theorem dX4_letter_28 : decode cX4_letter 28 = .ok (.sipush (-1005), 3) := by decide +kernel
theorem dX4_letter_31 : decode cX4_letter 31 = .ok (.ireturn, 1) := by decide +kernel
theorem dX4_letter_32 : decode cX4_letter 32 = .ok (.aload_n 0, 1) := by decide +kernel
theorem dX4_letter_33 : decode cX4_letter 33 = .ok (.getfield 10, 3) := by decide +kernel
theorem dX4_letter_36 : decode cX4_letter 36 = .ok (.iload_n 1, 1) := by decide +kernel
theorem dX4_letter_37 : decode cX4_letter 37 = .ok (.invokevirtual 34, 3) := by decide +kernel
theorem dX4_letter_40 : decode cX4_letter 40 = .ok (.aload_n 0, 1) := by decide +kernel
theorem dX4_letter_41 : decode cX4_letter 41 = .ok (.getfield 10, 3) := by decide +kernel
theorem dX4_letter_44 : decode cX4_letter 44 = .ok (.getfield 30, 3) := by decide +kernel
theorem dX4_letter_47 : decode cX4_letter 47 = .ok (.ireturn, 1) := by decide +kernel
theorem dX4_blank_0 : decode cX4_blank 0 = .ok (.aload_n 0, 1) := by decide +kernel
theorem dX4_blank_1 : decode cX4_blank 1 = .ok (.getfield 10, 3) := by decide +kernel
theorem dX4_blank_4 : decode cX4_blank 4 = .ok (.getfield 30, 3) := by decide +kernel
theorem dX4_blank_7 : decode cX4_blank 7 = .ok (.istore_n 1, 1) := by decide +kernel
theorem dX4_blank_8 : decode cX4_blank 8 = .ok (.aload_n 0, 1) := by decide +kernel
theorem dX4_blank_9 : decode cX4_blank 9 = .ok (.getfield 10, 3) := by decide +kernel
theorem dX4_blank_12 : decode cX4_blank 12 = .ok (.iconst 0, 1) := by decide +kernel
theorem dX4_blank_13 : decode cX4_blank 13 = .ok (.putfield 30, 3) := by decide +kernel
theorem dX4_blank_16 : decode cX4_blank 16 = .ok (.iload_n 1, 1) := by decide +kernel
theorem dX4_blank_17 : decode cX4_blank 17 = .ok (.ireturn, 1) := by decide +kernel
theorem dX4_fault_0 : decode cX4_fault 0 = .ok (.aload_n 0, 1) := by decide +kernel
theorem dX4_fault_1 : decode cX4_fault 1 = .ok (.getfield 10, 3) := by decide +kernel
theorem dX4_fault_4 : decode cX4_fault 4 = .ok (.invokevirtual 38, 3) := by decide +kernel
theorem dX4_fault_7 : decode cX4_fault 7 = .ok (.ireturn, 1) := by decide +kernel
theorem dX4_field_0 : decode cX4_field 0 = .ok (.aload_n 0, 1) := by decide +kernel
theorem dX4_field_1 : decode cX4_field 1 = .ok (.getfield 10, 3) := by decide +kernel
theorem dX4_field_4 : decode cX4_field 4 = .ok (.invokevirtual 42, 3) := by decide +kernel
theorem dX4_field_7 : decode cX4_field 7 = .ok (.ifCond .ne 7, 3) := by decide +kernel
theorem dX4_field_10 : decode cX4_field 10 = .ok (.sipush (-1004), 3) := by decide +kernel
theorem dX4_field_13 : decode cX4_field 13 = .ok (.ireturn, 1) := by decide +kernel
theorem dX4_field_14 : decode cX4_field 14 = .ok (.aload_n 0, 1) := by decide +kernel
theorem dX4_field_15 : decode cX4_field 15 = .ok (.getfield 19, 3) := by decide +kernel
theorem dX4_field_18 : decode cX4_field 18 = .ok (.aload_n 0, 1) := by decide +kernel
theorem dX4_field_19 : decode cX4_field 19 = .ok (.getfield 10, 3) := by decide +kernel
theorem dX4_field_22 : decode cX4_field 22 = .ok (.invokevirtual 46, 3) := by decide +kernel
theorem dX4_field_25 : decode cX4_field 25 = .ok (.aload_n 0, 1) := by decide +kernel
theorem dX4_field_26 : decode cX4_field 26 = .ok (.getfield 10, 3) := by decide +kernel
theorem dX4_field_29 : decode cX4_field 29 = .ok (.iconst 0, 1) := by decide +kernel
theorem dX4_field_30 : decode cX4_field 30 = .ok (.putfield 30, 3) := by decide +kernel
theorem dX4_field_33 : decode cX4_field 33 = .ok (.aload_n 0, 1) := by decide +kernel
theorem dX4_field_34 : decode cX4_field 34 = .ok (.getfield 26, 3) := by decide +kernel
theorem dX4_field_37 : decode cX4_field 37 = .ok (.invokevirtual 50, 3) := by decide +kernel
theorem dX4_field_40 : decode cX4_field 40 = .ok (.aload_n 0, 1) := by decide +kernel
theorem dX4_field_41 : decode cX4_field 41 = .ok (.dup, 1) := by decide +kernel
theorem dX4_field_42 : decode cX4_field 42 = .ok (.getfield 53, 3) := by decide +kernel
theorem dX4_field_45 : decode cX4_field 45 = .ok (.iconst 1, 1) := by decide +kernel
theorem dX4_field_46 : decode cX4_field 46 = .ok (.iadd, 1) := by decide +kernel
theorem dX4_field_47 : decode cX4_field 47 = .ok (.putfield 53, 3) := by decide +kernel
theorem dX4_field_50 : decode cX4_field 50 = .ok (.aload_n 0, 1) := by decide +kernel
theorem dX4_field_51 : decode cX4_field 51 = .ok (.getfield 19, 3) := by decide +kernel
theorem dX4_field_54 : decode cX4_field 54 = .ok (.getfield 56, 3) := by decide +kernel
theorem dX4_field_57 : decode cX4_field 57 = .ok (.ireturn, 1) := by decide +kernel
theorem dX4_ceiling_0 : decode cX4_ceiling 0 = .ok (.aload_n 0, 1) := by decide +kernel
theorem dX4_ceiling_1 : decode cX4_ceiling 1 = .ok (.getfield 19, 3) := by decide +kernel
theorem dX4_ceiling_4 : decode cX4_ceiling 4 = .ok (.iload_n 1, 1) := by decide +kernel
theorem dX4_ceiling_5 : decode cX4_ceiling 5 = .ok (.invokevirtual 59, 3) := by decide +kernel
theorem dX4_ceiling_8 : decode cX4_ceiling 8 = .ok (.ifCond .ne 7, 3) := by decide +kernel
theorem dX4_ceiling_11 : decode cX4_ceiling 11 = .ok (.sipush (-1002), 3) := by decide +kernel
theorem dX4_ceiling_14 : decode cX4_ceiling 14 = .ok (.ireturn, 1) := by decide +kernel
theorem dX4_ceiling_15 : decode cX4_ceiling 15 = .ok (.iload_n 2, 1) := by decide +kernel
theorem dX4_ceiling_16 : decode cX4_ceiling 16 = .ok (.ifCond .lt 9, 3) := by decide +kernel
theorem dX4_ceiling_19 : decode cX4_ceiling 19 = .ok (.iload_n 2, 1) := by decide +kernel
theorem dX4_ceiling_20 : decode cX4_ceiling 20 = .ok (.bipush 60, 2) := by decide +kernel
theorem dX4_ceiling_22 : decode cX4_ceiling 22 = .ok (.if_icmp .le 7, 3) := by decide +kernel
theorem dX4_ceiling_25 : decode cX4_ceiling 25 = .ok (.sipush (-1003), 3) := by decide +kernel
theorem dX4_ceiling_28 : decode cX4_ceiling 28 = .ok (.ireturn, 1) := by decide +kernel
theorem dX4_ceiling_29 : decode cX4_ceiling 29 = .ok (.aload_n 0, 1) := by decide +kernel
theorem dX4_ceiling_30 : decode cX4_ceiling 30 = .ok (.getfield 19, 3) := by decide +kernel
theorem dX4_ceiling_33 : decode cX4_ceiling 33 = .ok (.getfield 63, 3) := by decide +kernel
theorem dX4_ceiling_36 : decode cX4_ceiling 36 = .ok (.iload_n 1, 1) := by decide +kernel
theorem dX4_ceiling_37 : decode cX4_ceiling 37 = .ok (.iaload, 1) := by decide +kernel
theorem dX4_ceiling_38 : decode cX4_ceiling 38 = .ok (.istore_n 3, 1) := by decide +kernel
theorem dX4_ceiling_39 : decode cX4_ceiling 39 = .ok (.aload_n 0, 1) := by decide +kernel
theorem dX4_ceiling_40 : decode cX4_ceiling 40 = .ok (.getfield 19, 3) := by decide +kernel
theorem dX4_ceiling_43 : decode cX4_ceiling 43 = .ok (.getfield 63, 3) := by decide +kernel
theorem dX4_ceiling_46 : decode cX4_ceiling 46 = .ok (.iload_n 1, 1) := by decide +kernel
theorem dX4_ceiling_47 : decode cX4_ceiling 47 = .ok (.iload_n 2, 1) := by decide +kernel
theorem dX4_ceiling_48 : decode cX4_ceiling 48 = .ok (.iastore, 1) := by decide +kernel
theorem dX4_ceiling_49 : decode cX4_ceiling 49 = .ok (.aload_n 0, 1) := by decide +kernel
theorem dX4_ceiling_50 : decode cX4_ceiling 50 = .ok (.getfield 19, 3) := by decide +kernel
theorem dX4_ceiling_53 : decode cX4_ceiling 53 = .ok (.invokevirtual 67, 3) := by decide +kernel
theorem dX4_ceiling_56 : decode cX4_ceiling 56 = .ok (.aload_n 0, 1) := by decide +kernel
theorem dX4_ceiling_57 : decode cX4_ceiling 57 = .ok (.getfield 26, 3) := by decide +kernel
theorem dX4_ceiling_60 : decode cX4_ceiling 60 = .ok (.invokevirtual 50, 3) := by decide +kernel
theorem dX4_ceiling_63 : decode cX4_ceiling 63 = .ok (.iload_n 3, 1) := by decide +kernel
theorem dX4_ceiling_64 : decode cX4_ceiling 64 = .ok (.ireturn, 1) := by decide +kernel
theorem dX4_shade_0 : decode cX4_shade 0 = .ok (.aload_n 0, 1) := by decide +kernel
theorem dX4_shade_1 : decode cX4_shade 1 = .ok (.getfield 19, 3) := by decide +kernel
theorem dX4_shade_4 : decode cX4_shade 4 = .ok (.invokevirtual 70, 3) := by decide +kernel
theorem dX4_shade_7 : decode cX4_shade 7 = .ok (.ifCond .ne 7, 3) := by decide +kernel
theorem dX4_shade_10 : decode cX4_shade 10 = .ok (.sipush (-1004), 3) := by decide +kernel
theorem dX4_shade_13 : decode cX4_shade 13 = .ok (.ireturn, 1) := by decide +kernel
theorem dX4_shade_14 : decode cX4_shade 14 = .ok (.iload_n 1, 1) := by decide +kernel
theorem dX4_shade_15 : decode cX4_shade 15 = .ok (.ifCond .lt 16, 3) := by decide +kernel
theorem dX4_shade_18 : decode cX4_shade 18 = .ok (.iload_n 1, 1) := by decide +kernel
theorem dX4_shade_19 : decode cX4_shade 19 = .ok (.iconst 1, 1) := by decide +kernel
theorem dX4_shade_20 : decode cX4_shade 20 = .ok (.aload_n 0, 1) := by decide +kernel
theorem dX4_shade_21 : decode cX4_shade 21 = .ok (.getfield 19, 3) := by decide +kernel
theorem dX4_shade_24 : decode cX4_shade 24 = .ok (.getfield 56, 3) := by decide +kernel
theorem dX4_shade_27 : decode cX4_shade 27 = .ok (.ishl, 1) := by decide +kernel
theorem dX4_shade_28 : decode cX4_shade 28 = .ok (.if_icmp .lt 7, 3) := by decide +kernel
theorem dX4_shade_31 : decode cX4_shade 31 = .ok (.sipush (-1003), 3) := by decide +kernel
theorem dX4_shade_34 : decode cX4_shade 34 = .ok (.ireturn, 1) := by decide +kernel
theorem dX4_shade_35 : decode cX4_shade 35 = .ok (.aload_n 0, 1) := by decide +kernel
theorem dX4_shade_36 : decode cX4_shade 36 = .ok (.getfield 19, 3) := by decide +kernel
theorem dX4_shade_39 : decode cX4_shade 39 = .ok (.getfield 73, 3) := by decide +kernel
theorem dX4_shade_42 : decode cX4_shade 42 = .ok (.istore_n 2, 1) := by decide +kernel
theorem dX4_shade_43 : decode cX4_shade 43 = .ok (.aload_n 0, 1) := by decide +kernel
theorem dX4_shade_44 : decode cX4_shade 44 = .ok (.getfield 19, 3) := by decide +kernel
theorem dX4_shade_47 : decode cX4_shade 47 = .ok (.iload_n 1, 1) := by decide +kernel
theorem dX4_shade_48 : decode cX4_shade 48 = .ok (.putfield 73, 3) := by decide +kernel
theorem dX4_shade_51 : decode cX4_shade 51 = .ok (.aload_n 0, 1) := by decide +kernel
theorem dX4_shade_52 : decode cX4_shade 52 = .ok (.getfield 26, 3) := by decide +kernel
theorem dX4_shade_55 : decode cX4_shade 55 = .ok (.invokevirtual 50, 3) := by decide +kernel
theorem dX4_shade_58 : decode cX4_shade 58 = .ok (.iload_n 2, 1) := by decide +kernel
theorem dX4_shade_59 : decode cX4_shade 59 = .ok (.ireturn, 1) := by decide +kernel
theorem dX4_stuck_0 : decode cX4_stuck 0 = .ok (.aload_n 0, 1) := by decide +kernel
theorem dX4_stuck_1 : decode cX4_stuck 1 = .ok (.getfield 19, 3) := by decide +kernel
theorem dX4_stuck_4 : decode cX4_stuck 4 = .ok (.iload_n 1, 1) := by decide +kernel
theorem dX4_stuck_5 : decode cX4_stuck 5 = .ok (.invokevirtual 76, 3) := by decide +kernel
theorem dX4_stuck_8 : decode cX4_stuck 8 = .ok (.ifCond .ne 7, 3) := by decide +kernel
theorem dX4_stuck_11 : decode cX4_stuck 11 = .ok (.sipush (-1002), 3) := by decide +kernel
theorem dX4_stuck_14 : decode cX4_stuck 14 = .ok (.ireturn, 1) := by decide +kernel
theorem dX4_stuck_15 : decode cX4_stuck 15 = .ok (.aload_n 0, 1) := by decide +kernel
theorem dX4_stuck_16 : decode cX4_stuck 16 = .ok (.getfield 19, 3) := by decide +kernel
theorem dX4_stuck_19 : decode cX4_stuck 19 = .ok (.getfield 79, 3) := by decide +kernel
theorem dX4_stuck_22 : decode cX4_stuck 22 = .ok (.iload_n 1, 1) := by decide +kernel
theorem dX4_stuck_23 : decode cX4_stuck 23 = .ok (.invokestatic 82, 3) := by decide +kernel
theorem dX4_stuck_26 : decode cX4_stuck 26 = .ok (.istore_n 3, 1) := by decide +kernel
theorem dX4_stuck_27 : decode cX4_stuck 27 = .ok (.aload_n 0, 1) := by decide +kernel
theorem dX4_stuck_28 : decode cX4_stuck 28 = .ok (.getfield 19, 3) := by decide +kernel
theorem dX4_stuck_31 : decode cX4_stuck 31 = .ok (.getfield 79, 3) := by decide +kernel
theorem dX4_stuck_34 : decode cX4_stuck 34 = .ok (.iconst 1, 1) := by decide +kernel
theorem dX4_stuck_35 : decode cX4_stuck 35 = .ok (.iload_n 1, 1) := by decide +kernel
theorem dX4_stuck_36 : decode cX4_stuck 36 = .ok (.ishl, 1) := by decide +kernel
theorem dX4_stuck_37 : decode cX4_stuck 37 = .ok (.iconst (-1), 1) := by decide +kernel
theorem dX4_stuck_38 : decode cX4_stuck 38 = .ok (.ixor, 1) := by decide +kernel
theorem dX4_stuck_39 : decode cX4_stuck 39 = .ok (.iand, 1) := by decide +kernel
theorem dX4_stuck_40 : decode cX4_stuck 40 = .ok (.istore 4, 2) := by decide +kernel
theorem dX4_stuck_42 : decode cX4_stuck 42 = .ok (.aload_n 0, 1) := by decide +kernel
theorem dX4_stuck_43 : decode cX4_stuck 43 = .ok (.getfield 19, 3) := by decide +kernel
theorem dX4_stuck_46 : decode cX4_stuck 46 = .ok (.iload_n 2, 1) := by decide +kernel
theorem dX4_stuck_47 : decode cX4_stuck 47 = .ok (.ifCond .eq 12, 3) := by decide +kernel
theorem dX4_stuck_50 : decode cX4_stuck 50 = .ok (.iload 4, 2) := by decide +kernel
theorem dX4_stuck_52 : decode cX4_stuck 52 = .ok (.iconst 1, 1) := by decide +kernel
theorem dX4_stuck_53 : decode cX4_stuck 53 = .ok (.iload_n 1, 1) := by decide +kernel
theorem dX4_stuck_54 : decode cX4_stuck 54 = .ok (.ishl, 1) := by decide +kernel
theorem dX4_stuck_55 : decode cX4_stuck 55 = .ok (.ior, 1) := by decide +kernel
theorem dX4_stuck_56 : decode cX4_stuck 56 = .ok (.goto 5, 3) := by decide +kernel
theorem dX4_stuck_59 : decode cX4_stuck 59 = .ok (.iload 4, 2) := by decide +kernel
theorem dX4_stuck_61 : decode cX4_stuck 61 = .ok (.putfield 79, 3) := by decide +kernel
theorem dX4_stuck_64 : decode cX4_stuck 64 = .ok (.aload_n 0, 1) := by decide +kernel
theorem dX4_stuck_65 : decode cX4_stuck 65 = .ok (.getfield 26, 3) := by decide +kernel
theorem dX4_stuck_68 : decode cX4_stuck 68 = .ok (.invokevirtual 50, 3) := by decide +kernel
theorem dX4_stuck_71 : decode cX4_stuck 71 = .ok (.iload_n 3, 1) := by decide +kernel
theorem dX4_stuck_72 : decode cX4_stuck 72 = .ok (.ireturn, 1) := by decide +kernel
theorem dX4_aim_0 : decode cX4_aim 0 = .ok (.aload_n 0, 1) := by decide +kernel
theorem dX4_aim_1 : decode cX4_aim 1 = .ok (.getfield 19, 3) := by decide +kernel
theorem dX4_aim_4 : decode cX4_aim 4 = .ok (.iload_n 1, 1) := by decide +kernel
theorem dX4_aim_5 : decode cX4_aim 5 = .ok (.invokevirtual 76, 3) := by decide +kernel
theorem dX4_aim_8 : decode cX4_aim 8 = .ok (.ifCond .ne 7, 3) := by decide +kernel
theorem dX4_aim_11 : decode cX4_aim 11 = .ok (.sipush (-1002), 3) := by decide +kernel
theorem dX4_aim_14 : decode cX4_aim 14 = .ok (.ireturn, 1) := by decide +kernel
theorem dX4_aim_15 : decode cX4_aim 15 = .ok (.iload_n 2, 1) := by decide +kernel
theorem dX4_aim_16 : decode cX4_aim 16 = .ok (.iconst (-1), 1) := by decide +kernel
theorem dX4_aim_17 : decode cX4_aim 17 = .ok (.if_icmp .eq 18, 3) := by decide +kernel
theorem dX4_aim_20 : decode cX4_aim 20 = .ok (.aload_n 0, 1) := by decide +kernel
theorem dX4_aim_21 : decode cX4_aim 21 = .ok (.getfield 19, 3) := by decide +kernel
theorem dX4_aim_24 : decode cX4_aim 24 = .ok (.iload_n 2, 1) := by decide +kernel
theorem dX4_aim_25 : decode cX4_aim 25 = .ok (.invokevirtual 59, 3) := by decide +kernel
theorem dX4_aim_28 : decode cX4_aim 28 = .ok (.ifCond .ne 7, 3) := by decide +kernel
theorem dX4_aim_31 : decode cX4_aim 31 = .ok (.sipush (-1003), 3) := by decide +kernel
theorem dX4_aim_34 : decode cX4_aim 34 = .ok (.ireturn, 1) := by decide +kernel
theorem dX4_aim_35 : decode cX4_aim 35 = .ok (.aload_n 0, 1) := by decide +kernel
theorem dX4_aim_36 : decode cX4_aim 36 = .ok (.getfield 19, 3) := by decide +kernel
theorem dX4_aim_39 : decode cX4_aim 39 = .ok (.iload_n 1, 1) := by decide +kernel
theorem dX4_aim_40 : decode cX4_aim 40 = .ok (.invokevirtual 86, 3) := by decide +kernel
theorem dX4_aim_43 : decode cX4_aim 43 = .ok (.ifCond .eq 7, 3) := by decide +kernel
theorem dX4_aim_46 : decode cX4_aim 46 = .ok (.sipush (-1004), 3) := by decide +kernel
theorem dX4_aim_49 : decode cX4_aim 49 = .ok (.ireturn, 1) := by decide +kernel
theorem dX4_aim_50 : decode cX4_aim 50 = .ok (.aload_n 0, 1) := by decide +kernel
theorem dX4_aim_51 : decode cX4_aim 51 = .ok (.getfield 19, 3) := by decide +kernel
theorem dX4_aim_54 : decode cX4_aim 54 = .ok (.getfield 89, 3) := by decide +kernel
theorem dX4_aim_57 : decode cX4_aim 57 = .ok (.iload_n 1, 1) := by decide +kernel
theorem dX4_aim_58 : decode cX4_aim 58 = .ok (.iaload, 1) := by decide +kernel
theorem dX4_aim_59 : decode cX4_aim 59 = .ok (.istore_n 3, 1) := by decide +kernel
theorem dX4_aim_60 : decode cX4_aim 60 = .ok (.aload_n 0, 1) := by decide +kernel
theorem dX4_aim_61 : decode cX4_aim 61 = .ok (.getfield 19, 3) := by decide +kernel
theorem dX4_aim_64 : decode cX4_aim 64 = .ok (.getfield 89, 3) := by decide +kernel
theorem dX4_aim_67 : decode cX4_aim 67 = .ok (.iload_n 1, 1) := by decide +kernel
theorem dX4_aim_68 : decode cX4_aim 68 = .ok (.iload_n 2, 1) := by decide +kernel
theorem dX4_aim_69 : decode cX4_aim 69 = .ok (.iastore, 1) := by decide +kernel
theorem dX4_aim_70 : decode cX4_aim 70 = .ok (.iload_n 2, 1) := by decide +kernel
theorem dX4_aim_71 : decode cX4_aim 71 = .ok (.iconst (-1), 1) := by decide +kernel
theorem dX4_aim_72 : decode cX4_aim 72 = .ok (.if_icmp .eq 34, 3) := by decide +kernel
theorem dX4_aim_75 : decode cX4_aim 75 = .ok (.aload_n 0, 1) := by decide +kernel
theorem dX4_aim_76 : decode cX4_aim 76 = .ok (.getfield 19, 3) := by decide +kernel
theorem dX4_aim_79 : decode cX4_aim 79 = .ok (.aload_n 0, 1) := by decide +kernel
theorem dX4_aim_80 : decode cX4_aim 80 = .ok (.getfield 19, 3) := by decide +kernel
theorem dX4_aim_83 : decode cX4_aim 83 = .ok (.invokevirtual 92, 3) := by decide +kernel
theorem dX4_aim_86 : decode cX4_aim 86 = .ok (.invokevirtual 95, 3) := by decide +kernel
theorem dX4_aim_89 : decode cX4_aim 89 = .ok (.ifCond .ne 17, 3) := by decide +kernel
theorem dX4_aim_92 : decode cX4_aim 92 = .ok (.aload_n 0, 1) := by decide +kernel
theorem dX4_aim_93 : decode cX4_aim 93 = .ok (.getfield 19, 3) := by decide +kernel
theorem dX4_aim_96 : decode cX4_aim 96 = .ok (.getfield 89, 3) := by decide +kernel
theorem dX4_aim_99 : decode cX4_aim 99 = .ok (.iload_n 1, 1) := by decide +kernel
theorem dX4_aim_100 : decode cX4_aim 100 = .ok (.iload_n 3, 1) := by decide +kernel
theorem dX4_aim_101 : decode cX4_aim 101 = .ok (.iastore, 1) := by decide +kernel
theorem dX4_aim_102 : decode cX4_aim 102 = .ok (.sipush (-1004), 3) := by decide +kernel
theorem dX4_aim_105 : decode cX4_aim 105 = .ok (.ireturn, 1) := by decide +kernel
theorem dX4_aim_106 : decode cX4_aim 106 = .ok (.aload_n 0, 1) := by decide +kernel
theorem dX4_aim_107 : decode cX4_aim 107 = .ok (.getfield 26, 3) := by decide +kernel
theorem dX4_aim_110 : decode cX4_aim 110 = .ok (.invokevirtual 50, 3) := by decide +kernel
theorem dX4_aim_113 : decode cX4_aim 113 = .ok (.aload_n 0, 1) := by decide +kernel
theorem dX4_aim_114 : decode cX4_aim 114 = .ok (.dup, 1) := by decide +kernel
theorem dX4_aim_115 : decode cX4_aim 115 = .ok (.getfield 98, 3) := by decide +kernel
theorem dX4_aim_118 : decode cX4_aim 118 = .ok (.iconst 1, 1) := by decide +kernel
theorem dX4_aim_119 : decode cX4_aim 119 = .ok (.iadd, 1) := by decide +kernel
theorem dX4_aim_120 : decode cX4_aim 120 = .ok (.putfield 98, 3) := by decide +kernel
theorem dX4_aim_123 : decode cX4_aim 123 = .ok (.iload_n 3, 1) := by decide +kernel
theorem dX4_aim_124 : decode cX4_aim 124 = .ok (.ireturn, 1) := by decide +kernel
theorem dX4_mirror_0 : decode cX4_mirror 0 = .ok (.aload_n 0, 1) := by decide +kernel
theorem dX4_mirror_1 : decode cX4_mirror 1 = .ok (.getfield 19, 3) := by decide +kernel
theorem dX4_mirror_4 : decode cX4_mirror 4 = .ok (.iload_n 1, 1) := by decide +kernel
theorem dX4_mirror_5 : decode cX4_mirror 5 = .ok (.invokevirtual 76, 3) := by decide +kernel
theorem dX4_mirror_8 : decode cX4_mirror 8 = .ok (.ifCond .ne 7, 3) := by decide +kernel
theorem dX4_mirror_11 : decode cX4_mirror 11 = .ok (.sipush (-1002), 3) := by decide +kernel
theorem dX4_mirror_14 : decode cX4_mirror 14 = .ok (.ireturn, 1) := by decide +kernel
theorem dX4_mirror_15 : decode cX4_mirror 15 = .ok (.iload_n 2, 1) := by decide +kernel
theorem dX4_mirror_16 : decode cX4_mirror 16 = .ok (.tableswitch 130 0 5 #[40, 50, 60, 70, 82, 94], 40) := by decide +kernel
theorem dX4_mirror_56 : decode cX4_mirror 56 = .ok (.aload_n 0, 1) := by decide +kernel
theorem dX4_mirror_57 : decode cX4_mirror 57 = .ok (.getfield 19, 3) := by decide +kernel
theorem dX4_mirror_60 : decode cX4_mirror 60 = .ok (.getfield 101, 3) := by decide +kernel
theorem dX4_mirror_63 : decode cX4_mirror 63 = .ok (.iload_n 1, 1) := by decide +kernel
theorem dX4_mirror_64 : decode cX4_mirror 64 = .ok (.iaload, 1) := by decide +kernel
theorem dX4_mirror_65 : decode cX4_mirror 65 = .ok (.ireturn, 1) := by decide +kernel
theorem dX4_mirror_66 : decode cX4_mirror 66 = .ok (.aload_n 0, 1) := by decide +kernel
theorem dX4_mirror_67 : decode cX4_mirror 67 = .ok (.getfield 19, 3) := by decide +kernel
theorem dX4_mirror_70 : decode cX4_mirror 70 = .ok (.getfield 104, 3) := by decide +kernel
theorem dX4_mirror_73 : decode cX4_mirror 73 = .ok (.iload_n 1, 1) := by decide +kernel
theorem dX4_mirror_74 : decode cX4_mirror 74 = .ok (.iaload, 1) := by decide +kernel
theorem dX4_mirror_75 : decode cX4_mirror 75 = .ok (.ireturn, 1) := by decide +kernel
theorem dX4_mirror_76 : decode cX4_mirror 76 = .ok (.aload_n 0, 1) := by decide +kernel
theorem dX4_mirror_77 : decode cX4_mirror 77 = .ok (.getfield 19, 3) := by decide +kernel
theorem dX4_mirror_80 : decode cX4_mirror 80 = .ok (.getfield 89, 3) := by decide +kernel
theorem dX4_mirror_83 : decode cX4_mirror 83 = .ok (.iload_n 1, 1) := by decide +kernel
theorem dX4_mirror_84 : decode cX4_mirror 84 = .ok (.iaload, 1) := by decide +kernel
theorem dX4_mirror_85 : decode cX4_mirror 85 = .ok (.ireturn, 1) := by decide +kernel
theorem dX4_mirror_86 : decode cX4_mirror 86 = .ok (.aload_n 0, 1) := by decide +kernel
theorem dX4_mirror_87 : decode cX4_mirror 87 = .ok (.getfield 19, 3) := by decide +kernel
theorem dX4_mirror_90 : decode cX4_mirror 90 = .ok (.getfield 73, 3) := by decide +kernel
theorem dX4_mirror_93 : decode cX4_mirror 93 = .ok (.iload_n 1, 1) := by decide +kernel
theorem dX4_mirror_94 : decode cX4_mirror 94 = .ok (.invokestatic 82, 3) := by decide +kernel
theorem dX4_mirror_97 : decode cX4_mirror 97 = .ok (.ireturn, 1) := by decide +kernel
theorem dX4_mirror_98 : decode cX4_mirror 98 = .ok (.aload_n 0, 1) := by decide +kernel
theorem dX4_mirror_99 : decode cX4_mirror 99 = .ok (.getfield 19, 3) := by decide +kernel
theorem dX4_mirror_102 : decode cX4_mirror 102 = .ok (.getfield 79, 3) := by decide +kernel
theorem dX4_mirror_105 : decode cX4_mirror 105 = .ok (.iload_n 1, 1) := by decide +kernel
theorem dX4_mirror_106 : decode cX4_mirror 106 = .ok (.invokestatic 82, 3) := by decide +kernel
theorem dX4_mirror_109 : decode cX4_mirror 109 = .ok (.ireturn, 1) := by decide +kernel
theorem dX4_mirror_110 : decode cX4_mirror 110 = .ok (.aload_n 0, 1) := by decide +kernel
theorem dX4_mirror_111 : decode cX4_mirror 111 = .ok (.getfield 19, 3) := by decide +kernel
theorem dX4_mirror_114 : decode cX4_mirror 114 = .ok (.iload_n 1, 1) := by decide +kernel
theorem dX4_mirror_115 : decode cX4_mirror 115 = .ok (.invokevirtual 107, 3) := by decide +kernel
theorem dX4_mirror_118 : decode cX4_mirror 118 = .ok (.ifCond .eq 7, 3) := by decide +kernel
theorem dX4_mirror_121 : decode cX4_mirror 121 = .ok (.iconst 0, 1) := by decide +kernel
theorem dX4_mirror_122 : decode cX4_mirror 122 = .ok (.goto 23, 3) := by decide +kernel
theorem dX4_mirror_125 : decode cX4_mirror 125 = .ok (.aload_n 0, 1) := by decide +kernel
theorem dX4_mirror_126 : decode cX4_mirror 126 = .ok (.getfield 19, 3) := by decide +kernel
theorem dX4_mirror_129 : decode cX4_mirror 129 = .ok (.iload_n 1, 1) := by decide +kernel
theorem dX4_mirror_130 : decode cX4_mirror 130 = .ok (.aload_n 0, 1) := by decide +kernel
theorem dX4_mirror_131 : decode cX4_mirror 131 = .ok (.getfield 19, 3) := by decide +kernel
theorem dX4_mirror_134 : decode cX4_mirror 134 = .ok (.getfield 89, 3) := by decide +kernel
theorem dX4_mirror_137 : decode cX4_mirror 137 = .ok (.iload_n 1, 1) := by decide +kernel
theorem dX4_mirror_138 : decode cX4_mirror 138 = .ok (.iaload, 1) := by decide +kernel
theorem dX4_mirror_139 : decode cX4_mirror 139 = .ok (.invokevirtual 110, 3) := by decide +kernel
theorem dX4_mirror_142 : decode cX4_mirror 142 = .ok (.invokestatic 113, 3) := by decide +kernel
theorem dX4_mirror_145 : decode cX4_mirror 145 = .ok (.ireturn, 1) := by decide +kernel
theorem dX4_mirror_146 : decode cX4_mirror 146 = .ok (.sipush (-1003), 3) := by decide +kernel
theorem dX4_mirror_149 : decode cX4_mirror 149 = .ok (.ireturn, 1) := by decide +kernel
theorem dX4_patch_0 : decode cX4_patch 0 = .ok (.aload_n 0, 1) := by decide +kernel
theorem dX4_patch_1 : decode cX4_patch 1 = .ok (.getfield 19, 3) := by decide +kernel
theorem dX4_patch_4 : decode cX4_patch 4 = .ok (.iload_n 1, 1) := by decide +kernel
theorem dX4_patch_5 : decode cX4_patch 5 = .ok (.invokevirtual 59, 3) := by decide +kernel
theorem dX4_patch_8 : decode cX4_patch 8 = .ok (.ifCond .ne 7, 3) := by decide +kernel
theorem dX4_patch_11 : decode cX4_patch 11 = .ok (.sipush (-1002), 3) := by decide +kernel
theorem dX4_patch_14 : decode cX4_patch 14 = .ok (.ireturn, 1) := by decide +kernel
theorem dX4_patch_15 : decode cX4_patch 15 = .ok (.iload_n 2, 1) := by decide +kernel
theorem dX4_patch_16 : decode cX4_patch 16 = .ok (.tableswitch 76 0 3 #[32, 44, 54, 67], 32) := by decide +kernel
theorem dX4_patch_48 : decode cX4_patch 48 = .ok (.aload_n 0, 1) := by decide +kernel
theorem dX4_patch_49 : decode cX4_patch 49 = .ok (.getfield 19, 3) := by decide +kernel
theorem dX4_patch_52 : decode cX4_patch 52 = .ok (.invokevirtual 92, 3) := by decide +kernel
theorem dX4_patch_55 : decode cX4_patch 55 = .ok (.iload_n 1, 1) := by decide +kernel
theorem dX4_patch_56 : decode cX4_patch 56 = .ok (.invokestatic 117, 3) := by decide +kernel
theorem dX4_patch_59 : decode cX4_patch 59 = .ok (.ireturn, 1) := by decide +kernel
theorem dX4_patch_60 : decode cX4_patch 60 = .ok (.aload_n 0, 1) := by decide +kernel
theorem dX4_patch_61 : decode cX4_patch 61 = .ok (.getfield 19, 3) := by decide +kernel
theorem dX4_patch_64 : decode cX4_patch 64 = .ok (.getfield 63, 3) := by decide +kernel
theorem dX4_patch_67 : decode cX4_patch 67 = .ok (.iload_n 1, 1) := by decide +kernel
theorem dX4_patch_68 : decode cX4_patch 68 = .ok (.iaload, 1) := by decide +kernel
theorem dX4_patch_69 : decode cX4_patch 69 = .ok (.ireturn, 1) := by decide +kernel
theorem dX4_patch_70 : decode cX4_patch 70 = .ok (.aload_n 0, 1) := by decide +kernel
theorem dX4_patch_71 : decode cX4_patch 71 = .ok (.getfield 19, 3) := by decide +kernel
theorem dX4_patch_74 : decode cX4_patch 74 = .ok (.iconst 0, 1) := by decide +kernel
theorem dX4_patch_75 : decode cX4_patch 75 = .ok (.invokevirtual 120, 3) := by decide +kernel
theorem dX4_patch_78 : decode cX4_patch 78 = .ok (.iload_n 1, 1) := by decide +kernel
theorem dX4_patch_79 : decode cX4_patch 79 = .ok (.invokestatic 117, 3) := by decide +kernel
theorem dX4_patch_82 : decode cX4_patch 82 = .ok (.ireturn, 1) := by decide +kernel
theorem dX4_patch_83 : decode cX4_patch 83 = .ok (.aload_n 0, 1) := by decide +kernel
theorem dX4_patch_84 : decode cX4_patch 84 = .ok (.getfield 19, 3) := by decide +kernel
theorem dX4_patch_87 : decode cX4_patch 87 = .ok (.iload_n 1, 1) := by decide +kernel
theorem dX4_patch_88 : decode cX4_patch 88 = .ok (.invokevirtual 123, 3) := by decide +kernel
theorem dX4_patch_91 : decode cX4_patch 91 = .ok (.ireturn, 1) := by decide +kernel
theorem dX4_patch_92 : decode cX4_patch 92 = .ok (.sipush (-1003), 3) := by decide +kernel
theorem dX4_patch_95 : decode cX4_patch 95 = .ok (.ireturn, 1) := by decide +kernel
theorem dX4_best_0 : decode cX4_best 0 = .ok (.aload_n 0, 1) := by decide +kernel
theorem dX4_best_1 : decode cX4_best 1 = .ok (.getfield 19, 3) := by decide +kernel
theorem dX4_best_4 : decode cX4_best 4 = .ok (.invokevirtual 70, 3) := by decide +kernel
theorem dX4_best_7 : decode cX4_best 7 = .ok (.ifCond .ne 7, 3) := by decide +kernel
theorem dX4_best_10 : decode cX4_best 10 = .ok (.sipush (-1004), 3) := by decide +kernel
theorem dX4_best_13 : decode cX4_best 13 = .ok (.ireturn, 1) := by decide +kernel
theorem dX4_best_14 : decode cX4_best 14 = .ok (.iload_n 2, 1) := by decide +kernel
theorem dX4_best_15 : decode cX4_best 15 = .ok (.ifCond .eq 24, 3) := by decide +kernel
theorem dX4_best_18 : decode cX4_best 18 = .ok (.iload_n 2, 1) := by decide +kernel
theorem dX4_best_19 : decode cX4_best 19 = .ok (.iconst 1, 1) := by decide +kernel
theorem dX4_best_20 : decode cX4_best 20 = .ok (.if_icmp .eq 19, 3) := by decide +kernel
theorem dX4_best_23 : decode cX4_best 23 = .ok (.iload_n 2, 1) := by decide +kernel
theorem dX4_best_24 : decode cX4_best 24 = .ok (.bipush 10, 2) := by decide +kernel
theorem dX4_best_26 : decode cX4_best 26 = .ok (.if_icmp .lt 9, 3) := by decide +kernel
theorem dX4_best_29 : decode cX4_best 29 = .ok (.iload_n 2, 1) := by decide +kernel
theorem dX4_best_30 : decode cX4_best 30 = .ok (.bipush 14, 2) := by decide +kernel
theorem dX4_best_32 : decode cX4_best 32 = .ok (.if_icmp .le 7, 3) := by decide +kernel
theorem dX4_best_35 : decode cX4_best 35 = .ok (.sipush (-1003), 3) := by decide +kernel
theorem dX4_best_38 : decode cX4_best 38 = .ok (.ireturn, 1) := by decide +kernel
theorem dX4_best_39 : decode cX4_best 39 = .ok (.aload_n 0, 1) := by decide +kernel
theorem dX4_best_40 : decode cX4_best 40 = .ok (.getfield 26, 3) := by decide +kernel
theorem dX4_best_43 : decode cX4_best 43 = .ok (.aload_n 0, 1) := by decide +kernel
theorem dX4_best_44 : decode cX4_best 44 = .ok (.getfield 19, 3) := by decide +kernel
theorem dX4_best_47 : decode cX4_best 47 = .ok (.iload_n 1, 1) := by decide +kernel
theorem dX4_best_48 : decode cX4_best 48 = .ok (.invokevirtual 126, 3) := by decide +kernel
theorem dX4_best_51 : decode cX4_best 51 = .ok (.astore_n 3, 1) := by decide +kernel
theorem dX4_best_52 : decode cX4_best 52 = .ok (.aload_n 3, 1) := by decide +kernel
theorem dX4_best_53 : decode cX4_best 53 = .ok (.getfield 130, 3) := by decide +kernel
theorem dX4_best_56 : decode cX4_best 56 = .ok (.sipush (-1001), 3) := by decide +kernel
theorem dX4_best_59 : decode cX4_best 59 = .ok (.if_icmp .eq 7, 3) := by decide +kernel
theorem dX4_best_62 : decode cX4_best 62 = .ok (.iload_n 2, 1) := by decide +kernel
theorem dX4_best_63 : decode cX4_best 63 = .ok (.ifCond .ne 8, 3) := by decide +kernel
theorem dX4_best_66 : decode cX4_best 66 = .ok (.aload_n 3, 1) := by decide +kernel
theorem dX4_best_67 : decode cX4_best 67 = .ok (.getfield 130, 3) := by decide +kernel
theorem dX4_best_70 : decode cX4_best 70 = .ok (.ireturn, 1) := by decide +kernel
theorem dX4_best_71 : decode cX4_best 71 = .ok (.iload_n 2, 1) := by decide +kernel
theorem dX4_best_72 : decode cX4_best 72 = .ok (.iconst 1, 1) := by decide +kernel
theorem dX4_best_73 : decode cX4_best 73 = .ok (.if_icmp .ne 16, 3) := by decide +kernel
theorem dX4_best_76 : decode cX4_best 76 = .ok (.aload_n 0, 1) := by decide +kernel
theorem dX4_best_77 : decode cX4_best 77 = .ok (.getfield 19, 3) := by decide +kernel
theorem dX4_best_80 : decode cX4_best 80 = .ok (.invokevirtual 135, 3) := by decide +kernel
theorem dX4_best_83 : decode cX4_best 83 = .ok (.aload_n 3, 1) := by decide +kernel
theorem dX4_best_84 : decode cX4_best 84 = .ok (.getfield 130, 3) := by decide +kernel
theorem dX4_best_87 : decode cX4_best 87 = .ok (.isub, 1) := by decide +kernel
theorem dX4_best_88 : decode cX4_best 88 = .ok (.ireturn, 1) := by decide +kernel
theorem dX4_best_89 : decode cX4_best 89 = .ok (.aload_n 0, 1) := by decide +kernel
theorem dX4_best_90 : decode cX4_best 90 = .ok (.getfield 19, 3) := by decide +kernel
theorem dX4_best_93 : decode cX4_best 93 = .ok (.iload_n 2, 1) := by decide +kernel
theorem dX4_best_94 : decode cX4_best 94 = .ok (.bipush 10, 2) := by decide +kernel
theorem dX4_best_96 : decode cX4_best 96 = .ok (.isub, 1) := by decide +kernel
theorem dX4_best_97 : decode cX4_best 97 = .ok (.invokevirtual 76, 3) := by decide +kernel
theorem dX4_best_100 : decode cX4_best 100 = .ok (.ifCond .eq 17, 3) := by decide +kernel
theorem dX4_best_103 : decode cX4_best 103 = .ok (.aload_n 3, 1) := by decide +kernel
theorem dX4_best_104 : decode cX4_best 104 = .ok (.getfield 138, 3) := by decide +kernel
theorem dX4_best_107 : decode cX4_best 107 = .ok (.iload_n 2, 1) := by decide +kernel
theorem dX4_best_108 : decode cX4_best 108 = .ok (.bipush 10, 2) := by decide +kernel
theorem dX4_best_110 : decode cX4_best 110 = .ok (.isub, 1) := by decide +kernel
theorem dX4_best_111 : decode cX4_best 111 = .ok (.invokestatic 141, 3) := by decide +kernel
theorem dX4_best_114 : decode cX4_best 114 = .ok (.goto 6, 3) := by decide +kernel
theorem dX4_best_117 : decode cX4_best 117 = .ok (.sipush (-1001), 3) := by decide +kernel
theorem dX4_best_120 : decode cX4_best 120 = .ok (.ireturn, 1) := by decide +kernel
theorem dX4_change_0 : decode cX4_change 0 = .ok (.aload_n 0, 1) := by decide +kernel
theorem dX4_change_1 : decode cX4_change 1 = .ok (.getfield 19, 3) := by decide +kernel
theorem dX4_change_4 : decode cX4_change 4 = .ok (.invokevirtual 70, 3) := by decide +kernel
theorem dX4_change_7 : decode cX4_change 7 = .ok (.ifCond .ne 7, 3) := by decide +kernel
theorem dX4_change_10 : decode cX4_change 10 = .ok (.sipush (-1004), 3) := by decide +kernel
theorem dX4_change_13 : decode cX4_change 13 = .ok (.ireturn, 1) := by decide +kernel
theorem dX4_change_14 : decode cX4_change 14 = .ok (.iload_n 2, 1) := by decide +kernel
theorem dX4_change_15 : decode cX4_change 15 = .ok (.ifCond .eq 19, 3) := by decide +kernel
theorem dX4_change_18 : decode cX4_change 18 = .ok (.iload_n 2, 1) := by decide +kernel
theorem dX4_change_19 : decode cX4_change 19 = .ok (.bipush 10, 2) := by decide +kernel
theorem dX4_change_21 : decode cX4_change 21 = .ok (.if_icmp .lt 9, 3) := by decide +kernel
theorem dX4_change_24 : decode cX4_change 24 = .ok (.iload_n 2, 1) := by decide +kernel
theorem dX4_change_25 : decode cX4_change 25 = .ok (.bipush 24, 2) := by decide +kernel
theorem dX4_change_27 : decode cX4_change 27 = .ok (.if_icmp .le 7, 3) := by decide +kernel
theorem dX4_change_30 : decode cX4_change 30 = .ok (.sipush (-1003), 3) := by decide +kernel
theorem dX4_change_33 : decode cX4_change 33 = .ok (.ireturn, 1) := by decide +kernel
theorem dX4_change_34 : decode cX4_change 34 = .ok (.aload_n 0, 1) := by decide +kernel
theorem dX4_change_35 : decode cX4_change 35 = .ok (.getfield 26, 3) := by decide +kernel
theorem dX4_change_38 : decode cX4_change 38 = .ok (.aload_n 0, 1) := by decide +kernel
theorem dX4_change_39 : decode cX4_change 39 = .ok (.getfield 19, 3) := by decide +kernel
theorem dX4_change_42 : decode cX4_change 42 = .ok (.iload_n 1, 1) := by decide +kernel
theorem dX4_change_43 : decode cX4_change 43 = .ok (.invokevirtual 144, 3) := by decide +kernel
theorem dX4_change_46 : decode cX4_change 46 = .ok (.astore_n 3, 1) := by decide +kernel
theorem dX4_change_47 : decode cX4_change 47 = .ok (.iload_n 2, 1) := by decide +kernel
theorem dX4_change_48 : decode cX4_change 48 = .ok (.ifCond .ne 10, 3) := by decide +kernel
theorem dX4_change_51 : decode cX4_change 51 = .ok (.aload_n 3, 1) := by decide +kernel
theorem dX4_change_52 : decode cX4_change 52 = .ok (.getfield 147, 3) := by decide +kernel
theorem dX4_change_55 : decode cX4_change 55 = .ok (.goto 11, 3) := by decide +kernel
theorem dX4_change_58 : decode cX4_change 58 = .ok (.aload_n 3, 1) := by decide +kernel
theorem dX4_change_59 : decode cX4_change 59 = .ok (.iload_n 2, 1) := by decide +kernel
theorem dX4_change_60 : decode cX4_change 60 = .ok (.bipush 10, 2) := by decide +kernel
theorem dX4_change_62 : decode cX4_change 62 = .ok (.isub, 1) := by decide +kernel
theorem dX4_change_63 : decode cX4_change 63 = .ok (.invokevirtual 150, 3) := by decide +kernel
theorem dX4_change_66 : decode cX4_change 66 = .ok (.ireturn, 1) := by decide +kernel
theorem dX4_go_0 : decode cX4_go 0 = .ok (.aload_n 0, 1) := by decide +kernel
theorem dX4_go_1 : decode cX4_go 1 = .ok (.getfield 19, 3) := by decide +kernel
theorem dX4_go_4 : decode cX4_go 4 = .ok (.invokevirtual 70, 3) := by decide +kernel
theorem dX4_go_7 : decode cX4_go 7 = .ok (.ifCond .ne 7, 3) := by decide +kernel
theorem dX4_go_10 : decode cX4_go 10 = .ok (.sipush (-1004), 3) := by decide +kernel
theorem dX4_go_13 : decode cX4_go 13 = .ok (.ireturn, 1) := by decide +kernel
theorem dX4_go_14 : decode cX4_go 14 = .ok (.aload_n 0, 1) := by decide +kernel
theorem dX4_go_15 : decode cX4_go 15 = .ok (.getfield 26, 3) := by decide +kernel
theorem dX4_go_18 : decode cX4_go 18 = .ok (.aload_n 0, 1) := by decide +kernel
theorem dX4_go_19 : decode cX4_go 19 = .ok (.getfield 19, 3) := by decide +kernel
theorem dX4_go_22 : decode cX4_go 22 = .ok (.iload_n 1, 1) := by decide +kernel
theorem dX4_go_23 : decode cX4_go 23 = .ok (.invokevirtual 144, 3) := by decide +kernel
theorem dX4_go_26 : decode cX4_go 26 = .ok (.astore_n 2, 1) := by decide +kernel
theorem dX4_go_27 : decode cX4_go 27 = .ok (.aload_n 2, 1) := by decide +kernel
theorem dX4_go_28 : decode cX4_go 28 = .ok (.iconst 0, 1) := by decide +kernel
theorem dX4_go_29 : decode cX4_go 29 = .ok (.invokevirtual 150, 3) := by decide +kernel
theorem dX4_go_32 : decode cX4_go 32 = .ok (.istore_n 3, 1) := by decide +kernel
theorem dX4_go_33 : decode cX4_go 33 = .ok (.iload_n 3, 1) := by decide +kernel
theorem dX4_go_34 : decode cX4_go 34 = .ok (.sipush (-1001), 3) := by decide +kernel
theorem dX4_go_37 : decode cX4_go 37 = .ok (.if_icmp .eq 16, 3) := by decide +kernel
theorem dX4_go_40 : decode cX4_go 40 = .ok (.aload_n 0, 1) := by decide +kernel
theorem dX4_go_41 : decode cX4_go 41 = .ok (.getfield 19, 3) := by decide +kernel
theorem dX4_go_44 : decode cX4_go 44 = .ok (.iload_n 3, 1) := by decide +kernel
theorem dX4_go_45 : decode cX4_go 45 = .ok (.iconst 3, 1) := by decide +kernel
theorem dX4_go_46 : decode cX4_go 46 = .ok (.ishr, 1) := by decide +kernel
theorem dX4_go_47 : decode cX4_go 47 = .ok (.invokevirtual 76, 3) := by decide +kernel
theorem dX4_go_50 : decode cX4_go 50 = .ok (.ifCond .ne 7, 3) := by decide +kernel
theorem dX4_go_53 : decode cX4_go 53 = .ok (.sipush (-1004), 3) := by decide +kernel
theorem dX4_go_56 : decode cX4_go 56 = .ok (.ireturn, 1) := by decide +kernel
theorem dX4_go_57 : decode cX4_go 57 = .ok (.aload_n 0, 1) := by decide +kernel
theorem dX4_go_58 : decode cX4_go 58 = .ok (.getfield 19, 3) := by decide +kernel
theorem dX4_go_61 : decode cX4_go 61 = .ok (.getfield 89, 3) := by decide +kernel
theorem dX4_go_64 : decode cX4_go 64 = .ok (.iload_n 3, 1) := by decide +kernel
theorem dX4_go_65 : decode cX4_go 65 = .ok (.iconst 3, 1) := by decide +kernel
theorem dX4_go_66 : decode cX4_go 66 = .ok (.ishr, 1) := by decide +kernel
theorem dX4_go_67 : decode cX4_go 67 = .ok (.iload_n 3, 1) := by decide +kernel
theorem dX4_go_68 : decode cX4_go 68 = .ok (.bipush 7, 2) := by decide +kernel
theorem dX4_go_70 : decode cX4_go 70 = .ok (.iand, 1) := by decide +kernel
theorem dX4_go_71 : decode cX4_go 71 = .ok (.iconst 1, 1) := by decide +kernel
theorem dX4_go_72 : decode cX4_go 72 = .ok (.isub, 1) := by decide +kernel
theorem dX4_go_73 : decode cX4_go 73 = .ok (.iastore, 1) := by decide +kernel
theorem dX4_go_74 : decode cX4_go 74 = .ok (.aload_n 0, 1) := by decide +kernel
theorem dX4_go_75 : decode cX4_go 75 = .ok (.getfield 26, 3) := by decide +kernel
theorem dX4_go_78 : decode cX4_go 78 = .ok (.invokevirtual 50, 3) := by decide +kernel
theorem dX4_go_81 : decode cX4_go 81 = .ok (.aload_n 0, 1) := by decide +kernel
theorem dX4_go_82 : decode cX4_go 82 = .ok (.dup, 1) := by decide +kernel
theorem dX4_go_83 : decode cX4_go 83 = .ok (.getfield 98, 3) := by decide +kernel
theorem dX4_go_86 : decode cX4_go 86 = .ok (.iconst 1, 1) := by decide +kernel
theorem dX4_go_87 : decode cX4_go 87 = .ok (.iadd, 1) := by decide +kernel
theorem dX4_go_88 : decode cX4_go 88 = .ok (.putfield 98, 3) := by decide +kernel
theorem dX4_go_91 : decode cX4_go 91 = .ok (.aload_n 2, 1) := by decide +kernel
theorem dX4_go_92 : decode cX4_go 92 = .ok (.getfield 147, 3) := by decide +kernel
theorem dX4_go_95 : decode cX4_go 95 = .ok (.iconst 1, 1) := by decide +kernel
theorem dX4_go_96 : decode cX4_go 96 = .ok (.isub, 1) := by decide +kernel
theorem dX4_go_97 : decode cX4_go 97 = .ok (.ireturn, 1) := by decide +kernel
theorem dX4_trade_0 : decode cX4_trade 0 = .ok (.aload_n 0, 1) := by decide +kernel
theorem dX4_trade_1 : decode cX4_trade 1 = .ok (.getfield 19, 3) := by decide +kernel
theorem dX4_trade_4 : decode cX4_trade 4 = .ok (.invokevirtual 70, 3) := by decide +kernel
theorem dX4_trade_7 : decode cX4_trade 7 = .ok (.ifCond .ne 7, 3) := by decide +kernel
theorem dX4_trade_10 : decode cX4_trade 10 = .ok (.sipush (-1004), 3) := by decide +kernel
theorem dX4_trade_13 : decode cX4_trade 13 = .ok (.ireturn, 1) := by decide +kernel
theorem dX4_trade_14 : decode cX4_trade 14 = .ok (.iload_n 1, 1) := by decide +kernel
theorem dX4_trade_15 : decode cX4_trade 15 = .ok (.ifCond .lt 8, 3) := by decide +kernel
theorem dX4_trade_18 : decode cX4_trade 18 = .ok (.iload_n 1, 1) := by decide +kernel
theorem dX4_trade_19 : decode cX4_trade 19 = .ok (.iconst 2, 1) := by decide +kernel
theorem dX4_trade_20 : decode cX4_trade 20 = .ok (.if_icmp .le 7, 3) := by decide +kernel
theorem dX4_trade_23 : decode cX4_trade 23 = .ok (.sipush (-1003), 3) := by decide +kernel
theorem dX4_trade_26 : decode cX4_trade 26 = .ok (.ireturn, 1) := by decide +kernel
theorem dX4_trade_27 : decode cX4_trade 27 = .ok (.aload_n 0, 1) := by decide +kernel
theorem dX4_trade_28 : decode cX4_trade 28 = .ok (.getfield 19, 3) := by decide +kernel
theorem dX4_trade_31 : decode cX4_trade 31 = .ok (.invokevirtual 153, 3) := by decide +kernel
theorem dX4_trade_34 : decode cX4_trade 34 = .ok (.istore_n 2, 1) := by decide +kernel
theorem dX4_trade_35 : decode cX4_trade 35 = .ok (.iload_n 2, 1) := by decide +kernel
theorem dX4_trade_36 : decode cX4_trade 36 = .ok (.sipush (-1001), 3) := by decide +kernel
theorem dX4_trade_39 : decode cX4_trade 39 = .ok (.if_icmp .ne 7, 3) := by decide +kernel
theorem dX4_trade_42 : decode cX4_trade 42 = .ok (.sipush (-1001), 3) := by decide +kernel
theorem dX4_trade_45 : decode cX4_trade 45 = .ok (.ireturn, 1) := by decide +kernel
theorem dX4_trade_46 : decode cX4_trade 46 = .ok (.iload_n 2, 1) := by decide +kernel
theorem dX4_trade_47 : decode cX4_trade 47 = .ok (.iconst 3, 1) := by decide +kernel
theorem dX4_trade_48 : decode cX4_trade 48 = .ok (.ishr, 1) := by decide +kernel
theorem dX4_trade_49 : decode cX4_trade 49 = .ok (.istore_n 3, 1) := by decide +kernel
theorem dX4_trade_50 : decode cX4_trade 50 = .ok (.iload_n 2, 1) := by decide +kernel
theorem dX4_trade_51 : decode cX4_trade 51 = .ok (.bipush 7, 2) := by decide +kernel
theorem dX4_trade_53 : decode cX4_trade 53 = .ok (.iand, 1) := by decide +kernel
theorem dX4_trade_54 : decode cX4_trade 54 = .ok (.istore 4, 2) := by decide +kernel
theorem dX4_trade_56 : decode cX4_trade 56 = .ok (.iload_n 1, 1) := by decide +kernel
theorem dX4_trade_57 : decode cX4_trade 57 = .ok (.ifCond .ne 28, 3) := by decide +kernel
theorem dX4_trade_60 : decode cX4_trade 60 = .ok (.aload_n 0, 1) := by decide +kernel
theorem dX4_trade_61 : decode cX4_trade 61 = .ok (.getfield 19, 3) := by decide +kernel
theorem dX4_trade_64 : decode cX4_trade 64 = .ok (.iload_n 3, 1) := by decide +kernel
theorem dX4_trade_65 : decode cX4_trade 65 = .ok (.iload 4, 2) := by decide +kernel
theorem dX4_trade_67 : decode cX4_trade 67 = .ok (.invokevirtual 156, 3) := by decide +kernel
theorem dX4_trade_70 : decode cX4_trade 70 = .ok (.invokestatic 113, 3) := by decide +kernel
theorem dX4_trade_73 : decode cX4_trade 73 = .ok (.aload_n 0, 1) := by decide +kernel
theorem dX4_trade_74 : decode cX4_trade 74 = .ok (.getfield 19, 3) := by decide +kernel
theorem dX4_trade_77 : decode cX4_trade 77 = .ok (.invokevirtual 92, 3) := by decide +kernel
theorem dX4_trade_80 : decode cX4_trade 80 = .ok (.invokestatic 113, 3) := by decide +kernel
theorem dX4_trade_83 : decode cX4_trade 83 = .ok (.isub, 1) := by decide +kernel
theorem dX4_trade_84 : decode cX4_trade 84 = .ok (.ireturn, 1) := by decide +kernel
theorem dX4_trade_85 : decode cX4_trade 85 = .ok (.iload_n 1, 1) := by decide +kernel
theorem dX4_trade_86 : decode cX4_trade 86 = .ok (.iconst 1, 1) := by decide +kernel
theorem dX4_trade_87 : decode cX4_trade 87 = .ok (.if_icmp .ne 7, 3) := by decide +kernel
theorem dX4_trade_90 : decode cX4_trade 90 = .ok (.iload_n 3, 1) := by decide +kernel
theorem dX4_trade_91 : decode cX4_trade 91 = .ok (.goto 5, 3) := by decide +kernel
theorem dX4_trade_94 : decode cX4_trade 94 = .ok (.iload 4, 2) := by decide +kernel
theorem dX4_trade_96 : decode cX4_trade 96 = .ok (.ireturn, 1) := by decide +kernel
theorem dX4_relief_0 : decode cX4_relief 0 = .ok (.aload_n 0, 1) := by decide +kernel
theorem dX4_relief_1 : decode cX4_relief 1 = .ok (.getfield 19, 3) := by decide +kernel
theorem dX4_relief_4 : decode cX4_relief 4 = .ok (.invokevirtual 70, 3) := by decide +kernel
theorem dX4_relief_7 : decode cX4_relief 7 = .ok (.ifCond .eq 13, 3) := by decide +kernel
theorem dX4_relief_10 : decode cX4_relief 10 = .ok (.aload_n 0, 1) := by decide +kernel
theorem dX4_relief_11 : decode cX4_relief 11 = .ok (.getfield 19, 3) := by decide +kernel
theorem dX4_relief_14 : decode cX4_relief 14 = .ok (.invokevirtual 159, 3) := by decide +kernel
theorem dX4_relief_17 : decode cX4_relief 17 = .ok (.goto 6, 3) := by decide +kernel
theorem dX4_relief_20 : decode cX4_relief 20 = .ok (.sipush (-1004), 3) := by decide +kernel
theorem dX4_relief_23 : decode cX4_relief 23 = .ok (.ireturn, 1) := by decide +kernel
theorem dX4_count_0 : decode cX4_count 0 = .ok (.iload_n 1, 1) := by decide +kernel
theorem dX4_count_1 : decode cX4_count 1 = .ok (.tableswitch 163 0 9 #[55, 63, 71, 79, 90, 113, 137, 145, 153, 158], 55) := by decide +kernel
theorem dX4_count_56 : decode cX4_count 56 = .ok (.aload_n 0, 1) := by decide +kernel
theorem dX4_count_57 : decode cX4_count 57 = .ok (.getfield 19, 3) := by decide +kernel
theorem dX4_count_60 : decode cX4_count 60 = .ok (.getfield 56, 3) := by decide +kernel
theorem dX4_count_63 : decode cX4_count 63 = .ok (.ireturn, 1) := by decide +kernel
theorem dX4_count_64 : decode cX4_count 64 = .ok (.aload_n 0, 1) := by decide +kernel
theorem dX4_count_65 : decode cX4_count 65 = .ok (.getfield 19, 3) := by decide +kernel
theorem dX4_count_68 : decode cX4_count 68 = .ok (.getfield 162, 3) := by decide +kernel
theorem dX4_count_71 : decode cX4_count 71 = .ok (.ireturn, 1) := by decide +kernel
theorem dX4_count_72 : decode cX4_count 72 = .ok (.aload_n 0, 1) := by decide +kernel
theorem dX4_count_73 : decode cX4_count 73 = .ok (.getfield 10, 3) := by decide +kernel
theorem dX4_count_76 : decode cX4_count 76 = .ok (.getfield 30, 3) := by decide +kernel
theorem dX4_count_79 : decode cX4_count 79 = .ok (.ireturn, 1) := by decide +kernel
theorem dX4_count_80 : decode cX4_count 80 = .ok (.aload_n 0, 1) := by decide +kernel
theorem dX4_count_81 : decode cX4_count 81 = .ok (.getfield 19, 3) := by decide +kernel
theorem dX4_count_84 : decode cX4_count 84 = .ok (.invokevirtual 92, 3) := by decide +kernel
theorem dX4_count_87 : decode cX4_count 87 = .ok (.invokestatic 113, 3) := by decide +kernel
theorem dX4_count_90 : decode cX4_count 90 = .ok (.ireturn, 1) := by decide +kernel
theorem dX4_count_91 : decode cX4_count 91 = .ok (.aload_n 0, 1) := by decide +kernel
theorem dX4_count_92 : decode cX4_count 92 = .ok (.getfield 19, 3) := by decide +kernel
theorem dX4_count_95 : decode cX4_count 95 = .ok (.aload_n 0, 1) := by decide +kernel
theorem dX4_count_96 : decode cX4_count 96 = .ok (.getfield 19, 3) := by decide +kernel
theorem dX4_count_99 : decode cX4_count 99 = .ok (.invokevirtual 92, 3) := by decide +kernel
